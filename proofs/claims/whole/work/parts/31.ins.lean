/-! borders: a row that falls, with a number put into its place -/
def insL (t : Int32) : List Int32 → List Int32
  | [] => [t]
  | b :: bs => if b ≤ t then (if b = t then b :: bs else t :: b :: bs) else b :: insL t bs
def posL (t : Int32) : List Int32 → Nat
  | [] => 0
  | b :: bs => if b ≤ t then 0 else posL t bs + 1
def AR (h : Hp) (c : Nat) (B : List Int32) : Prop := ∀ k, k < B.length → h.1 c k = B.getD k 0
theorem posL_le (t : Int32) : ∀ B : List Int32, posL t B ≤ B.length
  | [] => Nat.le_refl 0
  | b :: bs => by
    have := posL_le t bs
    unfold posL
    split <;> simp <;> omega
theorem posL_b (t : Int32) : ∀ (B : List Int32) (j : Nat), j < posL t B → ¬ B.getD j 0 ≤ t
  | [], j, h => by simp [posL] at h
  | b :: bs, j, h => by
    unfold posL at h
    split at h
    · omega
    · cases j with
      | zero =>
        show ¬ b ≤ t
        assumption
      | succ j => simpa using posL_b t bs j (by omega)
theorem posL_at (t : Int32) : ∀ (B : List Int32), posL t B < B.length → B.getD (posL t B) 0 ≤ t
  | [], h => by simp [posL] at h
  | b :: bs, h => by
    unfold posL at h ⊢
    split
    · simpa using by assumption
    · rw [if_neg (by assumption)] at h
      simpa using posL_at t bs (by simpa using h)
theorem insL_old (t : Int32) : ∀ (B : List Int32), posL t B < B.length → B.getD (posL t B) 0 = t → insL t B = B
  | [], h, _ => by simp [posL] at h
  | b :: bs, h, e => by
    unfold posL at h e
    unfold insL
    by_cases c : b ≤ t
    · rw [if_pos c] at e ⊢
      have : b = t := by simpa using e
      rw [if_pos this]
    · rw [if_neg c] at e h ⊢
      rw [insL_old t bs (by simpa using h) (by simpa using e)]
theorem insL_new (t : Int32) : ∀ (B : List Int32), ¬ (posL t B < B.length ∧ B.getD (posL t B) 0 = t) → (insL t B).length = B.length + 1 ∧ ∀ j, (insL t B).getD j 0 = if j < posL t B then B.getD j 0 else if j = posL t B then t else B.getD (j - 1) 0
  | [], _ => by
    refine ⟨rfl, fun j => ?_⟩
    unfold insL posL
    cases j <;> simp
  | b :: bs, h => by
    unfold posL at h ⊢
    unfold insL
    by_cases c : b ≤ t
    · simp only [if_pos c] at h ⊢
      have hb : ¬ b = t := fun e => h ⟨by simp, by simpa using e⟩
      rw [if_neg hb]
      refine ⟨rfl, fun j => ?_⟩
      cases j with
      | zero => simp
      | succ j => simp
    · rw [if_neg c] at h ⊢
      obtain ⟨h1, h2⟩ := insL_new t bs (fun e => h ⟨by simpa using e.1, by simpa using e.2⟩)
      refine ⟨by simpa using h1, fun j => ?_⟩
      rw [if_neg c]
      cases j with
      | zero => simp
      | succ j =>
        have := h2 j
        simp only [List.getD_cons_succ, this, Nat.add_lt_add_iff_right, Nat.add_right_cancel_iff, Nat.add_sub_cancel]
        by_cases c1 : j < posL t bs
        · simp [c1]
        · by_cases c2 : j = posL t bs
          · simp [c2]
          · obtain ⟨j', rfl⟩ : ∃ j', j = j' + 1 := ⟨j - 1, by omega⟩
            simp [c1, c2]
theorem insL_len (t : Int32) (B : List Int32) : (insL t B).length ≤ B.length + 1 := by
  by_cases c : posL t B < B.length ∧ B.getD (posL t B) 0 = t
  · rw [insL_old t B c.1 c.2]; omega
  · rw [(insL_new t B c).1]; omega
theorem insL_mem (t : Int32) : ∀ (B : List Int32) (x : Int32), x ∈ insL t B ↔ x = t ∨ x ∈ B
  | [], x => by simp [insL]
  | b :: bs, x => by
    unfold insL
    split
    · split
      · rename_i e; subst e; simp
      · simp
    · have := insL_mem t bs x
      simp only [List.mem_cons, this]
      grind
theorem insL_srt (t : Int32) : ∀ (B : List Int32), B.Pairwise (fun a b => b < a) → (insL t B).Pairwise (fun a b => b < a)
  | [], _ => by simp [insL]
  | b :: bs, h => by
    unfold insL
    rw [List.pairwise_cons] at h
    split
    · split
      · exact List.pairwise_cons.mpr h
      · refine List.pairwise_cons.mpr ⟨fun x hx => ?_, List.pairwise_cons.mpr h⟩
        rcases List.mem_cons.mp hx with e | e
        · grind
        · have := h.1 x e; grind
    · refine List.pairwise_cons.mpr ⟨fun x hx => ?_, insL_srt t bs h.2⟩
      rcases (insL_mem t bs x).mp hx with e | e
      · grind
      · exact h.1 x e
theorem M_adds {h : Hp} {t : Int32} {B : List Int32} (hs : h.1 54 17 = nI B.length) (ha : AR h 63 B) (hl : B.length < 20) : ∃ h', sX6_addsBorder h t = some h' ∧ h'.1 54 17 = nI (insL t B).length ∧ AR h' 63 (insL t B) := by
  have hp := posL_le t B
  unfold sX6_addsBorder
  have e1 : sX6_addsBorder_b2 FU h t (0 : Int32) = sX6_addsBorder_c26 h t (nI (posL t B)) := by
    refine loop0 (fun n (s : Int32) => sX6_addsBorder_b2 n h t s) (fun i => nI i) (posL t B) _ (by omega) (fun m i hi => ?_) (fun m => ?_)
    · show sX6_addsBorder_c2 (sX6_addsBorder_b2 m) h t (nI i) = _
      have c1 : ¬ nI B.length ≤ nI i := by rw [le_n (by omega) (by omega)]; omega
      have c2 := posL_b t B i hi
      simp only [sX6_addsBorder_c2, hs, c1, if_false, gd_in (show i < 20 by omega) (show 20 ≤ 1000 by decide), cl_n (show i ≤ 100000 by omega), ha i (by omega), c2, nm, nI_1]
    · show sX6_addsBorder_c2 (sX6_addsBorder_b2 m) h t (nI (posL t B)) = _
      unfold sX6_addsBorder_c2
      by_cases c : posL t B < B.length
      · have c1 : ¬ nI B.length ≤ nI (posL t B) := by rw [le_n (by omega) (by omega)]; omega
        have c2 := posL_at t B c
        simp only [hs, c1, if_false, gd_in (show posL t B < 20 by omega) (show 20 ≤ 1000 by decide), cl_n (show posL t B ≤ 100000 by omega), ha _ c, c2, if_true]
      · have c1 : nI B.length ≤ nI (posL t B) := by rw [le_n (by omega) (by omega)]; omega
        simp only [hs, c1, if_true]
  rw [e1]
  unfold sX6_addsBorder_c26
  by_cases c : posL t B < B.length ∧ B.getD (posL t B) 0 = t
  · have c1 : ¬ nI B.length ≤ nI (posL t B) := by rw [le_n (by omega) (by omega)]; omega
    refine ⟨h, ?_, by rw [insL_old t B c.1 c.2]; exact hs, by rw [insL_old t B c.1 c.2]; exact ha⟩
    simp only [hs, c1, if_false, gd_in (show posL t B < 20 by omega) (show 20 ≤ 1000 by decide), cl_n (show posL t B ≤ 100000 by omega), ha _ c.1, c.2, if_true]
  · obtain ⟨n1, n2⟩ := insL_new t B c
    have e2 : ∃ h', sX6_addsBorder_c45 h t (nI (posL t B)) = some h' ∧ h'.1 54 17 = nI (insL t B).length ∧ AR h' 63 (insL t B) := by
      unfold sX6_addsBorder_c45
      rw [nm_t hs]
      refine loopE (fun n (s : Hp × Int32) => sX6_addsBorder_b50 n s.1 t (nI (posL t B)) s.2) (fun i s => s.2 = nI (B.length - i) ∧ s.1.1 54 17 = nI B.length ∧ (∀ j, j ≤ B.length - i → s.1.1 63 j = h.1 63 j) ∧ ∀ j, B.length - i < j → j ≤ B.length → s.1.1 63 j = h.1 63 (j - 1)) (B.length - posL t B) (fun h' => h'.1 54 17 = nI (insL t B).length ∧ AR h' 63 (insL t B)) (fun m i s hi I => ?_) (fun m s I => ?_) (B.length - posL t B) 0 FU (h, nI B.length) ⟨rfl, hs, fun _ _ => rfl, fun j h1 h2 => by simp at h1; omega⟩ (by omega) (by show _ < 1000; omega)
      · obtain ⟨h1, v⟩ := s
        obtain ⟨i1, i2, i3, i4⟩ := I
        dsimp only at i1 i2 i3 i4
        subst i1
        have c1 : ¬ nI (B.length - i) ≤ nI (posL t B) := by rw [le_n (by omega) (by omega)]; omega
        refine ⟨(u1 h1 63 (B.length - i) (h1.1 63 (B.length - i - 1)), nI (B.length - (i + 1))), ⟨rfl, ?_, fun j hj => ?_, fun j h2 h3 => ?_⟩, ?_⟩
        · exact (rd1c (by omega)).trans i2
        · rw [rd1k (by omega)]; exact i3 j (by omega)
        · by_cases e : j = B.length - i
          · subst e
            rw [rd1s]
            exact i3 _ (by omega)
          · rw [rd1k e]
            exact i4 j (by omega) h3
        · show sX6_addsBorder_c50 (sX6_addsBorder_b50 m) h1 t (nI (posL t B)) (nI (B.length - i)) = sX6_addsBorder_b50 m _ t (nI (posL t B)) (nI (B.length - (i + 1)))
          simp only [sX6_addsBorder_c50, c1, if_false, nI_m1 (show 0 < B.length - i by omega), nI_a1 (show 0 < B.length - i by omega), gd_in (show B.length - i - 1 < 20 by omega) (show 20 ≤ 1000 by decide), gd_in (show B.length - i < 20 by omega) (show 20 ≤ 1000 by decide), cl_n (show B.length - i - 1 ≤ 100000 by omega), cl_n (show B.length - i ≤ 100000 by omega), nm]
          rfl
      · obtain ⟨h1, v⟩ := s
        obtain ⟨i1, i2, i3, i4⟩ := I
        dsimp only at i1 i2 i3 i4
        have e9 : B.length - (B.length - posL t B) = posL t B := by omega
        rw [e9] at i1 i3 i4
        subst i1
        refine ⟨u1 (u1 h1 63 (posL t B) t) 54 17 (nI B.length + 1), ?_, ?_, fun j hj => ?_⟩
        · show sX6_addsBorder_c50 (sX6_addsBorder_b50 m) h1 t (nI (posL t B)) (nI (posL t B)) = _
          have c1 : nI (posL t B) ≤ nI (posL t B) := by rw [le_n (by omega) (by omega)]; omega
          simp only [sX6_addsBorder_c50, c1, if_true, gd_in (show posL t B < 20 by omega) (show 20 ≤ 1000 by decide), cl_n (show posL t B ≤ 100000 by omega), nm, rd1c (show 54 ≠ 63 by omega), i2]
        · rw [rd1s, n1, nI_1]
        · rw [rd1c (by omega), n2 j]
          by_cases c2 : j < posL t B
          · rw [rd1k (by omega), i3 j (by omega), if_pos c2]
            exact ha j (by omega)
          · rw [if_neg c2]
            by_cases c3 : j = posL t B
            · rw [if_pos c3, c3, rd1s]
            · rw [if_neg c3, rd1k c3, i4 j (by omega) (by omega)]
              exact ha _ (by omega)
    obtain ⟨h', e3, e4, e5⟩ := e2
    refine ⟨h', ?_, e4, e5⟩
    by_cases c1 : nI B.length ≤ nI (posL t B)
    · simp only [hs, c1, if_true, if_false, e3]
    · have c4 : posL t B < B.length := by rw [le_n (by omega) (by omega)] at c1; omega
      have c5 : ¬ B.getD (posL t B) 0 = t := fun e => c ⟨c4, e⟩
      simp only [hs, c1, if_false, gd_in (show posL t B < 20 by omega) (show 20 ≤ 1000 by decide), cl_n (show posL t B ≤ 100000 by omega), ha _ c4, c5, e3]
theorem C_place {h : Hp} {r : Nat} {t : Int32} {B : List Int32} (hr : ck r = 0) (hs : h.1 r 4 = nI B.length) (ha : AR h (r + 1) B) (hl : B.length < 20) : ∃ h', sX0_placeBorder h r t = some h' ∧ h'.1 r 4 = nI (insL t B).length ∧ AR h' (r + 1) (insL t B) := by
  have hp := posL_le t B
  unfold sX0_placeBorder
  rw [gd_t (show isC r 0 = true from decide_eq_true hr)]
  have e1 : sX0_placeBorder_b2 FU h r t (0 : Int32) = sX0_placeBorder_c26 h r t (nI (posL t B)) := by
    refine loop0 (fun n (s : Int32) => sX0_placeBorder_b2 n h r t s) (fun i => nI i) (posL t B) _ (by omega) (fun m i hi => ?_) (fun m => ?_)
    · show sX0_placeBorder_c2 (sX0_placeBorder_b2 m) h r t (nI i) = _
      have c1 : ¬ nI B.length ≤ nI i := by rw [le_n (by omega) (by omega)]; omega
      have c2 := posL_b t B i hi
      simp only [sX0_placeBorder_c2, hs, c1, if_false, gd_in (show i < 20 by omega) (show 20 ≤ 1000 by decide), cl_n (show i ≤ 100000 by omega), ha i (by omega), c2, nm, nI_1]
    · show sX0_placeBorder_c2 (sX0_placeBorder_b2 m) h r t (nI (posL t B)) = _
      unfold sX0_placeBorder_c2
      by_cases c : posL t B < B.length
      · have c1 : ¬ nI B.length ≤ nI (posL t B) := by rw [le_n (by omega) (by omega)]; omega
        have c2 := posL_at t B c
        simp only [hs, c1, if_false, gd_in (show posL t B < 20 by omega) (show 20 ≤ 1000 by decide), cl_n (show posL t B ≤ 100000 by omega), ha _ c, c2, if_true]
      · have c1 : nI B.length ≤ nI (posL t B) := by rw [le_n (by omega) (by omega)]; omega
        simp only [hs, c1, if_true]
  rw [e1]
  unfold sX0_placeBorder_c26 sX0_placeBorder_c53
  have g20 : ¬ (20 : Int32) ≤ nI B.length := by
    show ¬ nI 20 ≤ nI B.length
    rw [le_n (by omega) (by omega)]; omega
  by_cases c : posL t B < B.length ∧ B.getD (posL t B) 0 = t
  · have c1 : ¬ nI B.length ≤ nI (posL t B) := by rw [le_n (by omega) (by omega)]; omega
    refine ⟨h, ?_, by rw [insL_old t B c.1 c.2]; exact hs, by rw [insL_old t B c.1 c.2]; exact ha⟩
    simp only [hs, g20, c1, if_false, gd_in (show posL t B < 20 by omega) (show 20 ≤ 1000 by decide), cl_n (show posL t B ≤ 100000 by omega), ha _ c.1, c.2, if_true]
  · obtain ⟨n1, n2⟩ := insL_new t B c
    have e2 : ∃ h', sX0_placeBorder_c54 h r t (nI (posL t B)) = some h' ∧ h'.1 r 4 = nI (insL t B).length ∧ AR h' (r + 1) (insL t B) := by
      unfold sX0_placeBorder_c54
      rw [nm_t hs]
      refine loopE (fun n (s : Hp × Int32) => sX0_placeBorder_b59 n s.1 r t (nI (posL t B)) s.2) (fun i s => s.2 = nI (B.length - i) ∧ s.1.1 r 4 = nI B.length ∧ (∀ j, j ≤ B.length - i → s.1.1 (r + 1) j = h.1 (r + 1) j) ∧ ∀ j, B.length - i < j → j ≤ B.length → s.1.1 (r + 1) j = h.1 (r + 1) (j - 1)) (B.length - posL t B) (fun h' => h'.1 r 4 = nI (insL t B).length ∧ AR h' (r + 1) (insL t B)) (fun m i s hi I => ?_) (fun m s I => ?_) (B.length - posL t B) 0 FU (h, nI B.length) ⟨rfl, hs, fun _ _ => rfl, fun j h1 h2 => by simp at h1; omega⟩ (by omega) (by show _ < 1000; omega)
      · obtain ⟨h1, v⟩ := s
        obtain ⟨i1, i2, i3, i4⟩ := I
        dsimp only at i1 i2 i3 i4
        subst i1
        have c1 : ¬ nI (B.length - i) ≤ nI (posL t B) := by rw [le_n (by omega) (by omega)]; omega
        refine ⟨(u1 h1 (r + 1) (B.length - i) (h1.1 (r + 1) (B.length - i - 1)), nI (B.length - (i + 1))), ⟨rfl, ?_, fun j hj => ?_, fun j h2 h3 => ?_⟩, ?_⟩
        · exact (rd1c (by omega)).trans i2
        · rw [rd1k (by omega)]; exact i3 j (by omega)
        · by_cases e : j = B.length - i
          · subst e
            rw [rd1s]
            exact i3 _ (by omega)
          · rw [rd1k e]
            exact i4 j (by omega) h3
        · show sX0_placeBorder_c59 (sX0_placeBorder_b59 m) h1 r t (nI (posL t B)) (nI (B.length - i)) = sX0_placeBorder_b59 m _ r t (nI (posL t B)) (nI (B.length - (i + 1)))
          simp only [sX0_placeBorder_c59, c1, if_false, nI_m1 (show 0 < B.length - i by omega), nI_a1 (show 0 < B.length - i by omega), gd_in (show B.length - i - 1 < 20 by omega) (show 20 ≤ 1000 by decide), gd_in (show B.length - i < 20 by omega) (show 20 ≤ 1000 by decide), cl_n (show B.length - i - 1 ≤ 100000 by omega), cl_n (show B.length - i ≤ 100000 by omega), nm]
          rfl
      · obtain ⟨h1, v⟩ := s
        obtain ⟨i1, i2, i3, i4⟩ := I
        dsimp only at i1 i2 i3 i4
        have e9 : B.length - (B.length - posL t B) = posL t B := by omega
        rw [e9] at i1 i3 i4
        subst i1
        refine ⟨u1 (u1 h1 (r + 1) (posL t B) t) r 4 (nI B.length + 1), ?_, ?_, fun j hj => ?_⟩
        · show sX0_placeBorder_c59 (sX0_placeBorder_b59 m) h1 r t (nI (posL t B)) (nI (posL t B)) = _
          have c1 : nI (posL t B) ≤ nI (posL t B) := by rw [le_n (by omega) (by omega)]; omega
          simp only [sX0_placeBorder_c59, c1, if_true, gd_in (show posL t B < 20 by omega) (show 20 ≤ 1000 by decide), cl_n (show posL t B ≤ 100000 by omega), nm, rd1c (show r ≠ (r + 1) by omega), i2]
        · rw [rd1s, n1, nI_1]
        · rw [rd1c (by omega), n2 j]
          by_cases c2 : j < posL t B
          · rw [rd1k (by omega), i3 j (by omega), if_pos c2]
            exact ha j (by omega)
          · rw [if_neg c2]
            by_cases c3 : j = posL t B
            · rw [if_pos c3, c3, rd1s]
            · rw [if_neg c3, rd1k c3, i4 j (by omega) (by omega)]
              exact ha _ (by omega)
    obtain ⟨h', e3, e4, e5⟩ := e2
    refine ⟨h', ?_, e4, e5⟩
    by_cases c1 : nI B.length ≤ nI (posL t B)
    · simp only [hs, g20, c1, if_true, if_false, e3]
    · have c4 : posL t B < B.length := by rw [le_n (by omega) (by omega)] at c1; omega
      have c5 : ¬ B.getD (posL t B) 0 = t := fun e => c ⟨c4, e⟩
      simp only [hs, g20, c1, if_false, gd_in (show posL t B < 20 by omega) (show 20 ≤ 1000 by decide), cl_n (show posL t B ≤ 100000 by omega), ha _ c4, c5, e3]
