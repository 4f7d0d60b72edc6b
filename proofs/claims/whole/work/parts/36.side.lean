/-! the two sides of the pinch -/
abbrev SS : Type := Nat × (Nat → Int32) × (Nat → Int32) × (Nat → Int32) × Int32
def OK (S : SS) : Prop := OkS S.1 S.2.1 S.2.2.1 S.2.2.2.1 S.2.2.2.2
def MQS (h : Hp) (S : SS) : Prop := MS h S.1 S.2.1 S.2.2.1 S.2.2.2.1 S.2.2.2.2
def pinS (S : SS) : Int32 := pin S.1 S.2.1 S.2.2.1 S.2.2.2.1 S.2.2.2.2
def pof (S : SS) (i : Nat) : Int32 := pinS S + sh S.2.1 S.2.2.1 S.2.2.2.2 i
def nr (S : SS) (s i : Nat) : Int32 := if s = 0 then imax (lo S.2.1 S.2.2.1 i) (pof S i) else imin (hi S.2.1 S.2.2.1 i) (pof S i)
def fr (S : SS) (s i : Nat) : Int32 := if s = 0 then hi S.2.1 S.2.2.1 i else lo S.2.1 S.2.2.1 i
def dg (S : SS) (s i : Nat) : Int32 := if s = 0 then fr S s i - nr S s i else nr S s i - fr S s i
def ht (S : SS) (s i : Nat) : Int32 := S.2.2.2.1 i * imax 0 (dg S s i)
def cm (S : SS) (s i : Nat) : Int32 := if 0 < dg S s i ∧ nr S s i = pof S i then 1 else 0
def upv (s : Nat) : Int32 := if s = 0 then 1 else -1
def nr0 (S : SS) (s i : Nat) : Int32 := if 0 < dg S s i then nr S s i else 0
def fr0 (S : SS) (s i : Nat) : Int32 := if 0 < dg S s i then fr S s i else 0
/-- the reference, its pinch found -/
def FD (h : Hp) (S : SS) : Prop := MQS h S ∧ h.1 54 21 = pinS S
section Fd
variable {h : Hp} {S : SS} {i s : Nat}
theorem s01 {s : Nat} (hs : s < 2) : (nI s = 0) ↔ s = 0 := by
  show nI s = nI 0 ↔ _
  exact eq_n (by omega) (by omega)
theorem M_pinchOf (hF : FD h S) (hn : S.1 ≤ 10) (hi' : i < S.1) : sX6_pinchOf h (nI i) = some (pof S i, h) := by
  simp only [sX6_pinchOf, M_shift hF.1 hn hi', Option.bind_some, hF.2]
  rfl
theorem M_near (hF : FD h S) (hn : S.1 ≤ 10) (hs : s < 2) (hi' : i < S.1) : sX6_near h (nI s) (nI i) = some (nr S s i, h) := by
  unfold nr
  simp only [sX6_near, sX6_near_c33, s01 hs, M_low hF.1 hn hi', M_high hF.1 hn hi', M_pinchOf hF hn hi', Option.bind_some]
  split <;> rfl
theorem M_far (hF : FD h S) (hn : S.1 ≤ 10) (hs : s < 2) (hi' : i < S.1) : sX6_far h (nI s) (nI i) = some (fr S s i, h) := by
  unfold fr
  simp only [sX6_far, sX6_far_c17, s01 hs, M_low hF.1 hn hi', M_high hF.1 hn hi', Option.bind_some]
  split <;> rfl
theorem M_heat (hF : FD h S) (hn : S.1 ≤ 10) (hs : s < 2) (hi' : i < S.1) : sX6_heat h (nI s) (nI i) = some (ht S s i, h) := by
  unfold ht dg
  simp only [sX6_heat, sX6_heat_c33, s01 hs, M_near hF hn hs hi', M_far hF hn hs hi', Option.bind_some, gd_in (show i < 10 by omega) (show 10 ≤ 1000 by decide), cl_n (show i ≤ 100000 by omega), (hF.1.2.2 i hi').2.2]
  split <;> rfl
end Fd
/-- what lay() leaves in a Side -/
def SD (h : Hp) (r s : Nat) (S : SS) : Prop := h.1 r 0 = upv s ∧ h.1 r 1 = S.2.2.2.2 ∧ h.1 r 2 = nI S.1 ∧ ∀ i, i < S.1 → h.1 (r + 1) i = hb S.2.1 S.2.2.1 i ∧ h.1 (r + 2) i = cm S s i ∧ h.1 (r + 3) i = S.2.2.2.1 i ∧ h.1 (r + 4) i = nr0 S s i ∧ h.1 (r + 5) i = fr0 S s i ∧ h.1 (r + 6) i = ht S s i
theorem SD.fr {W : List (Nat × Option Nat)} {Z : List Nat} {h h' : Hp} {r s : Nat} {S : SS} (hD : SD h r s S) (R : Fr W Z h h') (hw : ∀ w ∈ W, w.1 < r ∨ r + 6 < w.1 ∨ (w.1 = r ∧ ∃ k, w.2 = some k ∧ 2 < k)) : SD h' r s S := by
  have key : ∀ c k, r < c → c ≤ r + 6 → h'.1 c k = h.1 c k := fun c k h1 h2 => R.1 c k (fun q => by have := hw _ q; simp at this; omega) (fun q => by have := hw _ q; simp at this; omega)
  have key0 : ∀ k, k ≤ 2 → h'.1 r k = h.1 r k := fun k h1 => R.1 r k (fun q => by have := hw _ q; simp at this; omega) (fun q => by have := hw _ q; simp at this; omega)
  obtain ⟨p1, p2, p3, p4⟩ := hD
  refine ⟨(key0 0 (by omega)).trans p1, (key0 1 (by omega)).trans p2, (key0 2 (by omega)).trans p3, fun i hi => ?_⟩
  obtain ⟨a1, a2, a3, a4, a5, a6⟩ := p4 i hi
  exact ⟨(key _ i (by omega) (by omega)).trans a1, (key _ i (by omega) (by omega)).trans a2, (key _ i (by omega) (by omega)).trans a3, (key _ i (by omega) (by omega)).trans a4, (key _ i (by omega) (by omega)).trans a5, (key _ i (by omega) (by omega)).trans a6⟩
theorem narb {x : Int32} (h : x = 0 ∨ x = 1) : vp_nar .boolean x = x := by rcases h with rfl | rfl <;> decide
theorem ht_i {S : SS} {s i : Nat} : ht S s i = if 0 < dg S s i then S.2.2.2.1 i * dg S s i else 0 := by
  unfold ht imax
  split
  · rfl
  · exact Int32.mul_zero
section Sd
variable {h : Hp} {r a : Nat} {S : SS} {i s : Nat}
theorem S_empty {n : Nat} (hr : ck r = 2) (hn : n ≤ 10) (hs : h.1 r 2 = nI n) : ∃ h', sX2_empty h r = some h' ∧ h'.1 r 14 = 0 ∧ ∀ i, i < n → h'.1 (r + 7) i = 0 := by
  unfold sX2_empty
  rw [gd_t (isC_ok hr), nm_t rfl]
  refine loopI (fun m (s : Hp × Int32) => sX2_empty_b7 m s.1 r s.2) (fun i s => s.2 = nI i ∧ s.1.1 r 2 = nI n ∧ s.1.1 r 14 = 0 ∧ ∀ j, j < i → s.1.1 (r + 7) j = 0) n (fun h' => h'.1 r 14 = 0 ∧ ∀ i, i < n → h'.1 (r + 7) i = 0) (by omega) (u1 h r 14 0, 0) ⟨rfl, (rd1k (by decide)).trans hs, rd1s, fun j hj => by omega⟩ (fun m i s hi I => ?_) (fun m s I => ?_)
  · obtain ⟨h1, v⟩ := s
    obtain ⟨i1, i2, i3, i4⟩ := I
    dsimp only at i1 i2 i3 i4
    subst i1
    have c1 : ¬ nI n ≤ nI i := by rw [le_n (by omega) (by omega)]; omega
    refine ⟨(u1 h1 (r + 7) i 0, nI (i + 1)), ⟨rfl, (rd1c (by omega)).trans i2, (rd1c (by omega)).trans i3, fun j hj => ?_⟩, ?_⟩
    · by_cases e : j = i
      · rw [e]; exact rd1s
      · exact (rd1k e).trans (i4 j (by omega))
    · show sX2_empty_c7 (sX2_empty_b7 m) h1 r (nI i) = sX2_empty_b7 m _ r (nI (i + 1))
      simp only [sX2_empty_c7, i2, c1, if_false, gd_in (show i < 10 by omega) (show 10 ≤ 1000 by decide), cl_n (show i ≤ 100000 by omega), nm, nI_1]
  · obtain ⟨h1, v⟩ := s
    obtain ⟨i1, i2, i3, i4⟩ := I
    dsimp only at i1 i2 i3 i4
    subst i1
    have c1 : nI n ≤ nI n := by rw [le_n (by omega) (by omega)]; omega
    refine ⟨h1, ?_, i3, i4⟩
    show sX2_empty_c7 (sX2_empty_b7 m) h1 r (nI n) = _
    simp only [sX2_empty_c7, i2, c1, if_true]
def layH (h : Hp) (r s : Nat) (S : SS) (i : Nat) : Hp := u1 (u1 (u1 (u1 (u1 (u1 h (r + 1) i (hb S.2.1 S.2.2.1 i)) (r + 3) i (S.2.2.2.1 i)) (r + 4) i (nr0 S s i)) (r + 5) i (fr0 S s i)) (r + 6) i (ht S s i)) (r + 2) i (cm S s i)
theorem lay_body (hr : ck r = 2) (ha : ck a = 1) (hP : PS h a S.1 S.2.1 S.2.2.1 S.2.2.2.1) (hn : S.1 ≤ 10) (hu : h.1 r 0 = upv s) (hc : h.1 r 2 = nI S.1) (hi' : i < S.1) (k : Hp → Nat → Nat → Int32 → Int32 → Int32 → Option Hp) : sX2_lay_c16 k h r a (pinS S) S.2.2.2.2 (nI i) = k (layH h r s S i) r a (pinS S) S.2.2.2.2 (nI (i + 1)) := by
  have hr' := hsX2 hr
  have ha' := hsX1 ha
  have c1 : ¬ nI S.1 ≤ nI i := by rw [le_n (by omega) (by omega)]; omega
  obtain ⟨a1, a2, a3, a4⟩ := hP.2 i hi'
  have hH1 : Fr [(r + 1, none)] [] h (u1 h (r + 1) i (hb S.2.1 S.2.2.1 i)) := Fr.w1 Fr.rf rfl (by simp)
  have P1 : PS (u1 h (r + 1) i (hb S.2.1 S.2.2.1 i)) a S.1 S.2.1 S.2.2.1 S.2.2.2.1 := hP.fr hH1 (by intro w hw; simp at hw; subst hw; dsimp only; omega)
  obtain ⟨b1, b2, b3, b4⟩ := P1.2 i hi'
  have hH2 : Fr [(r + 1, none), (r + 3, none)] [] h (u1 (u1 h (r + 1) i (hb S.2.1 S.2.2.1 i)) (r + 3) i (S.2.2.2.1 i)) := Fr.w1 (Fr.w1 Fr.rf rfl (by simp)) rfl (by simp)
  have P2 : PS (u1 (u1 h (r + 1) i (hb S.2.1 S.2.2.1 i)) (r + 3) i (S.2.2.2.1 i)) a S.1 S.2.1 S.2.2.1 S.2.2.2.1 := hP.fr hH2 (by intro w hw; simp at hw; rcases hw with rfl | rfl <;> (dsimp only; omega))
  obtain ⟨d1, d2, d3, d4⟩ := P2.2 i hi'
  have u2' : (u1 (u1 h (r + 1) i (hb S.2.1 S.2.2.1 i)) (r + 3) i (S.2.2.2.1 i)).1 r 0 = upv s := (hH2.1 r 0 (by simp) (by simp)).trans hu
  have cap2 : (u1 (u1 h (r + 1) i (hb S.2.1 S.2.2.1 i)) (r + 3) i (S.2.2.2.1 i)).1 (r + 3) i = S.2.2.2.1 i := rd1s
  have gi : ∀ f : Option Hp, gd (inb (nI i) 10) f = f := fun f => gd_in (by omega) (by decide)
  have ci := cl_n (show i ≤ 100000 by omega)
  unfold layH
  generalize hX : u1 (u1 h (r + 1) i (hb S.2.1 S.2.2.1 i)) (r + 3) i (S.2.2.2.1 i) = X at *
  have key : sX2_lay_c70 k X r a (pinS S) S.2.2.2.2 (nI i) (pof S i) = k (u1 (u1 (u1 (u1 X (r + 4) i (nr0 S s i)) (r + 5) i (fr0 S s i)) (r + 6) i (ht S s i)) (r + 2) i (cm S s i)) r a (pinS S) S.2.2.2.2 (nI (i + 1)) := by
    have e1 : sX2_lay_c70 k X r a (pinS S) S.2.2.2.2 (nI i) (pof S i) = sX2_lay_c148 k X r a (pinS S) S.2.2.2.2 (nI i) (pof S i) (nr S s i) (fr S s i) (if 0 < dg S s i then 1 else 0) := by
      unfold sX2_lay_c70 sX2_lay_c104 sX2_lay_c128 dg fr nr
      rw [u2']
      unfold upv
      by_cases s0 : s = 0
      · have t1 : ¬ (1 : Int32) ≤ 0 := by decide
        simp only [s0, if_true, t1, if_false, P_low ha P2 hn hi', P_high ha P2 hn hi', Option.bind_some, u2', upv, Int32.one_mul]
        grind
      · have t1 : (-1 : Int32) ≤ 0 := by decide
        simp only [s0, if_true, t1, if_false, P_low ha P2 hn hi', P_high ha P2 hn hi', Option.bind_some, u2', upv]
        grind
    rw [e1]
    have q3 : ∀ v w : Int32, (u1 (u1 X (r + 4) i v) (r + 5) i w).1 (r + 3) i = S.2.2.2.1 i := fun v w => by rw [rd1c (by omega), rd1c (by omega)]; exact cap2
    have q0 : ∀ v w : Int32, (u1 (u1 X (r + 4) i v) (r + 5) i w).1 r 0 = upv s := fun v w => by rw [rd1c (by omega), rd1c (by omega)]; exact u2'
    rw [ht_i]
    unfold nr0 fr0 cm
    unfold sX2_lay_c148 sX2_lay_c167 sX2_lay_c185 sX2_lay_c219 sX2_lay_c242 sX2_lay_c243
    by_cases c2 : 0 < dg S s i
    · have e4 : S.2.2.2.1 i * upv s * (fr S s i - nr S s i) = S.2.2.2.1 i * dg S s i := by
        unfold dg upv
        by_cases s0 : s = 0
        · simp only [if_pos s0, Int32.mul_one]
        · simp only [if_neg s0]
          grind
      have t1 : ¬ (1 : Int32) = 0 := by decide
      by_cases c3 : nr S s i = pof S i
      · have t2 : vp_nar .boolean 1 = 1 := by decide
        rw [c3] at e4
        simp only [c2, if_true, t1, if_false, gi, ci, nm, q3, q0, e4, c3, t2, nI_1, and_self]
      · have t2 : vp_nar .boolean 0 = 0 := by decide
        simp only [c2, if_true, t1, if_false, gi, ci, nm, q3, q0, e4, c3, t2, nI_1, and_false]
    · have t2 : vp_nar .boolean 0 = 0 := by decide
      simp only [c2, if_false, if_true, gi, ci, nm, t2, nI_1, false_and]
  unfold sX2_lay_c16
  have n1 := narb (hb01 S.2.1 S.2.2.1 i)
  simp only [hc, c1, if_false, gi, ci, nm, a1, n1, b4, hX, d1]
  have h01 := hb01 S.2.1 S.2.2.1 i
  unfold hb at h01 ⊢
  by_cases c2 : S.2.2.1 i < S.2.1 i
  · simp only [if_pos c2]
    rw [if_neg (by decide)]
    have : pinS S + S.2.2.2.2 = pof S i := by unfold pof sh; rw [if_pos c2]
    rw [this]
    exact key
  · simp only [if_neg c2, if_true]
    have : pinS S = pof S i := by unfold pof sh; rw [if_neg c2, Int32.add_zero]
    rw [this] at key ⊢
    exact key
theorem S_lay (hr : ck r = 2) (ha : ck a = 1) (hP : PS h a S.1 S.2.1 S.2.2.1 S.2.2.2.1) (hn : S.1 ≤ 10) (hu : h.1 r 0 = upv s) : ∃ h', sX2_lay h r a (pinS S) S.2.2.2.2 = some h' ∧ SD h' r s S ∧ h'.1 r 14 = 0 ∧ ∀ i, i < S.1 → h'.1 (r + 7) i = 0 := by
  have hr' := hsX2 hr
  have ha' := hsX1 ha
  unfold sX2_lay
  rw [gd_t (isC_ok hr), gd_t (isC_ok ha)]
  have R1 : Fr [(r, some 1)] [] h (u1 h r 1 S.2.2.2.2) := Fr.w1 Fr.rf rfl (by simp)
  have P1 := hP.fr R1 (by intro w hw; simp at hw; subst hw; dsimp only; omega)
  rw [nm_t rfl, nm_t rfl, P1.1]
  have R2 : Fr [(r, some 1), (r, some 2)] [] h (u1 (u1 h r 1 S.2.2.2.2) r 2 (nI S.1)) := Fr.w1 (Fr.w1 Fr.rf rfl (by simp)) rfl (by simp)
  have P2 := hP.fr R2 (by intro w hw; simp at hw; rcases hw with rfl | rfl <;> (dsimp only; omega))
  refine loopI (fun m (q : Hp × Int32) => sX2_lay_b16 m q.1 r a (pinS S) S.2.2.2.2 q.2) (fun i q => q.2 = nI i ∧ PS q.1 a S.1 S.2.1 S.2.2.1 S.2.2.2.1 ∧ q.1.1 r 0 = upv s ∧ q.1.1 r 1 = S.2.2.2.2 ∧ q.1.1 r 2 = nI S.1 ∧ ∀ j, j < i → q.1.1 (r + 1) j = hb S.2.1 S.2.2.1 j ∧ q.1.1 (r + 2) j = cm S s j ∧ q.1.1 (r + 3) j = S.2.2.2.1 j ∧ q.1.1 (r + 4) j = nr0 S s j ∧ q.1.1 (r + 5) j = fr0 S s j ∧ q.1.1 (r + 6) j = ht S s j) S.1 (fun h' => SD h' r s S ∧ h'.1 r 14 = 0 ∧ ∀ i, i < S.1 → h'.1 (r + 7) i = 0) (by omega) (u1 (u1 h r 1 S.2.2.2.2) r 2 (nI S.1), 0) ⟨rfl, P2, (R2.1 r 0 (by simp) (by simp)).trans hu, (rd1k (by decide)).trans rd1s, rd1s, fun j hj => by omega⟩ (fun m i q hi I => ?_) (fun m q I => ?_)
  · obtain ⟨h1, v⟩ := q
    obtain ⟨i1, i2, i3, i4, i5, i6⟩ := I
    dsimp only at i1 i2 i3 i4 i5 i6
    subst i1
    have R3 : Fr [(r + 1, none), (r + 3, none), (r + 4, none), (r + 5, none), (r + 6, none), (r + 2, none)] [] h1 (layH h1 r s S i) := Fr.w1 (Fr.w1 (Fr.w1 (Fr.w1 (Fr.w1 (Fr.w1 Fr.rf rfl (by simp)) rfl (by simp)) rfl (by simp)) rfl (by simp)) rfl (by simp)) rfl (by simp)
    refine ⟨(layH h1 r s S i, nI (i + 1)), ⟨rfl, i2.fr R3 (by intro w hw; simp at hw; rcases hw with rfl | rfl | rfl | rfl | rfl | rfl <;> (dsimp only; omega)), (R3.1 r 0 (by simp) (by simp)).trans i3, (R3.1 r 1 (by simp) (by simp)).trans i4, (R3.1 r 2 (by simp) (by simp)).trans i5, fun j hj => ?_⟩, ?_⟩
    · unfold layH
      by_cases e : j = i
      · subst e
        refine ⟨?_, ?_, ?_, ?_, ?_, ?_⟩
        · rw [rd1c (by omega), rd1c (by omega), rd1c (by omega), rd1c (by omega), rd1c (by omega), rd1s]
        · rw [rd1s]
        · rw [rd1c (by omega), rd1c (by omega), rd1c (by omega), rd1c (by omega), rd1s]
        · rw [rd1c (by omega), rd1c (by omega), rd1c (by omega), rd1s]
        · rw [rd1c (by omega), rd1c (by omega), rd1s]
        · rw [rd1c (by omega), rd1s]
      · simp only [rd1k e]
        exact i6 j (by omega)
    · exact lay_body hr ha i2 hn i3 i5 hi _
  · obtain ⟨h1, v⟩ := q
    obtain ⟨i1, i2, i3, i4, i5, i6⟩ := I
    dsimp only at i1 i2 i3 i4 i5 i6
    subst i1
    have c1 : nI S.1 ≤ nI S.1 := by rw [le_n (by omega) (by omega)]; omega
    obtain ⟨h2, e1, e2, e3⟩ := S_empty hr hn i5
    refine ⟨h2, ?_, SD.fr (h := h1) ⟨i3, i4, i5, i6⟩ (fX2_empty _ _ _ e1) ?_, e2, e3⟩
    · show sX2_lay_c16 (sX2_lay_b16 m) h1 r a _ _ (nI S.1) = _
      simp only [sX2_lay_c16, i5, c1, if_true, e1, Option.bind_some]
    · intro w hw
      simp only [wX2_empty, List.mem_cons, List.not_mem_nil, or_false] at hw
      rcases hw with rfl | rfl
      · exact Or.inr (Or.inr ⟨rfl, 14, rfl, by omega⟩)
      · right; left; dsimp only; omega
end Sd
