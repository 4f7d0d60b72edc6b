/-! streams that change -/
def rmv (f : Nat → Int32) (i : Nat) : Nat → Int32 := fun j => if j < i then f j else f (j + 1)
theorem upd_s {f : Nat → Int32} {k : Nat} {x : Int32} : upd f k x k = x := if_pos rfl
theorem upd_n {f : Nat → Int32} {k j : Nat} {x : Int32} (h : j ≠ k) : upd f k x j = f j := if_neg h
theorem PS.ext {h : Hp} {r n : Nat} {F T C F' T' C' : Nat → Int32} (hP : PS h r n F T C) (e : ∀ i, i < n → F i = F' i ∧ T i = T' i ∧ C i = C' i) : PS h r n F' T' C' := by
  refine ⟨hP.1, fun i hi' => ?_⟩
  obtain ⟨e1, e2, e3⟩ := e i hi'
  obtain ⟨a1, a2, a3, a4⟩ := hP.2 i hi'
  refine ⟨?_, a2.trans e1, a3.trans e2, a4.trans e3⟩
  rw [a1]
  unfold hb
  rw [e1, e2]
section P2
variable {h : Hp} {r n : Nat} {F T C : Nat → Int32} {i : Nat}
theorem P_add (hr : ck r = 1) (hP : PS h r n F T C) (hn : n < 10) {x f t c : Int32} (hx : x = if t < f then 1 else 0) : ∃ h', sX1_add h r x f t c = some h' ∧ PS h' r (n + 1) (upd F n f) (upd T n t) (upd C n c) := by
  have hr' := hsX1 hr
  have c1 : ¬ (10 : Int32) ≤ nI n := by
    show ¬ nI 10 ≤ nI n
    rw [le_n (by omega) (by omega)]; omega
  have n1 : vp_nar .boolean x = x := narb (by rw [hx]; split <;> simp)
  have b1 : (u1 h (r + 1) n x).1 r 4 = nI n := (rd1c (by omega)).trans hP.1
  have b2 : (u1 (u1 h (r + 1) n x) (r + 2) n f).1 r 4 = nI n := (rd1c (by omega)).trans b1
  have b3 : (u1 (u1 (u1 h (r + 1) n x) (r + 2) n f) (r + 3) n t).1 r 4 = nI n := (rd1c (by omega)).trans b2
  have b4 : (u1 (u1 (u1 (u1 h (r + 1) n x) (r + 2) n f) (r + 3) n t) (r + 4) n c).1 r 4 = nI n := (rd1c (by omega)).trans b3
  refine ⟨u1 (u1 (u1 (u1 (u1 h (r + 1) n x) (r + 2) n f) (r + 3) n t) (r + 4) n c) r 4 (nI n + 1), ?_, ?_, fun j hj => ?_⟩
  · simp only [sX1_add, sX1_add_c60, gd_t (isC_ok hr), hP.1, c1, if_false, gd_in (show n < 10 by omega) (show 10 ≤ 1000 by decide), cl_n (show n ≤ 100000 by omega), nm, n1, b1, b2, b3, b4]
  · rw [rd1s, nI_1]
  · by_cases e : j = n
    · subst e
      unfold hb
      simp only [upd_s]
      refine ⟨?_, ?_, ?_, ?_⟩
      · rw [rd1c (by omega), rd1c (by omega), rd1c (by omega), rd1c (by omega), rd1s, hx]
      · rw [rd1c (by omega), rd1c (by omega), rd1c (by omega), rd1s]
      · rw [rd1c (by omega), rd1c (by omega), rd1s]
      · rw [rd1c (by omega), rd1s]
    · obtain ⟨a1, a2, a3, a4⟩ := hP.2 j (by omega)
      unfold hb at a1 ⊢
      simp only [upd_n e]
      refine ⟨?_, ?_, ?_, ?_⟩
      · rw [rd1c (by omega), rd1k e, rd1k e, rd1k e, rd1k e]; exact a1
      · rw [rd1c (by omega), rd1k e, rd1k e, rd1k e, rd1k e]; exact a2
      · rw [rd1c (by omega), rd1k e, rd1k e, rd1k e, rd1k e]; exact a3
      · rw [rd1c (by omega), rd1k e, rd1k e, rd1k e, rd1k e]; exact a4
theorem P_copy {a : Nat} (hr : ck r = 1) (ha : ck a = 1) (hra : r ≠ a) (hP : PS h a n F T C) (hn : n ≤ 10) : ∃ h', sX1_copy h r a = some h' ∧ PS h' r n F T C := by
  have hr' := hsX1 hr
  have ha' := hsX1 ha
  unfold sX1_copy
  rw [gd_t (isC_ok hr), gd_t (isC_ok ha), nm_t rfl]
  have F0 : Fr [(r, some 4)] [] h (u1 h r 4 0) := Fr.w1 Fr.rf rfl (by simp)
  refine loopI (fun m (s : Hp × Int32) => sX1_copy_b7 m s.1 r a s.2) (fun i s => s.2 = nI i ∧ PS s.1 a n F T C ∧ PS s.1 r i F T C) n (fun h' => PS h' r n F T C) (by omega) (u1 h r 4 0, 0) ⟨rfl, hP.fr F0 (by intro w hw; simp at hw; subst hw; dsimp only; omega), rd1s, fun i hi' => by omega⟩ (fun m i s hi' I => ?_) (fun m s I => ?_)
  · obtain ⟨h1, v⟩ := s
    obtain ⟨i1, i2, i3⟩ := I
    dsimp only at i1 i2 i3
    subst i1
    obtain ⟨a1, a2, a3, a4⟩ := i2.2 i hi'
    have c1 : ¬ nI n ≤ nI i := by rw [le_n (by omega) (by omega)]; omega
    obtain ⟨h2, e1, e2⟩ := P_add (x := hb F T i) (f := F i) (t := T i) (c := C i) hr i3 (by omega) rfl
    refine ⟨(h2, nI (i + 1)), ⟨rfl, i2.fr (fX1_add _ _ _ _ _ _ _ e1) ?_, e2.ext (fun j hj => ?_)⟩, ?_⟩
    · intro w hw
      simp only [wX1_add, List.mem_cons, List.not_mem_nil, or_false] at hw
      rcases hw with rfl | rfl | rfl | rfl | rfl <;> (dsimp only; omega)
    · by_cases e : j = i
      · subst e; exact ⟨upd_s, upd_s, upd_s⟩
      · exact ⟨upd_n e, upd_n e, upd_n e⟩
    · show sX1_copy_c7 (sX1_copy_b7 m) h1 r a (nI i) = sX1_copy_b7 m h2 r a (nI (i + 1))
      simp only [sX1_copy_c7, i2.1, c1, if_false, gd_in (show i < 10 by omega) (show 10 ≤ 1000 by decide), cl_n (show i ≤ 100000 by omega), a1, a2, a3, a4, e1, Option.bind_some, nm, nI_1]
  · obtain ⟨h1, v⟩ := s
    obtain ⟨i1, i2, i3⟩ := I
    dsimp only at i1 i2 i3
    subst i1
    have c1 : nI n ≤ nI n := by rw [le_n (by omega) (by omega)]; omega
    refine ⟨h1, ?_, i3⟩
    show sX1_copy_c7 (sX1_copy_b7 m) h1 r a (nI n) = _
    simp only [sX1_copy_c7, i2.1, c1, if_true]
theorem P_remove (hr : ck r = 1) (hP : PS h r n F T C) (hn : n ≤ 10) (hi' : i < n) : ∃ h', sX1_remove h r (nI i) = some h' ∧ PS h' r (n - 1) (rmv F i) (rmv T i) (rmv C i) := by
  have hr' := hsX1 hr
  unfold sX1_remove
  rw [gd_t (isC_ok hr), nm_t (nI_1 i)]
  refine loopE (fun m (s : Hp × Int32) => sX1_remove_b4 m s.1 r s.2) (fun d s => s.2 = nI (i + 1 + d) ∧ s.1.1 r 4 = nI n ∧ (∀ j, i + d ≤ j → j < n → s.1.1 (r + 1) j = hb F T j ∧ s.1.1 (r + 2) j = F j ∧ s.1.1 (r + 3) j = T j ∧ s.1.1 (r + 4) j = C j) ∧ ∀ j, j < i + d → s.1.1 (r + 1) j = hb (rmv F i) (rmv T i) j ∧ s.1.1 (r + 2) j = rmv F i j ∧ s.1.1 (r + 3) j = rmv T i j ∧ s.1.1 (r + 4) j = rmv C i j) (n - (i + 1)) (fun h' => PS h' r (n - 1) (rmv F i) (rmv T i) (rmv C i)) (fun m d s hd I => ?_) (fun m s I => ?_) (n - (i + 1)) 0 FU (h, nI (i + 1)) ⟨rfl, hP.1, fun j h1 h2 => hP.2 j h2, fun j hj => ?_⟩ (by omega) (by show _ < 1000; omega)
  · obtain ⟨h1, v⟩ := s
    obtain ⟨i1, i2, i3, i4⟩ := I
    dsimp only at i1 i2 i3 i4
    subst i1
    have c1 : ¬ nI n ≤ nI (i + 1 + d) := by rw [le_n (by omega) (by omega)]; omega
    obtain ⟨a1, a2, a3, a4⟩ := i3 (i + 1 + d) (by omega) (by omega)
    have n1 := narb (hb01 F T (i + 1 + d))
    have q : i + 1 + d - 1 = i + d := by omega
    have r1 : (u1 h1 (r + 1) (i + d) (hb F T (i + 1 + d))).1 (r + 2) (i + 1 + d) = F (i + 1 + d) := (rd1c (by omega)).trans a2
    have r2 : (u1 (u1 h1 (r + 1) (i + d) (hb F T (i + 1 + d))) (r + 2) (i + d) (F (i + 1 + d))).1 (r + 3) (i + 1 + d) = T (i + 1 + d) := (rd1c (by omega)).trans ((rd1c (by omega)).trans a3)
    have r3 : (u1 (u1 (u1 h1 (r + 1) (i + d) (hb F T (i + 1 + d))) (r + 2) (i + d) (F (i + 1 + d))) (r + 3) (i + d) (T (i + 1 + d))).1 (r + 4) (i + 1 + d) = C (i + 1 + d) := (rd1c (by omega)).trans ((rd1c (by omega)).trans ((rd1c (by omega)).trans a4))
    refine ⟨(u1 (u1 (u1 (u1 h1 (r + 1) (i + d) (hb F T (i + 1 + d))) (r + 2) (i + d) (F (i + 1 + d))) (r + 3) (i + d) (T (i + 1 + d))) (r + 4) (i + d) (C (i + 1 + d)), nI (i + 1 + (d + 1))), ⟨rfl, ?_, fun j h2 h3 => ?_, fun j hj => ?_⟩, ?_⟩
    · rw [rd1c (by omega), rd1c (by omega), rd1c (by omega), rd1c (by omega)]; exact i2
    · simp only [rd1k (show j ≠ i + d by omega)]
      exact i3 j (by omega) h3
    · by_cases e : j = i + d
      · subst e
        have e1 : rmv F i (i + d) = F (i + 1 + d) := by unfold rmv; rw [if_neg (by omega)]; congr 1; omega
        have e2 : rmv T i (i + d) = T (i + 1 + d) := by unfold rmv; rw [if_neg (by omega)]; congr 1; omega
        have e3 : rmv C i (i + d) = C (i + 1 + d) := by unfold rmv; rw [if_neg (by omega)]; congr 1; omega
        unfold hb
        rw [e1, e2, e3]
        refine ⟨?_, ?_, ?_, ?_⟩
        · rw [rd1c (by omega), rd1c (by omega), rd1c (by omega), rd1s]
        · rw [rd1c (by omega), rd1c (by omega), rd1s]
        · rw [rd1c (by omega), rd1s]
        · rw [rd1s]
      · simp only [rd1k e]
        exact i4 j (by omega)
    · show sX1_remove_c4 (sX1_remove_b4 m) h1 r (nI (i + 1 + d)) = sX1_remove_b4 m _ r (nI (i + 1 + (d + 1)))
      have g1 : ∀ f : Option Hp, gd (inb (nI (i + 1 + d)) 10) f = f := fun f => gd_in (by omega) (by decide)
      have g2 : ∀ f : Option Hp, gd (inb (nI (i + d)) 10) f = f := fun f => gd_in (by omega) (by decide)
      simp only [sX1_remove_c4, i2, c1, if_false, nI_m1 (show 0 < i + 1 + d by omega), q, g1, g2, cl_n (show i + 1 + d ≤ 100000 by omega), cl_n (show i + d ≤ 100000 by omega), a1, n1, nm, r1, r2, r3, nI_1]
      rfl
  · obtain ⟨h1, v⟩ := s
    obtain ⟨i1, i2, i3, i4⟩ := I
    dsimp only at i1 i2 i3 i4
    have q : i + 1 + (n - (i + 1)) = n := by omega
    rw [q] at i1
    subst i1
    have c1 : nI n ≤ nI n := by rw [le_n (by omega) (by omega)]; omega
    refine ⟨u1 h1 r 4 (nI (n - 1)), ?_, rd1s, fun j hj => ?_⟩
    · show sX1_remove_c4 (sX1_remove_b4 m) h1 r (nI n) = _
      simp only [sX1_remove_c4, i2, c1, if_true, nI_m1 (show 0 < n by omega), nm]
    · rw [rd1c (by omega), rd1c (by omega), rd1c (by omega), rd1c (by omega)]
      exact i4 j (by omega)
  · have e1 : rmv F i j = F j := by unfold rmv; rw [if_pos (by omega)]
    have e2 : rmv T i j = T j := by unfold rmv; rw [if_pos (by omega)]
    have e3 : rmv C i j = C j := by unfold rmv; rw [if_pos (by omega)]
    unfold hb
    rw [e1, e2, e3]
    exact hP.2 j (by omega)
end P2
/-- a stream's value changed: w 0 from, 1 to, 2 capacity -/
def stS (S : SS) (i : Nat) (w v : Int32) : SS := (S.1, (if w = 0 then upd S.2.1 i v else S.2.1), (if w = 1 then upd S.2.2.1 i v else S.2.2.1), (if w = 2 then upd S.2.2.2.1 i v else S.2.2.2.1), S.2.2.2.2)
abbrev vOk (w v : Int32) : Prop := (w = 2 ∧ 1 ≤ v ∧ v ≤ 20) ∨ ((w = 0 ∨ w = 1) ∧ 0 ≤ v ∧ v ≤ 500)
def vBg (S : SS) (i : Nat) (w v : Int32) : Int32 := if w = 0 then v else S.2.1 i
def vEn (S : SS) (i : Nat) (w v : Int32) : Int32 := if w = 1 then v else S.2.2.1 i
/-- it would turn -/
abbrev trn (S : SS) (i : Nat) (w v : Int32) : Prop := (S.2.2.1 i < S.2.1 i ∧ vBg S i w v ≤ vEn S i w v) ∨ (¬ S.2.2.1 i < S.2.1 i ∧ vEn S i w v ≤ vBg S i w v)
def vAt (S : SS) (i : Nat) (w : Int32) : Int32 := if w = 0 then S.2.1 i else if w = 1 then S.2.2.1 i else S.2.2.2.1 i
theorem w_ne : ¬ (2 : Int32) = 0 ∧ ¬ (2 : Int32) = 1 ∧ ¬ (0 : Int32) = 1 ∧ ¬ (0 : Int32) = 2 ∧ ¬ (1 : Int32) = 0 ∧ ¬ (1 : Int32) = 2 := by decide
theorem stS_i (S : SS) (i : Nat) (w v : Int32) : (stS S i w v).2.1 i = vBg S i w v ∧ (stS S i w v).2.2.1 i = vEn S i w v ∧ (stS S i w v).2.2.2.1 i = (if w = 2 then v else S.2.2.2.1 i) := by
  unfold stS vBg vEn
  refine ⟨?_, ?_, ?_⟩ <;> dsimp only <;> split
  · exact upd_s
  · rfl
  · exact upd_s
  · rfl
  · exact upd_s
  · rfl
theorem stS_n (S : SS) {i j : Nat} (hj : j ≠ i) (w v : Int32) : (stS S i w v).2.1 j = S.2.1 j ∧ (stS S i w v).2.2.1 j = S.2.2.1 j ∧ (stS S i w v).2.2.2.1 j = S.2.2.2.1 j := by
  unfold stS
  refine ⟨?_, ?_, ?_⟩ <;> dsimp only <;> split
  · exact upd_n hj
  · rfl
  · exact upd_n hj
  · rfl
  · exact upd_n hj
  · rfl
theorem okSt {S : SS} (ok : OK S) {i : Nat} (hi' : i < S.1) {w v : Int32} (hv : vOk w v) (ht' : ¬ trn S i w v) : OK (stS S i w v) ∧ hb (stS S i w v).2.1 (stS S i w v).2.2.1 i = hb S.2.1 S.2.2.1 i := by
  obtain ⟨e1, e2, e3⟩ := stS_i S i w v
  have h1 := ok.2.2 i hi'
  have e4 : hb (stS S i w v).2.1 (stS S i w v).2.2.1 i = hb S.2.1 S.2.2.1 i := by
    unfold hb
    rw [e1, e2]
    by_cases c : S.2.2.1 i < S.2.1 i
    · rw [if_pos c, if_pos (by grind)]
    · rw [if_neg c, if_neg (by grind)]
  refine ⟨⟨ok.1, ok.2.1, fun j hj => ?_⟩, e4⟩
  by_cases e : j = i
  · subst e
    rw [e1, e2, e3]
    unfold trn vBg vEn at ht'
    unfold vBg vEn
    have wn := w_ne
    rcases hv with ⟨rfl, q⟩ | ⟨rfl | rfl, q⟩
    · simp only [wn, if_false, if_true] at ht' ⊢
      grind
    · simp only [wn, if_false, if_true] at ht' ⊢
      grind
    · simp only [wn, if_false, if_true] at ht' ⊢
      grind
  · obtain ⟨f1, f2, f3⟩ := stS_n S e w v
    rw [f1, f2, f3]
    exact ok.2.2 j hj
