/-! who can meet; the greatest load; range, most -/
abbrev prP (S : SS) (s : Nat) (b c : Int32) : Prop := (0 ≤ b ∧ b < nI S.1) ∧ (0 ≤ c ∧ c < nI S.1) ∧ hb S.2.1 S.2.2.1 b.toNatClampNeg = 1 ∧ hb S.2.1 S.2.2.1 c.toNatClampNeg = 0 ∧ 0 < dg S s b.toNatClampNeg ∧ 0 < dg S s c.toNatClampNeg
section O7
variable {h : Hp} {S : SS} {Ms : Nat → Mt} {tx : List Int32} {row : List Int64} {r s : Nat}
theorem prP_i {S : SS} {s i j : Nat} (hn : S.1 ≤ 10) (hi' : i < S.1) (hj : j < S.1) : prP S s (nI i) (nI j) ↔ Pr S s i j := by
  unfold prP Pr
  rw [cl_n (by omega), cl_n (by omega), lt_n (by omega) (by omega), lt_n (by omega) (by omega)]
  have : ∀ k : Nat, k < 10 → (0 : Int32) ≤ nI k := fun k hk => nI_pos' (by omega)
  have a1 := this i (by omega)
  have a2 := this j (by omega)
  grind
theorem prP_cs {S : SS} {s : Nat} {b c : Int32} (hn : S.1 ≤ 10) (hp : prP S s b c) : ∃ i j : Nat, b = nI i ∧ c = nI j ∧ Pr S s i j := by
  obtain ⟨i, hi', rfl⟩ := str_cs hn hp.1
  obtain ⟨j, hj, rfl⟩ := str_cs hn hp.2.1
  exact ⟨i, j, rfl, rfl, (prP_i hn hi' hj).mp hp⟩
theorem S_hasHeat (hr : ck r = 2) (ok : OK S) (hD : SD h r s S) (a k : Int32) : sX2_hasHeat h r a k = some (bI ((0 ≤ a ∧ a < nI S.1) ∧ hb S.2.1 S.2.2.1 a.toNatClampNeg = k ∧ 0 < dg S s a.toNatClampNeg), h) := by
  have hn := ok.1
  unfold sX2_hasHeat sX2_hasHeat_c35 sX2_hasHeat_c36
  rw [gd_t (isC_ok hr), hD.2.2.1]
  by_cases c : 0 ≤ a ∧ a < nI S.1
  · obtain ⟨i, hi', rfl⟩ := str_cs hn c
    obtain ⟨d1, d2, d3, d4, d5, d6⟩ := hD.2.2.2 i hi'
    have t := ht_bd ok (s := s) hi'
    rw [if_neg (by grind), if_neg (by grind), gd_in (by omega) (by decide), gd_in (by omega) (by decide), cl_n (by omega), d1, d6]
    by_cases c2 : hb S.2.1 S.2.2.1 i = k
    · rw [if_pos c2]
      by_cases c3 : 0 < dg S s i
      · rw [if_neg (by rw [t.2.2.2]; exact fun q => q c3), show bI _ = 1 from if_pos ⟨c, c2, c3⟩]; rfl
      · rw [if_pos (t.2.2.2.mpr c3), show bI _ = 0 from bI_z.mpr (fun q => c3 q.2.2)]; rfl
    · rw [if_neg c2, show bI _ = 0 from bI_z.mpr (fun q => c2 q.2.1)]; rfl
  · rw [show bI ((0 ≤ a ∧ a < nI S.1) ∧ hb S.2.1 S.2.2.1 a.toNatClampNeg = k ∧ 0 < dg S s a.toNatClampNeg) = 0 from bI_z.mpr (fun q => c q.1)]
    by_cases c1 : a < 0
    · rw [if_pos c1]; rfl
    · rw [if_neg c1, if_pos (by grind)]; rfl
theorem X_canMeet (X : RXs h S Ms) (ok : OK S) (hs : s < 2) (b c : Int32) : sX5_canMeet h (nI s) b c = some (bI (prP S s b c), h) := by
  have hD := (X.2.2.2 s hs).1
  have cb : ¬ bI (nI s = 0 ∨ nI s = 1) = 0 := by
    rw [bI_z]
    rcases (show s = 0 ∨ s = 1 by omega) with rfl | rfl
    · exact fun q => q (Or.inl rfl)
    · exact fun q => q (Or.inr rfl)
  simp only [sX5_canMeet, sX5_canMeet_c37, sX5_canMeet_c38, X_isSide, Option.bind_some, cb, if_false, X_sideOf _ hs, gd_t (isC_ok (ck_sd hs)), S_hasHeat (ck_sd hs) ok hD, bI_z]
  by_cases c1 : (0 ≤ b ∧ b < nI S.1) ∧ hb S.2.1 S.2.2.1 b.toNatClampNeg = 1 ∧ 0 < dg S s b.toNatClampNeg
  · rw [if_neg (fun q => q c1)]
    by_cases c2 : (0 ≤ c ∧ c < nI S.1) ∧ hb S.2.1 S.2.2.1 c.toNatClampNeg = 0 ∧ 0 < dg S s c.toNatClampNeg
    · rw [if_neg (fun q => q c2), show bI (prP S s b c) = 1 from if_pos ⟨c1.1, c2.1, c1.2.1, c2.2.1, c1.2.2, c2.2.2⟩]; rfl
    · rw [if_pos c2, show bI (prP S s b c) = 0 from bI_z.mpr (fun q => c2 ⟨q.2.1, q.2.2.2.1, q.2.2.2.2.2⟩)]; rfl
  · rw [if_pos c1, show bI (prP S s b c) = 0 from bI_z.mpr (fun q => c1 ⟨q.1, q.2.2.1, q.2.2.2.2.1⟩)]; rfl
theorem X_canMeet0 {a : Int32} (c0 : ¬ (a = 0 ∨ a = 1)) (b c : Int32) : sX5_canMeet h a b c = some (0, h) := by
  have cb : bI (a = 0 ∨ a = 1) = 0 := bI_z.mpr c0
  simp only [sX5_canMeet, sX5_canMeet_c37, sX5_canMeet_c38, X_isSide, Option.bind_some, cb, if_true]
  rfl
theorem M_areThere0 {a : Int32} (c0 : ¬ (a = 0 ∨ a = 1)) (b c : Int32) : sX6_areThere h a b c = some (0, h) := by
  have cb : bI (a = 0 ∨ a = 1) = 0 := bI_z.mpr c0
  simp only [sX6_areThere, sX6_areThere_c61, sX6_areThere_c62, M_isSide, Option.bind_some, cb, if_true]
  rfl
theorem M_areThere (hF : FD h S) (ok : OK S) (hs : s < 2) (b c : Int32) : sX6_areThere h (nI s) b c = some (bI (prP S s b c), h) := by
  have hn := ok.1
  have cb : ¬ bI (nI s = 0 ∨ nI s = 1) = 0 := by
    rw [bI_z]
    rcases (show s = 0 ∨ s = 1 by omega) with rfl | rfl
    · exact fun q => q (Or.inl rfl)
    · exact fun q => q (Or.inr rfl)
  simp only [sX6_areThere, sX6_areThere_c61, sX6_areThere_c62, M_isSide, Option.bind_some, cb, if_false, M_isStream hF.1 hn, bI_z]
  by_cases c1 : 0 ≤ b ∧ b < nI S.1
  · rw [if_neg (fun q => q c1)]
    by_cases c2 : 0 ≤ c ∧ c < nI S.1
    · rw [if_neg (fun q => q c2)]
      obtain ⟨i, hi', rfl⟩ := str_cs hn c1
      obtain ⟨j, hj, rfl⟩ := str_cs hn c2
      have ti := ht_bd ok (s := s) hi'
      have tj := ht_bd ok (s := s) hj
      rw [show bI (prP S s (nI i) (nI j)) = bI (hb S.2.1 S.2.2.1 i = 1 ∧ hb S.2.1 S.2.2.1 j = 0 ∧ 0 < dg S s i ∧ 0 < dg S s j) from bI_cg (by rw [prP_i hn hi' hj]; unfold Pr; grind)]
      simp only [M_isHot hF.1 hn hi', M_isHot hF.1 hn hj, M_heat hF hn hs hi', M_heat hF hn hs hj, Option.bind_some, ti.2.2.2, tj.2.2.2]
      rcases hb01 S.2.1 S.2.2.1 i with e1 | e1
      · rw [e1, if_pos rfl, show bI _ = 0 from bI_z.mpr (fun q => absurd q.1 (by decide))]; rfl
      · rw [e1, if_neg (by decide)]
        rcases hb01 S.2.1 S.2.2.1 j with e2 | e2
        · rw [e2, if_pos rfl]
          by_cases c3 : 0 < dg S s i
          · rw [if_neg (fun q => q c3)]
            by_cases c4 : 0 < dg S s j
            · rw [if_neg (fun q => q c4), show bI _ = 1 from if_pos ⟨rfl, rfl, c3, c4⟩]; rfl
            · rw [if_pos c4, show bI _ = 0 from bI_z.mpr (fun q => c4 q.2.2.2)]; rfl
          · rw [if_pos c3, show bI _ = 0 from bI_z.mpr (fun q => c3 q.2.2.1)]; rfl
        · rw [e2, if_neg (by decide), show bI _ = 0 from bI_z.mpr (fun q => absurd q.2.1 (by decide))]; rfl
    · rw [if_pos c2, show bI (prP S s b c) = 0 from bI_z.mpr (fun q => c2 q.2.1)]; rfl
  · rw [if_pos c1, show bI (prP S s b c) = 0 from bI_z.mpr (fun q => c1 q.1)]; rfl
theorem div_min {x : Int64} {p0 y m : Int32} {B : Int} (hx : x.toInt = B) (hp : p0.toInt = B) (hB : 0 ≤ B ∧ B ≤ 1600000) (hy : 0 < y.toInt ∧ y.toInt ≤ 20) (hm : 0 ≤ m.toInt ∧ m.toInt ≤ 11200) : (lmin m.toInt64 (x / y.toInt64)).toInt32 = imin m (p0 / y) := by
  have d3 : 0 ≤ B / y.toInt := Int.ediv_nonneg hB.1 (Int.le_of_lt hy.1)
  have d4 : B / y.toInt ≤ B := Int.ediv_le_self _ hB.1
  have d1 : (p0 / y).toInt = B / y.toInt := by
    rw [Int32.toInt_div, hp, Int.tdiv_eq_ediv_of_nonneg hB.1]
    exact bmod_id (by omega) (by omega)
  have d2 : (x / y.toInt64).toInt = B / y.toInt := by
    rw [Int64.toInt_div, hx, tL_i, Int.tdiv_eq_ediv_of_nonneg hB.1]
    exact bmod_id64 (by omega) (by omega)
  generalize p0 / y = p at *
  generalize x / y.toInt64 = q at *
  generalize B / y.toInt = D at *
  rw [eq_tI, Int64.toInt_toInt32]
  unfold lmin imin
  have lt1 : (q < m.toInt64) ↔ (p < m) := by rw [Int64.lt_iff_toInt_lt, lt_tI, tL_i, d1, d2]
  by_cases c5 : p < m
  · rw [if_pos (lt1.mpr c5), if_pos c5, d1, d2]
    exact bmod_id (by omega) (by omega)
  · rw [if_neg (fun z => c5 (lt1.mp z)), if_neg c5, tL_i]
    exact bmod_id (by omega) (by omega)
/-- the greatest load -/
def gl (S : SS) (s : Nat) (M : Mt) (a b : Nat) : Int32 := if 0 ≤ wS S s a b (us M M.length a) (us M M.length b) - S.2.2.2.2 * unS S a b then (if upv s * (S.2.2.2.1 a - S.2.2.2.1 b) ≤ 0 then imin (rs S s M a) (rs S s M b) else imin (imin (rs S s M a) (rs S s M b)) ((wS S s a b (us M M.length a) (us M M.length b) - S.2.2.2.2 * unS S a b) / (upv s * (S.2.2.2.1 a - S.2.2.2.1 b)))) else 0
theorem S_greatest {M : Mt} (hr : ck r = 2) (ok : OK S) (hD : SD h r s S) (hX : XM h r S M) {a b : Nat} (hp : Pr S s a b) : sX2_greatestLoad h r (nI a) (nI b) = some (gl S s M a b, h) := by
  have hn := ok.1
  have ha := hp.1
  have hb' := hp.2.1
  unfold gl
  simp only [sX2_greatestLoad, sX2_greatestLoad_c79, gd_t (isC_ok hr), gd_in (show a < 10 by omega) (show 10 ≤ 1000 by decide), gd_in (show b < 10 by omega) (show 10 ≤ 1000 by decide), cl_n (show a ≤ 100000 by omega), cl_n (show b ≤ 100000 by omega), hX.2.2 a ha, hX.2.2 b hb', S_spare hr hn hD hp, Option.bind_some, S_rest hr hn hD hX ha, S_rest hr hn hD hX hb', nm, hD.1, (hD.2.2.2 a ha).2.2.1, (hD.2.2.2 b hb').2.2.1]
  by_cases c : 0 ≤ wS S s a b (us M M.length a) (us M M.length b) - S.2.2.2.2 * unS S a b
  · rw [if_pos c, if_pos c]
    by_cases c2 : upv s * (S.2.2.2.1 a - S.2.2.2.1 b) ≤ 0
    · rw [if_pos c2, if_pos c2]
    · have : nzI (upv s * (S.2.2.2.1 a - S.2.2.2.1 b)) = true := decide_eq_true (by intro q; apply c2; rw [q]; decide)
      rw [if_neg c2, if_neg c2, gd_t this]
  · rw [if_neg c, if_neg c]
theorem M_mostOf {M : Mt} (ok : OK S) (hF : FD h S) (hs : s < 2) (hM : MM h s M) (v : VM S s M) {a b : Nat} (hp : Pr S s a b) : sX6_mostOf h (nI s) (nI a) (nI b) = some (gl S s M a b, h) := by
  have hn := ok.1
  have ha := hp.1
  have hb' := hp.2.1
  obtain ⟨ua, ua0, ua1, ua2⟩ := v.us ok ha (Nat.le_refl _)
  obtain ⟨ub, ub0, ub1, ub2⟩ := v.us ok hb' (Nat.le_refl _)
  have hx : 0 ≤ (us M M.length a).toInt ∧ (us M M.length a).toInt ≤ 30000 := by omega
  have hy : 0 ≤ (us M M.length b).toInt ∧ (us M M.length b).toInt ≤ 30000 := by omega
  have w := w_bd (s := s) ok ha hb' hx hy
  have l := le_bd ok ha hb'
  have e1 := spare_I (s := s) ok ha hb' hx hy
  have e2 : (wL S s a b (us M M.length a) (us M M.length b) - (S.2.2.2.2).toInt64 * unL S a b).toInt = wI S s a b (us M M.length a).toInt (us M M.length b).toInt - leI S a b := by
    rw [tL_sub (by rw [w.2.1, l.2.2.2]; omega) (by rw [w.2.1, l.2.2.2]; omega), w.2.1, l.2.2.2]
  have ra := v.rst ok ha
  have rb := v.rst ok hb'
  have ca := C20 ok ha
  have cb := C20 ok hb'
  have eb : (S.2.2.2.1 a - S.2.2.2.1 b) * (if s = 0 then 1 else -1) = upv s * (S.2.2.2.1 a - S.2.2.2.1 b) := by unfold upv; exact Int32.mul_comm _ _
  have up1 : (upv s).toInt = upI s := by unfold upv upI; split <;> rfl
  have up2 : upI s = 1 ∨ upI s = -1 := by unfold upI; split <;> simp
  have cd : (S.2.2.2.1 a - S.2.2.2.1 b).toInt = (S.2.2.2.1 a).toInt - (S.2.2.2.1 b).toInt := tI_sub (by omega) (by omega)
  have by1 : (upv s * (S.2.2.2.1 a - S.2.2.2.1 b)).toInt = upI s * ((S.2.2.2.1 a).toInt - (S.2.2.2.1 b).toInt) := by
    rw [tI_mul (by rw [up1, cd]; rcases up2 with q | q <;> rw [q] <;> omega) (by rw [up1, cd]; rcases up2 with q | q <;> rw [q] <;> omega), up1, cd]
  have by2 : -20 ≤ (upv s * (S.2.2.2.1 a - S.2.2.2.1 b)).toInt ∧ (upv s * (S.2.2.2.1 a - S.2.2.2.1 b)).toInt ≤ 20 := by rw [by1]; rcases up2 with q | q <;> rw [q] <;> omega
  have fin : ∀ (k : Hp) (x : Int64) (y : Int32) , x = wL S s a b (us M M.length a) (us M M.length b) - (S.2.2.2.2).toInt64 * unL S a b → y = upv s * (S.2.2.2.1 a - S.2.2.2.1 b) → 0 ≤ wS S s a b (us M M.length a) (us M M.length b) - S.2.2.2.2 * unS S a b → (if y ≤ 0 then sX6_mostOf_c114 k (imin (rs S s M a) (rs S s M b)) else gd (nzL y.toInt64) (sX6_mostOf_c114 k ((lmin (imin (rs S s M a) (rs S s M b)).toInt64 (x / y.toInt64)).toInt32))) = some (gl S s M a b, k) := by
    intro k x y hx' hy' c
    subst hx' hy'
    unfold gl sX6_mostOf_c114
    rw [if_pos c]
    by_cases c2 : upv s * (S.2.2.2.1 a - S.2.2.2.1 b) ≤ 0
    · rw [if_pos c2, if_pos c2]
    · rw [if_neg c2, if_neg c2]
      have c3 : 0 < (upv s * (S.2.2.2.1 a - S.2.2.2.1 b)).toInt := by rw [le_tI, tI0] at c2; omega
      have nz : nzL (upv s * (S.2.2.2.1 a - S.2.2.2.1 b)).toInt64 = true := decide_eq_true (by
        intro q
        have := congrArg Int64.toInt q
        rw [tL_i, L0] at this
        omega)
      rw [gd_t nz]
      rw [le_tI, tI0, e1] at c
      have m0 : 0 ≤ (imin (rs S s M a) (rs S s M b)).toInt ∧ (imin (rs S s M a) (rs S s M b)).toInt ≤ 11200 := by unfold imin; split <;> omega
      rw [div_min e2 e1 ⟨c, by omega⟩ ⟨c3, by2.2⟩ m0]
  unfold sX6_mostOf
  rw [gd_in (show s < 2 by omega) (show 2 ≤ 1000 by decide), cl_n (show s ≤ 100000 by omega), hM.1, bd_t (M_used hs hM v.1 (v.lt ok) (show a < 10 by omega) (Nat.le_refl _)), gd_in (show s < 2 by omega) (show 2 ≤ 1000 by decide)]
  dsimp only
  rw [hM.1, bd_t (M_used hs hM v.1 (v.lt ok) (show b < 10 by omega) (Nat.le_refl _))]
  dsimp only
  rw [bd_t (M_width hF hn hs ha hb' _ _)]
  dsimp only
  rw [bd_t (M_least hF.1 hn ha hb')]
  dsimp only
  rw [nm_t rfl]
  have cc : (0 ≤ lg_cmp (wL S s a b (us M M.length a) (us M M.length b) - (S.2.2.2.2).toInt64 * unL S a b) 0) ↔ 0 ≤ wI S s a b (us M M.length a).toInt (us M M.length b).toInt - leI S a b := by rw [lg_ge0, L0, e2]
  have rest : ((sX6_rest h (nI s) (nI a)).bind fun q8 => (sX6_rest q8.2 (nI s) (nI b)).bind fun q9 => nm (imin q8.1 q9.1) fun x10 => gd (inb (nI a) 10) (gd (inb (nI b) 10) (if nI s = 0 then (sX6_mostOf_c88 q9.2 (wL S s a b (us M M.length a) (us M M.length b) - (S.2.2.2.2).toInt64 * unL S a b) x10 (1 : Int32) ((q9.2.1 59 (nI a).toNatClampNeg) - (q9.2.1 59 (nI b).toNatClampNeg))) else (sX6_mostOf_c88 q9.2 (wL S s a b (us M M.length a) (us M M.length b) - (S.2.2.2.2).toInt64 * unL S a b) x10 (-1 : Int32) ((q9.2.1 59 (nI a).toNatClampNeg) - (q9.2.1 59 (nI b).toNatClampNeg)))))) = if s = 0 then (sX6_mostOf_c88 h (wL S s a b (us M M.length a) (us M M.length b) - (S.2.2.2.2).toInt64 * unL S a b) (imin (rs S s M a) (rs S s M b)) 1 (S.2.2.2.1 a - S.2.2.2.1 b)) else (sX6_mostOf_c88 h (wL S s a b (us M M.length a) (us M M.length b) - (S.2.2.2.2).toInt64 * unL S a b) (imin (rs S s M a) (rs S s M b)) (-1) (S.2.2.2.1 a - S.2.2.2.1 b)) := by
    simp only [M_rest ok hs hF hM v.1 (v.lt ok) ha, M_rest ok hs hF hM v.1 (v.lt ok) hb', Option.bind_some, nm, gd_in (show a < 10 by omega) (show 10 ≤ 1000 by decide), gd_in (show b < 10 by omega) (show 10 ≤ 1000 by decide), cl_n (show a ≤ 100000 by omega), cl_n (show b ≤ 100000 by omega), (hF.1.2.2 a ha).2.2, (hF.1.2.2 b hb').2.2, s01 hs]
  rw [rest]
  by_cases c : 0 ≤ wS S s a b (us M M.length a) (us M M.length b) - S.2.2.2.2 * unS S a b
  · have c' := c
    rw [le_tI, tI0, e1] at c'
    rw [if_pos (cc.mpr c')]
    by_cases s0 : s = 0
    · rw [if_pos s0]
      unfold sX6_mostOf_c88
      rw [nm_t (show (S.2.2.2.1 a - S.2.2.2.1 b) * 1 = upv s * (S.2.2.2.1 a - S.2.2.2.1 b) by rw [← eb, if_pos s0])]
      exact fin h _ _ rfl rfl c
    · rw [if_neg s0]
      unfold sX6_mostOf_c88
      rw [nm_t (show (S.2.2.2.1 a - S.2.2.2.1 b) * (-1) = upv s * (S.2.2.2.1 a - S.2.2.2.1 b) by rw [← eb, if_neg s0])]
      exact fin h _ _ rfl rfl c
  · have c' := c
    rw [le_tI, tI0, e1] at c'
    rw [if_neg (fun q => c' (cc.mp q))]
    unfold gl
    rw [if_neg c]
theorem op_most (R : Rel h S Ms tx row) (a b c : Int32) : Step (fun h => sX5_most h a b c) (fun h => sX6_most h a b c) h := by
  have ok := R.1.1
  have X := R.2.1
  have hn := ok.1
  by_cases c0 : a = 0 ∨ a = 1
  · obtain ⟨s, hs, rfl⟩ := side_cs c0
    obtain ⟨hD, hX⟩ := X.1.2.2.2 s hs
    have v := R.1.2.1 s hs
    by_cases p : prP S s b c
    · obtain ⟨i, j, rfl, rfl, hp⟩ := prP_cs hn p
      have c1 : ¬ bI (prP S s (nI i) (nI j)) = 0 := by rw [bI_z]; exact fun q => q p
      have eX : sX5_most h (nI s) (nI i) (nI j) = some (gl S s (Ms s) i j, h) := by
        simp only [sX5_most, sX5_most_c24, X_canMeet X.1 ok hs, Option.bind_some, c1, if_false, X_sideOf _ hs, gd_t (isC_ok (ck_sd hs)), S_greatest (ck_sd hs) ok hD hX hp]
      refine mkS (S' := S) (Ms' := Ms) R eX (fX5_most _ _ _ _ _ eX) (by decide) (by decide) X R.1 (fun hM => ?_) (fun q e => fX6_most h (nI s) (nI i) (nI j) q e) (by decide) (by decide)
      obtain ⟨m1, t1⟩ := hM.thr 0
      obtain ⟨h2, e2, m2, f2⟩ := m1.finds ok
      exact ⟨h2, by simp only [sX6_most, sX6_most_c30, nm, e2, Option.bind_some, M_areThere f2 ok hs, c1, if_false, M_mostOf ok f2 hs (m2.1.2 s hs) v hp], m2⟩
    · have c1 : bI (prP S s b c) = 0 := bI_z.mpr p
      have eX : sX5_most h (nI s) b c = some (-1, h) := by simp only [sX5_most, sX5_most_c24, X_canMeet X.1 ok hs, Option.bind_some, c1, if_true]
      refine mkS (S' := S) (Ms' := Ms) R eX (fX5_most _ _ _ _ _ eX) (by decide) (by decide) X R.1 (fun hM => ?_) (fun q e => fX6_most h (nI s) b c q e) (by decide) (by decide)
      obtain ⟨m1, t1⟩ := hM.thr 0
      obtain ⟨h2, e2, m2, f2⟩ := m1.finds ok
      exact ⟨h2, by simp only [sX6_most, sX6_most_c30, nm, e2, Option.bind_some, M_areThere f2 ok hs, c1, if_true], m2⟩
  · have eX : sX5_most h a b c = some (-1, h) := by simp only [sX5_most, sX5_most_c24, X_canMeet0 c0, Option.bind_some, if_true]
    refine mkS (S' := S) (Ms' := Ms) R eX (fX5_most _ _ _ _ _ eX) (by decide) (by decide) X R.1 (fun hM => ?_) (fun q e => fX6_most h a b c q e) (by decide) (by decide)
    obtain ⟨m1, t1⟩ := hM.thr 0
    obtain ⟨h2, e2, m2, f2⟩ := m1.finds ok
    exact ⟨h2, by simp only [sX6_most, sX6_most_c30, nm, e2, Option.bind_some, M_areThere0 c0, if_true], m2⟩
theorem op_range (R : Rel h S Ms tx row) (a b : Int32) : Step (fun h => sX5_range h a b) (fun h => sX6_range h a b) h := by
  have ok := R.1.1
  have X := R.2.1
  have hn := ok.1
  have xh : sX1_has h 6 b = some (bI (0 ≤ b ∧ b < nI S.1), h) := X_has (by decide) X.1.1 _
  by_cases c : (a = 0 ∨ a = 1) ∧ (0 ≤ b ∧ b < nI S.1)
  · obtain ⟨s, hs, rfl⟩ := side_cs c.1
    obtain ⟨i, hi', rfl⟩ := str_cs hn c.2
    obtain ⟨hD, hX⟩ := X.1.2.2.2 s hs
    have v := R.1.2.1 s hs
    have c1 : ¬ bI (nI s = 0 ∨ nI s = 1) = 0 := by rw [bI_z]; exact fun q => q c.1
    have c2 : ¬ bI (0 ≤ nI i ∧ nI i < nI S.1) = 0 := by rw [bI_z]; exact fun q => q c.2
    obtain ⟨d1, d2, d3, d4, d5, d6⟩ := hD.2.2.2 i hi'
    have t := ht_bd ok (s := s) hi'
    obtain ⟨h1, e1, r1⟩ := X.tell4 (nr0 S s i).toInt64 (fr0 S s i).toInt64 (ht S s i).toInt64 (rs S s (Ms s) i).toInt64
    have d6' : h1.1 (26 + 14 * s + 6) i = ht S s i := ((r1.1.2.2.2 s hs).1.2.2.2 i hi').2.2.2.2.2
    have eX : sX5_range h (nI s) (nI i) = some ((if 0 < dg S s i then 1 else 0), h1) := by
      simp only [sX5_range, sX5_range_c74, X_isSide, xh, Option.bind_some, c1, c2, if_false, X_sideOf _ hs, gd_t (isC_ok (ck_sd hs)), gd_in (show i < 10 by omega) (show 10 ≤ 1000 by decide), cl_n (show i ≤ 100000 by omega), S_rest (ck_sd hs) hn hD hX hi', d4, d5, d6, e1, d6', t.2.2.2]
      by_cases c3 : 0 < dg S s i
      · rw [if_neg (fun q => q c3), if_pos c3]
      · rw [if_pos c3, if_neg c3]
    refine mkS (S' := S) (Ms' := Ms) R eX (fX5_range _ _ _ _ eX) (by decide) (by decide) r1 (invR R.1 (by simp)) (fun hM => ?_) (fun q e => fX6_range h1 (nI s) (nI i) q e) (by decide) (by decide)
    obtain ⟨m1, t1⟩ := hM.thr 0
    obtain ⟨h2, e2, m2, f2⟩ := m1.finds ok
    obtain ⟨m3, F3⟩ := m2.row0
    have f3 := FD.fr f2 F3 (by decide) (by decide)
    obtain ⟨h4, e4, m4, F4⟩ := m3.ent (by simp) (nr0 S s i).toInt64
    have f4 := FD.fr f3 F4 (by decide) (by decide)
    obtain ⟨h5, e5, m5, F5⟩ := m4.ent (by simp) (fr0 S s i).toInt64
    have f5 := FD.fr f4 F5 (by decide) (by decide)
    obtain ⟨h6, e6, m6, F6⟩ := m5.ent (by simp) (ht S s i).toInt64
    have f6 := FD.fr f5 F6 (by decide) (by decide)
    obtain ⟨h7, e7, m7, F7⟩ := m6.ent (by simp) (rs S s (Ms s) i).toInt64
    refine ⟨h7, ?_, m7⟩
    have mr := M_rest ok hs f6 (m6.1.2 s hs) v.1 (v.lt ok) hi'
    show sX6_range h1 (nI s) (nI i) = _
    simp only [sX6_range, nm, M_isSide, M_isStream m1.1.1 hn, Option.bind_some, c1, c2, if_false, e2, M_heat f2 hn hs hi', t.2.2.2]
    unfold nr0 at e4
    unfold fr0 at e5
    by_cases c3 : 0 < dg S s i
    · rw [if_pos c3] at e4 e5
      rw [if_neg (fun q => q c3), if_pos c3]
      have n1 : ¬ (1 : Int32) = 0 := by decide
      simp only [sX6_range_c40, sX6_range_c62, sX6_range_c81, nm, n1, if_false, M_near f3 hn hs hi', Option.bind_some, e4, M_far f4 hn hs hi', e5, M_heat f5 hn hs hi', e6, mr, e7, sX6_flag, sX6_flag_c9]
    · rw [if_neg c3] at e4 e5
      rw [if_pos c3, if_neg c3]
      have z1 : (0 : Int32).toInt64 = 0 := by decide
      rw [z1] at e4 e5
      simp only [sX6_range_c40, sX6_range_c62, sX6_range_c81, nm, if_true, Option.bind_some, e4, e5, M_heat f5 hn hs hi', e6, mr, e7, sX6_flag, sX6_flag_c9]
  · have eX : sX5_range h a b = some (-1, h) := by
      simp only [sX5_range, sX5_range_c18, X_isSide, xh, Option.bind_some, bI_z]
      by_cases d : a = 0 ∨ a = 1
      · rw [if_neg (fun q => q d), if_pos (fun q => c ⟨d, q⟩)]
      · rw [if_pos d]
    refine mkS (S' := S) (Ms' := Ms) R eX (fX5_range _ _ _ _ eX) (by decide) (by decide) X R.1 (fun hM => ?_) (fun q e => fX6_range h a b q e) (by decide) (by decide)
    obtain ⟨m1, t1⟩ := hM.thr 0
    refine ⟨u1 h 54 0 0, ?_, m1⟩
    simp only [sX6_range, sX6_range_c20, nm, M_isSide, M_isStream m1.1.1 hn, Option.bind_some, bI_z]
    by_cases d : a = 0 ∨ a = 1
    · rw [if_neg (fun q => q d), if_pos (fun q => c ⟨d, q⟩)]
    · rw [if_pos d]
end O7
