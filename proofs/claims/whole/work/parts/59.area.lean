/-! areas -/
section O19
variable {h : Hp} {S : SS} {Ms : Nat → Mt} {tx : List Int32} {row : List Int64} {r s : Nat} {M : Mt}
theorem lg_eq0 {x y : Int64} : lg_cmp x y = 0 ↔ x.toInt = y.toInt := by
  have h1 := lg_ge0 (x := x) (y := y)
  have h2 := lg_gt0 (x := x) (y := y)
  constructor
  · intro q
    rw [q] at h1 h2
    have a := h1.mp (by decide)
    have b : ¬ y.toInt < x.toInt := fun z => absurd (h2.mpr z) (by decide)
    omega
  · intro q
    have a := h1.mpr (by omega)
    have b : ¬ 0 < lg_cmp x y := fun z => by have := h2.mp z; omega
    grind
/-- begin or end of a match, as the class has it -/
def wc (S : SS) (s : Nat) (M : Mt) (k : Nat) (e : Int32) : Int32 := wS S s (mh M k) (mc M k) (us M k (mh M k) + (if e = 0 then 0 else ml M k)) (us M k (mc M k) + (if e = 0 then 0 else ml M k))
theorem S_widthOf (ok : OK S) (hs : s < 2) (hD : SD h (26 + 14 * s) s S) (hX : XM h (26 + 14 * s) S M) (v : VM S s M) {k : Nat} (hk : k < M.length) (e : Int32) : sX2_widthOf h (26 + 14 * s) (nI k) e = some (wc S s M k e, h) := by
  have hl := v.1
  have hr := ck_sd hs
  have P := (v.2.1 k hk).1
  have lt := v.lt ok k hk
  obtain ⟨a1, a2, a3⟩ := hX.2.1 k hk
  have s1 := S_sumL hr hX hl (v.lt ok) lt.1 (Nat.le_of_lt hk)
  have s2 := S_sumL hr hX hl (v.lt ok) lt.2 (Nat.le_of_lt hk)
  unfold sX2_widthOf wc
  by_cases c : e = 0
  · simp only [sX2_widthOf_c14, gd_t (isC_ok hr), c, if_true, gd_in (show k < 24 by omega) (show 24 ≤ 1000 by decide), cl_n (show k ≤ 100000 by omega), a1, a2, nm, s1, s2, Option.bind_some, S_width hr ok.1 hD P]
  · simp only [sX2_widthOf_c14, gd_t (isC_ok hr), c, if_false, gd_in (show k < 24 by omega) (show 24 ≤ 1000 by decide), cl_n (show k ≤ 100000 by omega), a1, a2, a3, nm, s1, s2, Option.bind_some, S_width hr ok.1 hD P]
def we0 (S : SS) (s : Nat) (M : Mt) (k : Nat) : Int := wI S s (mh M k) (mc M k) (uz M k (mh M k)) (uz M k (mc M k))
def we1 (S : SS) (s : Nat) (M : Mt) (k : Nat) : Int := wI S s (mh M k) (mc M k) (uz M k (mh M k) + (ml M k).toInt) (uz M k (mc M k) + (ml M k).toInt)
theorem VM.vw (v : VM S s M) : VW S s M := ⟨v.1, v.2.1, v.2.2.1⟩
theorem wc_I (ok : OK S) (v : VM S s M) {k : Nat} (hk : k < M.length) : (wc S s M k 0).toInt = we0 S s M k ∧ (wc S s M k 1).toInt = we1 S s M k ∧ (wv S s M k 0).toInt = we0 S s M k ∧ (wv S s M k 1).toInt = we1 S s M k ∧ 0 ≤ we0 S s M k ∧ we0 S s M k ≤ 1500000 ∧ 0 ≤ we1 S s M k ∧ we1 S s M k ≤ 1500000 := by
  have p := v.2.1 k hk
  obtain ⟨a1, a2, a3, a4, a5⟩ := VW_ad ok v.vw hk (Or.inl rfl)
  obtain ⟨b1, b2, b3, b4, b5⟩ := VW_ad ok v.vw hk (Or.inr rfl)
  have w0 := w_bd (s := s) ok p.1.1 p.1.2.1 ⟨a1, a2⟩ ⟨b1, b2⟩
  have w1 := w_bd (s := s) ok p.1.1 p.1.2.1 ⟨a4, a5⟩ ⟨b4, b5⟩
  rw [(v.us ok p.1.1 (Nat.le_of_lt hk)).1, (v.us ok p.1.2.1 (Nat.le_of_lt hk)).1] at w0
  rw [a3, b3] at w1
  have l := (le_bd ok p.1.1 p.1.2.1).1
  have kk := v.2.2.2 k hk
  unfold wc wv we0 we1
  simp only [if_true, show ¬ (1 : Int32) = 0 by decide, if_false, Int32.add_zero]
  refine ⟨w0.1, w1.1, w0.2.1, w1.2.1, by omega, by omega, by omega, by omega⟩
def ar (S : SS) (s : Nat) (M : Mt) (k : Nat) : Int32 := if 0 < we0 S s M k + we1 S s M k then Int32.ofInt ((2 * (ml M k).toInt * unI S (mh M k) (mc M k) + (we0 S s M k + we1 S s M k) - 1) / (we0 S s M k + we1 S s M k)) else -2
theorem ml_bd (ok : OK S) (v : VM S s M) {k : Nat} (hk : k < M.length) : 1 ≤ (ml M k).toInt ∧ (ml M k).toInt ≤ 11200 := by
  have P := v.2.1 k hk
  have e : uz M (k + 1) (mh M k) = uz M k (mh M k) + (ml M k).toInt := by
    show uz M k (mh M k) + (if mh M k = mh M k ∨ mc M k = mh M k then (ml M k).toInt else 0) = _
    rw [if_pos (Or.inl rfl)]
  have a1 := v.us ok P.1.1 (Nat.le_of_lt hk)
  have a2 := v.us ok P.1.1 (show k + 1 ≤ M.length by omega)
  have := P.2
  omega
theorem ar_bd {m u W : Int} (hm : 1 ≤ m ∧ m ≤ 11200) (hu : 1 ≤ u ∧ u ≤ 400) (hW : 0 < W ∧ W ≤ 3000000) : 1 ≤ m * u ∧ m * u ≤ 4480000 ∧ 0 ≤ (2 * m * u + W - 1) / W ∧ (2 * m * u + W - 1) / W ≤ 12000000 := by
  have h1 : m * u ≤ 11200 * 400 := Int.mul_le_mul hm.2 hu.2 (by omega) (by omega)
  have h2 : 1 * 1 ≤ m * u := Int.mul_le_mul hm.1 hu.1 (by omega) (by omega)
  have e : 2 * m * u = 2 * (m * u) := Int.mul_assoc 2 m u
  rw [e]
  have h3 : 0 ≤ (2 * (m * u) + W - 1) / W := Int.ediv_nonneg (by omega) (by omega)
  have h4 : (2 * (m * u) + W - 1) / W ≤ 2 * (m * u) + W - 1 := Int.ediv_le_self _ (by omega)
  omega
theorem S_areaOf (ok : OK S) (hs : s < 2) (hD : SD h (26 + 14 * s) s S) (hX : XM h (26 + 14 * s) S M) (v : VM S s M) {k : Nat} (hk : k < M.length) : sX2_areaOf h (26 + 14 * s) (nI k) = some (ar S s M k, h) := by
  have hl := v.1
  have hr := ck_sd hs
  have P := (v.2.1 k hk).1
  obtain ⟨a1, a2, a3⟩ := hX.2.1 k hk
  obtain ⟨z1, z2, -, -, z3, z4, z5, z6⟩ := wc_I ok v hk
  have m := ml_bd ok v hk
  have u := un_bd ok P.1 P.2.1
  have sm : (wc S s M k 0 + wc S s M k 1).toInt = we0 S s M k + we1 S s M k := by rw [tI_add (by omega) (by omega), z1, z2]
  unfold sX2_areaOf
  rw [gd_t (isC_ok hr), bd_t (S_widthOf ok hs hD hX v hk 0)]
  dsimp only
  rw [bd_t (S_widthOf ok hs hD hX v hk 1)]
  dsimp only
  rw [nm_t rfl, gd_in (show k < 24 by omega) (show 24 ≤ 1000 by decide), cl_n (show k ≤ 100000 by omega), gd_in (show k < 24 by omega) (show 24 ≤ 1000 by decide), gd_in (show k < 24 by omega) (show 24 ≤ 1000 by decide), a1, a2, a3, bd_t (S_unit hr ok.1 hD P.1 P.2.1)]
  dsimp only
  rw [nm_t rfl]
  unfold ar
  by_cases c : 0 < we0 S s M k + we1 S s M k
  · have B := ar_bd m ⟨u.1, u.2.1⟩ (W := we0 S s M k + we1 S s M k) ⟨c, by omega⟩
    have nz : nzI (wc S s M k 0 + wc S s M k 1) = true := decide_eq_true (fun q => by
      have := congrArg Int32.toInt q
      rw [sm, tI0] at this
      omega)
    rw [if_pos (by rw [lt_tI, tI0, sm]; exact c), gd_t nz, if_pos c]
    have e2 : ((2 : Int32) * ml M k).toInt = 2 * (ml M k).toInt := tI_mul (by show -2147483648 ≤ 2 * (ml M k).toInt; omega) (by show 2 * (ml M k).toInt < 2147483648; omega)
    have e3 : ((2 : Int32) * ml M k * unS S (mh M k) (mc M k)).toInt = 2 * (ml M k).toInt * unI S (mh M k) (mc M k) := by
      have : 2 * (ml M k).toInt * unI S (mh M k) (mc M k) = 2 * ((ml M k).toInt * unI S (mh M k) (mc M k)) := Int.mul_assoc _ _ _
      rw [tI_mul (by rw [e2, u.2.2.1, this]; omega) (by rw [e2, u.2.2.1, this]; omega), e2, u.2.2.1]
    have e4 : 2 * (ml M k).toInt * unI S (mh M k) (mc M k) = 2 * ((ml M k).toInt * unI S (mh M k) (mc M k)) := Int.mul_assoc _ _ _
    have e5 : ((2 : Int32) * ml M k * unS S (mh M k) (mc M k) + (wc S s M k 0 + wc S s M k 1)).toInt = 2 * (ml M k).toInt * unI S (mh M k) (mc M k) + (we0 S s M k + we1 S s M k) := by rw [tI_add (by rw [e3, sm, e4]; omega) (by rw [e3, sm, e4]; omega), e3, sm]
    have e6 : ((2 : Int32) * ml M k * unS S (mh M k) (mc M k) + (wc S s M k 0 + wc S s M k 1) - 1).toInt = 2 * (ml M k).toInt * unI S (mh M k) (mc M k) + (we0 S s M k + we1 S s M k) - 1 := by
      have o1 : (1 : Int32).toInt = 1 := rfl
      rw [tI_sub (by rw [e5, o1, e4]; omega) (by rw [e5, o1, e4]; omega), e5, o1]
    congr 2
    rw [eq_tI, Int32.toInt_div, e6, sm, Int.tdiv_eq_ediv_of_nonneg (by rw [e4]; omega), Int32.toInt_ofInt]
  · rw [if_neg (by rw [lt_tI, tI0, sm]; exact c), if_neg c]
theorem M_areaOf (ok : OK S) (hF : FD h S) (hs : s < 2) (hM : MM h s M) (v : VM S s M) {k : Nat} (hk : k < M.length) : sX6_areaOf h (nI s) (nI k) = some (ar S s M k, h) := by
  have hl := v.1
  have P := (v.2.1 k hk).1
  have hv : ∀ k, k < M.length → mh M k < S.1 ∧ mc M k < S.1 := fun k hk => ⟨(v.2.1 k hk).1.1, (v.2.1 k hk).1.2.1⟩
  obtain ⟨a1, a2, a3⟩ := hM.2 k hk
  obtain ⟨-, -, z1, z2, z3, z4, z5, z6⟩ := wc_I ok v hk
  have m := ml_bd ok v hk
  have u := un_bd ok P.1 P.2.1
  have sm : (wv S s M k 0 + wv S s M k 1).toInt = we0 S s M k + we1 S s M k := by rw [tL_add (by omega) (by omega), z1, z2]
  unfold sX6_areaOf sX6_areaOf_c76
  rw [bd_t M_place]
  dsimp only
  rw [bd_t (M_widthAt ok hF hs hM.2 (by omega) hv hk 0)]
  dsimp only
  rw [bd_t (M_widthAt ok hF hs hM.2 (by omega) hv hk 1)]
  dsimp only
  rw [nm_t rfl, gd_in (show 25 * s + k < 50 by omega) (show 50 ≤ 1000 by decide), cl_n (show 25 * s + k ≤ 100000 by omega), gd_in (show 25 * s + k < 50 by omega) (show 50 ≤ 1000 by decide), gd_in (show 25 * s + k < 50 by omega) (show 50 ≤ 1000 by decide), a1, a2, a3, bd_t (M_under hF.1 ok.1 P.1 P.2.1)]
  dsimp only
  rw [nm_t rfl]
  unfold ar
  by_cases c : 0 < we0 S s M k + we1 S s M k
  · have B := ar_bd m ⟨u.1, u.2.1⟩ (W := we0 S s M k + we1 S s M k) ⟨c, by omega⟩
    have ne : ¬ wv S s M k 0 + wv S s M k 1 = 0 := fun q => by
      have := congrArg Int64.toInt q
      rw [sm, L0] at this
      omega
    have nz : nzL (wv S s M k 0 + wv S s M k 1) = true := decide_eq_true ne
    rw [if_neg (by rw [lg_eq0]; rw [sm, L0]; omega), gd_t nz, if_pos c]
    have t2 : (2 : Int64).toInt = 2 := rfl
    have e2 : ((2 : Int64) * (ml M k).toInt64).toInt = 2 * (ml M k).toInt := by rw [tL_mul (by rw [t2]; omega) (by rw [tL_i]; omega), tL_i, t2]
    have e4 : 2 * (ml M k).toInt * unI S (mh M k) (mc M k) = 2 * ((ml M k).toInt * unI S (mh M k) (mc M k)) := Int.mul_assoc _ _ _
    have e3 : ((2 : Int64) * (ml M k).toInt64 * unL S (mh M k) (mc M k)).toInt = 2 * (ml M k).toInt * unI S (mh M k) (mc M k) := by
      rw [tL_mul (by rw [e2]; omega) (by rw [u.2.2.2]; omega), e2, u.2.2.2]
    have e5 : ((2 : Int64) * (ml M k).toInt64 * unL S (mh M k) (mc M k) + (wv S s M k 0 + wv S s M k 1)).toInt = 2 * (ml M k).toInt * unI S (mh M k) (mc M k) + (we0 S s M k + we1 S s M k) := by rw [tL_add (by rw [e3, sm, e4]; omega) (by rw [e3, sm, e4]; omega), e3, sm]
    have e6 : ((2 : Int64) * (ml M k).toInt64 * unL S (mh M k) (mc M k) + (wv S s M k 0 + wv S s M k 1) - 1).toInt = 2 * (ml M k).toInt * unI S (mh M k) (mc M k) + (we0 S s M k + we1 S s M k) - 1 := by
      have o1 : (1 : Int64).toInt = 1 := rfl
      rw [tL_sub (by rw [e5, o1, e4]; omega) (by rw [e5, o1, e4]; omega), e5, o1]
    congr 2
    rw [eq_tI, Int64.toInt_toInt32, Int64.toInt_div, e6, sm, Int.tdiv_eq_ediv_of_nonneg (by rw [e4]; omega), Int32.toInt_ofInt, bmod_id64 (by omega) (by omega)]
  · have z : we0 S s M k + we1 S s M k = 0 := by omega
    rw [if_pos (by rw [lg_eq0, sm, L0]; exact z), if_neg c]
theorem op_area (R : Rel h S Ms tx row) (a b : Int32) : Step (fun h => sX5_area h a b) (fun h => sX6_area h a b) h := by
  have ok := R.1.1
  have X := R.2.1
  by_cases c0 : a = 0 ∨ a = 1
  · obtain ⟨s, hs, rfl⟩ := side_cs c0
    have v := R.1.2.1 s hs
    have hr := ck_sd hs
    obtain ⟨hD, hX⟩ := X.1.2.2.2 s hs
    by_cases c : 0 ≤ b ∧ b < nI (Ms s).length
    · obtain ⟨k, hk, rfl⟩ := mat_cs v.1 c
      have c1 : ¬ bI (0 ≤ nI k ∧ nI k < nI (Ms s).length) = 0 := by rw [bI_z]; exact fun q => q c
      have eX : sX5_area h (nI s) (nI k) = some (ar S s (Ms s) k, h) := by
        simp only [sX5_area, sX5_area_c22, X_hasMatch X.1 hs, Option.bind_some, c1, if_false, X_sideOf _ hs, gd_t (isC_ok hr), S_areaOf ok hs hD hX v hk]
      refine mkS (S' := S) (Ms' := Ms) R eX (fX5_area _ _ _ _ eX) (by decide) (by decide) X R.1 (fun hM => ?_) (fun q e => fX6_area h (nI s) (nI k) q e) (by decide) (by decide)
      obtain ⟨m1, F1⟩ := hM.thr 0
      obtain ⟨h2, o2, m2, f2⟩ := m1.finds ok
      exact ⟨h2, by simp only [sX6_area, nm, M_isMatch (m1.1.2 s hs) v.1 hs, Option.bind_some, c1, if_false, o2, M_areaOf ok f2 hs (m2.1.2 s hs) v hk], m2⟩
    · have c1 : bI (0 ≤ b ∧ b < nI (Ms s).length) = 0 := bI_z.mpr c
      have eX : sX5_area h (nI s) b = some (-1, h) := by simp only [sX5_area, sX5_area_c22, X_hasMatch X.1 hs, Option.bind_some, c1, if_true]
      refine mkS (S' := S) (Ms' := Ms) R eX (fX5_area _ _ _ _ eX) (by decide) (by decide) X R.1 (fun hM => ?_) (fun q e => fX6_area h (nI s) b q e) (by decide) (by decide)
      obtain ⟨m1, F1⟩ := hM.thr 0
      exact ⟨_, by simp only [sX6_area, nm, M_isMatch (m1.1.2 s hs) v.1 hs, Option.bind_some, c1, if_true], m1⟩
  · have eX : sX5_area h a b = some (-1, h) := by simp only [sX5_area, sX5_area_c22, X_hasMatch0 c0, Option.bind_some, if_true]
    refine mkS (S' := S) (Ms' := Ms) R eX (fX5_area _ _ _ _ eX) (by decide) (by decide) X R.1 (fun hM => ?_) (fun q e => fX6_area h a b q e) (by decide) (by decide)
    obtain ⟨m1, F1⟩ := hM.thr 0
    exact ⟨_, by simp only [sX6_area, nm, M_isMatch0 c0, Option.bind_some, if_true], m1⟩
end O19
