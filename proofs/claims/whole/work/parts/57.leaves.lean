/-! leaves, loads -/
theorem sZ_one {n k : Nat} {f g : Nat → Int} (hk : k < n) (h : ∀ j, j ≠ k → f j = g j) : sZ n f = sZ n g + (f k - g k) := by
  induction n with
  | zero => omega
  | succ n ih =>
    show sZ n f + f n = sZ n g + g n + (f k - g k)
    by_cases e : k = n
    · subst e
      rw [sZ_cg (fun j hj => h j (by omega))]
      omega
    · rw [ih (by omega), h n (fun q => e q.symm)]
      omega
theorem cz_full {M : Mt} {W : Nat → Int32} : ∀ {k : Nat}, (∀ j, j < k → ¬ W j = 0) → (cz M W k).length = k ∧ ∀ j, j < k → mh (cz M W k) j = mh M j ∧ mc (cz M W k) j = mc M j ∧ ml (cz M W k) j = W j
  | 0, _ => ⟨rfl, fun j hj => absurd hj (Nat.not_lt_zero j)⟩
  | k + 1, h => by
    obtain ⟨a1, a2⟩ := cz_full (M := M) (W := W) (k := k) (fun j hj => h j (by omega))
    rw [cz_1 (h k (by omega))]
    refine ⟨by rw [sn_len, a1], fun j hj => ?_⟩
    by_cases e : j = k
    · subst e
      have := sn_e (M := cz M W j) (a := mh M j) (b := mc M j) (v := W j)
      rw [a1] at this
      exact this
    · obtain ⟨e1, e2, e3⟩ := sn_l (M := cz M W k) (a := mh M k) (b := mc M k) (v := W k) (show j < (cz M W k).length by omega)
      rw [e1, e2, e3]
      exact a2 j (by omega)
section O17
variable {h : Hp} {S : SS} {Ms : Nat → Mt} {tx : List Int32} {row : List Int64} {r s : Nat} {M : Mt} {W : Nat → Int32}
theorem VW_upd (ok : OK S) (v0 : VM S s M) {k : Nat} (hk : k < M.length) {v : Int32} (hv : 0 ≤ v.toInt) (h1 : v.toInt - (ml M k).toInt ≤ (rs S s M (mh M k)).toInt) (h2 : v.toInt - (ml M k).toInt ≤ (rs S s M (mc M k)).toInt) : VW S s (cz M (upd (ml M) k v) M.length) ∧ ∀ j, j < M.length → 0 ≤ (upd (ml M) k v j).toInt := by
  have nn : ∀ j, j < M.length → 0 ≤ (upd (ml M) k v j).toInt := by
    intro j hj
    by_cases e : j = k
    · subst e; rw [upd_s]; exact hv
    · rw [upd_n e]; have := (v0.2.1 j hj).2; omega
  refine ⟨⟨Nat.le_trans cz_len v0.1, cz_all (P := fun a b w => Pr S s a b ∧ 1 ≤ w.toInt) (fun j hj hne => ?_) (Nat.le_refl _), fun i hi' => ?_⟩, nn⟩
  · refine ⟨(v0.2.1 j hj).1, ?_⟩
    have := nn j hj
    rw [eq_tI, tI0] at hne
    omega
  · rw [cz_uz]
    have e := sZ_one (f := fun j => if mh M j = i ∨ mc M j = i then (upd (ml M) k v j).toInt else 0) (g := fun j => if mh M j = i ∨ mc M j = i then (ml M j).toInt else 0) hk (fun j hj => by rw [upd_n hj])
    rw [e, upd_s]
    have z := v0.2.2.1 i hi'
    have zz : sZ M.length (fun j => if mh M j = i ∨ mc M j = i then (ml M j).toInt else 0) = uz M M.length i := rfl
    rw [zz]
    have P := (v0.2.1 k hk).1
    have r1 := v0.rst ok P.1
    have r2 := v0.rst ok P.2.1
    by_cases c : mh M k = i ∨ mc M k = i
    · rw [if_pos c, if_pos c]
      rcases c with c | c
      · rw [c] at h1 r1; omega
      · rw [c] at h2 r2; omega
    · rw [if_neg c, if_neg c]; omega
theorem S_want (hs : s < 2) (hX : XM h (26 + 14 * s) S M) (hl : M.length ≤ 24) : ∃ h', sX2_wantAsIs h (26 + 14 * s) = some h' ∧ ∀ k, k < M.length → h'.1 (26 + 14 * s + 11) k = ml M k := by
  unfold sX2_wantAsIs
  rw [gd_t (isC_ok (ck_sd hs))]
  refine loopI (fun n (q : Hp × Int32) => sX2_wantAsIs_b2 n q.1 (26 + 14 * s) q.2) (fun k q => XM q.1 (26 + 14 * s) S M ∧ q.2 = nI k ∧ ∀ j, j < k → q.1.1 (26 + 14 * s + 11) j = ml M j) M.length (fun q => ∀ k, k < M.length → q.1 (26 + 14 * s + 11) k = ml M k) (by omega) (h, 0) ⟨hX, rfl, fun j hj => absurd hj (Nat.not_lt_zero j)⟩ (fun m k q hk I => ?_) (fun m q I => ?_)
  · obtain ⟨i1, i2, i3⟩ := I
    obtain ⟨a1, a2, a3⟩ := i1.2.1 k hk
    have F : Fr [(26 + 14 * s + 11, none)] [] q.1 (u1 q.1 (26 + 14 * s + 11) k (ml M k)) := Fr.w1 Fr.rf rfl (by simp)
    refine ⟨(u1 q.1 (26 + 14 * s + 11) k (ml M k), nI (k + 1)), ⟨i1.fr F (fun w hw => by simp at hw; subst hw; dsimp only; omega), rfl, fun j hj => ?_⟩, ?_⟩
    · by_cases e : j = k
      · subst e; exact rd1s
      · exact (rd1k e).trans (i3 j (by omega))
    · show sX2_wantAsIs_c2 (sX2_wantAsIs_b2 m) q.1 (26 + 14 * s) q.2 = _
      have hle : ¬ nI M.length ≤ nI k := by rw [le_n (by omega) (by omega)]; omega
      simp only [sX2_wantAsIs_c2, i1.1, i2, hle, if_false, gd_in (show k < 24 by omega) (show 24 ≤ 1000 by decide), cl_n (show k ≤ 100000 by omega), a3, nm, nI_1]
  · obtain ⟨i1, i2, i3⟩ := I
    refine ⟨q.1, ?_, i3⟩
    show sX2_wantAsIs_c2 (sX2_wantAsIs_b2 m) q.1 (26 + 14 * s) q.2 = _
    unfold sX2_wantAsIs_c2
    rw [i1.1, i2, if_pos (by rw [le_n (by omega) (by omega)]; omega)]
theorem RX.w11 {h' : Hp} {W : List (Nat × Option Nat)} {Z : List Nat} (X : RX h S Ms tx row) (hs : s < 2) (F : Fr W Z h h') (hw : ∀ w ∈ W, 26 + 14 * s + 11 ≤ w.1 ∧ w.1 ≤ 26 + 14 * s + 13) (hz : Z.all (fun z => z != 5) = true) : RX h' S Ms tx row := by
  have hw' : ∀ w ∈ W, (37 ≤ w.1 ∧ w.1 ≤ 39) ∨ (51 ≤ w.1 ∧ w.1 ≤ 53) := fun w q => by have := hw w q; omega
  refine ⟨X.1.fr F (List.all_eq_true.mpr (fun w q => decide_eq_true (by have := hw' w q; omega))), X.2.1.fr F (List.all_eq_true.mpr (fun w q => by have := hw' w q; simp; omega)), X.2.2.fr F (List.all_eq_true.mpr (fun w q => by have := hw' w q; simp; omega)) hz⟩
/-- what is wanted: all as it is, but one -/
theorem X_want (ok : OK S) (hs : s < 2) (X : RX h S Ms tx row) (v0 : VM S s (Ms s)) {k : Nat} (hk : k < (Ms s).length) (v : Int32) : ∃ h', sX2_wantAsIs h (26 + 14 * s) = some h' ∧ RX (u1 h' (26 + 14 * s + 11) k v) S Ms tx row ∧ ∀ j, j < (Ms s).length → (u1 h' (26 + 14 * s + 11) k v).1 (26 + 14 * s + 11) j = upd (ml (Ms s)) k v j := by
  obtain ⟨hD, hX⟩ := X.1.2.2.2 s hs
  obtain ⟨h1, e1, e2⟩ := S_want hs hX v0.1
  have F := fX2_wantAsIs _ _ _ e1
  have F2 : Fr [(26 + 14 * s + 11, none)] [] h1 (u1 h1 (26 + 14 * s + 11) k v) := Fr.w1 Fr.rf rfl (by simp)
  have x1 := X.w11 hs F (fun w q => by simp [wX2_wantAsIs] at q; subst q; dsimp only; omega) (by decide)
  refine ⟨h1, e1, x1.w11 hs F2 (fun w q => by simp at q; subst q; dsimp only; omega) (by decide), fun j hj => ?_⟩
  by_cases e : j = k
  · subst e; rw [upd_s]; exact rd1s
  · rw [upd_n e]; exact (rd1k e).trans (e2 j hj)
theorem X_hasMatch (X : RXs h S Ms) (hs : s < 2) (b : Int32) : sX5_hasMatch h (nI s) b = some (bI (0 ≤ b ∧ b < nI (Ms s).length), h) := by
  have cb : ¬ bI (nI s = 0 ∨ nI s = 1) = 0 := by
    rw [bI_z]
    rcases (show s = 0 ∨ s = 1 by omega) with rfl | rfl
    · exact fun q => q (Or.inl rfl)
    · exact fun q => q (Or.inr rfl)
  unfold sX5_hasMatch sX5_hasMatch_c27 sX5_hasMatch_c28
  rw [bd_t (X_isSide _ _)]
  dsimp only
  rw [if_neg cb, bd_t (X_sideOf _ hs)]
  dsimp only
  rw [gd_t (isC_ok (ck_sd hs)), (X.2.2.2 s hs).2.1]
  by_cases c1 : b < 0
  · rw [if_pos c1, show bI (0 ≤ b ∧ b < nI (Ms s).length) = 0 from bI_z.mpr (by grind)]; rfl
  · rw [if_neg c1]
    by_cases c2 : nI (Ms s).length ≤ b
    · rw [if_pos c2, show bI (0 ≤ b ∧ b < nI (Ms s).length) = 0 from bI_z.mpr (by grind)]; rfl
    · rw [if_neg c2, show bI (0 ≤ b ∧ b < nI (Ms s).length) = 1 from if_pos (by grind)]; rfl
theorem X_hasMatch0 {a : Int32} (c0 : ¬ (a = 0 ∨ a = 1)) (b : Int32) : sX5_hasMatch h a b = some (0, h) := by
  have cb : bI (a = 0 ∨ a = 1) = 0 := bI_z.mpr c0
  simp only [sX5_hasMatch, sX5_hasMatch_c27, sX5_hasMatch_c28, X_isSide, Option.bind_some, cb, if_true]
  rfl
theorem M_isMatch0 {a : Int32} (c0 : ¬ (a = 0 ∨ a = 1)) (b : Int32) : sX6_isMatch h a b = some (0, h) := by
  have cb : bI (a = 0 ∨ a = 1) = 0 := bI_z.mpr c0
  simp only [sX6_isMatch, sX6_isMatch_c29, sX6_isMatch_c30, M_isSide, Option.bind_some, cb, if_true]
  rfl
theorem M_isMatch (hM : MM h s M) (hl : M.length ≤ 24) (hs : s < 2) (b : Int32) : sX6_isMatch h (nI s) b = some (bI (0 ≤ b ∧ b < nI M.length), h) := by
  have cb : ¬ bI (nI s = 0 ∨ nI s = 1) = 0 := by
    rw [bI_z]
    rcases (show s = 0 ∨ s = 1 by omega) with rfl | rfl
    · exact fun q => q (Or.inl rfl)
    · exact fun q => q (Or.inr rfl)
  have e : ((nI M.length - 1).toInt64).toInt = (M.length : Int) - 1 := by
    rw [tL_i, tI_sub, tI_n (by omega)]
    · rfl
    · rw [tI_n (by omega)]; show -2147483648 ≤ (M.length : Int) - 1; omega
    · rw [tI_n (by omega)]; show (M.length : Int) - 1 < 2147483648; omega
  have eq : bI ((0 : Int64).toInt ≤ b.toInt ∧ b.toInt ≤ (M.length : Int) - 1) = bI (0 ≤ b ∧ b < nI M.length) := bI_cg (by
    rw [le_tI, lt_tI, tI_n (by omega), tI0]
    show (0 : Int) ≤ _ ∧ _ ↔ _
    omega)
  unfold sX6_isMatch sX6_isMatch_c29 sX6_isMatch_c30
  rw [bd_t (M_isSide _ _)]
  dsimp only
  rw [if_neg cb, gd_in (show s < 2 by omega) (show 2 ≤ 1000 by decide), cl_n (show s ≤ 100000 by omega), hM.1, bd_t (M_inI _ _ _ _)]
  dsimp only
  rw [e, eq]
  by_cases c : 0 ≤ b ∧ b < nI M.length
  · rw [if_neg (by rw [bI_z]; exact fun q => q c), show bI (0 ≤ b ∧ b < nI M.length) = 1 from if_pos c]; rfl
  · rw [if_pos (bI_z.mpr c), show bI (0 ≤ b ∧ b < nI M.length) = 0 from bI_z.mpr c]; rfl
theorem mat_cs {b : Int32} {n : Nat} (hn : n ≤ 24) (c : 0 ≤ b ∧ b < nI n) : ∃ k : Nat, k < n ∧ b = nI k := by
  obtain ⟨c1, c2⟩ := c
  rw [le_tI, tI0] at c1
  rw [lt_tI, tI_n (by omega)] at c2
  refine ⟨b.toInt.toNat, by omega, ?_⟩
  rw [eq_tI, tI_n (by omega)]
  omega
end O17
