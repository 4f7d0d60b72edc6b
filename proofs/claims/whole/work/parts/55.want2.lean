/-! wanted loads: the class -/
section O15
variable {h : Hp} {S : SS} {Ms : Nat → Mt} {tx : List Int32} {row : List Int64} {r s : Nat} {M : Mt} {W : Nat → Int32}
theorem isA_w {s : Nat} (hs : s < 2) : isA (26 + 14 * s + 11) 10 24 = true := by
  rcases (show s = 0 ∨ s = 1 by omega) with rfl | rfl <;> decide
theorem S_sumA (hs : s < 2) (hX : XM h (26 + 14 * s) S M) (hl : M.length ≤ 24) (hv : ∀ k, k < M.length → mh M k < 10 ∧ mc M k < 10) (hW : ∀ k, k < M.length → h.1 (26 + 14 * s + 11) k = W k) {k i : Nat} (hk : k ≤ M.length) (hi' : i < 10) : sX2_sumAhead h (26 + 14 * s) (26 + 14 * s + 11) (nI k) (nI i) = some (us (cz M W k) (cz M W k).length i, h) := by
  rw [cz_us]
  unfold sX2_sumAhead
  rw [gd_t (isC_ok (ck_sd hs)), gd_t (isA_w hs)]
  refine loop0 (fun n (q : Int32 × Int32) => sX2_sumAhead_b6 n h (26 + 14 * s) (26 + 14 * s + 11) (nI k) (nI i) q.1 q.2) (fun j => (sI j (fun j => if mh M j = i ∨ mc M j = i then W j else 0), nI j)) k _ (by omega) (fun m j hj => ?_) (fun m => ?_)
  · show sX2_sumAhead_c6 (sX2_sumAhead_b6 m) h (26 + 14 * s) (26 + 14 * s + 11) (nI k) (nI i) _ (nI j) = _
    have hle : ¬ nI k ≤ nI j := by rw [le_n (by omega) (by omega)]; omega
    obtain ⟨a1, a2, a3⟩ := hX.2.1 j (by omega)
    obtain ⟨v1, v2⟩ := hv j (by omega)
    have e1 : nI (mh M j) = nI i ↔ mh M j = i := eq_n (by omega) (by omega)
    have e2 : nI (mc M j) = nI i ↔ mc M j = i := eq_n (by omega) (by omega)
    simp only [sX2_sumAhead_c6, sX2_sumAhead_c34, sX2_sumAhead_c43, hle, if_false, gd_in (show j < 24 by omega) (show 24 ≤ 1000 by decide), cl_n (show j ≤ 100000 by omega), a1, a2, hW j (by omega), e1, e2, nm, nI_1, sI]
    by_cases c1 : mh M j = i
    · rw [if_pos c1, if_pos (Or.inl c1)]
    · rw [if_neg c1]
      by_cases c2 : mc M j = i
      · rw [if_pos c2, if_pos (Or.inr c2)]
      · rw [if_neg c2, if_neg (fun q => q.elim c1 c2), Int32.add_zero]
  · show sX2_sumAhead_c6 (sX2_sumAhead_b6 m) h (26 + 14 * s) (26 + 14 * s + 11) (nI k) (nI i) _ (nI k) = _
    have hle : nI k ≤ nI k := by rw [le_n (by omega) (by omega)]; omega
    simp only [sX2_sumAhead_c6, hle, if_true]
theorem S_ftn (ok : OK S) (hs : s < 2) (hD : SD h (26 + 14 * s) s S) (hX : XM h (26 + 14 * s) S M) (v0 : VM S s M) (hW : ∀ k, k < M.length → h.1 (26 + 14 * s + 11) k = W k) (v : VW S s (cz M W M.length)) : sX2_firstTooNarrow h (26 + 14 * s) = some (ff (pK S s (cz M W M.length)) (cz M W M.length).length 0, h) := by
  have hl := v0.1
  have hn := ok.1
  have hr := ck_sd hs
  have hv := v0.lt ok
  have hN := cz_len (M := M) (W := W) (k := M.length)
  suffices H : ∀ d k n, k + d = M.length → d < n → sX2_firstTooNarrow_b4 n h (26 + 14 * s) (nI (cz M W k).length) (nI k) = some (ff (pK S s (cz M W M.length)) ((cz M W M.length).length - (cz M W k).length) (cz M W k).length, h) by
    unfold sX2_firstTooNarrow
    rw [gd_t (isC_ok hr)]
    exact H M.length 0 FU (by omega) (by show _ < 1000; omega)
  intro d
  induction d with
  | zero =>
    intro k n hk hn'
    obtain ⟨m, rfl⟩ : ∃ m, n = m + 1 := ⟨n - 1, by omega⟩
    show sX2_firstTooNarrow_c4 (sX2_firstTooNarrow_b4 m) h (26 + 14 * s) (nI (cz M W k).length) (nI k) = _
    unfold sX2_firstTooNarrow_c4
    rw [hX.1, if_pos (by rw [le_n (by omega) (by omega)]; omega), show k = M.length by omega, Nat.sub_self]
    rfl
  | succ d ih =>
    intro k n hk hn'
    obtain ⟨m, rfl⟩ : ∃ m, n = m + 1 := ⟨n - 1, by omega⟩
    have hk' : k < M.length := by omega
    obtain ⟨a1, a2, a3⟩ := hX.2.1 k hk'
    show sX2_firstTooNarrow_c4 (sX2_firstTooNarrow_b4 m) h (26 + 14 * s) (nI (cz M W k).length) (nI k) = _
    have i1 := ih (k + 1) m (by omega) (by omega)
    unfold sX2_firstTooNarrow_c4
    rw [hX.1, if_neg (by rw [le_n (by omega) (by omega)]; omega), gd_in (show k < 24 by omega) (show 24 ≤ 1000 by decide), cl_n (show k ≤ 100000 by omega), hW k hk']
    by_cases c : W k = 0
    · rw [if_pos c]
      unfold sX2_firstTooNarrow_c111
      rw [nI_1, nm_t rfl]
      rw [cz_0 c] at i1
      exact i1
    · rw [if_neg c]
      rw [cz_1 c, sn_len] at i1
      have q1 := cz_at (M := M) (W := W) (show k + 1 ≤ M.length by omega)
      rw [cz_1 c, sn_len] at q1
      obtain ⟨q2, q3⟩ := q1
      obtain ⟨e1, e2, e3⟩ := q3 (cz M W k).length (by omega)
      obtain ⟨f1, f2, f3⟩ := sn_e (M := cz M W k) (a := mh M k) (b := mc M k) (v := W k)
      rw [f1] at e1
      rw [f2] at e2
      rw [f3] at e3
      have hp : (cz M W k).length < (cz M W M.length).length := by omega
      obtain ⟨b1, b2, b3, b4, b5⟩ := VW_ad ok v hp (Or.inl rfl)
      obtain ⟨g1, g2', g3, g4, g5⟩ := VW_ad ok v hp (Or.inr rfl)
      have P := (v.2.1 _ hp).1
      have u1' := fun i => (cz_us2 (M := M) (W := W) (i := i) (show k ≤ M.length by omega)).1
      have z1 := (VW_us ok v P.1 (Nat.le_of_lt hp)).1
      have z2 := (VW_us ok v P.2.1 (Nat.le_of_lt hp)).1
      rw [e1] at b1 b2 b3 b4 b5 z1
      rw [e2] at g1 g2' g3 g4 g5 z2
      rw [e1, e2] at P
      rw [e3] at b3 b4 b5 g3 g4 g5
      rw [u1'] at b1 b2 b3 b4 b5 g1 g2' g3 g4 g5 z1 z2
      have v1 := hv k hk'
      rw [gd_in (show k < 24 by omega) (show 24 ≤ 1000 by decide), a1, nm_t rfl, gd_in (show k < 24 by omega) (show 24 ≤ 1000 by decide), a2, nm_t rfl, bd_t (S_sumA hs hX hl hv hW (Nat.le_of_lt hk') v1.1)]
      dsimp only
      rw [bd_t (S_sumA hs hX hl hv hW (Nat.le_of_lt hk') v1.2)]
      dsimp only
      rw [bd_t (S_isWide hr ok hD P ⟨b1, b2⟩ ⟨g1, g2'⟩)]
      dsimp only
      obtain ⟨D, hD'⟩ : ∃ D, (cz M W M.length).length - (cz M W k).length = D + 1 := ⟨(cz M W M.length).length - (cz M W k).length - 1, by omega⟩
      rw [hD']
      unfold ff pK
      rw [e1, e2, e3, ← z1, ← z2]
      by_cases c1 : leI S (mh M k) (mc M k) ≤ wI S s (mh M k) (mc M k) (us (cz M W k) (cz M W k).length (mh M k)).toInt (us (cz M W k) (cz M W k).length (mc M k)).toInt
      · rw [if_neg (by rw [kp1_iff]; exact fun q => q c1), gd_in (show k < 24 by omega) (show 24 ≤ 1000 by decide), gd_in (show k < 24 by omega) (show 24 ≤ 1000 by decide), hW k hk', bd_t (S_isWide hr ok hD P ⟨b4, b5⟩ ⟨g4, g5⟩)]
        dsimp only
        rw [← z1] at b3
        rw [← z2] at g3
        rw [← b3, ← g3]
        by_cases c2 : leI S (mh M k) (mc M k) ≤ wI S s (mh M k) (mc M k) (us (cz M W k) (cz M W k).length (mh M k) + W k).toInt (us (cz M W k) (cz M W k).length (mc M k) + W k).toInt
        · rw [if_neg (by rw [kp1_iff]; exact fun q => q c2), if_pos (decide_eq_true ⟨c1, c2⟩), nI_1, nm_t rfl]
          unfold sX2_firstTooNarrow_c111
          rw [nI_1, nm_t rfl, i1, show (cz M W M.length).length - ((cz M W k).length + 1) = D by omega]
          rfl
        · rw [if_pos (kp1_iff.mpr c2), if_neg (fun q => c2 (of_decide_eq_true q).2)]
          rfl
      · rw [if_pos (kp1_iff.mpr c1), if_neg (by simp [c1])]
        rfl
theorem S_take (ok : OK S) (hs : s < 2) (hD : SD h (26 + 14 * s) s S) (hX : XM h (26 + 14 * s) S M) (v0 : VM S s M) (hW : ∀ k, k < M.length → h.1 (26 + 14 * s + 11) k = W k) (hW0 : ∀ k, k < M.length → 0 ≤ (W k).toInt) : ∃ h', sX2_takeWanted h (26 + 14 * s) = some h' ∧ XM h' (26 + 14 * s) S (cz M W M.length) := by
  have hl := v0.1
  have hn := ok.1
  have hr := ck_sd hs
  obtain ⟨h1, e1, e2, e3⟩ := S_empty hr hn hD.2.2.1
  have F1 := fX2_empty _ _ _ e1
  have k8 : ∀ c j, 26 + 14 * s + 7 < c → h1.1 c j = h.1 c j := fun c j hc => F1.1 c j (fun q => by simp [wX2_empty] at q <;> omega) (fun q => by simp [wX2_empty] at q <;> omega)
  unfold sX2_takeWanted
  rw [gd_t (isC_ok hr), hX.1, nm_t rfl, bd_t e1]
  refine loopI (fun n (q : Hp × Int32) => sX2_takeWanted_b11 n q.1 (26 + 14 * s) (nI M.length) q.2) (fun k q => XM q.1 (26 + 14 * s) S (cz M W k) ∧ q.2 = nI k ∧ ∀ j, j < M.length → q.1.1 (26 + 14 * s + 11) j = W j ∧ (k ≤ j → q.1.1 (26 + 14 * s + 8) j = nI (mh M j) ∧ q.1.1 (26 + 14 * s + 9) j = nI (mc M j))) M.length (fun q => XM q (26 + 14 * s) S (cz M W M.length)) (by omega) (h1, 0) ⟨⟨e2, fun k hk => absurd hk (Nat.not_lt_zero k), e3⟩, rfl, fun j hj => ⟨(k8 _ j (by omega)).trans (hW j hj), fun _ => ⟨(k8 _ j (by omega)).trans (hX.2.1 j hj).1, (k8 _ j (by omega)).trans (hX.2.1 j hj).2.1⟩⟩⟩ (fun m k q hk I => ?_) (fun m q I => ?_)
  · obtain ⟨i1, i2, i3⟩ := I
    obtain ⟨j1, j2⟩ := i3 k hk
    obtain ⟨j2, j3⟩ := j2 (Nat.le_refl _)
    have w0 := hW0 k hk
    have cl := cz_len (M := M) (W := W) (k := k)
    by_cases c : W k = 0
    · refine ⟨(q.1, nI (k + 1)), ⟨by rw [cz_0 c]; exact i1, rfl, fun j hj => ⟨(i3 j hj).1, fun hj' => (i3 j hj).2 (by omega)⟩⟩, ?_⟩
      show sX2_takeWanted_c11 (sX2_takeWanted_b11 m) q.1 (26 + 14 * s) (nI M.length) q.2 = _
      unfold sX2_takeWanted_c11 sX2_takeWanted_c47
      rw [i2, if_neg (by rw [le_n (by omega) (by omega)]; omega), gd_in (show k < 24 by omega) (show 24 ≤ 1000 by decide), cl_n (show k ≤ 100000 by omega), j1, c, if_pos (by decide), nI_1, nm_t rfl]
    · have P := (v0.2.1 k hk).1
      have c' : ¬ W k ≤ 0 := by
        intro z
        apply c
        rw [le_tI, tI0] at z
        rw [eq_tI, tI0]
        omega
      obtain ⟨h2, a1, a2, a3, a4⟩ := S_addE hr hn i1 (by omega) P.1 P.2.1 (Pr_ne P) (W k)
      refine ⟨(h2, nI (k + 1)), ⟨by rw [cz_1 c]; exact a2, rfl, fun j hj => ⟨(a4 _ j (by omega)).trans (i3 j hj).1, fun hj' => ?_⟩⟩, ?_⟩
      · have := (i3 j hj).2 (by omega)
        have t := a3 j (by omega)
        exact ⟨t.1.trans this.1, t.2.trans this.2⟩
      · show sX2_takeWanted_c11 (sX2_takeWanted_b11 m) q.1 (26 + 14 * s) (nI M.length) q.2 = _
        unfold sX2_takeWanted_c11 sX2_takeWanted_c47
        rw [i2, if_neg (by rw [le_n (by omega) (by omega)]; omega), gd_in (show k < 24 by omega) (show 24 ≤ 1000 by decide), cl_n (show k ≤ 100000 by omega), j1, if_neg c', gd_in (show k < 24 by omega) (show 24 ≤ 1000 by decide), gd_in (show k < 24 by omega) (show 24 ≤ 1000 by decide), gd_in (show k < 24 by omega) (show 24 ≤ 1000 by decide), j2, j3, bd_t a1, nI_1, nm_t rfl]
  · obtain ⟨i1, i2, i3⟩ := I
    refine ⟨q.1, ?_, i1⟩
    show sX2_takeWanted_c11 (sX2_takeWanted_b11 m) q.1 (26 + 14 * s) (nI M.length) q.2 = _
    unfold sX2_takeWanted_c11
    rw [i2, if_pos (by rw [le_n (by omega) (by omega)]; omega)]
theorem wX2_take_ok {s : Nat} : ∀ w ∈ wX2_takeWanted (26 + 14 * s), (w.1 = 26 + 14 * s ∧ (w.2 = some 14 ∨ w.2 = some 16)) ∨ (26 + 14 * s + 7 ≤ w.1 ∧ w.1 ≤ 26 + 14 * s + 13) := by
  intro w hw
  simp only [wX2_takeWanted, List.mem_cons, List.not_mem_nil, or_false] at hw
  grind
/-- the class takes the wanted loads, or tells the first that is too narrow -/
theorem X_takes (ok : OK S) (hs : s < 2) (X : RX h S Ms tx row) (v0 : VM S s (Ms s)) (hW : ∀ k, k < (Ms s).length → h.1 (26 + 14 * s + 11) k = W k) (hW0 : ∀ k, k < (Ms s).length → 0 ≤ (W k).toInt) (v : VW S s (cz (Ms s) W (Ms s).length)) : ∃ h', (ff (pK S s (cz (Ms s) W (Ms s).length)) (cz (Ms s) W (Ms s).length).length 0 = -1 → sX5_takesWanted h (26 + 14 * s) = some (1, h') ∧ RX h' S (upM Ms s (cz (Ms s) W (Ms s).length)) tx row) ∧ (¬ ff (pK S s (cz (Ms s) W (Ms s).length)) (cz (Ms s) W (Ms s).length).length 0 = -1 → sX5_takesWanted h (26 + 14 * s) = some (0, h') ∧ RX h' S Ms tx [(ff (pK S s (cz (Ms s) W (Ms s).length)) (cz (Ms s) W (Ms s).length).length 0).toInt64]) := by
  have hr := ck_sd hs
  obtain ⟨hD, hX⟩ := X.1.2.2.2 s hs
  have f := S_ftn ok hs hD hX v0 hW v
  by_cases c : ff (pK S s (cz (Ms s) W (Ms s).length)) (cz (Ms s) W (Ms s).length).length 0 = -1
  · obtain ⟨h1, e1, x1⟩ := S_take ok hs hD hX v0 hW hW0
    refine ⟨h1, fun _ => ⟨?_, X.up hs (fX2_takeWanted _ _ _ e1) wX2_take_ok (by decide) x1⟩, fun q => absurd c q⟩
    unfold sX5_takesWanted
    rw [gd_t (isC_ok hr), bd_t f]
    dsimp only
    rw [if_pos c, bd_t e1]
  · obtain ⟨h1, e1, r1⟩ := X.tell1 (ff (pK S s (cz (Ms s) W (Ms s).length)) (cz (Ms s) W (Ms s).length).length 0).toInt64
    refine ⟨h1, fun q => absurd q c, fun _ => ⟨?_, r1⟩⟩
    unfold sX5_takesWanted
    rw [gd_t (isC_ok hr), bd_t f]
    dsimp only
    rw [if_neg c, bd_t e1]
end O15
