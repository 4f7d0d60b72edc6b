/-! match; count -/
section OM
variable {h : Hp} {S : SS} {Ms : Nat → Mt} {tx : List Int32} {row : List Int64} {s : Nat}
theorem op_match (R : Rel h S Ms tx row) (a b w : Int32) : StepX (fun h => sX5_match h a b w) (fun h => sX6_match h a b w) h := by
  have ok := R.1.1
  have X := R.2.1
  have hn := ok.1
  have e2 : bI ((0 : Int64).toInt ≤ w.toInt ∧ w.toInt ≤ (2 : Int64).toInt) = bI (0 ≤ w ∧ w ≤ 2) := bI_cg (by rw [le_tI, le_tI, tI0]; show (0 : Int) ≤ _ ∧ _ ≤ 2 ↔ (0 : Int) ≤ _ ∧ _ ≤ 2; exact Iff.rfl)
  have thrownM : ∀ {h : Hp}, sX6_match_c27 h a b w 1 = some (0, u1 h 54 0 1) := by
    intro h
    unfold sX6_match_c27
    rw [bd_t (fl1 _)]
    dsimp only
    rw [nm_t rfl, rd1s, if_pos rfl]
  by_cases c0 : a = 0 ∨ a = 1
  · obtain ⟨s, hs, rfl⟩ := side_cs c0
    have v0 := R.1.2.1 s hs
    have hr := ck_sd hs
    have hl := v0.1
    by_cases c : (0 ≤ b ∧ b < nI (Ms s).length) ∧ (0 ≤ w ∧ w ≤ 2)
    · obtain ⟨cb, cw⟩ := c
      obtain ⟨k, hk, rfl⟩ := mat_cs hl cb
      have c1 : ¬ bI (0 ≤ nI k ∧ nI k < nI (Ms s).length) = 0 := by rw [bI_z]; exact fun q => q cb
      have c2 : ¬ bI (0 ≤ w ∧ w ≤ 2) = 0 := by rw [bI_z]; exact fun q => q cw
      have P := (v0.2.1 k hk).1
      obtain ⟨hD, hX⟩ := X.1.2.2.2 s hs
      obtain ⟨a1, a2, a3⟩ := hX.2.1 k hk
      have un := un_bd ok P.1 P.2.1
      obtain ⟨w1, w2, w3, w4, w5, w6, w7, w8⟩ := wc_I ok v0 hk
      obtain ⟨U, hU⟩ : ∃ U : Nat, unI S (mh (Ms s) k) (mc (Ms s) k) = U := ⟨(unI S (mh (Ms s) k) (mc (Ms s) k)).toNat, by omega⟩
      obtain ⟨A0, hA0⟩ : ∃ U : Nat, we0 S s (Ms s) k = U := ⟨(we0 S s (Ms s) k).toNat, by omega⟩
      obtain ⟨A1, hA1⟩ : ∃ U : Nat, we1 S s (Ms s) k = U := ⟨(we1 S s (Ms s) k).toNat, by omega⟩
      rw [hU] at un
      rw [hA0] at w1 w3 w5 w6
      rw [hA1] at w2 w4 w7 w8
      have hUb : 1 ≤ U ∧ U ≤ 1000 := by omega
      obtain ⟨x0, r0⟩ := X.emp
      obtain ⟨h1, x1, r1⟩ := X_addFr r0 (by decide) w1 un.2.2.1 hUb
      obtain ⟨h2, x2, r2⟩ := X_addFr r1 (by simp) w2 un.2.2.1 hUb
      obtain ⟨vx, ev, em⟩ : ∃ vx : Int32, (if w = (2 : Int32) then (gd (inb (nI k) 24) (some (some (.int (h2.1 (26 + 14 * s + 10) (nI k).toNatClampNeg)), h2))) else (if w = 0 then (gd (inb (nI k) 24) (sX5_match_c130 h2 (h2.1 (26 + 14 * s + 8) (nI k).toNatClampNeg))) else (gd (inb (nI k) 24) (sX5_match_c130 h2 (h2.1 (26 + 14 * s + 9) (nI k).toNatClampNeg))))) = some (some (Value.int vx), h2) ∧ ∀ hm : Hp, MM hm s (Ms s) → (if w = 0 then (gd (inb (nI (25 * s + k)) 50) (sX6_match_c153 hm (hm.1 68 (nI (25 * s + k)).toNatClampNeg))) else (if w = (1 : Int32) then (gd (inb (nI (25 * s + k)) 50) (sX6_match_c153 hm (hm.1 69 (nI (25 * s + k)).toNatClampNeg))) else (gd (inb (nI (25 * s + k)) 50) (sX6_match_c153 hm (hm.1 70 (nI (25 * s + k)).toNatClampNeg))))) = some (vx, hm) := by
        obtain ⟨b1, b2, b3⟩ := (r2.1.2.2.2 s hs).2.2.1 k hk
        rw [cl_n (show k ≤ 100000 by omega), gd_in (show k < 24 by omega) (show 24 ≤ 1000 by decide), gd_in (show k < 24 by omega) (show 24 ≤ 1000 by decide), gd_in (show k < 24 by omega) (show 24 ≤ 1000 by decide), b1, b2, b3]
        have hm' : ∀ hm : Hp, MM hm s (Ms s) → hm.1 68 (nI (25 * s + k)).toNatClampNeg = nI (mh (Ms s) k) ∧ hm.1 69 (nI (25 * s + k)).toNatClampNeg = nI (mc (Ms s) k) ∧ hm.1 70 (nI (25 * s + k)).toNatClampNeg = ml (Ms s) k := by
          intro hm hM
          rw [cl_n (show 25 * s + k ≤ 100000 by omega)]
          exact hM.2 k hk
        have g50 : ∀ {α : Type} (f : Option α), gd (inb (nI (25 * s + k)) 50) f = f := fun f => gd_in (show 25 * s + k < 50 by omega) (show 50 ≤ 1000 by decide)
        by_cases z2 : w = 2
        · refine ⟨ml (Ms s) k, by rw [if_pos z2], fun hm hM => ?_⟩
          rw [if_neg (by rw [z2]; decide), if_neg (by rw [z2]; decide), g50, (hm' hm hM).2.2]
          rfl
        · by_cases z0 : w = 0
          · refine ⟨nI (mh (Ms s) k), by rw [if_neg z2, if_pos z0]; rfl, fun hm hM => ?_⟩
            rw [if_pos z0, g50, (hm' hm hM).1]
            rfl
          · have z1 : w = 1 := by
              obtain ⟨q1, q2⟩ := cw
              rw [le_tI, tI0] at q1
              rw [le_tI] at q2
              rw [eq_tI] at z2 z0 ⊢
              rw [tI0] at z0
              have e2' : (2 : Int32).toInt = 2 := rfl
              have e1' : (1 : Int32).toInt = 1 := rfl
              rw [e2'] at q2 z2
              rw [e1']
              omega
            refine ⟨nI (mc (Ms s) k), by rw [if_neg z2, if_neg z0]; rfl, fun hm hM => ?_⟩
            rw [if_neg z0, if_pos z1, g50, (hm' hm hM).2.1]
            rfl
      have eX : sX5_match h (nI s) (nI k) w = some (some (.int vx), h2) := by
        unfold sX5_match
        rw [bd_t (X_hasMatch X.1 hs _)]
        dsimp only
        rw [if_neg c1, if_neg (by grind), if_pos cw.2, bd_t (X_sideOf _ hs)]
        dsimp only
        rw [gd_t (isC_ok hr), gd_in (show k < 24 by omega) (show 24 ≤ 1000 by decide), gd_in (show k < 24 by omega) (show 24 ≤ 1000 by decide), cl_n (show k ≤ 100000 by omega), a1, a2, bd_t (S_unit hr hn hD P.1 P.2.1)]
        dsimp only
        rw [bd_t x0, bd_t (S_widthOf ok hs (r0.1.2.2.2 s hs).1 (r0.1.2.2.2 s hs).2 v0 hk 0)]
        dsimp only
        rw [bd_t x1, bd_t (S_widthOf ok hs (r1.1.2.2.2 s hs).1 (r1.1.2.2.2 s hs).2 v0 hk 1)]
        dsimp only
        rw [bd_t x2]
        rw [cl_n (show k ≤ 100000 by omega)] at ev
        exact ev
      refine mkX1 R eX (fX5_match _ _ _ _ _ eX) (by decide) (by decide) r2 (invR R.1 (by simp)) (fun hM => ?_) (fun q e => fX6_match _ _ _ _ q e) (by decide) (by decide) (by decide)
      obtain ⟨m1, F1⟩ := hM.thr 0
      obtain ⟨h3, o3, m3, f3⟩ := m1.finds ok
      have G3 := fX6_finds _ _ o3
      obtain ⟨m4, F4⟩ := m3.row0
      have f4 := FD.fr f3 F4 (by decide) (by decide)
      have hv : ∀ k, k < (Ms s).length → mh (Ms s) k < S.1 ∧ mc (Ms s) k < S.1 := fun k hk => ⟨(v0.2.1 k hk).1.1, (v0.2.1 k hk).1.2.1⟩
      obtain ⟨h5, o5, m5, F5⟩ := M_entP m4 (by decide) w3 un.2.2.2 (by omega) hUb
      have f5 := FD.fr f4 F5 (by decide) (by decide)
      obtain ⟨h6, o6, m6, F6⟩ := M_entP m5 (by simp) w4 un.2.2.2 (by omega) hUb
      have M4 := m4.1.2 s hs
      have M5 := m5.1.2 s hs
      have z6 : h6.1 54 0 = 0 := (F6.f (by decide)).trans ((F5.f (by decide)).trans ((F4.f (by decide)).trans ((G3.f (by decide)).trans rd1s)))
      refine ⟨h6, ?_, z6, m6⟩
      show sX6_match (u2 h2 0 0 vx.toInt64) (nI s) (nI k) w = _
      unfold sX6_match
      rw [bd_t (M_isMatch (hM.1.2 s hs) hl hs _)]
      dsimp only
      rw [if_neg c1, bd_t (M_inI _ _ _ _)]
      dsimp only
      rw [e2, if_neg c2]
      unfold sX6_match_c27
      rw [bd_t (fl0 _)]
      dsimp only
      rw [nm_t rfl, rd1s, if_neg n10, bd_t o3, bd_t M_place]
      dsimp only
      rw [nm_t rfl, bd_t (M_widthAt ok f4 hs M4.2 (by omega) hv hk 0)]
      dsimp only
      rw [gd_in (show 25 * s + k < 50 by omega) (show 50 ≤ 1000 by decide), gd_in (show 25 * s + k < 50 by omega) (show 50 ≤ 1000 by decide), cl_n (show 25 * s + k ≤ 100000 by omega), (M4.2 k hk).1, (M4.2 k hk).2.1, bd_t (M_under f4.1 hn P.1 P.2.1)]
      dsimp only
      rw [bd_t o5, bd_t (M_widthAt ok f5 hs M5.2 (by omega) hv hk 1)]
      dsimp only
      rw [gd_in (show 25 * s + k < 50 by omega) (show 50 ≤ 1000 by decide), gd_in (show 25 * s + k < 50 by omega) (show 50 ≤ 1000 by decide), (M5.2 k hk).1, (M5.2 k hk).2.1, bd_t (M_under f5.1 hn P.1 P.2.1)]
      dsimp only
      rw [bd_t o6]
      have := em h6 (m6.1.2 s hs)
      rw [cl_n (show 25 * s + k ≤ 100000 by omega)] at this
      exact this
    · have eX : sX5_match h (nI s) b w = some (none, h) := by
        unfold sX5_match sX5_match_c18
        rw [bd_t (X_hasMatch X.1 hs _)]
        dsimp only
        by_cases ca : 0 ≤ b ∧ b < nI (Ms s).length
        · rw [if_neg (by rw [bI_z]; exact fun q => q ca)]
          by_cases cb : w < 0
          · rw [if_pos cb]
          · rw [if_neg cb, if_neg (by grind)]
        · rw [if_pos (bI_z.mpr ca)]
      refine mkX0 R eX (fun hM => ?_) (fun q e => fX6_match _ _ _ _ q e) (by decide) (by decide)
      obtain ⟨m1, F1⟩ := hM.thr 1
      refine ⟨0, _, ?_, rd1s, m1⟩
      show sX6_match h (nI s) b w = _
      unfold sX6_match sX6_match_c22
      rw [bd_t (M_isMatch (hM.1.2 s hs) hl hs _)]
      dsimp only
      by_cases ca : 0 ≤ b ∧ b < nI (Ms s).length
      · rw [if_neg (by rw [bI_z]; exact fun q => q ca), bd_t (M_inI _ _ _ _)]
        dsimp only
        rw [e2, if_pos (bI_z.mpr (fun q => c ⟨ca, q⟩))]
        exact thrownM
      · rw [if_pos (bI_z.mpr ca)]
        exact thrownM
  · have eX : sX5_match h a b w = some (none, h) := by
      unfold sX5_match sX5_match_c18
      rw [bd_t (X_hasMatch0 c0 b)]
      dsimp only
      rw [if_pos rfl]
    refine mkX0 R eX (fun hM => ?_) (fun q e => fX6_match _ _ _ _ q e) (by decide) (by decide)
    obtain ⟨m1, F1⟩ := hM.thr 1
    refine ⟨0, _, ?_, rd1s, m1⟩
    show sX6_match h a b w = _
    unfold sX6_match sX6_match_c22
    rw [bd_t (M_isMatch0 c0 b)]
    dsimp only
    rw [if_pos rfl]
    exact thrownM
theorem P_hotC {r : Nat} (hr : ck r = 1) (hP : PS h r S.1 S.2.1 S.2.2.1 S.2.2.2.1) (hn : S.1 ≤ 10) : sX1_hotBits h r = some (hC S S.1, h) := by
  unfold sX1_hotBits
  rw [gd_t (isC_ok hr)]
  refine loop0 (fun m (q : Int32 × Int32) => sX1_hotBits_b4 m h r q.1 q.2) (fun i => (hC S i, nI i)) S.1 _ (by omega) (fun m i hi' => ?_) (fun m => ?_)
  · show sX1_hotBits_c4 (sX1_hotBits_b4 m) h r (hC S i) (nI i) = sX1_hotBits_b4 m h r (hC S i ||| (hb S.2.1 S.2.2.1 i <<< (nI i &&& 31))) (nI (i + 1))
    unfold sX1_hotBits_c4 sX1_hotBits_c27
    rw [hP.1, if_neg (by rw [le_n (by omega) (by omega)]; omega), gd_in (show i < 10 by omega) (show 10 ≤ 1000 by decide), cl_n (show i ≤ 100000 by omega), (hP.2 i hi').1]
    rcases hb01 S.2.1 S.2.2.1 i with z | z
    · rw [z, if_pos rfl, nI_1, nm_t rfl]
      have : hC S i ||| ((0 : Int32) <<< (nI i &&& 31)) = hC S i := by
        rw [show (0 : Int32) <<< (nI i &&& 31) = 0 by simp, Int32.or_zero]
      rw [this]
    · rw [z, if_neg (by decide), nm_t rfl, nI_1, nm_t rfl]
  · show sX1_hotBits_c4 (sX1_hotBits_b4 m) h r (hC S S.1) (nI S.1) = _
    unfold sX1_hotBits_c4
    rw [hP.1, if_pos (by rw [le_n (by omega) (by omega)]; omega)]
theorem ha_fC (ok : OK S) {kd : Int32} (hk : kd = 1 ∨ kd = 0) : haT S.1 S.2.1 S.2.2.1 S.2.2.2.1 kd 0 = fC S S.1 (if kd = 1 then 0 else 1) := by
  have cg : ∀ i, i < S.1 → (if hb S.2.1 S.2.2.1 i = kd ∧ 0 < hi S.2.1 S.2.2.1 i then S.2.2.2.1 i * (hi S.2.1 S.2.2.1 i - imax (lo S.2.1 S.2.2.1 i) 0) else 0) = (if hb S.2.1 S.2.2.1 i = kd then S.2.2.2.1 i * (hi S.2.1 S.2.2.1 i - lo S.2.1 S.2.2.1 i) else 0) := by
    intro i hi'
    obtain ⟨f1, f2, f3, f4, f5, -, -⟩ := ok.2.2 i hi'
    have p1 : 0 < hi S.2.1 S.2.2.1 i := by unfold hi imax; grind
    have p2 : imax (lo S.2.1 S.2.2.1 i) 0 = lo S.2.1 S.2.2.1 i := by unfold lo imax imin; grind
    rw [p2]
    by_cases c : hb S.2.1 S.2.2.1 i = kd
    · rw [if_pos ⟨c, p1⟩, if_pos c]
    · rw [if_neg (fun q => c q.1), if_neg c]
  unfold haT
  rw [sI_cg cg]
  rcases hk with rfl | rfl
  · rw [if_pos rfl]; rfl
  · rw [if_neg (by decide)]; rfl
theorem op_count (R : Rel h S Ms tx row) (a : Int32) : sX5_count h a = some (cnV (u1 h 54 0 0) S a, h) ∧ MQS (u1 h 54 0 0) S ∧ S.1 ≤ 10 ∧ Rel (u1 h 54 0 0) S Ms tx row := by
  have ok := R.1.1
  have X := R.2.1
  have hn := ok.1
  obtain ⟨m1, F1⟩ := R.2.2.thr 0
  refine ⟨?_, m1.1.1, hn, asm R.1 X m1 F1 (by decide) (by decide)⟩
  have g1 : (u1 h 54 0 0).1 54 7 = nI S.1 := m1.1.1.1
  have g2 : (u1 h 54 0 0).1 54 11 = S.2.2.2.2 := m1.1.1.2.1
  have g3 : (u1 h 54 0 0).1 67 0 = nI (Ms 0).length := (m1.1.2 0 (by decide)).1
  have g4 : (u1 h 54 0 0).1 67 1 = nI (Ms 1).length := (m1.1.2 1 (by decide)).1
  have g7 : (u1 h 54 0 0).1 54 1 = nI row.length := m1.2.2.1
  have g8 : (u1 h 54 0 0).1 54 4 = nI tx.length := m1.2.1.1
  unfold sX5_count cnV
  rw [g1, g2, g3, g4, g7, g8, X.1.1.1, X.1.2.1, (X.1.2.2.2 0 (by decide)).2.1, (X.1.2.2.2 1 (by decide)).2.1, X.2.2.1, X.2.1.1, bd_t (P_hotC (by decide) X.1.1 hn), bd_t (P_heatAbove (r := 6) (by decide) X.1.1 hn 1 0), bd_t (P_heatAbove (r := 6) (by decide) X.1.1 hn 0 0), ha_fC ok (Or.inl rfl), ha_fC ok (Or.inr rfl)]
  dsimp only
  rw [if_pos rfl, if_neg (show ¬ (0 : Int32) = 1 by decide)]
  by_cases c0 : a = 0
  · rw [if_pos c0, if_pos c0]
  rw [if_neg c0, if_neg c0]
  by_cases c1 : a = 1
  · rw [if_pos c1, if_pos c1]
  rw [if_neg c1, if_neg c1]
  by_cases c2 : a = 2
  · rw [if_pos c2, if_pos c2]
  rw [if_neg c2, if_neg c2]
  by_cases c3 : a = 3
  · rw [if_pos c3, if_pos c3]
  rw [if_neg c3, if_neg c3]
  by_cases c4 : a = 4
  · rw [if_pos c4, if_pos c4]
  rw [if_neg c4, if_neg c4]
  by_cases c5 : a = 5
  · rw [if_pos c5, if_pos c5]
  rw [if_neg c5, if_neg c5]
  by_cases c6 : a = 6
  · rw [if_pos c6, if_pos c6]
  rw [if_neg c6, if_neg c6]
  by_cases c7 : a = 7
  · rw [if_pos c7, if_pos c7]
  rw [if_neg c7, if_neg c7]
  by_cases c8 : a = 8
  · rw [if_pos c8, if_pos c8]
  rw [if_neg c8, if_neg c8]
end OM
