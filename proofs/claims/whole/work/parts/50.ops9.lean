/-! joins -/
section O9
variable {h : Hp} {S : SS} {Ms : Nat → Mt} {tx : List Int32} {row : List Int64} {r s : Nat}
theorem kp_0 {M : Mt} (ok : OK S) (v : VM S s M) {a b : Nat} (hp : Pr S s a b) (w : Int32) : (if leI S (mh (M ++ [(a, b, w)]) M.length) (mc (M ++ [(a, b, w)]) M.length) ≤ (wv S s (M ++ [(a, b, w)]) M.length 0).toInt then (1 : Int32) else 0) = kp S s a b (us M M.length a).toInt (us M M.length b).toInt := by
  obtain ⟨e1, e2, e3⟩ := sn_e (M := M) (a := a) (b := b) (v := w)
  obtain ⟨ua, ua0, ua1, ua2⟩ := v.us ok hp.1 (Nat.le_refl _)
  obtain ⟨ub, ub0, ub1, ub2⟩ := v.us ok hp.2.1 (Nat.le_refl _)
  unfold wv kp
  rw [e1, e2, (sn_us (Nat.le_refl _)).1, (sn_us (Nat.le_refl _)).1, if_pos rfl, Int32.add_zero, Int32.add_zero, (w_bd ok hp.1 hp.2.1 (by omega) (by omega)).2.1]
theorem us_ad {M : Mt} (ok : OK S) (v : VM S s M) {a : Nat} (ha : a < S.1) {w : Int32} (h1 : 1 ≤ w.toInt) (h2 : w.toInt ≤ (rs S s M a).toInt) : (us M M.length a + w).toInt = uz M M.length a + w.toInt ∧ 0 ≤ (us M M.length a + w).toInt ∧ (us M M.length a + w).toInt ≤ 30000 := by
  obtain ⟨ua, ua0, ua1, ua2⟩ := v.us ok ha (Nat.le_refl _)
  have := v.rst ok ha
  have e : (us M M.length a + w).toInt = uz M M.length a + w.toInt := by rw [tI_add (by omega) (by omega), ua]
  omega
theorem kp_1 {M : Mt} (ok : OK S) (v : VM S s M) {a b : Nat} (hp : Pr S s a b) {w : Int32} (h1 : 1 ≤ w.toInt) (h2 : w.toInt ≤ (rs S s M a).toInt) (h3 : w.toInt ≤ (rs S s M b).toInt) : (if leI S (mh (M ++ [(a, b, w)]) M.length) (mc (M ++ [(a, b, w)]) M.length) ≤ (wv S s (M ++ [(a, b, w)]) M.length 1).toInt then (1 : Int32) else 0) = kp S s a b (us M M.length a + w).toInt (us M M.length b + w).toInt := by
  obtain ⟨e1, e2, e3⟩ := sn_e (M := M) (a := a) (b := b) (v := w)
  have ua := us_ad ok v hp.1 h1 h2
  have ub := us_ad ok v hp.2.1 h1 h3
  unfold wv kp
  rw [e1, e2, e3, (sn_us (Nat.le_refl _)).1, (sn_us (Nat.le_refl _)).1, if_neg (show ¬ (1 : Int32) = 0 by decide), (w_bd ok hp.1 hp.2.1 (by omega) (by omega)).2.1]
theorem upM_s {M' : Mt} : upM Ms s M' s = M' := if_pos rfl
theorem upM_inv {M' : Mt} {row' : List Int64} (I : Inv S Ms tx row) (v : VM S s M') (hl : row'.length ≤ 24) : Inv S (upM Ms s M') tx row' := by
  refine ⟨I.1, fun t ht' => ?_, I.2.2.1, hl⟩
  unfold upM
  split
  · next e => subst e; exact v
  · exact I.2.1 t ht'
theorem kp1_iff {a b : Nat} {x y : Int} : kp S s a b x y = 0 ↔ ¬ leI S a b ≤ wI S s a b x y := by
  unfold kp
  split
  · next c => exact ⟨fun q => absurd q (by decide), fun q => absurd c q⟩
  · next c => exact ⟨fun _ => c, fun _ => rfl⟩
theorem lv_mh {M : Mt} (v : VM S s M) {a b : Nat} (hp : Pr S s a b) (w : Int32) : ∀ k, k < (M ++ [(a, b, w)]).length → mh (M ++ [(a, b, w)]) k < S.1 ∧ mc (M ++ [(a, b, w)]) k < S.1 := by
  intro k hk
  rw [sn_len] at hk
  by_cases e : k = M.length
  · subst e
    obtain ⟨e1, e2, e3⟩ := sn_e (M := M) (a := a) (b := b) (v := w)
    rw [e1, e2]
    exact ⟨hp.1, hp.2.1⟩
  · obtain ⟨e1, e2, e3⟩ := sn_l (a := a) (b := b) (v := w) (show k < M.length by omega)
    rw [e1, e2]
    have := (v.2.1 k (by omega)).1
    exact ⟨this.1, this.2.1⟩
theorem op_joins (R : Rel h S Ms tx row) (a b c d : Int32) : Step (fun h => sX5_joins h a b c d) (fun h => sX6_joins h a b c d) h := by
  have ok := R.1.1
  have X := R.2.1
  have hn := ok.1
  by_cases c0 : a = 0 ∨ a = 1
  · obtain ⟨s, hs, rfl⟩ := side_cs c0
    obtain ⟨hD, hX⟩ := X.1.2.2.2 s hs
    have v := R.1.2.1 s hs
    have hr := ck_sd hs
    by_cases p : prP S s b c ∧ 1 ≤ d
    · obtain ⟨p, d1⟩ := p
      obtain ⟨i, j, rfl, rfl, hp⟩ := prP_cs hn p
      have c1 : ¬ bI (prP S s (nI i) (nI j)) = 0 := by rw [bI_z]; exact fun q => q p
      have hi' := hp.1
      have hj := hp.2.1
      have ui := hX.2.2 i hi'
      have uj := hX.2.2 j hj
      have sr := S_rest hr hn hD hX hi'
      have sr2 := S_rest hr hn hD hX hj
      have gi : ∀ {α : Type} {x : Option α}, gd (inb (nI i) 10) x = x := gd_in (show i < 10 by omega) (show 10 ≤ 1000 by decide)
      have gj : ∀ {α : Type} {x : Option α}, gd (inb (nI j) 10) x = x := gd_in (show j < 10 by omega) (show 10 ≤ 1000 by decide)
      have gs : ∀ {α : Type} {x : Option α}, gd (inb (nI s) 2) x = x := gd_in (show s < 2 by omega) (show 2 ≤ 1000 by decide)
      have ci : (nI i).toNatClampNeg = i := cl_n (show i ≤ 100000 by omega)
      have cj : (nI j).toNatClampNeg = j := cl_n (show j ≤ 100000 by omega)
      have cs : (nI s).toNatClampNeg = s := cl_n (show s ≤ 100000 by omega)
      have d1' : 1 ≤ d.toInt := by rw [le_tI] at d1; exact d1
      -- the reference's way to the rests
      have go : ∀ {h : Hp}, RM h S Ms tx row → ∃ h2, RM h2 S Ms tx row ∧ FD h2 S ∧ sX6_joins h (nI s) (nI i) (nI j) d = (if nI (Ms s).length = (24 : Int32) then (some ((-2 : Int32), h2)) else (if rs S s (Ms s) i < d then (sX6_joins_c63 h2) else (if d ≤ rs S s (Ms s) j then (nm (nI (Ms s).length) fun x8 => (sX6_laysMatch h2 (nI s) (nI i) (nI j) d).bind fun q9 => (sX6_keeps q9 (nI s) x8 (0 : Int32)).bind fun q10 => if q10.1 = 0 then (some ((-4 : Int32), q10.2)) else ((sX6_keeps q10.2 (nI s) x8 (1 : Int32)).bind fun q11 => if q11.1 = 0 then (some ((-5 : Int32), q11.2)) else ((nm (u1 q11.2 67 s ((q11.2.1 67 s) + (1 : Int32))) fun h14 => nm (u1 h14 54 1 (0 : Int32)) fun h15 => (sX6_rest h15 (nI s) (nI i)).bind fun q16 => (sX6_enters q16.2 q16.1.toInt64).bind fun q17 => (sX6_rest q17 (nI s) (nI j)).bind fun q18 => (sX6_enters q18.2 q18.1.toInt64).bind fun q19 => some (x8, q19))))) else (sX6_joins_c63 h2)))) := by
        intro h hM
        obtain ⟨m1, t1⟩ := hM.thr 0
        obtain ⟨h2, e2, m2, f2⟩ := m1.finds ok
        refine ⟨h2, m2, f2, ?_⟩
        simp only [sX6_joins, nm, e2, Option.bind_some, M_areThere f2 ok hs, c1, if_false, d1, if_true, gs, cs, (m2.1.2 s hs).1, M_rest ok hs f2 (m2.1.2 s hs) v.1 (v.lt ok) hi', M_rest ok hs f2 (m2.1.2 s hs) v.1 (v.lt ok) hj]
      have gX : sX5_joins h (nI s) (nI i) (nI j) d = (if nI (Ms s).length < (24 : Int32) then (if rs S s (Ms s) i < d then (sX5_joins_c60 h) else (if d ≤ rs S s (Ms s) j then ((sX2_isWide h (26 + 14 * s) (nI i) (nI j) (us (Ms s) (Ms s).length i) (us (Ms s) (Ms s).length j)).bind fun q8 => if q8.1 = 0 then (some ((-4 : Int32), q8.2)) else ((sX2_isWide q8.2 (26 + 14 * s) (nI i) (nI j) ((q8.2.1 (26 + 14 * s + 7) i) + d) ((q8.2.1 (26 + 14 * s + 7) j) + d)).bind fun q11 => if q11.1 = 0 then (some ((-5 : Int32), q11.2)) else ((sX2_add q11.2 (26 + 14 * s) (nI i) (nI j) d).bind fun q12 => (sX2_rest q12 (26 + 14 * s) (nI i)).bind fun q13 => (sX2_rest q13.2 (26 + 14 * s) (nI j)).bind fun q14 => (sX4_tell_ q14.2 q13.1.toInt64 q14.1.toInt64).bind fun q15 => some (((q15.1 (26 + 14 * s) 14) - (1 : Int32)), q15)))) else (sX5_joins_c60 h))) else (some ((-2 : Int32), h))) := by
        simp only [sX5_joins, X_canMeet X.1 ok hs, Option.bind_some, c1, if_false, d1, if_true, X_sideOf _ hs, gd_t (isC_ok hr), hX.1, sr, sr2, gi, gj, ci, cj, ui, uj]
      by_cases l : (Ms s).length = 24
      · have eX : sX5_joins h (nI s) (nI i) (nI j) d = some (-2, h) := by rw [gX, l, if_neg (by decide)]
        refine mkS (S' := S) (Ms' := Ms) R eX (fX5_joins _ _ _ _ _ _ eX) (by decide) (by decide) X R.1 (fun hM => ?_) (fun q e => fX6_joins h (nI s) (nI i) (nI j) d q e) (by decide) (by decide)
        obtain ⟨h2, m2, f2, e2⟩ := go hM
        exact ⟨h2, by show sX6_joins h (nI s) (nI i) (nI j) d = _; rw [e2, l, if_pos (by decide)], m2⟩
      · have l1 : (Ms s).length < 24 := by have := v.1; omega
        have l2 : nI (Ms s).length < (24 : Int32) := by show _ < nI 24; rw [lt_n (by omega) (by omega)]; exact l1
        have l3 : ¬ nI (Ms s).length = (24 : Int32) := by show ¬ _ = nI 24; rw [eq_n (by omega) (by omega)]; exact l
        rw [if_pos l2] at gX
        by_cases q : d ≤ rs S s (Ms s) i ∧ d ≤ rs S s (Ms s) j
        · obtain ⟨q1, q2⟩ := q
          have q1' : ¬ rs S s (Ms s) i < d := by grind
          have z1 : d.toInt ≤ (rs S s (Ms s) i).toInt := le_tI.mp q1
          have z2 : d.toInt ≤ (rs S s (Ms s) j).toInt := le_tI.mp q2
          obtain ⟨ua, ua0, ua1, ua2⟩ := v.us ok hi' (Nat.le_refl _)
          obtain ⟨ub, ub0, ub1, ub2⟩ := v.us ok hj (Nat.le_refl _)
          have va := us_ad ok v hi' d1' z1
          have vb := us_ad ok v hj d1' z2
          rw [if_neg q1', if_pos q2, bd_t (S_isWide hr ok hD hp (by omega) (by omega))] at gX
          dsimp only at gX
          rw [ui, uj] at gX
          have hls : ∀ t, t < 2 → (Ms t).length ≤ 24 := fun t ht' => (R.1.2.1 t ht').1
          have lv := lv_mh v hp d
          have sl : (Ms s ++ [(i, j, d)]).length ≤ 25 := by rw [sn_len]; omega
          have sk : (Ms s).length < (Ms s ++ [(i, j, d)]).length := by rw [sn_len]; omega
          have k0 := kp_0 ok v hp d
          have k1 := kp_1 ok v hp d1' z1 z2
          by_cases w1 : leI S i j ≤ wI S s i j (us (Ms s) (Ms s).length i).toInt (us (Ms s) (Ms s).length j).toInt
          · have y1 : ¬ kp S s i j (us (Ms s) (Ms s).length i).toInt (us (Ms s) (Ms s).length j).toInt = 0 := by rw [kp1_iff]; exact fun q => q w1
            rw [if_neg y1, bd_t (S_isWide hr ok hD hp va.2 vb.2)] at gX
            dsimp only at gX
            by_cases w2 : leI S i j ≤ wI S s i j (us (Ms s) (Ms s).length i + d).toInt (us (Ms s) (Ms s).length j + d).toInt
            · have y2 : ¬ kp S s i j (us (Ms s) (Ms s).length i + d).toInt (us (Ms s) (Ms s).length j + d).toInt = 0 := by rw [kp1_iff]; exact fun q => q w2
              have v' : VM S s (Ms s ++ [(i, j, d)]) := VM_snoc ok v l1 hp d1' z1 z2 (by rw [← ua, ← ub]; exact w1) (by rw [← va.1, ← vb.1]; exact w2)
              obtain ⟨h1, e1, x1⟩ := S_add hr hn hX l1 hi' hj (Pr_ne hp) d
              have F := fX2_add _ _ _ _ _ _ e1
              have r1 := X.up hs F wX2_add_ok (by decide) x1
              have x1' := r1.1.2.2.2 s hs
              rw [upM_s] at x1'
              obtain ⟨h2, e2, r2⟩ := r1.tell2 (rs S s (Ms s ++ [(i, j, d)]) i).toInt64 (rs S s (Ms s ++ [(i, j, d)]) j).toInt64
              have x2' := (r2.1.2.2.2 s hs).2.1
              rw [upM_s, sn_len] at x2'
              have eX : sX5_joins h (nI s) (nI i) (nI j) d = some (nI (Ms s).length, h2) := by
                rw [gX, if_neg y2, bd_t e1, bd_t (S_rest hr hn x1'.1 x1'.2 hi')]
                dsimp only
                rw [bd_t (S_rest hr hn x1'.1 x1'.2 hj)]
                dsimp only
                rw [bd_t e2, x2', nI_m1 (by omega)]
                simp
              refine mkS (S' := S) (Ms' := upM Ms s (Ms s ++ [(i, j, d)])) R eX (fX5_joins _ _ _ _ _ _ eX) (by decide) (by decide) r2 (upM_inv R.1 v' (by simp)) (fun hM => ?_) (fun q e => fX6_joins h2 (nI s) (nI i) (nI j) d q e) (by decide) (by decide)
              obtain ⟨g2, m2, f2, o2⟩ := go hM
              obtain ⟨g3, o3, m3, k3⟩ := M_lays hs m2 hls i j d
              have f3 := FD.fr f2 (fX6_laysMatch _ _ _ _ _ _ o3) (by decide) (by decide)
              have m4 := M_cnt hs m3 k3
              have C4 : Fr [(67, none)] [] g3 (u1 g3 67 s (nI (Ms s ++ [(i, j, d)]).length)) := Fr.w1 Fr.rf rfl (by simp)
              have f4 := FD.fr f3 C4 (by decide) (by decide)
              obtain ⟨m5, F5⟩ := m4.row0
              have f5 := FD.fr f4 F5 (by decide) (by decide)
              obtain ⟨g6, o6, m6, F6⟩ := m5.ent (by simp) (rs S s (Ms s ++ [(i, j, d)]) i).toInt64
              have f6 := FD.fr f5 F6 (by decide) (by decide)
              obtain ⟨g7, o7, m7, F7⟩ := m6.ent (by simp) (rs S s (Ms s ++ [(i, j, d)]) j).toInt64
              have n5 := m5.1.2 s hs
              have n6 := m6.1.2 s hs
              rw [upM_s] at n5 n6
              refine ⟨g7, ?_, m7⟩
              show sX6_joins h2 (nI s) (nI i) (nI j) d = _
              rw [o2, if_neg l3, if_neg q1', if_pos q2, nm_t rfl, bd_t o3, bd_t (M_keeps ok f3 hs k3 sl lv sk 0), k0]
              dsimp only
              rw [if_neg y1, bd_t (M_keeps ok f3 hs k3 sl lv sk 1), k1]
              dsimp only
              rw [if_neg y2, (m3.1.2 s hs).1, nI_1, ← sn_len (M := Ms s) (a := i) (b := j) (v := d), nm_t rfl, nm_t rfl, bd_t (M_rest ok hs f5 n5 v'.1 (v'.lt ok) hi')]
              dsimp only
              rw [bd_t o6, bd_t (M_rest ok hs f6 n6 v'.1 (v'.lt ok) hj)]
              dsimp only
              rw [bd_t o7]
            · have y2 : kp S s i j (us (Ms s) (Ms s).length i + d).toInt (us (Ms s) (Ms s).length j + d).toInt = 0 := kp1_iff.mpr w2
              have eX : sX5_joins h (nI s) (nI i) (nI j) d = some (-5, h) := by rw [gX, if_pos y2]
              refine mkS (S' := S) (Ms' := Ms) R eX (fX5_joins _ _ _ _ _ _ eX) (by decide) (by decide) X R.1 (fun hM => ?_) (fun q e => fX6_joins h (nI s) (nI i) (nI j) d q e) (by decide) (by decide)
              obtain ⟨h2, m2, f2, e2⟩ := go hM
              obtain ⟨h3, e3, m3, k3⟩ := M_lays hs m2 hls i j d
              have f3 := FD.fr f2 (fX6_laysMatch _ _ _ _ _ _ e3) (by decide) (by decide)
              refine ⟨h3, ?_, m3⟩
              show sX6_joins h (nI s) (nI i) (nI j) d = _
              rw [e2, if_neg l3, if_neg q1', if_pos q2, nm_t rfl, bd_t e3, bd_t (M_keeps ok f3 hs k3 sl lv sk 0), k0]
              dsimp only
              rw [if_neg y1, bd_t (M_keeps ok f3 hs k3 sl lv sk 1), k1]
              dsimp only
              rw [if_pos y2]
          · have y1 : kp S s i j (us (Ms s) (Ms s).length i).toInt (us (Ms s) (Ms s).length j).toInt = 0 := kp1_iff.mpr w1
            have eX : sX5_joins h (nI s) (nI i) (nI j) d = some (-4, h) := by rw [gX, if_pos y1]
            refine mkS (S' := S) (Ms' := Ms) R eX (fX5_joins _ _ _ _ _ _ eX) (by decide) (by decide) X R.1 (fun hM => ?_) (fun q e => fX6_joins h (nI s) (nI i) (nI j) d q e) (by decide) (by decide)
            obtain ⟨h2, m2, f2, e2⟩ := go hM
            obtain ⟨h3, e3, m3, k3⟩ := M_lays hs m2 hls i j d
            have f3 := FD.fr f2 (fX6_laysMatch _ _ _ _ _ _ e3) (by decide) (by decide)
            refine ⟨h3, ?_, m3⟩
            show sX6_joins h (nI s) (nI i) (nI j) d = _
            rw [e2, if_neg l3, if_neg q1', if_pos q2, nm_t rfl, bd_t e3, bd_t (M_keeps ok f3 hs k3 sl lv sk 0), k0]
            dsimp only
            rw [if_pos y1]
        · have eX : sX5_joins h (nI s) (nI i) (nI j) d = some (-3, h) := by
            rw [gX]
            by_cases q1 : rs S s (Ms s) i < d
            · rw [if_pos q1]; rfl
            · rw [if_neg q1, if_neg (by grind)]; rfl
          refine mkS (S' := S) (Ms' := Ms) R eX (fX5_joins _ _ _ _ _ _ eX) (by decide) (by decide) X R.1 (fun hM => ?_) (fun q e => fX6_joins h (nI s) (nI i) (nI j) d q e) (by decide) (by decide)
          obtain ⟨h2, m2, f2, e2⟩ := go hM
          refine ⟨h2, ?_, m2⟩
          show sX6_joins h (nI s) (nI i) (nI j) d = _
          rw [e2, if_neg l3]
          by_cases q1 : rs S s (Ms s) i < d
          · rw [if_pos q1]; rfl
          · rw [if_neg q1, if_neg (by grind)]; rfl
    · have eX : sX5_joins h (nI s) b c d = some (-1, h) := by
        simp only [sX5_joins, sX5_joins_c16, X_canMeet X.1 ok hs, Option.bind_some, bI_z]
        by_cases c1 : prP S s b c
        · rw [if_neg (fun q => q c1), if_neg (fun q => p ⟨c1, q⟩)]
        · rw [if_pos c1]
      refine mkS (S' := S) (Ms' := Ms) R eX (fX5_joins _ _ _ _ _ _ eX) (by decide) (by decide) X R.1 (fun hM => ?_) (fun q e => fX6_joins h (nI s) b c d q e) (by decide) (by decide)
      obtain ⟨m1, t1⟩ := hM.thr 0
      obtain ⟨h2, e2, m2, f2⟩ := m1.finds ok
      refine ⟨h2, ?_, m2⟩
      simp only [sX6_joins, sX6_joins_c25, nm, e2, Option.bind_some, M_areThere f2 ok hs, bI_z]
      by_cases c1 : prP S s b c
      · rw [if_neg (fun q => q c1), if_neg (fun q => p ⟨c1, q⟩)]
      · rw [if_pos c1]
  · have eX : sX5_joins h a b c d = some (-1, h) := by simp only [sX5_joins, sX5_joins_c16, X_canMeet0 c0, Option.bind_some, if_true]
    refine mkS (S' := S) (Ms' := Ms) R eX (fX5_joins _ _ _ _ _ _ eX) (by decide) (by decide) X R.1 (fun hM => ?_) (fun q e => fX6_joins h a b c d q e) (by decide) (by decide)
    obtain ⟨m1, t1⟩ := hM.thr 0
    obtain ⟨h2, e2, m2, f2⟩ := m1.finds ok
    exact ⟨h2, by simp only [sX6_joins, sX6_joins_c25, nm, e2, Option.bind_some, M_areThere0 c0, if_true], m2⟩
end O9
