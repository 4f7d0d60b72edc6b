/-! leaves, loads -/
section O18
variable {h : Hp} {S : SS} {Ms : Nat → Mt} {tx : List Int32} {row : List Int64} {r s : Nat} {M : Mt} {W : Nat → Int32}
theorem op_leaves (R : Rel h S Ms tx row) (a b : Int32) : Step (fun h => sX5_leaves h a b) (fun h => sX6_leaves h a b) h := by
  have ok := R.1.1
  have X := R.2.1
  have hn := ok.1
  by_cases c0 : a = 0 ∨ a = 1
  · obtain ⟨s, hs, rfl⟩ := side_cs c0
    have v0 := R.1.2.1 s hs
    have hr := ck_sd hs
    have hl := v0.1
    have hls : ∀ t, t < 2 → (Ms t).length ≤ 24 := fun t ht' => (R.1.2.1 t ht').1
    by_cases c : 0 ≤ b ∧ b < nI (Ms s).length
    · obtain ⟨k, hk, rfl⟩ := mat_cs hl c
      have c1 : ¬ bI (0 ≤ nI k ∧ nI k < nI (Ms s).length) = 0 := by rw [bI_z]; exact fun q => q c
      have P := v0.2.1 k hk
      have r1 := v0.rst ok P.1.1
      have r2 := v0.rst ok P.1.2.1
      obtain ⟨vw, w0⟩ := VW_upd (v := 0) ok v0 hk (by decide) (by rw [tI0]; omega) (by rw [tI0]; omega)
      obtain ⟨h1, e1, x1, w1⟩ := X_want ok hs X v0 hk 0
      obtain ⟨h2, t1, t2⟩ := X_takes ok hs x1 v0 w1 w0 vw
      have gX : sX5_leaves h (nI s) (nI k) = ((sX5_takesWanted (u1 h1 (26 + 14 * s + 11) k 0) (26 + 14 * s)).bind fun q7 => if q7.1 = 0 then (sX5_leaves_c45 q7.2 (-4 : Int32)) else (sX5_leaves_c45 q7.2 (q7.2.1 (26 + 14 * s) 14))) := by
        unfold sX5_leaves
        rw [bd_t (X_hasMatch X.1 hs _)]
        dsimp only
        rw [if_neg c1, bd_t (X_sideOf _ hs)]
        dsimp only
        rw [gd_t (isC_ok hr), bd_t e1, gd_in (show k < 24 by omega) (show 24 ≤ 1000 by decide), cl_n (show k ≤ 100000 by omega), nm_t rfl]
      have go : ∀ {h : Hp}, RM h S Ms tx row → ∃ h4, sX6_leaves h (nI s) (nI k) = ((sX6_isRight h4 (nI s)).bind fun q9 => if q9.1 = 0 then (sX6_leaves_c60 q9.2 (-4 : Int32)) else (gd (inb (nI s) 2) (sX6_leaves_c60 q9.2 (q9.2.1 67 (nI s).toNatClampNeg)))) ∧ RM h4 S (upM Ms s (cz (Ms s) (upd (ml (Ms s)) k 0) (Ms s).length)) tx row ∧ FD h4 S ∧ SV h4 (Ms s) := by
        intro h hM
        obtain ⟨m1, F1⟩ := hM.thr 0
        obtain ⟨h2, o2, m2, f2⟩ := m1.finds ok
        have m := m2.1.2 s hs
        obtain ⟨h3, o3, s3⟩ := M_saves hs m hl
        have F3 := fX6_saves _ _ _ o3
        have f3 := FD.fr f2 F3 (by decide) (by decide)
        have m3 : RM h3 S Ms tx row := ⟨m2.1.fr F3 (by decide), m2.2.1.fr F3 (by decide), m2.2.2.fr F3 (by decide) (by decide)⟩
        have m' := m3.1.2 s hs
        have ho : MMo h3 s Ms := fun t ht' _ => m3.1.2 t ht'
        have F4 : Fr [(70, none)] [] h3 (u1 h3 70 (25 * s + k) 0) := Fr.w1 Fr.rf rfl (by simp)
        have f4 := FD.fr f3 F4 (by decide) (by decide)
        have s4 := s3.fr F4 (by decide)
        obtain ⟨h5, o5, m5, ho5⟩ := M_closes (h := u1 h3 70 (25 * s + k) 0) (W := upd (ml (Ms s)) k 0) hs ((rd1c (by decide)).trans m'.1) (fun j hj => by
          obtain ⟨d1, d2, d3⟩ := m'.2 j hj
          refine ⟨(rd1c (by decide)).trans d1, (rd1c (by decide)).trans d2, ?_⟩
          by_cases e : j = k
          · subst e; rw [upd_s]; exact rd1s
          · rw [upd_n e]; exact (rd1k (by omega)).trans d3) (ho.w hs hls (by omega) (by omega) 0) hl hls
        have F5 := fX6_closesUp _ _ _ o5
        have q4 := MQS.fr m3.1.1 F4 (by decide)
        refine ⟨h5, ?_, ⟨RMs_up (MQS.fr q4 F5 (by decide)) m5 ho5, (m3.2.1.fr F4 (by decide)).fr F5 (by decide), (m3.2.2.fr F4 (by decide) (by decide)).fr F5 (by decide) (by decide)⟩, FD.fr f4 F5 (by decide) (by decide), s4.fr F5 (by decide)⟩
        unfold sX6_leaves
        rw [nm_t rfl, bd_t (M_isMatch (m1.1.2 s hs) hl hs _)]
        dsimp only
        rw [if_neg c1, bd_t o2, bd_t o3, bd_t M_place]
        dsimp only
        rw [gd_in (show 25 * s + k < 50 by omega) (show 50 ≤ 1000 by decide), cl_n (show 25 * s + k ≤ 100000 by omega), nm_t rfl, bd_t o5]
      generalize hN : cz (Ms s) (upd (ml (Ms s)) k 0) (Ms s).length = N at *
      by_cases cf : ff (pK S s N) N.length 0 = -1
      · obtain ⟨t1, t3⟩ := t1 cf
        have x2 := (t3.1.2.2.2 s hs).2.1
        rw [upM_s] at x2
        have eX : sX5_leaves h (nI s) (nI k) = some (nI N.length, h2) := by
          rw [gX, bd_t t1]
          dsimp only
          rw [if_neg (by decide), x2]
          rfl
        refine mkS (S' := S) (Ms' := upM Ms s N) R eX (fX5_leaves _ _ _ _ eX) (by decide) (by decide) t3 (upM_inv R.1 (VW_vm vw cf) R.1.2.2.2) (fun hM => ?_) (fun q e => fX6_leaves h2 (nI s) (nI k) q e) (by decide) (by decide)
        obtain ⟨h4, o4, m4, f4, s4⟩ := go hM
        obtain ⟨h5, p1, p2⟩ := M_right ok hs m4 f4 s4 vw hls
        obtain ⟨p1, p3⟩ := p1 cf
        have m5 := (p3.1.2 s hs).1
        rw [upM_s] at m5
        refine ⟨h5, ?_, p3⟩
        show sX6_leaves h2 (nI s) (nI k) = _
        rw [o4, bd_t p1]
        dsimp only
        rw [if_neg (by decide), gd_in (show s < 2 by omega) (show 2 ≤ 1000 by decide), cl_n (show s ≤ 100000 by omega), m5]
        rfl
      · obtain ⟨t2, t3⟩ := t2 cf
        have eX : sX5_leaves h (nI s) (nI k) = some (-4, h2) := by
          rw [gX, bd_t t2]
          dsimp only
          rw [if_pos rfl]
          rfl
        refine mkS (S' := S) (Ms' := Ms) R eX (fX5_leaves _ _ _ _ eX) (by decide) (by decide) t3 (invR R.1 (by simp)) (fun hM => ?_) (fun q e => fX6_leaves h2 (nI s) (nI k) q e) (by decide) (by decide)
        obtain ⟨h4, o4, m4, f4, s4⟩ := go hM
        obtain ⟨h5, p1, p2⟩ := M_right ok hs m4 f4 s4 vw hls
        obtain ⟨p2, p3⟩ := p2 cf
        refine ⟨h5, ?_, p3⟩
        show sX6_leaves h2 (nI s) (nI k) = _
        rw [o4, bd_t p2]
        dsimp only
        rw [if_pos rfl]
        rfl
    · have c1 : bI (0 ≤ b ∧ b < nI (Ms s).length) = 0 := bI_z.mpr c
      have eX : sX5_leaves h (nI s) b = some (-1, h) := by
        unfold sX5_leaves
        rw [bd_t (X_hasMatch X.1 hs _)]
        dsimp only
        rw [if_pos c1]
      refine mkS (S' := S) (Ms' := Ms) R eX (fX5_leaves _ _ _ _ eX) (by decide) (by decide) X R.1 (fun hM => ?_) (fun q e => fX6_leaves h (nI s) b q e) (by decide) (by decide)
      obtain ⟨m1, F1⟩ := hM.thr 0
      refine ⟨u1 h 54 0 0, ?_, m1⟩
      show sX6_leaves h (nI s) b = _
      unfold sX6_leaves
      rw [nm_t rfl, bd_t (M_isMatch (m1.1.2 s hs) hl hs _)]
      dsimp only
      rw [if_pos c1]
  · have eX : sX5_leaves h a b = some (-1, h) := by simp only [sX5_leaves, X_hasMatch0 c0, Option.bind_some, if_true]
    refine mkS (S' := S) (Ms' := Ms) R eX (fX5_leaves _ _ _ _ eX) (by decide) (by decide) X R.1 (fun hM => ?_) (fun q e => fX6_leaves h a b q e) (by decide) (by decide)
    obtain ⟨m1, F1⟩ := hM.thr 0
    exact ⟨u1 h 54 0 0, by simp only [sX6_leaves, nm, M_isMatch0 c0, Option.bind_some, if_true], m1⟩
theorem op_loads (R : Rel h S Ms tx row) (a b c : Int32) : Step (fun h => sX5_loads h a b c) (fun h => sX6_loads h a b c) h := by
  have ok := R.1.1
  have X := R.2.1
  have hn := ok.1
  by_cases c0 : a = 0 ∨ a = 1
  · obtain ⟨s, hs, rfl⟩ := side_cs c0
    have v0 := R.1.2.1 s hs
    have hr := ck_sd hs
    have hl := v0.1
    have hls : ∀ t, t < 2 → (Ms t).length ≤ 24 := fun t ht' => (R.1.2.1 t ht').1
    obtain ⟨hD, hX⟩ := X.1.2.2.2 s hs
    by_cases cc : (0 ≤ b ∧ b < nI (Ms s).length) ∧ 1 ≤ c
    · obtain ⟨cb, d1⟩ := cc
      obtain ⟨k, hk, rfl⟩ := mat_cs hl cb
      have c1 : ¬ bI (0 ≤ nI k ∧ nI k < nI (Ms s).length) = 0 := by rw [bI_z]; exact fun q => q cb
      have P := v0.2.1 k hk
      have r1 := v0.rst ok P.1.1
      have r2 := v0.rst ok P.1.2.1
      have d1' : 1 ≤ c.toInt := by rw [le_tI] at d1; exact d1
      have cm := c.toInt_lt
      obtain ⟨a1, a2, a3⟩ := hX.2.1 k hk
      have hU := v0.us ok P.1.1 (show k + 1 ≤ (Ms s).length by omega)
      have mlb : (ml (Ms s) k).toInt ≤ 11200 := by
        have e : uz (Ms s) (k + 1) (mh (Ms s) k) = uz (Ms s) k (mh (Ms s) k) + (ml (Ms s) k).toInt := by
          show uz (Ms s) k (mh (Ms s) k) + (if mh (Ms s) k = mh (Ms s) k ∨ mc (Ms s) k = mh (Ms s) k then (ml (Ms s) k).toInt else 0) = _
          rw [if_pos (Or.inl rfl)]
        have := v0.us ok P.1.1 (Nat.le_of_lt hk)
        omega
      have ml1 := P.2
      -- rests
      have x1 : ∀ i, i < S.1 → ((rs S s (Ms s) i + ml (Ms s) k).toInt = (rs S s (Ms s) i).toInt + (ml (Ms s) k).toInt) := fun i hi' => by
        have := v0.rst ok hi'
        exact tI_add (by omega) (by omega)
      have x2 : (c - ml (Ms s) k).toInt = c.toInt - (ml (Ms s) k).toInt := tI_sub (by omega) (by omega)
      have gX : sX5_loads h (nI s) (nI k) c = (if ml (Ms s) k = c then (some ((-2 : Int32), h)) else (if (rs S s (Ms s) (mh (Ms s) k) + ml (Ms s) k) < c then (sX5_loads_c79 h) else (if c ≤ (rs S s (Ms s) (mc (Ms s) k) + ml (Ms s) k) then ((sX2_wantAsIs h (26 + 14 * s)).bind fun q10 => nm (u1 q10 (26 + 14 * s + 11) k c) fun h12 => (sX5_takesWanted h12 (26 + 14 * s)).bind fun q13 => if q13.1 = 0 then (sX5_loads_c111 q13.2 (-4 : Int32)) else (sX5_loads_c111 q13.2 (ml (Ms s) k))) else (sX5_loads_c79 h)))) := by
        unfold sX5_loads
        rw [bd_t (X_hasMatch X.1 hs _)]
        dsimp only
        rw [if_neg c1, if_pos d1, bd_t (X_sideOf _ hs)]
        dsimp only
        simp only [gd_t (isC_ok hr), gd_in (show k < 24 by omega) (show 24 ≤ 1000 by decide), cl_n (show k ≤ 100000 by omega), a1, a2, a3, nm_t rfl, S_rest hr hn hD hX P.1.1, S_rest hr hn hD hX P.1.2.1, Option.bind_some]
      have go : ∀ {h : Hp}, RM h S Ms tx row → (ml (Ms s) k = c → sX6_loads h (nI s) (nI k) c = some (-2, u1 h 54 0 0) ∧ RM (u1 h 54 0 0) S Ms tx row) ∧ (¬ ml (Ms s) k = c → ∃ h3, RM h3 S Ms tx row ∧ FD h3 S ∧ sX6_loads h (nI s) (nI k) c = (if rs S s (Ms s) (mh (Ms s) k) < (c - ml (Ms s) k) then (sX6_loads_c88 h3) else (if (c - ml (Ms s) k) ≤ rs S s (Ms s) (mc (Ms s) k) then ((sX6_saves h3 (nI s)).bind fun q11 => (nm (u1 q11 70 (25 * s + k) c) fun h13 => (sX6_isRight h13 (nI s)).bind fun q14 => if q14.1 = 0 then (sX6_loads_c119 q14.2 (-4 : Int32)) else (sX6_loads_c119 q14.2 (ml (Ms s) k)))) else (sX6_loads_c88 h3)))) := by
        intro h hM
        obtain ⟨m1, F1⟩ := hM.thr 0
        have m := m1.1.2 s hs
        obtain ⟨g1, g2', g3⟩ := m.2 k hk
        constructor
        · intro e
          refine ⟨?_, m1⟩
          unfold sX6_loads
          rw [nm_t rfl, bd_t (M_isMatch m hl hs _)]
          dsimp only
          rw [if_neg c1, if_pos d1, bd_t M_place]
          dsimp only
          rw [gd_in (show 25 * s + k < 50 by omega) (show 50 ≤ 1000 by decide), cl_n (show 25 * s + k ≤ 100000 by omega), g3, nm_t rfl, if_pos e]
        · intro e
          obtain ⟨h2, o2, m2, f2⟩ := m1.finds ok
          have m' := m2.1.2 s hs
          obtain ⟨j1, j2, j3⟩ := m'.2 k hk
          refine ⟨h2, m2, f2, ?_⟩
          unfold sX6_loads
          rw [nm_t rfl, bd_t (M_isMatch m hl hs _)]
          dsimp only
          rw [if_neg c1, if_pos d1, bd_t M_place]
          dsimp only
          rw [gd_in (show 25 * s + k < 50 by omega) (show 50 ≤ 1000 by decide), cl_n (show 25 * s + k ≤ 100000 by omega), g3, nm_t rfl, if_neg e, bd_t o2]
          simp only [gd_in (show 25 * s + k < 50 by omega) (show 50 ≤ 1000 by decide), j1, j2, M_rest ok hs f2 m' hl (v0.lt ok) P.1.1, M_rest ok hs f2 m' hl (v0.lt ok) P.1.2.1, Option.bind_some]
      by_cases e : ml (Ms s) k = c
      · have eX : sX5_loads h (nI s) (nI k) c = some (-2, h) := by rw [gX, if_pos e]
        refine mkS (S' := S) (Ms' := Ms) R eX (fX5_loads _ _ _ _ _ eX) (by decide) (by decide) X R.1 (fun hM => ?_) (fun q e => fX6_loads h (nI s) (nI k) c q e) (by decide) (by decide)
        exact ⟨_, (go hM).1 e⟩
      · rw [if_neg e] at gX
        have ri := x1 _ P.1.1
        have rj := x1 _ P.1.2.1
        by_cases q : c.toInt - (ml (Ms s) k).toInt ≤ (rs S s (Ms s) (mh (Ms s) k)).toInt ∧ c.toInt - (ml (Ms s) k).toInt ≤ (rs S s (Ms s) (mc (Ms s) k)).toInt
        · obtain ⟨q1, q2⟩ := q
          rw [if_neg (by rw [lt_tI, ri]; omega), if_pos (by rw [le_tI, rj]; omega)] at gX
          obtain ⟨vw, w0⟩ := VW_upd (v := c) ok v0 hk (by omega) q1 q2
          obtain ⟨h1, e1, y1, w1⟩ := X_want ok hs X v0 hk c
          obtain ⟨h2, t1, t2⟩ := X_takes ok hs y1 v0 w1 w0 vw
          rw [bd_t e1, nm_t rfl] at gX
          have cf0 : ∀ j, j < (Ms s).length → ¬ upd (ml (Ms s)) k c j = 0 := by
            intro j hj z
            have zz := congrArg Int32.toInt z
            rw [tI0] at zz
            by_cases ee : j = k
            · subst ee; rw [upd_s] at zz; omega
            · rw [upd_n ee] at zz; have := (v0.2.1 j hj).2; omega
          obtain ⟨fl, fa⟩ := cz_full (M := Ms s) (W := upd (ml (Ms s)) k c) cf0
          have go2 : ∀ {h : Hp}, RM h S Ms tx row → ∃ h4, sX6_loads h (nI s) (nI k) c = ((sX6_isRight h4 (nI s)).bind fun q14 => if q14.1 = 0 then (sX6_loads_c119 q14.2 (-4 : Int32)) else (sX6_loads_c119 q14.2 (ml (Ms s) k))) ∧ RM h4 S (upM Ms s (cz (Ms s) (upd (ml (Ms s)) k c) (Ms s).length)) tx row ∧ FD h4 S ∧ SV h4 (Ms s) := by
            intro h hM
            obtain ⟨h2, m2, f2, o2⟩ := (go hM).2 e
            rw [if_neg (by rw [lt_tI, x2]; omega), if_pos (by rw [le_tI, x2]; omega)] at o2
            have m := m2.1.2 s hs
            obtain ⟨h3, o3, s3⟩ := M_saves hs m hl
            have F3 := fX6_saves _ _ _ o3
            have f3 := FD.fr f2 F3 (by decide) (by decide)
            have m3 : RM h3 S Ms tx row := ⟨m2.1.fr F3 (by decide), m2.2.1.fr F3 (by decide), m2.2.2.fr F3 (by decide) (by decide)⟩
            have m' := m3.1.2 s hs
            have ho : MMo h3 s Ms := fun t ht' _ => m3.1.2 t ht'
            have F4 : Fr [(70, none)] [] h3 (u1 h3 70 (25 * s + k) c) := Fr.w1 Fr.rf rfl (by simp)
            refine ⟨u1 h3 70 (25 * s + k) c, by rw [o2, bd_t o3, nm_t rfl], ⟨RMs_up (MQS.fr m3.1.1 F4 (by decide)) ⟨?_, fun j hj => ?_⟩ (ho.w hs hls (by omega) (by omega) c), m3.2.1.fr F4 (by decide), m3.2.2.fr F4 (by decide) (by decide)⟩, FD.fr f3 F4 (by decide) (by decide), s3.fr F4 (by decide)⟩
            · rw [fl]; exact (rd1c (by decide)).trans m'.1
            · rw [fl] at hj
              obtain ⟨y1, y2, y3⟩ := fa j hj
              rw [y1, y2, y3]
              obtain ⟨d1, d2, d3⟩ := m'.2 j hj
              refine ⟨(rd1c (by decide)).trans d1, (rd1c (by decide)).trans d2, ?_⟩
              by_cases ee : j = k
              · subst ee; rw [upd_s]; exact rd1s
              · rw [upd_n ee]; exact (rd1k (by omega)).trans d3
          generalize hN : cz (Ms s) (upd (ml (Ms s)) k c) (Ms s).length = N at *
          by_cases cf : ff (pK S s N) N.length 0 = -1
          · obtain ⟨t1, t3⟩ := t1 cf
            have eX : sX5_loads h (nI s) (nI k) c = some (ml (Ms s) k, h2) := by
              rw [gX, bd_t t1]
              dsimp only
              rw [if_neg (by decide)]
              rfl
            refine mkS (S' := S) (Ms' := upM Ms s N) R eX (fX5_loads _ _ _ _ _ eX) (by decide) (by decide) t3 (upM_inv R.1 (VW_vm vw cf) R.1.2.2.2) (fun hM => ?_) (fun q e => fX6_loads h2 (nI s) (nI k) c q e) (by decide) (by decide)
            obtain ⟨h4, o4, m4, f4, s4⟩ := go2 hM
            obtain ⟨h5, p1, p2⟩ := M_right ok hs m4 f4 s4 vw hls
            obtain ⟨p1, p3⟩ := p1 cf
            refine ⟨h5, ?_, p3⟩
            show sX6_loads h2 (nI s) (nI k) c = _
            rw [o4, bd_t p1]
            dsimp only
            rw [if_neg (by decide)]
            rfl
          · obtain ⟨t2, t3⟩ := t2 cf
            have eX : sX5_loads h (nI s) (nI k) c = some (-4, h2) := by
              rw [gX, bd_t t2]
              dsimp only
              rw [if_pos rfl]
              rfl
            refine mkS (S' := S) (Ms' := Ms) R eX (fX5_loads _ _ _ _ _ eX) (by decide) (by decide) t3 (invR R.1 (by simp)) (fun hM => ?_) (fun q e => fX6_loads h2 (nI s) (nI k) c q e) (by decide) (by decide)
            obtain ⟨h4, o4, m4, f4, s4⟩ := go2 hM
            obtain ⟨h5, p1, p2⟩ := M_right ok hs m4 f4 s4 vw hls
            obtain ⟨p2, p3⟩ := p2 cf
            refine ⟨h5, ?_, p3⟩
            show sX6_loads h2 (nI s) (nI k) c = _
            rw [o4, bd_t p2]
            dsimp only
            rw [if_pos rfl]
            rfl
        · have eX : sX5_loads h (nI s) (nI k) c = some (-3, h) := by
            rw [gX]
            by_cases q1 : (rs S s (Ms s) (mh (Ms s) k) + ml (Ms s) k) < c
            · rw [if_pos q1]; rfl
            · rw [lt_tI, ri] at q1
              rw [if_neg (by rw [lt_tI, ri]; exact q1), if_neg (by rw [le_tI, rj]; omega)]; rfl
          refine mkS (S' := S) (Ms' := Ms) R eX (fX5_loads _ _ _ _ _ eX) (by decide) (by decide) X R.1 (fun hM => ?_) (fun q e => fX6_loads h (nI s) (nI k) c q e) (by decide) (by decide)
          obtain ⟨h2, m2, f2, o2⟩ := (go hM).2 e
          refine ⟨h2, ?_, m2⟩
          show sX6_loads h (nI s) (nI k) c = _
          rw [o2]
          by_cases q1 : rs S s (Ms s) (mh (Ms s) k) < (c - ml (Ms s) k)
          · rw [if_pos q1]; rfl
          · rw [lt_tI, x2] at q1
            rw [if_neg (by rw [lt_tI, x2]; exact q1), if_neg (by rw [le_tI, x2]; omega)]; rfl
    · have eX : sX5_loads h (nI s) b c = some (-1, h) := by
        unfold sX5_loads sX5_loads_c14
        rw [bd_t (X_hasMatch X.1 hs _)]
        dsimp only
        by_cases c1 : 0 ≤ b ∧ b < nI (Ms s).length
        · rw [if_neg (by rw [bI_z]; exact fun q => q c1), if_neg (fun q => cc ⟨c1, q⟩)]
        · rw [if_pos (bI_z.mpr c1)]
      refine mkS (S' := S) (Ms' := Ms) R eX (fX5_loads _ _ _ _ _ eX) (by decide) (by decide) X R.1 (fun hM => ?_) (fun q e => fX6_loads h (nI s) b c q e) (by decide) (by decide)
      obtain ⟨m1, F1⟩ := hM.thr 0
      refine ⟨u1 h 54 0 0, ?_, m1⟩
      show sX6_loads h (nI s) b c = _
      unfold sX6_loads sX6_loads_c19
      rw [nm_t rfl, bd_t (M_isMatch (m1.1.2 s hs) hl hs _)]
      dsimp only
      by_cases c1 : 0 ≤ b ∧ b < nI (Ms s).length
      · rw [if_neg (by rw [bI_z]; exact fun q => q c1), if_neg (fun q => cc ⟨c1, q⟩)]
      · rw [if_pos (bI_z.mpr c1)]
  · have eX : sX5_loads h a b c = some (-1, h) := by simp only [sX5_loads, sX5_loads_c14, X_hasMatch0 c0, Option.bind_some, if_true]
    refine mkS (S' := S) (Ms' := Ms) R eX (fX5_loads _ _ _ _ _ eX) (by decide) (by decide) X R.1 (fun hM => ?_) (fun q e => fX6_loads h a b c q e) (by decide) (by decide)
    obtain ⟨m1, F1⟩ := hM.thr 0
    exact ⟨u1 h 54 0 0, by simp only [sX6_loads, sX6_loads_c19, nm, M_isMatch0 c0, Option.bind_some, if_true], m1⟩
end O18
