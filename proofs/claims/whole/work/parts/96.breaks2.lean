/-! breaks: the call -/
section O44
variable {h : Hp} {S : SS} {Ms : Nat → Mt} {tx : List Int32} {row : List Int64} {s : Nat} {M : Mt} {i d : Nat} {g : Nat → Nat}
theorem bad_0 : ¬ bad M g (ml M (g 0)) 0 := by
  intro z
  apply z
  have e : wd M g (ml M (g 0)) 0 (g 0) + dlt (ml M (g 0)) 0 = 0 := by
    show ml M (g 0) + -ml M (g 0) = 0
    exact Int32.add_right_neg _
  rw [e]
  decide
/-- the reference, its ring found: up to the first that lacks, or all round -/
theorem M_brk (ok : OK S) (hs : s < 2) (hl : (Ms s).length ≤ 24) (hls : ∀ t, t < 2 → (Ms t).length ≤ 24) (hM : RM h S Ms tx row) (hd : d + 1 ≤ 10) (hg : ∀ j, j ≤ d → h.1 74 j = nI (g j)) (hgl : ∀ j, j ≤ d → g j < (Ms s).length) {N : Nat} (hN : N ≤ d + 1) (hb' : ∀ u, u < N → ¬ bad (Ms s) g (ml (Ms s) (g 0)) u) : ∃ h' m, ((sX6_finds h).bind fun q4 => (sX6_saves q4 (nI s)).bind fun q5 => (sX6_place q5 (nI s) (nI (g 0))).bind fun q6 => gd (inb q6.1 50) (nm ((q6.2.1 70 q6.1.toNatClampNeg)) fun x8 => sX6_breaks_b54 FU q6.2 (nI s) (nI (d + 1)) x8 (0 : Int32))) = sX6_breaks_b54 (m + 1) h' (nI s) (nI (d + 1)) (ml (Ms s) (g 0)) (nI N) ∧ MQS h' S ∧ FD h' S ∧ SV h' (Ms s) ∧ MMo h' s Ms ∧ TM h' tx ∧ WMr h' row ∧ h'.1 67 s = nI (Ms s).length ∧ (∀ k, k < (Ms s).length → h'.1 68 (25 * s + k) = nI (mh (Ms s) k) ∧ h'.1 69 (25 * s + k) = nI (mc (Ms s) k) ∧ h'.1 70 (25 * s + k) = wd (Ms s) g (ml (Ms s) (g 0)) N k) ∧ ∀ j, j ≤ d → h'.1 74 j = nI (g j) := by
  obtain ⟨h2, o2, m2, f2⟩ := hM.finds ok
  have G2 := fX6_finds _ _ o2
  obtain ⟨h3, o3, s3⟩ := M_saves hs (m2.1.2 s hs) hl
  have F3 := fX6_saves _ _ _ o3
  have f3 := FD.fr f2 F3 (by decide) (by decide)
  have m3 : RM h3 S Ms tx row := ⟨m2.1.fr F3 (by decide), m2.2.1.fr F3 (by decide), m2.2.2.fr F3 (by decide) (by decide)⟩
  have hg3 : ∀ j, j ≤ d → h3.1 74 j = nI (g j) := fun j hj => (F3.c (by decide) j).trans ((G2.c (by decide) j).trans (hg j hj))
  have mm := m3.1.2 s hs
  have g0 := hgl 0 (by omega)
  obtain ⟨h4, m, e4, F4, ho4, w4⟩ := M_wrr (h := h3) (Ms := Ms) (v := ml (Ms s) (g 0)) hs hl hls mm (fun t ht' _ => m3.1.2 t ht') hd hg3 hgl hN hb'
  refine ⟨h4, m, ?_, MQS.fr m3.1.1 F4 (by decide), FD.fr f3 F4 (by decide) (by decide), s3.fr F4 (by decide), ho4, m3.2.1.fr F4 (by decide), m3.2.2.fr F4 (by decide) (by decide), (F4.c (by decide) s).trans mm.1, fun k hk => ?_, fun j hj => (F4.c (by decide) j).trans (hg3 j hj)⟩
  · rw [bd_t o2, bd_t o3, bd_t M_place]
    dsimp only
    rw [gd_in (show 25 * s + g 0 < 50 by omega) (show 50 ≤ 1000 by decide), cl_n (show 25 * s + g 0 ≤ 100000 by omega), (mm.2 _ g0).2.2, nm_t rfl]
    exact e4
  · obtain ⟨a1, a2, a3⟩ := mm.2 k hk
    exact ⟨(F4.c (by decide) _).trans a1, (F4.c (by decide) _).trans a2, w4 k hk⟩
theorem op_breaks (R : Rel h S Ms tx row) (a b : Int32) : Step (fun h => sX5_breaks h a b) (fun h => sX6_breaks h a b) h := by
  have ok := R.1.1
  have X := R.2.1
  have hn := ok.1
  by_cases c0 : a = 0 ∨ a = 1
  · obtain ⟨s, hs, rfl⟩ := side_cs c0
    have v0 := R.1.2.1 s hs
    have hr := ck_sd hs
    have hl := v0.1
    have hls : ∀ t, t < 2 → (Ms t).length ≤ 24 := fun t ht' => (R.1.2.1 t ht').1
    obtain ⟨hD, hX⟩ := X.1.2.2.2 s hs
    by_cases c : 0 ≤ b ∧ b < nI (Ms s).length
    · obtain ⟨k, hk, rfl⟩ := mat_cs hl c
      have c1 : ¬ bI (0 ≤ nI k ∧ nI k < nI (Ms s).length) = 0 := by rw [bI_z]; exact fun q => q c
      obtain ⟨hv, hne, hP, cs⟩ := rg_cs ok v0 hk
      have hv' := v0.lt ok
      rcases cs with hno | ⟨d, f, st, s0, hp, dn⟩
      · obtain ⟨h1, e1⟩ := S_ring0 hs hn hD hX hl hv hne hk hno
        have x1 := X.rg (r := 0) hs (fX2_findRing _ _ _ _ e1)
        have eX : sX5_breaks h (nI s) (nI k) = some (-2, h1) := by
          unfold sX5_breaks
          rw [bd_t (X_hasMatch X.1 hs _)]
          dsimp only
          rw [if_neg c1, bd_t (X_sideOf _ hs)]
          dsimp only
          rw [gd_t (isC_ok hr), bd_t e1]
          dsimp only
          rw [if_pos rfl]
        refine mkS (S' := S) (Ms' := Ms) R eX (fX5_breaks _ _ _ _ eX) (by decide) (by decide) x1 R.1 (fun hM => ?_) (fun q e => fX6_breaks h1 (nI s) (nI k) q e) (by decide) (by decide)
        obtain ⟨m1, F1⟩ := hM.thr 0
        obtain ⟨h2, o2⟩ := M_fl0 hs hl hv' hk hno (m1.1.2 s hs)
        refine ⟨h2, ?_, m1.fl (fX6_findsLoop _ _ _ _ o2)⟩
        show sX6_breaks h1 (nI s) (nI k) = _
        unfold sX6_breaks
        rw [nm_t rfl, bd_t (M_isMatch (m1.1.2 s hs) hl hs _)]
        dsimp only
        rw [if_neg c1, bd_t o2]
        dsimp only
        rw [if_pos rfl]
      · obtain ⟨h1, e1, w1, w2, w3⟩ := S_ring1 hs hn hD hX hl hv hne hk s0 hp
        have x1 : RX h1 S Ms tx row := X.rg (r := 0) hs (fX2_findRing _ _ _ _ e1)
        have hX1 := (x1.1.2.2.2 s hs).2
        have dd : dst (Ms s) k d (mc (Ms s) k) := by have := hp.2 0 (Nat.zero_le _); rw [s0] at this; exact this
        have pa := dst_par (P := fun x => hb S.2.1 S.2.2.1 x = 1) hP hk dd
        have hd2 : d % 2 = 1 := by
          have : ¬ d % 2 = 0 := fun q => (hP k hk).2 (pa.mpr q)
          omega
        have g0 : rgF k f 0 = k := if_pos rfl
        have hg1 : ∀ j, j ≤ d → h1.1 (26 + 14 * s + 12) j = nI (rgF k f j) := fun j hj => by
          unfold rgF
          by_cases z : j = 0
          · rw [if_pos z, z]; exact w2
          · rw [if_neg z]
            have := w3 (j - 1) (by omega)
            rw [show j - 1 + 1 = j by omega] at this
            exact this
        have hgl : ∀ j, j ≤ d → rgF k f j < (Ms s).length := fun j hj => (rg_on hk s0 hp hj).1
        have vb := ml_bd ok v0 hk
        have goX : ∀ q, sX2_wantRoundRing h1 (26 + 14 * s) = some q → sX5_breaks h (nI s) (nI k) = (if q.1 = (-1 : Int32) then ((sX5_takesWanted q.2 (26 + 14 * s)).bind fun q6 => if q6.1 = 0 then (sX5_breaks_c70 q6.2 (-4 : Int32)) else (sX5_breaks_c70 q6.2 (q6.2.1 (26 + 14 * s) 14))) else ((sX4_tell q.2 q.1.toInt64).bind fun q7 => some ((-3 : Int32), q7))) := by
          intro q eq
          unfold sX5_breaks
          rw [bd_t (X_hasMatch X.1 hs _)]
          dsimp only
          rw [if_neg c1, bd_t (X_sideOf _ hs)]
          dsimp only
          rw [gd_t (isC_ok hr), bd_t e1]
          dsimp only
          rw [if_neg (show ¬ (1 : Int32) = 0 by decide), bd_t eq]
        have goM : ∀ {h0 : Hp}, RM h0 S Ms tx row → ∃ h2, RM h2 S Ms tx row ∧ (∀ j, j ≤ d → h2.1 74 j = nI (rgF k f j)) ∧ sX6_breaks h0 (nI s) (nI k) = ((sX6_finds h2).bind fun q4 => (sX6_saves q4 (nI s)).bind fun q5 => (sX6_place q5 (nI s) (nI (rgF k f 0))).bind fun q6 => gd (inb q6.1 50) (nm ((q6.2.1 70 q6.1.toNatClampNeg)) fun x8 => sX6_breaks_b54 FU q6.2 (nI s) (nI (d + 1)) x8 (0 : Int32))) := by
          intro h0 hM
          obtain ⟨m1, F1⟩ := hM.thr 0
          obtain ⟨h2, o2, y1, y2⟩ := M_fl1 (P := fun x => hb S.2.1 S.2.2.1 x = 1) hs hl hv' hP hk s0 hp (m1.1.2 s hs)
          refine ⟨h2, m1.fl (fX6_findsLoop _ _ _ _ o2), fun j hj => ?_, ?_⟩
          · unfold rgF
            by_cases z : j = 0
            · rw [if_pos z, z]; exact y1
            · rw [if_neg z]
              have := y2 (j - 1) (by omega)
              rw [show j - 1 + 1 = j by omega] at this
              exact this
          · unfold sX6_breaks
            rw [nm_t rfl, bd_t (M_isMatch (m1.1.2 s hs) hl hs _)]
            dsimp only
            rw [if_neg c1, bd_t o2]
            dsimp only
            rw [if_neg (show ¬ nI (d + 1) = 0 from fun z => by have z : nI (d + 1) = nI 0 := z; rw [eq_n (by omega) (by omega)] at z; omega), g0]
        by_cases cb : ∃ j, j < d + 1 ∧ bad (Ms s) (rgF k f) (ml (Ms s) (rgF k f 0)) j
        · obtain ⟨j, j1, j2, j3⟩ := bad_ls cb
          have j0 : j ≠ 0 := fun z => bad_0 (z ▸ j2)
          obtain ⟨N, rfl⟩ : ∃ N, j = N + 1 := ⟨j - 1, by omega⟩
          obtain ⟨h2, m, e2, F2, q2⟩ := S_wrr hs hX1 hl (by omega) w1 hg1 hgl (N := N) (by omega) j3
          have st1 := S_wr1 (h := h2) (g := rgF k f) (v := ml (Ms s) (rgF k f 0)) (j := N + 1) hs hl (show d + 1 ≤ 10 by omega) ((F2.1 _ 16 (by simp) (by simp)).trans w1) (fun u hu => (F2.1 _ u (by simp) (by simp)).trans (hg1 u hu)) hgl (by omega) q2 m
          rw [if_neg j2] at st1
          have gl := hgl (N + 1) (by omega)
          have F3 : Fr [(26 + 14 * s + 11, none)] [] h1 (u1 h2 (26 + 14 * s + 11) (rgF k f (N + 1)) (wd (Ms s) (rgF k f) (ml (Ms s) (rgF k f 0)) (N + 1) (rgF k f (N + 1)) + dlt (ml (Ms s) (rgF k f 0)) (N + 1))) := Fr.w1 F2 rfl (by simp)
          have x3 := x1.w11 hs F3 (fun w q => by simp at q; subst q; dsimp only; omega) (by decide)
          obtain ⟨h4, e4, x4⟩ := x3.tell1 (nI (rgF k f (N + 1))).toInt64
          have eX : sX5_breaks h (nI s) (nI k) = some (-3, h4) := by
            rw [goX _ (e2.trans st1)]
            dsimp only
            rw [if_neg (fun z => m1_n (show rgF k f (N + 1) ≤ 100000 by omega) z.symm), bd_t e4]
          refine mkS (S' := S) (Ms' := Ms) R eX (fX5_breaks _ _ _ _ eX) (by decide) (by decide) x4 (invR R.1 (by simp)) (fun hM => ?_) (fun q e => fX6_breaks h4 (nI s) (nI k) q e) (by decide) (by decide)
          obtain ⟨y1, n1, g1, o1⟩ := goM hM
          obtain ⟨y2, m', o2, r1, r2, r3, r4, r5, r6, r7, r8, r9⟩ := M_brk ok hs hl hls n1 (show d + 1 ≤ 10 by omega) g1 hgl (N := N + 1) (by omega) j3
          have st2 := M_wr1 (h := y2) (g := rgF k f) (v := ml (Ms s) (rgF k f 0)) (j := N + 1) hs hl (show d + 1 ≤ 10 by omega) r9 hgl (by omega) (fun u hu => (r8 u hu).2.2) m'
          rw [if_neg j2] at st2
          have F4 : Fr [(70, none)] [] y2 (u1 y2 70 (25 * s + rgF k f (N + 1)) (wd (Ms s) (rgF k f) (ml (Ms s) (rgF k f 0)) (N + 1) (rgF k f (N + 1)) + dlt (ml (Ms s) (rgF k f 0)) (N + 1))) := Fr.w1 Fr.rf rfl (by simp)
          obtain ⟨y3, o3, t1, t2⟩ := M_back hs (r3.fr F4 (by decide)) (r4.w hs hls (by omega) (by omega) _) hl hls
          have F5 := fX6_comesBack _ _ _ o3
          have n3 : RM y3 S Ms tx row := by
            have := RMs_up (MQS.fr (MQS.fr r1 F4 (by decide)) F5 (by decide)) t1 t2
            rw [upM_self] at this
            exact ⟨this, (r5.fr F4 (by decide)).fr F5 (by decide), (r6.fr F4 (by decide) (by decide)).fr F5 (by decide) (by decide)⟩
          obtain ⟨n4, F6⟩ := n3.row0
          obtain ⟨y5, o5, n5, F7⟩ := n4.ent (by simp) (nI (rgF k f (N + 1))).toInt64
          refine ⟨y5, ?_, n5⟩
          have e74 : (u1 y3 54 1 0).1 74 (N + 1) = nI (rgF k f (N + 1)) := (F6.c (by decide) _).trans ((F5.c (by decide) _).trans ((F4.c (by decide) _).trans (r9 _ (by omega))))
          show sX6_breaks h4 (nI s) (nI k) = _
          rw [o1, o2, st2, bd_t o3, nm_t rfl, e74, bd_t o5]
        · have nb : ∀ u, u < d + 1 → ¬ bad (Ms s) (rgF k f) (ml (Ms s) (rgF k f 0)) u := fun u hu q => cb ⟨u, hu, q⟩
          obtain ⟨vw, w0⟩ := wd_VW (v := ml (Ms s) (rgF k f 0)) ok v0 hk hne s0 hp (by rw [g0]; exact vb) (by omega) hd2 nb
          obtain ⟨h2, m, e2, F2, q2⟩ := S_wrr hs hX1 hl (by omega) w1 hg1 hgl (N := d) (by omega) nb
          have st1 : sX2_wantRoundRing_b30 (m + 1) h2 (26 + 14 * s) (ml (Ms s) (rgF k f 0)) (nI (d + 1)) = some (-1, h2) := by
            show sX2_wantRoundRing_c30 (sX2_wantRoundRing_b30 m) h2 (26 + 14 * s) (ml (Ms s) (rgF k f 0)) (nI (d + 1)) = _
            unfold sX2_wantRoundRing_c30
            rw [(F2.1 _ 16 (by simp) (by simp)).trans w1, if_pos (by rw [le_n (by omega) (by omega)]; omega)]
          have x2 := x1.w11 hs F2 (fun w q => by simp at q; subst q; dsimp only; omega) (by decide)
          obtain ⟨h3, t1, t2⟩ := X_takes ok hs x2 v0 q2 w0 vw
          have gX := goX _ (e2.trans st1)
          dsimp only at gX
          rw [if_pos rfl] at gX
          have go : ∀ {h0 : Hp}, RM h0 S Ms tx row → ∃ h4, sX6_breaks h0 (nI s) (nI k) = ((sX6_isRight h4 (nI s)).bind fun q10 => if q10.1 = 0 then (sX6_breaks_c164 q10.2 (-4 : Int32)) else (gd (inb (nI s) 2) (sX6_breaks_c164 q10.2 (q10.2.1 67 (nI s).toNatClampNeg)))) ∧ RM h4 S (upM Ms s (cz (Ms s) (wd (Ms s) (rgF k f) (ml (Ms s) (rgF k f 0)) (d + 1)) (Ms s).length)) tx row ∧ FD h4 S ∧ SV h4 (Ms s) := by
            intro h0 hM
            obtain ⟨y1, n1, g1, o1⟩ := goM hM
            obtain ⟨y2, m', o2, r1, r2, r3, r4, r5, r6, r7, r8, r9⟩ := M_brk ok hs hl hls n1 (show d + 1 ≤ 10 by omega) g1 hgl (N := d + 1) (by omega) nb
            obtain ⟨y3, o3, m3, ho3⟩ := M_closes (h := y2) (W := wd (Ms s) (rgF k f) (ml (Ms s) (rgF k f 0)) (d + 1)) hs r7 r8 r4 hl hls
            have F5 := fX6_closesUp _ _ _ o3
            refine ⟨y3, ?_, ⟨RMs_up (MQS.fr r1 F5 (by decide)) m3 ho3, r5.fr F5 (by decide), r6.fr F5 (by decide) (by decide)⟩, FD.fr r2 F5 (by decide) (by decide), r3.fr F5 (by decide)⟩
            rw [o1, o2]
            show sX6_breaks_c54 (sX6_breaks_b54 m') y2 (nI s) (nI (d + 1)) (ml (Ms s) (rgF k f 0)) (nI (d + 1)) = _
            unfold sX6_breaks_c54
            rw [if_pos (by rw [le_n (by omega) (by omega)]; omega), bd_t o3]
          generalize hN : cz (Ms s) (wd (Ms s) (rgF k f) (ml (Ms s) (rgF k f 0)) (d + 1)) (Ms s).length = N at *
          by_cases cf : ff (pK S s N) N.length 0 = -1
          · obtain ⟨t1, t3⟩ := t1 cf
            have x2 := (t3.1.2.2.2 s hs).2.1
            rw [upM_s] at x2
            have eX : sX5_breaks h (nI s) (nI k) = some (nI N.length, h3) := by
              rw [gX, bd_t t1]
              dsimp only
              rw [if_neg (by decide), x2]
              rfl
            refine mkS (S' := S) (Ms' := upM Ms s N) R eX (fX5_breaks _ _ _ _ eX) (by decide) (by decide) t3 (upM_inv R.1 (VW_vm vw cf) R.1.2.2.2) (fun hM => ?_) (fun q e => fX6_breaks h3 (nI s) (nI k) q e) (by decide) (by decide)
            obtain ⟨h4, o4, m4, f4, s4⟩ := go hM
            obtain ⟨h5, p1, p2⟩ := M_right ok hs m4 f4 s4 vw hls
            obtain ⟨p1, p3⟩ := p1 cf
            have m5 := (p3.1.2 s hs).1
            rw [upM_s] at m5
            refine ⟨h5, ?_, p3⟩
            show sX6_breaks h3 (nI s) (nI k) = _
            rw [o4, bd_t p1]
            dsimp only
            rw [if_neg (by decide), gd_in (show s < 2 by omega) (show 2 ≤ 1000 by decide), cl_n (show s ≤ 100000 by omega), m5]
            rfl
          · obtain ⟨t2, t3⟩ := t2 cf
            have eX : sX5_breaks h (nI s) (nI k) = some (-4, h3) := by
              rw [gX, bd_t t2]
              dsimp only
              rw [if_pos rfl]
              rfl
            refine mkS (S' := S) (Ms' := Ms) R eX (fX5_breaks _ _ _ _ eX) (by decide) (by decide) t3 (invR R.1 (by simp)) (fun hM => ?_) (fun q e => fX6_breaks h3 (nI s) (nI k) q e) (by decide) (by decide)
            obtain ⟨h4, o4, m4, f4, s4⟩ := go hM
            obtain ⟨h5, p1, p2⟩ := M_right ok hs m4 f4 s4 vw hls
            obtain ⟨p2, p3⟩ := p2 cf
            refine ⟨h5, ?_, p3⟩
            show sX6_breaks h3 (nI s) (nI k) = _
            rw [o4, bd_t p2]
            dsimp only
            rw [if_pos rfl]
            rfl
    · have c1 : bI (0 ≤ b ∧ b < nI (Ms s).length) = 0 := bI_z.mpr c
      have eX : sX5_breaks h (nI s) b = some (-1, h) := by
        unfold sX5_breaks
        rw [bd_t (X_hasMatch X.1 hs _)]
        dsimp only
        rw [if_pos c1]
      refine mkS (S' := S) (Ms' := Ms) R eX (fX5_breaks _ _ _ _ eX) (by decide) (by decide) X R.1 (fun hM => ?_) (fun q e => fX6_breaks h (nI s) b q e) (by decide) (by decide)
      obtain ⟨m1, F1⟩ := hM.thr 0
      refine ⟨u1 h 54 0 0, ?_, m1⟩
      show sX6_breaks h (nI s) b = _
      unfold sX6_breaks
      rw [nm_t rfl, bd_t (M_isMatch (m1.1.2 s hs) hl hs _)]
      dsimp only
      rw [if_pos c1]
  · have eX : sX5_breaks h a b = some (-1, h) := by simp only [sX5_breaks, X_hasMatch0 c0, Option.bind_some, if_true]
    refine mkS (S' := S) (Ms' := Ms) R eX (fX5_breaks _ _ _ _ eX) (by decide) (by decide) X R.1 (fun hM => ?_) (fun q e => fX6_breaks h a b q e) (by decide) (by decide)
    obtain ⟨m1, F1⟩ := hM.thr 0
    exact ⟨u1 h 54 0 0, by simp only [sX6_breaks, nm, M_isMatch0 c0, Option.bind_some, if_true], m1⟩
end O44
