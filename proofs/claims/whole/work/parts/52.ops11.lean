/-! ticks, the reference and both -/
section O11
variable {h : Hp} {S : SS} {Ms : Nat → Mt} {tx : List Int32} {row : List Int64} {r s : Nat}
theorem M_g2 {M : Mt} (ok : OK S) (hF : FD h S) (hs : s < 2) (hM : MM h s M) (v : VM S s M) {i j : Nat} (hi' : i < S.1) (hj : j < S.1) {α : Type} (f : Hp → Int32 → Option α) : ((sX6_areThere h (nI s) (nI i) (nI j)).bind fun q2 => if q2.1 = 0 then f q2.2 0 else ((sX6_mostOf q2.2 (nI s) (nI i) (nI j)).bind fun q3 => f q3.2 q3.1)) = f h (g2 S s M i j) := by
  have hn := ok.1
  rw [bd_t (M_areThere hF ok hs (nI i) (nI j))]
  dsimp only
  unfold g2
  by_cases c : PrD S s i j
  · have hp : Pr S s i j := c
    rw [if_neg (by rw [bI_z, prP_i hn hi' hj]; exact fun q => q hp), if_pos c, bd_t (M_mostOf ok hF hs hM v hp)]
  · rw [if_pos (by rw [bI_z, prP_i hn hi' hj]; exact c), if_neg c]
def fbI (S : SS) (Ms : Nat → Mt) (tx : List Int32) (row : List Int64) (q : T3) (st : Hp × Int32 × Int32) (k : Nat) : Prop := RM st.1 S Ms tx row ∧ FD st.1 S ∧ st.2.1 = q.1 ∧ st.1.1 54 28 = q.2.1 ∧ st.1.1 54 29 = q.2.2 ∧ st.2.2 = nI k
theorem M_fb (ok : OK S) (hs : s < 2) (hM : RM h S Ms tx row) (hF : FD h S) (v : VM S s (Ms s)) : ∃ h' q, bK (g2 S s (Ms s)) S.1 (bA (g2 S s (Ms s)) S.1 (0, -1, -1) S.1) q ∧ sX6_findsBest h (nI s) = some (q.1, h') ∧ RM h' S Ms tx row ∧ FD h' S ∧ h'.1 54 28 = q.2.1 ∧ h'.1 54 29 = q.2.2 := by
  have hn := ok.1
  have k0 : bK (g2 S s (Ms s)) S.1 (0, -1, -1) (0, h.1 54 28, h.1 54 29) := Or.inl ⟨rfl, rfl⟩
  generalize hq0 : ((0 : Int32), h.1 54 28, h.1 54 29) = q0 at *
  have L := loopS (fun n (st : Hp × Int32 × Int32) => sX6_findsBest_b4 n st.1 (nI s) st.2.1 st.2.2) (fun i st => fbI S Ms tx row (bA (g2 S s (Ms s)) S.1 q0 i) st i) S.1 (fun m i st hi' I => by
    obtain ⟨a1, a2, a3, a4, a5, a6⟩ := I
    have hle : ¬ nI S.1 ≤ nI i := by rw [le_n (by omega) (by omega)]; omega
    have L2 := loopS (fun n (st : Hp × Int32 × Int32) => sX6_findsBest_b15 (sX6_findsBest_b4 m) n st.1 (nI s) st.2.1 (nI i) st.2.2) (fun j st => fbI S Ms tx row (bR (g2 S s (Ms s) i) i j (bA (g2 S s (Ms s)) S.1 q0 i)) st j) S.1 (fun m' j st hj I => by
      obtain ⟨b1, b2, b3, b4, b5, b6⟩ := I
      have hle : ¬ nI S.1 ≤ nI j := by rw [le_n (by omega) (by omega)]; omega
      generalize hq : bR (g2 S s (Ms s) i) i j (bA (g2 S s (Ms s)) S.1 q0 i) = q at *
      have f := M_g2 ok b2 hs (b1.1.2 s hs) v hi' hj (fun k t => sX6_findsBest_c47 (sX6_findsBest_b4 m) (sX6_findsBest_b15 (sX6_findsBest_b4 m) m') k (nI s) q.1 (nI i) (nI j) t)
      have e0 : sX6_findsBest_b15 (sX6_findsBest_b4 m) (m' + 1) st.1 (nI s) st.2.1 (nI i) st.2.2 = sX6_findsBest_c47 (sX6_findsBest_b4 m) (sX6_findsBest_b15 (sX6_findsBest_b4 m) m') st.1 (nI s) q.1 (nI i) (nI j) (g2 S s (Ms s) i j) := by
        show sX6_findsBest_c15 (sX6_findsBest_b4 m) (sX6_findsBest_b15 (sX6_findsBest_b4 m) m') st.1 (nI s) st.2.1 (nI i) st.2.2 = _
        unfold sX6_findsBest_c15
        rw [b1.1.1.1, b6, b3, if_neg hle]
        exact f
      by_cases c : g2 S s (Ms s) i j ≤ q.1
      · refine ⟨(st.1, q.1, nI (j + 1)), ⟨b1, b2, ?_, ?_, ?_, rfl⟩, ?_⟩
        · unfold bR; rw [hq, if_pos c]
        · unfold bR; rw [hq, if_pos c]; exact b4
        · unfold bR; rw [hq, if_pos c]; exact b5
        · refine e0.trans ?_
          unfold sX6_findsBest_c47 sX6_findsBest_c69
          rw [if_pos c]
          simp only [nm, nI_1]
      · have F : Fr [(54, some 28), (54, some 29)] [] st.1 (u1 (u1 st.1 54 28 (nI i)) 54 29 (nI j)) := Fr.w1 (Fr.w1 Fr.rf rfl (by simp)) rfl (by simp)
        refine ⟨(u1 (u1 st.1 54 28 (nI i)) 54 29 (nI j), g2 S s (Ms s) i j, nI (j + 1)), ⟨⟨b1.1.fr F (by decide), b1.2.1.fr F (by decide), b1.2.2.fr F (by decide) (by decide)⟩, FD.fr b2 F (by decide) (by decide), ?_, ?_, ?_, rfl⟩, ?_⟩
        · unfold bR; rw [hq, if_neg c]
        · unfold bR; rw [hq, if_neg c]; exact (rd1k (by decide)).trans rd1s
        · unfold bR; rw [hq, if_neg c]; exact rd1s
        · refine e0.trans ?_
          unfold sX6_findsBest_c47 sX6_findsBest_c69
          rw [if_neg c]
          simp only [nm, nI_1]) S.1 0 FU (st.1, st.2.1, nI 0) ⟨a1, a2, a3, a4, a5, rfl⟩ (by omega) (show S.1 < 1000 by omega)
    obtain ⟨st', m', ⟨b1, b2, b3, b4, b5, b6⟩, e⟩ := L2
    refine ⟨(st'.1, st'.2.1, nI (i + 1)), ⟨b1, b2, b3, b4, b5, rfl⟩, ?_⟩
    show sX6_findsBest_c4 (sX6_findsBest_b4 m) st.1 (nI s) st.2.1 st.2.2 = _
    unfold sX6_findsBest_c4
    rw [a1.1.1.1, a6, if_neg hle]
    refine Eq.trans e ?_
    show sX6_findsBest_c15 (sX6_findsBest_b4 m) (sX6_findsBest_b15 (sX6_findsBest_b4 m) m') st'.1 (nI s) st'.2.1 (nI i) st'.2.2 = _
    unfold sX6_findsBest_c15
    rw [b1.1.1.1, b6, if_pos (by rw [le_n (by omega) (by omega)]; omega)]
    simp only [nm, nI_1]) S.1 0 FU (h, 0, nI 0) ⟨hM, hF, by subst hq0; rfl, by subst hq0; rfl, by subst hq0; rfl, rfl⟩ (by omega) (show S.1 < 1000 by omega)
  obtain ⟨st', m', ⟨b1, b2, b3, b4, b5, b6⟩, e⟩ := L
  refine ⟨st'.1, _, bA_k k0 (Nat.le_refl _), ?_, b1, b2, b4, b5⟩
  unfold sX6_findsBest
  refine Eq.trans e ?_
  show sX6_findsBest_c4 (sX6_findsBest_b4 m') st'.1 (nI s) st'.2.1 st'.2.2 = _
  unfold sX6_findsBest_c4
  rw [b1.1.1.1, b6, if_pos (by rw [le_n (by omega) (by omega)]; omega), b3]
theorem upM_upM {M M' : Mt} : upM (upM Ms s M) s M' = upM Ms s M' := by
  funext t
  unfold upM
  split
  · rfl
  · rfl
theorem upM_self : upM Ms s (Ms s) = Ms := by
  funext t
  unfold upM
  split
  · next e => rw [e]
  · rfl
/-- both go the same way from a state with matches M -/
theorem tick_go (ok : OK S) (hs : s < 2) (hl : ∀ t, t < 2 → (Ms t).length ≤ 24) : ∀ (d : Nat) (M : Mt), M.length + d = 24 → VM S s M → ∃ M', VM S s M' ∧ M.length ≤ M'.length ∧ (∀ n h v3, d < n → RX h S (upM Ms s M) tx row → ∃ h', sX5_ticks_b23 n h (26 + 14 * s) v3 (nI M.length) = sX5_ticks_c46 h' (26 + 14 * s) v3 ∧ RX h' S (upM Ms s M') tx row) ∧ (∀ n h k q, d < n → RM h S (upM Ms s M) tx row → FD h S → bK (g2 S s M) S.1 (bA (g2 S s M) S.1 (0, -1, -1) S.1) q → h.1 54 28 = q.2.1 → h.1 54 29 = q.2.2 → ∃ h', sX6_ticks_b26 n h (nI s) (nI k) q.1 = sX6_ticks_c77 h' (nI s) (nI (k + (M'.length - M.length))) ∧ RM h' S (upM Ms s M') tx row ∧ FD h' S) := by
  have hn := ok.1
  have hr := ck_sd hs
  intro d
  induction d with
  | zero =>
    intro M hM v
    refine ⟨M, v, Nat.le_refl _, fun n h v3 hn' X => ?_, fun n h k q hn' X F K e1 e2 => ?_⟩
    · obtain ⟨m, rfl⟩ : ∃ m, n = m + 1 := ⟨n - 1, by omega⟩
      refine ⟨h, ?_, X⟩
      show sX5_ticks_c23 (sX5_ticks_b23 m) h (26 + 14 * s) v3 (nI M.length) = _
      unfold sX5_ticks_c23
      rw [show M.length = 24 by omega, if_pos (by decide)]
    · obtain ⟨m, rfl⟩ : ∃ m, n = m + 1 := ⟨n - 1, by omega⟩
      refine ⟨h, ?_, X, F⟩
      show sX6_ticks_c26 (sX6_ticks_b26 m) h (nI s) (nI k) q.1 = _
      unfold sX6_ticks_c26
      have x1 := (X.1.2 s hs).1
      rw [upM_s, show M.length = 24 by omega] at x1
      rw [Nat.sub_self, Nat.add_zero]
      by_cases c : q.1 ≤ 0
      · rw [if_pos c]
      · rw [if_neg c, gd_in (show s < 2 by omega) (show 2 ≤ 1000 by decide), cl_n (show s ≤ 100000 by omega), x1, if_pos (by decide)]
  | succ d ih =>
    intro M hM v
    have l24 : ¬ (24 : Int32) ≤ nI M.length := by show ¬ nI 24 ≤ _; rw [le_n (by omega) (by omega)]; omega
    generalize hb0 : bA (g2 S s M) S.1 (0, -1, -1) S.1 = b
    have kb : bK (g2 S s M) S.1 b b := hb0 ▸ bA_k (Or.inl ⟨rfl, rfl⟩) (Nat.le_refl _)
    by_cases c : b.1 = 0
    · refine ⟨M, v, Nat.le_refl _, fun n h v3 hn' X => ?_, fun n h k q hn' X F K e1 e2 => ?_⟩
      · obtain ⟨m, rfl⟩ : ∃ m, n = m + 1 := ⟨n - 1, by omega⟩
        refine ⟨h, ?_, X⟩
        show sX5_ticks_c23 (sX5_ticks_b23 m) h (26 + 14 * s) v3 (nI M.length) = _
        have z := X.1.2.2.2 s hs
        rw [upM_s] at z
        have jg := S_jg hr ok z.1 z.2
        rw [hb0, if_pos c] at jg
        unfold sX5_ticks_c23
        rw [if_neg l24, bd_t jg]
        dsimp only
        rw [if_pos rfl]
      · obtain ⟨m, rfl⟩ : ∃ m, n = m + 1 := ⟨n - 1, by omega⟩
        refine ⟨h, ?_, X, F⟩
        show sX6_ticks_c26 (sX6_ticks_b26 m) h (nI s) (nI k) q.1 = _
        have c' : q.1 = 0 := by
          rcases K with z | ⟨z1, z2, -⟩
          · exact z.2
          · rw [← z1]; exact c
        unfold sX6_ticks_c26
        rw [Nat.sub_self, Nat.add_zero, if_pos (by rw [c']; decide)]
    · obtain ⟨-, b0, i, j, hi', hj, hb⟩ : b = b ∧ 0 < b.1 ∧ ∃ i j, i < S.1 ∧ j < S.1 ∧ b = (g2 S s M i j, nI i, nI j) := by
        rcases kb with z | z
        · exact absurd z.1 c
        · exact z
      have hp : Pr S s i j := by
        by_cases z : PrD S s i j
        · exact z
        · exfalso
          apply c
          rw [hb]
          exact if_neg z
      have hg : b.1 = gl S s M i j := by rw [hb]; exact if_pos (show PrD S s i j from hp)
      have hbe : b = (gl S s M i j, nI i, nI j) := by rw [← hg, hb]
      have g0 : 0 < (gl S s M i j).toInt := by rw [← hg]; rw [lt_tI, tI0] at b0; exact b0
      obtain ⟨z1, z2, z3, z4⟩ := gl_ok ok v hp g0
      have v' := VM_snoc ok v (show M.length < 24 by omega) hp (show 1 ≤ (gl S s M i j).toInt by omega) z1 z2 z3 z4
      generalize gl S s M i j = w at *
      obtain ⟨M', y1, y2, y3, y4⟩ := ih (M ++ [(i, j, w)]) (by rw [sn_len]; omega) v'
      rw [sn_len] at y2
      refine ⟨M', y1, by omega, fun n h v3 hn' X => ?_, fun n h k q hn' X F K e1 e2 => ?_⟩
      · obtain ⟨m, rfl⟩ : ∃ m, n = m + 1 := ⟨n - 1, by omega⟩
        have z := X.1.2.2.2 s hs
        rw [upM_s] at z
        have jg := S_jg hr ok z.1 z.2
        obtain ⟨h1, f1, f2⟩ := S_add hr hn z.2 (show M.length < 24 by omega) hi' hj (Pr_ne hp) w
        rw [hb0, if_neg c, hbe] at jg
        dsimp only at jg
        rw [bd_t f1] at jg
        have r1 := X.up hs (fX2_add _ _ _ _ _ _ f1) wX2_add_ok (by decide) f2
        rw [upM_upM] at r1
        obtain ⟨h', g1, g2'⟩ := y3 m h1 v3 (by omega) r1
        refine ⟨h', ?_, g2'⟩
        show sX5_ticks_c23 (sX5_ticks_b23 m) h (26 + 14 * s) v3 (nI M.length) = _
        unfold sX5_ticks_c23
        rw [if_neg l24, bd_t jg]
        dsimp only
        rw [if_neg (by decide), nI_1, nm_t rfl, ← g1, sn_len]
      · obtain ⟨m, rfl⟩ : ∃ m, n = m + 1 := ⟨n - 1, by omega⟩
        have hq : q = b := by
          rcases K with z | z
          · exact absurd z.1 c
          · exact z.1.symm
        subst hq
        have l' : ∀ t, t < 2 → (upM Ms s M t).length ≤ 24 := by
          intro t ht'
          unfold upM
          split
          · omega
          · exact hl t ht'
        obtain ⟨h1, f1, f2, f3⟩ := M_lays hs X l' i j w
        rw [upM_s] at f3
        have F1 := FD.fr F (fX6_laysMatch _ _ _ _ _ _ f1) (by decide) (by decide)
        have m2 := M_cnt hs f2 f3
        rw [upM_upM] at m2
        have C4 : Fr [(67, none)] [] h1 (u1 h1 67 s (nI (M ++ [(i, j, w)]).length)) := Fr.w1 Fr.rf rfl (by simp)
        have F2 := FD.fr F1 C4 (by decide) (by decide)
        obtain ⟨h3, q', k3, o3, m3, F3, o4, o5⟩ := M_fb ok hs m2 F2 (by rw [upM_s]; exact v')
        rw [upM_s] at k3
        obtain ⟨h', p1, p2, p3⟩ := y4 m h3 (k + 1) q' (by omega) m3 F3 k3 o4 o5
        refine ⟨h', ?_, p2, p3⟩
        show sX6_ticks_c26 (sX6_ticks_b26 m) h (nI s) (nI k) q.1 = _
        have x1 := (X.1.2 s hs).1
        rw [upM_s] at x1
        have x2 := (f2.1.2 s hs).1
        rw [upM_s] at x2
        have q0 : ¬ q.1 ≤ 0 := by grind
        unfold sX6_ticks_c26
        rw [if_neg q0, gd_in (show s < 2 by omega) (show 2 ≤ 1000 by decide), cl_n (show s ≤ 100000 by omega), x1, if_neg l24, e1, e2, hbe]
        dsimp only
        rw [bd_t f1, gd_in (show s < 2 by omega) (show 2 ≤ 1000 by decide), gd_in (show s < 2 by omega) (show 2 ≤ 1000 by decide), x2, nI_1, nI_1, ← sn_len (M := M) (a := i) (b := j) (v := w), nm_t rfl, nm_t rfl, bd_t o3]
        dsimp only
        rw [p1, sn_len, show k + 1 + (M'.length - (M.length + 1)) = k + (M'.length - M.length) by omega]
theorem op_ticks (R : Rel h S Ms tx row) (a : Int32) : Step (fun h => sX5_ticks h a) (fun h => sX6_ticks h a) h := by
  have ok := R.1.1
  have X := R.2.1
  have hn := ok.1
  by_cases c0 : a = 0 ∨ a = 1
  · obtain ⟨s, hs, rfl⟩ := side_cs c0
    have v := R.1.2.1 s hs
    have hr := ck_sd hs
    have c1 : ¬ bI (nI s = 0 ∨ nI s = 1) = 0 := by rw [bI_z]; exact fun q => q c0
    obtain ⟨M', v', y2, y3, y4⟩ := tick_go (tx := tx) (row := row) ok hs (fun t ht' => (R.1.2.1 t ht').1) (24 - (Ms s).length) (Ms s) (by have := v.1; omega) v
    rw [upM_self] at y3 y4
    obtain ⟨h1, e1, r1⟩ := y3 FU h (nI (Ms s).length) (by show _ < 1000; omega) X
    have z := r1.1.2.2.2 s hs
    rw [upM_s] at z
    obtain ⟨h2, e2, r2⟩ := r1.tell2 (rk S s M' 1).toInt64 (rk S s M' 0).toInt64
    have x2 := (r2.1.2.2.2 s hs).2.1
    rw [upM_s] at x2
    have sb : nI M'.length - nI (Ms s).length = nI (M'.length - (Ms s).length) := by
      have := v'.1
      rw [eq_tI, tI_sub (by rw [tI_n (by omega), tI_n (by omega)]; omega) (by rw [tI_n (by omega), tI_n (by omega)]; omega), tI_n (by omega), tI_n (by omega), tI_n (by omega)]
      omega
    have eX : sX5_ticks h (nI s) = some (nI (M'.length - (Ms s).length), h2) := by
      unfold sX5_ticks
      rw [bd_t (X_isSide _ _)]
      dsimp only
      rw [if_neg c1, bd_t (X_sideOf _ hs)]
      dsimp only
      rw [gd_t (isC_ok hr), (X.1.2.2.2 s hs).2.1, nm_t rfl, e1]
      unfold sX5_ticks_c46
      rw [bd_t (S_restK hr hn z.1 z.2 1)]
      dsimp only
      rw [bd_t (S_restK hr hn z.1 z.2 0)]
      dsimp only
      rw [bd_t e2, x2, sb]
    refine mkS (S' := S) (Ms' := upM Ms s M') R eX (fX5_ticks _ _ _ eX) (by decide) (by decide) r2 (upM_inv R.1 v' (by simp)) (fun hM => ?_) (fun q e => fX6_ticks h2 (nI s) q e) (by decide) (by decide)
    obtain ⟨m1, t1⟩ := hM.thr 0
    obtain ⟨g2', o2, m2, f2⟩ := m1.finds ok
    obtain ⟨g3, q', k3, o3, m3, f3, o4, o5⟩ := M_fb ok hs m2 f2 v
    obtain ⟨g4, o6, m4, f4⟩ := y4 FU g3 0 q' (by show _ < 1000; omega) m3 f3 k3 o4 o5
    rw [Nat.zero_add] at o6
    obtain ⟨m5, F5⟩ := m4.row0
    have f5 := FD.fr f4 F5 (by decide) (by decide)
    obtain ⟨g6, o7, m6, F6⟩ := m5.ent (by simp) (rk S s M' 1).toInt64
    have f6 := FD.fr f5 F6 (by decide) (by decide)
    obtain ⟨g7, o8, m7, F7⟩ := m6.ent (by simp) (rk S s M' 0).toInt64
    have n5 := m5.1.2 s hs
    have n6 := m6.1.2 s hs
    rw [upM_s] at n5 n6
    refine ⟨g7, ?_, m7⟩
    show sX6_ticks h2 (nI s) = _
    unfold sX6_ticks
    rw [nm_t rfl, bd_t (M_isSide _ _)]
    dsimp only
    rw [if_neg c1, bd_t o2, bd_t o3]
    dsimp only
    refine Eq.trans o6 ?_
    unfold sX6_ticks_c77
    rw [nm_t rfl, bd_t (M_rests ok hs f5 n5 v'.1 (v'.lt ok) 1)]
    dsimp only
    rw [bd_t o7, bd_t (M_rests ok hs f6 n6 v'.1 (v'.lt ok) 0)]
    dsimp only
    rw [bd_t o8]
  · have c1 : bI (a = 0 ∨ a = 1) = 0 := bI_z.mpr c0
    have eX : sX5_ticks h a = some (-1, h) := by simp only [sX5_ticks, X_isSide, c1, Option.bind_some, if_true]
    refine mkS (S' := S) (Ms' := Ms) R eX (fX5_ticks _ _ _ eX) (by decide) (by decide) X R.1 (fun hM => ?_) (fun q e => fX6_ticks h a q e) (by decide) (by decide)
    obtain ⟨m1, t1⟩ := hM.thr 0
    exact ⟨_, by simp only [sX6_ticks, nm, M_isSide, c1, Option.bind_some, if_true], m1⟩
end O11
