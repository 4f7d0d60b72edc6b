/-! breaks -/
section O43
variable {h : Hp} {S : SS} {Ms : Nat → Mt} {tx : List Int32} {row : List Int64} {s : Nat} {M : Mt} {i d : Nat} {g : Nat → Nat}
theorem od_n {k : Nat} (hk : k < 25) : (nI k - nI k / 2 * 2 = 1) ↔ k % 2 = 1 := by
  rw [mod2 k hk]
  show nI (k % 2) = nI 1 ↔ _
  exact eq_n (by omega) (by omega)
/-- one match of the ring: the class -/
theorem S_wr1 (hs : s < 2) (hl : M.length ≤ 24) (hd : d + 1 ≤ 10) (h16 : h.1 (26 + 14 * s) 16 = nI (d + 1)) (hg : ∀ j, j ≤ d → h.1 (26 + 14 * s + 12) j = nI (g j)) (hgl : ∀ j, j ≤ d → g j < M.length) {v : Int32} {j : Nat} (hj : j ≤ d) (hw : ∀ k, k < M.length → h.1 (26 + 14 * s + 11) k = wd M g v j k) (m : Nat) : sX2_wantRoundRing_b30 (m + 1) h (26 + 14 * s) v (nI j) = if 0 ≤ wd M g v j (g j) + dlt v j then sX2_wantRoundRing_b30 m (u1 h (26 + 14 * s + 11) (g j) (wd M g v j (g j) + dlt v j)) (26 + 14 * s) v (nI (j + 1)) else some (nI (g j), u1 h (26 + 14 * s + 11) (g j) (wd M g v j (g j) + dlt v j)) := by
  have gl := hgl j hj
  have c65 : ∀ t0 : Int32, sX2_wantRoundRing_c65 (sX2_wantRoundRing_b30 m) h (26 + 14 * s) v (nI j) (nI (g j)) t0 (wd M g v j (g j)) (nI (g j)) = if 0 ≤ wd M g v j (g j) + t0 then sX2_wantRoundRing_b30 m (u1 h (26 + 14 * s + 11) (g j) (wd M g v j (g j) + t0)) (26 + 14 * s) v (nI (j + 1)) else some (nI (g j), u1 h (26 + 14 * s + 11) (g j) (wd M g v j (g j) + t0)) := by
    intro t0
    unfold sX2_wantRoundRing_c65
    rw [gd_in (show g j < 24 by omega) (show 24 ≤ 1000 by decide), cl_n (show g j ≤ 100000 by omega), nm_t rfl, gd_in (show g j < 24 by omega) (show 24 ≤ 1000 by decide), rd1s, nI_1, nm_t rfl]
  show sX2_wantRoundRing_c30 (sX2_wantRoundRing_b30 m) h (26 + 14 * s) v (nI j) = _
  unfold sX2_wantRoundRing_c30
  rw [h16, if_neg (by rw [le_n (by omega) (by omega)]; omega), gd_in (show j < 10 by omega) (show 10 ≤ 1000 by decide), cl_n (show j ≤ 100000 by omega), hg j hj, nm_t rfl, gd_in (show g j < 24 by omega) (show 24 ≤ 1000 by decide), cl_n (show g j ≤ 100000 by omega), hw _ gl, c65, c65]
  unfold dlt
  by_cases c : j % 2 = 1
  · rw [if_pos ((od_n (by omega)).mpr c), if_pos c]
  · rw [if_neg (fun z => c ((od_n (by omega)).mp z)), if_neg c]
theorem wd_u {v : Int32} {j k : Nat} : wd M g v (j + 1) k = upd (wd M g v j) (g j) (wd M g v j (g j) + dlt v j) k := rfl
theorem nbad {v : Int32} {j : Nat} (hb' : ¬ bad M g v j) : 0 ≤ wd M g v j (g j) + dlt v j := by
  by_cases c : 0 ≤ wd M g v j (g j) + dlt v j
  · exact c
  · exact absurd c hb'
theorem S_wrr (hs : s < 2) (hX : XM h (26 + 14 * s) S M) (hl : M.length ≤ 24) (hd : d + 1 ≤ 10) (h16 : h.1 (26 + 14 * s) 16 = nI (d + 1)) (hg : ∀ j, j ≤ d → h.1 (26 + 14 * s + 12) j = nI (g j)) (hgl : ∀ j, j ≤ d → g j < M.length) {N : Nat} (hN : N + 1 ≤ d + 1) (hb' : ∀ u, u < N + 1 → ¬ bad M g (ml M (g 0)) u) : ∃ h' m, sX2_wantRoundRing h (26 + 14 * s) = sX2_wantRoundRing_b30 (m + 1) h' (26 + 14 * s) (ml M (g 0)) (nI (N + 1)) ∧ Fr [(26 + 14 * s + 11, none)] [] h h' ∧ ∀ k, k < M.length → h'.1 (26 + 14 * s + 11) k = wd M g (ml M (g 0)) (N + 1) k := by
  have hr := ck_sd hs
  have z0 : (0 : Int32).toNatClampNeg = 0 := by decide
  have g0 := hgl 0 (by omega)
  obtain ⟨h1, e1, w1⟩ := S_want hs hX hl
  have F1 := fX2_wantAsIs _ _ _ e1
  have F1' : Fr [(26 + 14 * s + 11, none)] [] h h1 := F1
  have r0 : h1.1 (26 + 14 * s + 12) 0 = nI (g 0) := (F1'.1 _ 0 (by simp) (by simp)).trans (hg 0 (by omega))
  have z : wd M g (ml M (g 0)) 0 (g 0) + dlt (ml M (g 0)) 0 = 0 := by
    show ml M (g 0) + -ml M (g 0) = 0
    exact Int32.add_right_neg _
  have F2 : Fr [(26 + 14 * s + 11, none)] [] h (u1 h1 (26 + 14 * s + 11) (g 0) 0) := Fr.w1 F1' rfl (by simp)
  have L := loopS (fun m (q : Hp × Int32) => sX2_wantRoundRing_b30 m q.1 (26 + 14 * s) (ml M (g 0)) q.2) (fun t q => q.2 = nI (t + 1) ∧ Fr [(26 + 14 * s + 11, none)] [] h q.1 ∧ ∀ k, k < M.length → q.1.1 (26 + 14 * s + 11) k = wd M g (ml M (g 0)) (t + 1) k) N (fun m t q ht' I => by
    obtain ⟨i1, i2, i3⟩ := I
    have st := S_wr1 (h := q.1) (g := g) (v := ml M (g 0)) (j := t + 1) hs hl hd ((i2.1 _ 16 (by simp) (by simp)).trans h16) (fun j hj => (i2.1 _ j (by simp) (by simp)).trans (hg j hj)) hgl (by omega) i3 m
    refine ⟨(u1 q.1 (26 + 14 * s + 11) (g (t + 1)) (wd M g (ml M (g 0)) (t + 1) (g (t + 1)) + dlt (ml M (g 0)) (t + 1)), nI (t + 1 + 1)), ⟨rfl, Fr.w1 i2 rfl (by simp), fun k hk => ?_⟩, ?_⟩
    · rw [wd_u (j := t + 1)]
      by_cases e : k = g (t + 1)
      · rw [e, upd_s]; exact rd1s
      · rw [upd_n e]; exact (rd1k e).trans (i3 k hk)
    · rw [if_pos (nbad (hb' (t + 1) (by omega)))] at st
      rw [i1]
      exact st) N 0 FU (u1 h1 (26 + 14 * s + 11) (g 0) 0, 1) ⟨rfl, F2, fun k hk => by
        show (u1 h1 (26 + 14 * s + 11) (g 0) 0).1 (26 + 14 * s + 11) k = upd (wd M g (ml M (g 0)) 0) (g 0) (wd M g (ml M (g 0)) 0 (g 0) + dlt (ml M (g 0)) 0) k
        rw [z]
        by_cases e : k = g 0
        · rw [e, upd_s]; exact rd1s
        · rw [upd_n e]; exact (rd1k e).trans (w1 k hk)⟩ (by omega) (show N < 1000 by omega)
  obtain ⟨q, m, ⟨i1, i2, i3⟩, e⟩ := L
  refine ⟨q.1, m, ?_, i2, i3⟩
  unfold sX2_wantRoundRing
  rw [gd_t (isC_ok hr), z0, hg 0 (by omega), gd_in (show g 0 < 24 by omega) (show 24 ≤ 1000 by decide), cl_n (show g 0 ≤ 100000 by omega), (hX.2.1 _ g0).2.2, nm_t rfl, bd_t e1, r0, gd_in (show g 0 < 24 by omega) (show 24 ≤ 1000 by decide), cl_n (show g 0 ≤ 100000 by omega), nm_t rfl]
  rw [← i1]
  exact e
/-- one match of the ring: the reference -/
theorem M_wr1 (hs : s < 2) (hl : M.length ≤ 24) (hd : d + 1 ≤ 10) (hg : ∀ j, j ≤ d → h.1 74 j = nI (g j)) (hgl : ∀ j, j ≤ d → g j < M.length) {v : Int32} {j : Nat} (hj : j ≤ d) (hw : ∀ k, k < M.length → h.1 70 (25 * s + k) = wd M g v j k) (m : Nat) : sX6_breaks_b54 (m + 1) h (nI s) (nI (d + 1)) v (nI j) = if 0 ≤ wd M g v j (g j) + dlt v j then sX6_breaks_b54 m (u1 h 70 (25 * s + g j) (wd M g v j (g j) + dlt v j)) (nI s) (nI (d + 1)) v (nI (j + 1)) else (sX6_comesBack (u1 h 70 (25 * s + g j) (wd M g v j (g j) + dlt v j)) (nI s)).bind fun q19 => nm (u1 q19 54 1 (0 : Int32)) fun h20 => (sX6_enters h20 ((h20.1 74 j).toInt64)).bind fun q22 => some ((-3 : Int32), q22) := by
  have gl := hgl j hj
  have c97 : ∀ t0 : Int32, sX6_breaks_c97 (sX6_breaks_b54 m) h (nI s) (nI (d + 1)) v (nI j) (nI (25 * s + g j)) t0 (wd M g v j (g j)) (nI (25 * s + g j)) = if 0 ≤ wd M g v j (g j) + t0 then sX6_breaks_b54 m (u1 h 70 (25 * s + g j) (wd M g v j (g j) + t0)) (nI s) (nI (d + 1)) v (nI (j + 1)) else (sX6_comesBack (u1 h 70 (25 * s + g j) (wd M g v j (g j) + t0)) (nI s)).bind fun q19 => nm (u1 q19 54 1 (0 : Int32)) fun h20 => (sX6_enters h20 ((h20.1 74 j).toInt64)).bind fun q22 => some ((-3 : Int32), q22) := by
    intro t0
    unfold sX6_breaks_c97
    rw [gd_in (show 25 * s + g j < 50 by omega) (show 50 ≤ 1000 by decide), cl_n (show 25 * s + g j ≤ 100000 by omega), nm_t rfl, gd_in (show 25 * s + g j < 50 by omega) (show 50 ≤ 1000 by decide), rd1s, nI_1, nm_t rfl, cl_n (show j ≤ 100000 by omega)]
    simp only [gd_in (show j < 24 by omega) (show 24 ≤ 1000 by decide)]
  show sX6_breaks_c54 (sX6_breaks_b54 m) h (nI s) (nI (d + 1)) v (nI j) = _
  unfold sX6_breaks_c54
  rw [if_neg (by rw [le_n (by omega) (by omega)]; omega), gd_in (show j < 24 by omega) (show 24 ≤ 1000 by decide), cl_n (show j ≤ 100000 by omega), hg j hj, bd_t M_place]
  dsimp only
  rw [gd_in (show 25 * s + g j < 50 by omega) (show 50 ≤ 1000 by decide), cl_n (show 25 * s + g j ≤ 100000 by omega), hw _ gl, c97, c97]
  unfold dlt
  by_cases c : j % 2 = 1
  · rw [if_pos ((od_n (by omega)).mpr c), if_pos c]
  · rw [if_neg (fun z => c ((od_n (by omega)).mp z)), if_neg c]
theorem M_wrr (hs : s < 2) (hl : M.length ≤ 24) (hls : ∀ t, t < 2 → (Ms t).length ≤ 24) (hM : MM h s M) (ho : MMo h s Ms) (hd : d + 1 ≤ 10) (hg : ∀ j, j ≤ d → h.1 74 j = nI (g j)) (hgl : ∀ j, j ≤ d → g j < M.length) {v : Int32} {N : Nat} (hN : N ≤ d + 1) (hb' : ∀ u, u < N → ¬ bad M g v u) : ∃ h' m, sX6_breaks_b54 FU h (nI s) (nI (d + 1)) v 0 = sX6_breaks_b54 (m + 1) h' (nI s) (nI (d + 1)) v (nI N) ∧ Fr [(70, none)] [] h h' ∧ MMo h' s Ms ∧ ∀ k, k < M.length → h'.1 70 (25 * s + k) = wd M g v N k := by
  have L := loopS (fun m (q : Hp × Int32) => sX6_breaks_b54 m q.1 (nI s) (nI (d + 1)) v q.2) (fun t q => q.2 = nI t ∧ Fr [(70, none)] [] h q.1 ∧ MMo q.1 s Ms ∧ ∀ k, k < M.length → q.1.1 70 (25 * s + k) = wd M g v t k) N (fun m t q ht' I => by
    obtain ⟨i1, i2, i4, i3⟩ := I
    have st := M_wr1 (h := q.1) (g := g) (v := v) (j := t) hs hl hd (fun j hj => (i2.1 _ j (by simp) (by simp)).trans (hg j hj)) hgl (by omega) i3 m
    have gl := hgl t (by omega)
    refine ⟨(u1 q.1 70 (25 * s + g t) (wd M g v t (g t) + dlt v t), nI (t + 1)), ⟨rfl, Fr.w1 i2 rfl (by simp), i4.w hs hls (by omega) (by omega) _, fun k hk => ?_⟩, ?_⟩
    · rw [wd_u]
      by_cases e : k = g t
      · rw [e, upd_s]; exact rd1s
      · rw [upd_n e]; exact (rd1k (by omega)).trans (i3 k hk)
    · rw [if_pos (nbad (hb' t (by omega)))] at st
      rw [i1]
      exact st) N 0 FU (h, 0) ⟨rfl, Fr.rf, ho, fun k hk => (hM.2 k hk).2.2⟩ (by omega) (show N < 1000 by omega)
  obtain ⟨q, m, ⟨i1, i2, i4, i3⟩, e⟩ := L
  refine ⟨q.1, m, ?_, i2, i4, i3⟩
  rw [← i1]
  exact e
end O43
