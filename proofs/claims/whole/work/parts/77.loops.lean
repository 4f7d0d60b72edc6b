/-! loops: the class -/
def lbM (M : Mt) : Nat → (Nat → Nat) × Nat
  | 0 => (fun j => j, 0)
  | k + 1 => if (lbM M k).1 (mh M k) = (lbM M k).1 (mc M k) then lbM M k else (fun j => if (lbM M k).1 j = (lbM M k).1 (mh M k) then (lbM M k).1 (mc M k) else (lbM M k).1 j, (lbM M k).2 + 1)
theorem lbM_lt {M : Mt} {n : Nat} (hv : ∀ k, k < M.length → mh M k < n ∧ mc M k < n) : ∀ {k : Nat}, k ≤ M.length → (∀ j, j < n → (lbM M k).1 j < n) ∧ (lbM M k).2 ≤ k
  | 0, _ => ⟨fun j hj => hj, Nat.le_refl 0⟩
  | k + 1, hk => by
    obtain ⟨a, b⟩ := lbM_lt hv (k := k) (by omega)
    unfold lbM
    split
    · exact ⟨a, by omega⟩
    · refine ⟨fun j hj => ?_, by show _ + 1 ≤ _; omega⟩
      show (if _ then _ else _) < n
      split
      · exact a _ (hv k (by omega)).2
      · exact a j hj
section O24
variable {h : Hp} {S : SS} {r s : Nat} {M : Mt}
def cJ (S : SS) (M : Mt) : Nat → Nat
  | 0 => 0
  | i + 1 => cJ S M i + (if us M M.length i ≤ 0 then 0 else 1)
theorem S_joined (hr : ck r = 2) (hn : S.1 ≤ 10) (hD : SD h r s S) (hX : XM h r S M) : sX2_joinedStreams h r = some (nI (cJ S M S.1), h) := by
  unfold sX2_joinedStreams
  rw [gd_t (isC_ok hr)]
  refine loop0 (fun m (q : Int32 × Int32) => sX2_joinedStreams_b4 m h r q.1 q.2) (fun i => (nI (cJ S M i), nI i)) S.1 _ (by omega) (fun m i hi' => ?_) (fun m => ?_)
  · show sX2_joinedStreams_c4 (sX2_joinedStreams_b4 m) h r (nI (cJ S M i)) (nI i) = _
    have hle : ¬ nI S.1 ≤ nI i := by rw [le_n (by omega) (by omega)]; omega
    simp only [sX2_joinedStreams_c4, sX2_joinedStreams_c24, hD.2.2.1, hle, if_false, gd_in (show i < 10 by omega) (show 10 ≤ 1000 by decide), cl_n (show i ≤ 100000 by omega), hX.2.2 i hi', nm, nI_1, cJ]
    by_cases c : us M M.length i ≤ 0
    · rw [if_pos c, if_pos c]; rfl
    · rw [if_neg c, if_neg c]
  · show sX2_joinedStreams_c4 (sX2_joinedStreams_b4 m) h r (nI (cJ S M S.1)) (nI S.1) = _
    have hle : nI S.1 ≤ nI S.1 := by rw [le_n (by omega) (by omega)]; omega
    simp only [sX2_joinedStreams_c4, hD.2.2.1, hle, if_true]
theorem S_relabel {n a b : Nat} {l : Nat → Nat} (hn : n ≤ 10) (hl : ∀ j, j < n → l j < n) (ha : a < 10) (hb' : b < 10) (hs : h.1 r 2 = nI n) (hr' : ∀ j, j < n → h.1 (r + 13) j = nI (l j)) (k27 : Hp → Nat → Int32 → Int32 → Option (Int32 × Hp)) (v1 v2 : Int32) : ∃ h', sX2_mergers_b72 k27 FU h r v1 v2 (nI a) (nI b) 0 = sX2_mergers_c117 k27 h' r v1 v2 ∧ Fr [(r + 13, none)] [] h h' ∧ ∀ j, j < n → h'.1 (r + 13) j = nI (if l j = a then b else l j) := by
  have L := loopS (fun m (q : Hp × Int32) => sX2_mergers_b72 k27 m q.1 r v1 v2 (nI a) (nI b) q.2) (fun i q => q.2 = nI i ∧ Fr [(r + 13, none)] [] h q.1 ∧ (∀ j, j < i → q.1.1 (r + 13) j = nI (if l j = a then b else l j)) ∧ ∀ j, i ≤ j → j < n → q.1.1 (r + 13) j = nI (l j)) n (fun m i q hi' I => by
    obtain ⟨i1, i2, i3, i4⟩ := I
    have s2 : q.1.1 r 2 = nI n := (i2.1 r 2 (by simp) (by simp)).trans hs
    have r2 := i4 i (Nat.le_refl _) hi'
    have li := hl i hi'
    refine ⟨(u1 q.1 (r + 13) i (nI (if l i = a then b else l i)), nI (i + 1)), ⟨rfl, Fr.w1 i2 rfl (by simp), fun j hj => ?_, fun j h1 h2 => (rd1k (by omega)).trans (i4 j (by omega) h2)⟩, ?_⟩
    · by_cases e : j = i
      · subst e; exact rd1s
      · exact (rd1k e).trans (i3 j (by omega))
    · show sX2_mergers_c72 k27 (sX2_mergers_b72 k27 m) q.1 r v1 v2 (nI a) (nI b) q.2 = _
      unfold sX2_mergers_c72 sX2_mergers_c110
      rw [i1, s2, if_neg (by rw [le_n (by omega) (by omega)]; omega), gd_in (show i < 10 by omega) (show 10 ≤ 1000 by decide), gd_in (show i < 10 by omega) (show 10 ≤ 1000 by decide), gd_in (show i < 10 by omega) (show 10 ≤ 1000 by decide), gd_in (show i < 10 by omega) (show 10 ≤ 1000 by decide), cl_n (show i ≤ 100000 by omega), r2, nI_1, nm_t rfl, nm_t rfl]
      by_cases c : l i = a
      · rw [if_pos (by rw [c]), if_pos c]
      · rw [if_neg (by rw [eq_n (by omega) (by omega)]; exact c), if_neg c, nm_t rfl, nm_t rfl]) n 0 FU (h, 0) ⟨rfl, Fr.rf, fun j hj => absurd hj (Nat.not_lt_zero j), fun j _ hj => hr' j hj⟩ (by omega) (show n < 1000 by omega)
  obtain ⟨q, m, ⟨i1, i2, i3, i4⟩, e⟩ := L
  refine ⟨q.1, ?_, i2, i3⟩
  refine Eq.trans e ?_
  have s2 : q.1.1 r 2 = nI n := (i2.1 r 2 (by simp) (by simp)).trans hs
  show sX2_mergers_c72 k27 (sX2_mergers_b72 k27 m) q.1 r v1 v2 (nI a) (nI b) q.2 = _
  unfold sX2_mergers_c72
  rw [i1, s2, if_pos (by rw [le_n (by omega) (by omega)]; omega)]
theorem S_mergers (hs : s < 2) (hn : S.1 ≤ 10) (hD : SD h (26 + 14 * s) s S) (hX : XM h (26 + 14 * s) S M) (hl : M.length ≤ 24) (hv : ∀ k, k < M.length → mh M k < S.1 ∧ mc M k < S.1) : ∃ h', sX2_mergers h (26 + 14 * s) = some (nI (lbM M M.length).2, h') ∧ Fr [(26 + 14 * s + 13, none)] [] h h' := by
  have hr := ck_sd hs
  unfold sX2_mergers
  rw [gd_t (isC_ok hr)]
  have L := loopS (fun m (q : Hp × Int32) => sX2_mergers_b2 m q.1 (26 + 14 * s) q.2) (fun i q => q.2 = nI i ∧ Fr [(26 + 14 * s + 13, none)] [] h q.1 ∧ ∀ j, j < i → q.1.1 (26 + 14 * s + 13) j = nI j) S.1 (fun m i q hi' I => by
    obtain ⟨i1, i2, i3⟩ := I
    have s2 : q.1.1 (26 + 14 * s) 2 = nI S.1 := (i2.1 _ 2 (by simp) (by simp)).trans hD.2.2.1
    refine ⟨(u1 q.1 (26 + 14 * s + 13) i (nI i), nI (i + 1)), ⟨rfl, Fr.w1 i2 rfl (by simp), fun j hj => ?_⟩, ?_⟩
    · by_cases e : j = i
      · subst e; exact rd1s
      · exact (rd1k e).trans (i3 j (by omega))
    · show sX2_mergers_c2 (sX2_mergers_b2 m) q.1 (26 + 14 * s) q.2 = _
      unfold sX2_mergers_c2
      rw [i1, s2, if_neg (by rw [le_n (by omega) (by omega)]; omega), gd_in (show i < 10 by omega) (show 10 ≤ 1000 by decide), cl_n (show i ≤ 100000 by omega), nm_t rfl, nI_1, nm_t rfl]) S.1 0 FU (h, 0) ⟨rfl, Fr.rf, fun j hj => absurd hj (Nat.not_lt_zero j)⟩ (by omega) (show S.1 < 1000 by omega)
  obtain ⟨q, m, ⟨i1, i2, i3⟩, e⟩ := L
  have s2 : q.1.1 (26 + 14 * s) 2 = nI S.1 := (i2.1 _ 2 (by simp) (by simp)).trans hD.2.2.1
  have e0 : sX2_mergers_b2 (m + 1) q.1 (26 + 14 * s) q.2 = sX2_mergers_b27 FU q.1 (26 + 14 * s) 0 0 := by
    show sX2_mergers_c2 (sX2_mergers_b2 m) q.1 (26 + 14 * s) q.2 = _
    unfold sX2_mergers_c2
    rw [i1, s2, if_pos (by rw [le_n (by omega) (by omega)]; omega)]
  have e' : sX2_mergers_b2 FU h (26 + 14 * s) 0 = sX2_mergers_b27 FU q.1 (26 + 14 * s) 0 0 := e.trans e0
  rw [e']
  have L2 := loopI (fun m (w : Hp × Int32 × Int32) => sX2_mergers_b27 m w.1 (26 + 14 * s) w.2.1 w.2.2) (fun i w => w.2.1 = nI (lbM M i).2 ∧ w.2.2 = nI i ∧ Fr [(26 + 14 * s + 13, none)] [] h w.1 ∧ ∀ j, j < S.1 → w.1.1 (26 + 14 * s + 13) j = nI ((lbM M i).1 j)) M.length (fun w => w.1 = nI (lbM M M.length).2 ∧ Fr [(26 + 14 * s + 13, none)] [] h w.2) (by omega) (q.1, 0, 0) ⟨rfl, rfl, i2, i3⟩ (fun m' i w hi' I => by
    obtain ⟨j1, j2, j3, j4⟩ := I
    obtain ⟨a1, a2, a3⟩ := hX.2.1 i hi'
    have lv := hv i hi'
    obtain ⟨lt, lc⟩ := lbM_lt hv (k := i) (by omega)
    have g14 : w.1.1 (26 + 14 * s) 14 = nI M.length := (j3.1 _ 14 (by simp) (by simp)).trans hX.1
    have g8 : w.1.1 (26 + 14 * s + 8) i = nI (mh M i) := (j3.1 _ i (by simp) (by simp)).trans a1
    have g9 : w.1.1 (26 + 14 * s + 9) i = nI (mc M i) := (j3.1 _ i (by simp) (by simp)).trans a2
    have s3 : w.1.1 (26 + 14 * s) 2 = nI S.1 := (j3.1 _ 2 (by simp) (by simp)).trans hD.2.2.1
    have l1 := lt _ lv.1
    have l2 := lt _ lv.2
    have e0 : sX2_mergers_b27 (m' + 1) w.1 (26 + 14 * s) w.2.1 w.2.2 = if (lbM M i).1 (mh M i) = (lbM M i).1 (mc M i) then sX2_mergers_c117 (sX2_mergers_b27 m') w.1 (26 + 14 * s) (nI (lbM M i).2) (nI i) else sX2_mergers_b72 (sX2_mergers_b27 m') FU w.1 (26 + 14 * s) (nI ((lbM M i).2 + 1)) (nI i) (nI ((lbM M i).1 (mh M i))) (nI ((lbM M i).1 (mc M i))) 0 := by
      show sX2_mergers_c27 (sX2_mergers_b27 m') w.1 (26 + 14 * s) w.2.1 w.2.2 = _
      unfold sX2_mergers_c27
      have hle : ¬ nI M.length ≤ nI i := by rw [le_n (by omega) (by omega)]; omega
      simp only [j1, j2, g14, hle, if_false, gd_in (show i < 24 by omega) (show 24 ≤ 1000 by decide), cl_n (show i ≤ 100000 by omega), g8, g9, gd_in (show mh M i < 10 by omega) (show 10 ≤ 1000 by decide), gd_in (show mc M i < 10 by omega) (show 10 ≤ 1000 by decide), cl_n (show mh M i ≤ 100000 by omega), cl_n (show mc M i ≤ 100000 by omega), j4 _ lv.1, j4 _ lv.2, nm, nI_1, eq_n (show (lbM M i).1 (mh M i) ≤ 100000 by omega) (show (lbM M i).1 (mc M i) ≤ 100000 by omega)]
    by_cases c : (lbM M i).1 (mh M i) = (lbM M i).1 (mc M i)
    · have en : lbM M (i + 1) = lbM M i := if_pos c
      refine ⟨(w.1, nI (lbM M i).2, nI (i + 1)), ⟨by rw [en], rfl, j3, by rw [en]; exact j4⟩, ?_⟩
      refine e0.trans ?_
      rw [if_pos c]
      unfold sX2_mergers_c117
      rw [nI_1, nm_t rfl]
    · have en : lbM M (i + 1) = (fun j => if (lbM M i).1 j = (lbM M i).1 (mh M i) then (lbM M i).1 (mc M i) else (lbM M i).1 j, (lbM M i).2 + 1) := if_neg c
      obtain ⟨h2, r1, r2, r3⟩ := S_relabel (h := w.1) (r := 26 + 14 * s) (n := S.1) (a := (lbM M i).1 (mh M i)) (b := (lbM M i).1 (mc M i)) (l := (lbM M i).1) hn lt (by omega) (by omega) s3 j4 (sX2_mergers_b27 m') (nI ((lbM M i).2 + 1)) (nI i)
      refine ⟨(h2, nI ((lbM M i).2 + 1), nI (i + 1)), ⟨by rw [en], rfl, j3.tr r2 (fun _ z => z) (fun _ z => z), by rw [en]; exact r3⟩, ?_⟩
      refine e0.trans ?_
      rw [if_neg c, r1]
      unfold sX2_mergers_c117
      rw [nI_1, nm_t rfl]) (fun m' w I => by
    obtain ⟨j1, j2, j3, j4⟩ := I
    have g14 : w.1.1 (26 + 14 * s) 14 = nI M.length := (j3.1 _ 14 (by simp) (by simp)).trans hX.1
    refine ⟨(nI (lbM M M.length).2, w.1), ?_, rfl, j3⟩
    show sX2_mergers_c27 (sX2_mergers_b27 m') w.1 (26 + 14 * s) w.2.1 w.2.2 = _
    unfold sX2_mergers_c27
    rw [j1, j2, g14, if_pos (by rw [le_n (by omega) (by omega)]; omega)])
  obtain ⟨w, w1, w2, w3⟩ := L2
  refine ⟨w.2, ?_, w3⟩
  rw [← w2]
  exact w1
end O24
