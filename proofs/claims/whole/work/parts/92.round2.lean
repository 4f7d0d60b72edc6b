/-! loop: the reference's search -/
section O40
variable {s : Nat} {M : Mt} {i : Nat}
/-- only the loop's places from k on are written -/
def FG (k : Nat) (h h' : Hp) : Prop := (∀ a j, (a ≠ 74 ∨ j < k) → h'.1 a j = h.1 a j) ∧ h'.2 = h.2
theorem FG.rf {k : Nat} {h : Hp} : FG k h h := ⟨fun _ _ _ => rfl, rfl⟩
theorem FG.tr {k k' : Nat} {h h1 h2 : Hp} (a : FG k h h1) (b : FG k' h1 h2) (hk : k ≤ k') : FG k h h2 := ⟨fun c j q => (b.1 c j (q.elim Or.inl (fun z => Or.inr (by omega)))).trans (a.1 c j q), b.2.trans a.2⟩
theorem FG.w {k k' : Nat} {h h1 : Hp} (a : FG k h h1) (hk : k ≤ k') (v : Int32) : FG k h (u1 h1 74 k' v) := ⟨fun c j q => by
  rcases q with q | q
  · exact (rd1c q).trans (a.1 c j (Or.inl q))
  · exact (rd1k (by omega)).trans (a.1 c j (Or.inr q)), a.2⟩
theorem MM.fg {k : Nat} {h h' : Hp} (hM : MM h s M) (F : FG k h h') : MM h' s M := ⟨(F.1 67 s (Or.inl (by decide))).trans hM.1, fun j hj => by
  obtain ⟨a1, a2, a3⟩ := hM.2 j hj
  exact ⟨(F.1 68 _ (Or.inl (by decide))).trans a1, (F.1 69 _ (Or.inl (by decide))).trans a2, (F.1 70 _ (Or.inl (by decide))).trans a3⟩⟩
theorem mod2 : ∀ k, k < 25 → nI k - nI k / 2 * 2 = nI (k % 2) := by decide +kernel
theorem shr_nxt {k m : Nat} : shr M ((k + 1) % 2) m = nxt M (k % 2) m := by
  unfold shr nxt
  by_cases c : k % 2 = 0
  · rw [if_pos c, if_neg (by omega)]
  · rw [if_neg c, if_pos (by omega)]
theorem jn_sh {c m : Nat} (hm : m < M.length) (hne : m ≠ i) : jn M i m (shr M c m) (nxt M c m) := by
  refine ⟨hm, hne, ?_⟩
  unfold shr nxt
  by_cases e : c = 0
  · rw [if_pos e, if_pos e]; exact Or.inl ⟨rfl, rfl⟩
  · rw [if_neg e, if_neg e]; exact Or.inr ⟨rfl, rfl⟩
/-- a call's begin -/
theorem M_gr0 (hs : s < 2) {h : Hp} (hM : MM h s M) (hl : M.length ≤ 24) (hi' : i < M.length) {L k l : Nat} (hL : h.1 54 35 = nI L) (hk1 : 1 ≤ k) (hkL : k < L) (hL2 : L ≤ 24) (h0 : h.1 74 0 = nI i) (hk0 : h.1 74 (k - 1) = nI l) (n : Nat) (sts met : Int32) : sX6_goesRound (n + 1) h (nI s) (nI k) sts met = sX6_goesRound_b58 (sX6_goesRound n) FU h (nI s) (nI k) sts met (nI (25 * s + l)) (nI (mh M i)) (nI (k % 2)) 0 := by
  have z0 : (0 : Int32).toNatClampNeg = 0 := by decide
  show sX6_goesRound_e (sX6_goesRound n) h (nI s) (nI k) sts met = _
  unfold sX6_goesRound_e sX6_goesRound_c53
  rw [hL, if_neg (by rw [eq_n (by omega) (by omega)]; omega), nI_m1 (by omega), gd_in (show k - 1 < 24 by omega) (show 24 ≤ 1000 by decide), cl_n (show k - 1 ≤ 100000 by omega), hk0, bd_t M_place]
  dsimp only
  rw [z0, h0, bd_t M_place]
  dsimp only
  rw [gd_in (show 25 * s + i < 50 by omega) (show 50 ≤ 1000 by decide), cl_n (show 25 * s + i ≤ 100000 by omega), (hM.2 i hi').1, nm_t rfl, mod2 k (by omega)]
  rcases (show k % 2 = 0 ∨ k % 2 = 1 by omega) with e | e
  · rw [e, if_neg (by decide)]; rfl
  · rw [e, if_pos (by decide)]; rfl
theorem M_gre (hs : s < 2) {h : Hp} (hM : MM h s M) (hl : M.length ≤ 24) (kr : Hp → Int32 → Int32 → Int32 → Int32 → Option (Int32 × Hp)) (n : Nat) (v2 v3 v4 v5 v6 v7 : Int32) : sX6_goesRound_b58 kr (n + 1) h (nI s) v2 v3 v4 v5 v6 v7 (nI M.length) = some (0, h) := by
  show sX6_goesRound_c58 kr (sX6_goesRound_b58 kr n) h (nI s) v2 v3 v4 v5 v6 v7 (nI M.length) = _
  unfold sX6_goesRound_c58
  rw [gd_in (show s < 2 by omega) (show 2 ≤ 1000 by decide), cl_n (show s ≤ 100000 by omega), hM.1, if_pos (by rw [le_n (by omega) (by omega)]; omega)]
/-- too far: it does not go round -/
theorem M_grA (hs : s < 2) (hl : M.length ≤ 24) (hv : ∀ k, k < M.length → mh M k < 10 ∧ mc M k < 10) (hi' : i < M.length) {L : Nat} (hL2 : L ≤ 24) : ∀ (r n k l : Nat) (h : Hp) (sts met : Int32), r + 1 < n → k + (r + 1) = L → 1 ≤ k → MM h s M → h.1 54 35 = nI L → h.1 74 0 = nI i → h.1 74 (k - 1) = nI l → l < M.length → tb met i = true → ¬ rch M i (r + 1) (shr M (k % 2) l) → ∃ h', sX6_goesRound n h (nI s) (nI k) sts met = some (0, h') ∧ FG k h h'
  | r, n, k, l, h, sts, met, hn, hk, hk1, hM, hL, h0, hk0, hl', ht', hno => by
    obtain ⟨n', rfl⟩ : ∃ q, n = q + 1 := ⟨n - 1, by omega⟩
    rw [M_gr0 hs hM hl hi' hL hk1 (by omega) hL2 h0 hk0]
    have L' := loopI (fun m (q : Hp × Int32) => sX6_goesRound_b58 (sX6_goesRound n') m q.1 (nI s) (nI k) sts met (nI (25 * s + l)) (nI (mh M i)) (nI (k % 2)) q.2) (fun m q => q.2 = nI m ∧ FG k h q.1) M.length (fun w => w.1 = 0 ∧ FG k h w.2) (by omega) (h, 0) ⟨rfl, FG.rf⟩ (fun m j q hj I => by
      obtain ⟨i1, i2⟩ := I
      have st := M_grs hs (hM.fg i2) hl hv (L := L) (k := k) (c := k % 2) (g := mh M i) (l := l) (m := j) ((i2.1 54 35 (Or.inl (by decide))).trans hL) ⟨by omega, hL2⟩ (by omega) (by omega) (hv i hi').1 hl' hj (sX6_goesRound n') m sts met
      have e0 : sX6_goesRound_b58 (sX6_goesRound n') (m + 1) q.1 (nI s) (nI k) sts met (nI (25 * s + l)) (nI (mh M i)) (nI (k % 2)) q.2 = sX6_goesRound_b58 (sX6_goesRound n') (m + 1) q.1 (nI s) (nI k) sts met (nI (25 * s + l)) (nI (mh M i)) (nI (k % 2)) (nI j) := by rw [i1]
      by_cases c : cnR M L k (k % 2) (mh M i) l j sts met
      · have hne : j ≠ i := fun z => c.1 (by rw [z]; exact ht')
        have jj := jn_sh (M := M) (i := i) (c := k % 2) hj hne
        rw [c.2.1] at jj
        match r, hn, hk, hno with
        | 0, hn, hk, hno =>
          exfalso
          exact hno (rch_jn jj (show rch M i 0 _ from c.2.2.1 (by omega)))
        | r + 1, hn, hk, hno =>
          have i3 : FG k h (u1 q.1 74 k (nI j)) := i2.w (Nat.le_refl _) _
          obtain ⟨h2, e2, F2⟩ := M_grA hs hl hv hi' hL2 r n' (k + 1) j (u1 q.1 74 k (nI j)) (sts ||| ((1 : Int32) <<< (nI (nxt M (k % 2) j) &&& 31))) (met ||| ((1 : Int32) <<< (nI j &&& 31))) (by omega) (by omega) (by omega) (hM.fg i3) ((i3.1 54 35 (Or.inl (by decide))).trans hL) ((i3.1 74 0 (Or.inr (by omega))).trans h0) (by rw [show k + 1 - 1 = k by omega]; exact rd1s) hj (by rw [tb_or, ht']; rfl) (by
            rw [shr_nxt]
            exact fun z => hno (rch_jn jj z))
          refine ⟨(h2, nI (j + 1)), ⟨rfl, i3.tr F2 (by omega)⟩, ?_⟩
          refine e0.trans (st.trans ?_)
          rw [if_pos c, bd_t e2]
          dsimp only
          rw [if_pos rfl]
      · refine ⟨(q.1, nI (j + 1)), ⟨rfl, i2⟩, ?_⟩
        refine e0.trans (st.trans ?_)
        rw [if_neg c]) (fun m q I => by
      obtain ⟨i1, i2⟩ := I
      refine ⟨(0, q.1), ?_, rfl, i2⟩
      rw [i1]
      exact M_gre hs (hM.fg i2) hl _ _ _ _ _ _ _ _)
    obtain ⟨⟨wr, wh⟩, w1, w2, w3⟩ := L'
    dsimp only at w2
    subst w2
    exact ⟨wh, w1, w3⟩
/-- just far enough: it goes round by the first of the shortest ways -/
theorem M_grB (hs : s < 2) (hl : M.length ≤ 24) (hv : ∀ k, k < M.length → mh M k < 10 ∧ mc M k < 10) {P : Nat → Prop} (hP : ∀ k, k < M.length → P (mh M k) ∧ ¬ P (mc M k)) (hi' : i < M.length) {d : Nat} {f st : Nat → Nat} (hd : d % 2 = 1) (hL2 : d + 1 ≤ 24) (hp : Pth M i d f st) : ∀ (r n k l : Nat) (h : Hp) (sts met : Int32), r + 1 < n → k + (r + 1) = d + 1 → 1 ≤ k → MM h s M → h.1 54 35 = nI (d + 1) → h.1 74 0 = nI i → h.1 74 (k - 1) = nI l → l < M.length → shr M (k % 2) l = st (k - 1) → (∀ y, y < 10 → tb sts y = true → ¬ rch M i r y) → tb met i = true → (∀ m, m < M.length → tb met m = true → m = i ∨ (¬ rch M i r (mh M m) ∧ ¬ rch M i r (mc M m))) → ∃ h', sX6_goesRound n h (nI s) (nI k) sts met = some (1, h') ∧ FG k h h' ∧ ∀ j, k ≤ j → j ≤ d → h'.1 74 j = nI (f (j - 1))
  | r, n, k, l, h, sts, met, hn, hk, hk1, hM, hL, h0, hk0, hl', hx, hst, ht', hmt => by
    obtain ⟨n', rfl⟩ : ∃ q, n = q + 1 := ⟨n - 1, by omega⟩
    rw [M_gr0 hs hM hl hi' hL hk1 (by omega) hL2 h0 hk0]
    have dx : dst M i (r + 1) (st (k - 1)) := by have := hp.2 (k - 1) (by omega); rw [show d - (k - 1) = r + 1 by omega] at this; exact this
    obtain ⟨p1, p2⟩ := hp.1 (k - 1) (by omega)
    rw [show d - 1 - (k - 1) = r by omega] at p1
    rw [show k - 1 + 1 = k by omega] at p2
    have dy : dst M i r (st k) := by have := hp.2 k (by omega); rw [show d - k = r by omega] at this; exact this
    generalize hfe : f (k - 1) = e at p1 p2
    have pa := dst_par hP hi' dx
    have he := p2.1
    have col : shr M (k % 2) e = st (k - 1) ∧ nxt M (k % 2) e = st k := by
      unfold shr nxt
      have pe := hP e he
      by_cases c : k % 2 = 0
      · rw [if_pos c, if_pos c]
        have px : P (st (k - 1)) := pa.mpr (by omega)
        rcases p2.2.2 with q | q
        · exact q
        · rw [q.1] at pe; exact absurd px pe.2
      · rw [if_neg c, if_neg c]
        have px : ¬ P (st (k - 1)) := fun z => by have := pa.mp z; omega
        rcases p2.2.2 with q | q
        · rw [q.1] at pe; exact absurd pe.1 px
        · exact q
    refine (loopI (fun m (q : Hp × Int32) => sX6_goesRound_b58 (sX6_goesRound n') m q.1 (nI s) (nI k) sts met (nI (25 * s + l)) (nI (mh M i)) (nI (k % 2)) q.2) (fun m q => q.2 = nI m ∧ FG k h q.1) e (fun w => w.1 = 1 ∧ FG k h w.2 ∧ ∀ j, k ≤ j → j ≤ d → w.2.1 74 j = nI (f (j - 1))) (by omega) (h, 0) ⟨rfl, FG.rf⟩ (fun m j q hj I => by
      obtain ⟨i1, i2⟩ := I
      have sg := M_grs hs (hM.fg i2) hl hv (L := d + 1) (k := k) (c := k % 2) (g := mh M i) (l := l) (m := j) ((i2.1 54 35 (Or.inl (by decide))).trans hL) ⟨by omega, hL2⟩ (by omega) (by omega) (hv i hi').1 hl' (by omega) (sX6_goesRound n') m sts met
      have e0 : sX6_goesRound_b58 (sX6_goesRound n') (m + 1) q.1 (nI s) (nI k) sts met (nI (25 * s + l)) (nI (mh M i)) (nI (k % 2)) q.2 = sX6_goesRound_b58 (sX6_goesRound n') (m + 1) q.1 (nI s) (nI k) sts met (nI (25 * s + l)) (nI (mh M i)) (nI (k % 2)) (nI j) := by rw [i1]
      by_cases c : cnR M (d + 1) k (k % 2) (mh M i) l j sts met
      · have hne : j ≠ i := fun z => c.1 (by rw [z]; exact ht')
        have jj := jn_sh (M := M) (i := i) (c := k % 2) (show j < M.length by omega) hne
        rw [c.2.1, hx] at jj
        have nd : ¬ rch M i r (nxt M (k % 2) j) := fun z => p1.2 j hj ⟨_, jj, dst_of dx jj z⟩
        match r, hn, hk, nd with
        | 0, hn, hk, nd =>
          exfalso
          exact nd (c.2.2.1 (by omega))
        | r + 1, hn, hk, nd =>
          have i3 : FG k h (u1 q.1 74 k (nI j)) := i2.w (Nat.le_refl _) _
          obtain ⟨h2, e2, F2⟩ := M_grA hs hl hv hi' hL2 r n' (k + 1) j (u1 q.1 74 k (nI j)) (sts ||| ((1 : Int32) <<< (nI (nxt M (k % 2) j) &&& 31))) (met ||| ((1 : Int32) <<< (nI j &&& 31))) (by omega) (by omega) (by omega) (hM.fg i3) ((i3.1 54 35 (Or.inl (by decide))).trans hL) ((i3.1 74 0 (Or.inr (by omega))).trans h0) (by rw [show k + 1 - 1 = k by omega]; exact rd1s) (by omega) (by rw [tb_or, ht']; rfl) (by
            rw [shr_nxt]
            exact nd)
          refine ⟨(h2, nI (j + 1)), ⟨rfl, i3.tr F2 (by omega)⟩, ?_⟩
          refine e0.trans (sg.trans ?_)
          rw [if_pos c, bd_t e2]
          dsimp only
          rw [if_pos rfl]
      · refine ⟨(q.1, nI (j + 1)), ⟨rfl, i2⟩, ?_⟩
        refine e0.trans (sg.trans ?_)
        rw [if_neg c]) (fun m q I => ?_)).elim (fun w hw => ?_)
    · obtain ⟨i1, i2⟩ := I
      have sg := M_grs hs (hM.fg i2) hl hv (L := d + 1) (k := k) (c := k % 2) (g := mh M i) (l := l) (m := e) ((i2.1 54 35 (Or.inl (by decide))).trans hL) ⟨by omega, hL2⟩ (by omega) (by omega) (hv i hi').1 hl' he (sX6_goesRound n') m sts met
      have i3 : FG k h (u1 q.1 74 k (nI e)) := i2.w (Nat.le_refl _) _
      have ve := hv e he
      have sk : st k < 10 := by
        rw [← col.2]
        unfold nxt
        split <;> omega
      have c : cnR M (d + 1) k (k % 2) (mh M i) l e sts met := by
        refine ⟨fun z => ?_, col.1.trans hx.symm, fun z => ?_, fun z => ⟨fun y => ?_, fun y => ?_⟩⟩
        · rcases hmt e he z with y | ⟨y1, y2⟩
          · exact p2.2.1 y
          · have : nxt M (k % 2) e = mh M e ∨ nxt M (k % 2) e = mc M e := by
              unfold nxt
              split
              · exact Or.inr rfl
              · exact Or.inl rfl
            rw [col.2] at this
            rcases this with w | w
            · rw [← w] at y1; exact y1 dy.1
            · rw [← w] at y2; exact y2 dy.1
        · rw [col.2]
          rw [show r = 0 by omega] at dy
          exact dst_0.mp dy
        · rw [col.2] at y
          have := dst_u dy (dst_0.mpr y)
          omega
        · rw [col.2] at y
          exact hst _ sk y dy.1
      rw [i1]
      match r, hn, hk, dx, dy, hst, hmt with
      | 0, hn, hk, dx, dy, hst, hmt =>
        refine ⟨(1, u1 q.1 74 k (nI e)), sg.trans ?_, rfl, i3, fun j j1 j2 => ?_⟩
        · obtain ⟨n2, rfl⟩ : ∃ z, n' = z + 1 := ⟨n' - 1, by omega⟩
          have e3 : sX6_goesRound (n2 + 1) (u1 q.1 74 k (nI e)) (nI s) (nI (k + 1)) (sts ||| ((1 : Int32) <<< (nI (nxt M (k % 2) e) &&& 31))) (met ||| ((1 : Int32) <<< (nI e &&& 31))) = some (1, u1 q.1 74 k (nI e)) := by
            show sX6_goesRound_e (sX6_goesRound n2) _ _ _ _ _ = _
            unfold sX6_goesRound_e
            rw [(i3.1 54 35 (Or.inl (by decide))).trans hL, if_pos (by rw [show k + 1 = d + 1 by omega])]
          rw [if_pos c, bd_t e3]
          dsimp only
          rw [if_neg (show ¬ (1 : Int32) = 0 by decide)]
        · dsimp only
          rw [show j = k by omega, hfe]
          exact rd1s
      | r + 1, hn, hk, dx, dy, hst, hmt =>
        have tt : ∀ m, m < 32 → (tb ((1 : Int32) <<< (nI e &&& 31)) m = true ↔ e = m) := fun m hm => by rw [tb_1 e (by omega) m hm]; exact decide_eq_true_iff
        have ty : ∀ y, y < 32 → (tb ((1 : Int32) <<< (nI (nxt M (k % 2) e) &&& 31)) y = true ↔ st k = y) := fun y hy => by rw [col.2, tb_1 (st k) (by omega) y hy]; exact decide_eq_true_iff
        obtain ⟨h2, e2, F2, w2⟩ := M_grB hs hl hv hP hi' hd hL2 hp r n' (k + 1) e (u1 q.1 74 k (nI e)) (sts ||| ((1 : Int32) <<< (nI (nxt M (k % 2) e) &&& 31))) (met ||| ((1 : Int32) <<< (nI e &&& 31))) (by omega) (by omega) (by omega) (hM.fg i3) ((i3.1 54 35 (Or.inl (by decide))).trans hL) ((i3.1 74 0 (Or.inr (by omega))).trans h0) (by rw [show k + 1 - 1 = k by omega]; exact rd1s) he (by rw [shr_nxt, show k + 1 - 1 = k by omega]; exact col.2) (fun y hy z => by
          rw [tb_or, Bool.or_eq_true] at z
          rcases z with z | z
          · exact fun w => hst y hy z (Or.inl w)
          · rw [← (ty y (by omega)).mp z]
            exact dy.2 r (by omega)) (by rw [tb_or, ht']; rfl) (fun m hm z => by
          rw [tb_or, Bool.or_eq_true] at z
          rcases z with z | z
          · rcases hmt m hm z with w | ⟨w1, w2⟩
            · exact Or.inl w
            · exact Or.inr ⟨fun v => w1 (Or.inl v), fun v => w2 (Or.inl v)⟩
          · rw [← (tt m (by omega)).mp z]
            right
            have nx := dx.2 r (by omega)
            have ny := dy.2 r (by omega)
            rcases p2.2.2 with ⟨a, b⟩ | ⟨a, b⟩
            · rw [a, b]; exact ⟨nx, ny⟩
            · rw [a, b]; exact ⟨ny, nx⟩)
        refine ⟨(1, h2), sg.trans ?_, rfl, i3.tr F2 (by omega), fun j j1 j2 => ?_⟩
        · rw [if_pos c, bd_t e2]
          dsimp only
          rw [if_neg (show ¬ (1 : Int32) = 0 by decide)]
        · by_cases z : j = k
          · dsimp only
            rw [z, hfe, F2.1 74 k (Or.inr (by omega))]
            exact rd1s
          · exact w2 j (by omega) j2
    · obtain ⟨w1, w2, w3, w4⟩ := hw
      refine ⟨w.2, ?_, w3, w4⟩
      rw [show some (1, w.2) = some w by rw [← w2]]
      exact w1
end O40
