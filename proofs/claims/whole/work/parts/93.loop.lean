/-! loop: the call -/
section O41
variable {h : Hp} {S : SS} {Ms : Nat → Mt} {tx : List Int32} {row : List Int64} {s : Nat} {M : Mt} {i : Nat}
/-- as long as it is too short, the next length comes -/
theorem M_fls (hs : s < 2) (hl : M.length ≤ 24) (hv : ∀ k, k < M.length → mh M k < 10 ∧ mc M k < 10) (hi' : i < M.length) {N : Nat} (hN : 2 * N ≤ M.length) (hno : ∀ t, t < 2 * N → ¬ rch M i t (mc M i)) (hM : MM h s M) : ∃ h' m, sX6_findsLoop h (nI s) (nI i) = sX6_findsLoop_b12 (m + 1) h' (nI s) (nI i) ∧ MM h' s M ∧ h'.1 54 35 = nI (2 * (N + 1)) ∧ h'.1 74 0 = nI i := by
  have z0 : (0 : Int32).toNatClampNeg = 0 := by decide
  have F0 : Fr [(74, none), (54, some 35)] [] h (u1 (u1 h 74 0 (nI i)) 54 35 2) := Fr.w1 (Fr.w1 Fr.rf rfl (by simp)) rfl (by simp)
  have L := loopS (fun m (q : Hp) => sX6_findsLoop_b12 m q (nI s) (nI i)) (fun j q => MM q s M ∧ q.1 54 35 = nI (2 * (j + 1)) ∧ q.1 74 0 = nI i) N (fun m j q hj I => by
    obtain ⟨i1, i2, i3⟩ := I
    have vi := hv i hi'
    have sh1 : shr M (1 % 2) i = mc M i := by unfold shr; rw [if_neg (by decide)]
    obtain ⟨h2, e2, F2⟩ := M_grA hs hl hv hi' (L := 2 * (j + 1)) (by omega) (2 * j) 30 1 i q ((1 : Int32) <<< (nI (mc M i) &&& 31)) ((1 : Int32) <<< (nI i &&& 31)) (by omega) (by omega) (by omega) i1 i2 i3 i3 hi' (by rw [tb_1 i (by omega) i (by omega)]; simp) (by rw [sh1]; exact hno _ (by omega))
    have e2 : sX6_goesRound 30 q (nI s) 1 ((1 : Int32) <<< (nI (mc M i) &&& 31)) ((1 : Int32) <<< (nI i &&& 31)) = some (0, h2) := e2
    have e35 : h2.1 54 35 = nI (2 * (j + 1)) := (F2.1 54 35 (Or.inl (by decide))).trans i2
    have F3 : Fr [(54, some 35)] [] h2 (u1 h2 54 35 (nI (2 * (j + 1)) + 2)) := Fr.w1 Fr.rf rfl (by simp)
    refine ⟨u1 h2 54 35 (nI (2 * (j + 1)) + 2), ⟨(i1.fg F2).fr F3 (by decide), ?_, (rd1c (by decide)).trans ((F2.1 74 0 (Or.inr (by omega))).trans i3)⟩, ?_⟩
    · rw [rd1s]
      show nI (2 * (j + 1)) + nI 2 = _
      rw [nI_add]
      rfl
    · show sX6_findsLoop_c12 (sX6_findsLoop_b12 m) q (nI s) (nI i) = _
      unfold sX6_findsLoop_c12
      rw [gd_in (show s < 2 by omega) (show 2 ≤ 1000 by decide), cl_n (show s ≤ 100000 by omega), i1.1, i2, if_neg (by rw [lt_n (by omega) (by omega)]; omega), bd_t M_place]
      dsimp only
      rw [gd_in (show 25 * s + i < 50 by omega) (show 50 ≤ 1000 by decide), cl_n (show 25 * s + i ≤ 100000 by omega), (i1.2 i hi').2.1, bd_t e2]
      dsimp only
      rw [if_pos rfl, e35, nm_t rfl]) N 0 FU (u1 (u1 h 74 0 (nI i)) 54 35 2) ⟨hM.fr F0 (by decide), rd1s, (rd1c (by decide)).trans rd1s⟩ (by omega) (show N < 1000 by omega)
  obtain ⟨q, m, ⟨i1, i2, i3⟩, e⟩ := L
  refine ⟨q, m, ?_, i1, i2, i3⟩
  unfold sX6_findsLoop
  rw [z0, nm_t rfl, nm_t rfl]
  exact e
theorem M_fl0 (hs : s < 2) (hl : M.length ≤ 24) (hv : ∀ k, k < M.length → mh M k < 10 ∧ mc M k < 10) (hi' : i < M.length) (hno : ∀ t, ¬ rch M i t (mc M i)) (hM : MM h s M) : ∃ h', sX6_findsLoop h (nI s) (nI i) = some (0, h') := by
  obtain ⟨h', m, e1, m1, e2, e3⟩ := M_fls hs hl hv hi' (N := M.length / 2) (by omega) (fun t _ => hno t) hM
  refine ⟨h', e1.trans ?_⟩
  show sX6_findsLoop_c12 (sX6_findsLoop_b12 m) h' (nI s) (nI i) = _
  unfold sX6_findsLoop_c12
  rw [gd_in (show s < 2 by omega) (show 2 ≤ 1000 by decide), cl_n (show s ≤ 100000 by omega), m1.1, e2, if_pos (by rw [lt_n (by omega) (by omega)]; omega)]
theorem M_fl1 (hs : s < 2) (hl : M.length ≤ 24) (hv : ∀ k, k < M.length → mh M k < 10 ∧ mc M k < 10) {P : Nat → Prop} (hP : ∀ k, k < M.length → P (mh M k) ∧ ¬ P (mc M k)) (hi' : i < M.length) {d : Nat} {f st : Nat → Nat} (h0 : st 0 = mc M i) (hp : Pth M i d f st) (hM : MM h s M) : ∃ h', sX6_findsLoop h (nI s) (nI i) = some (nI (d + 1), h') ∧ h'.1 74 0 = nI i ∧ ∀ j, j < d → h'.1 74 (j + 1) = nI (f j) := by
  have dd : dst M i d (mc M i) := by have := hp.2 0 (Nat.zero_le _); rw [h0] at this; exact this
  have dl := dst_len hi' dd
  have pa := dst_par hP hi' dd
  have hd : d % 2 = 1 := by
    have : ¬ d % 2 = 0 := fun q => (hP i hi').2 (pa.mpr q)
    omega
  have vi := hv i hi'
  have sh1 : shr M (1 % 2) i = mc M i := by unfold shr; rw [if_neg (by decide)]
  obtain ⟨h1, m, e1, m1, e2, e3⟩ := M_fls hs hl hv hi' (N := (d - 1) / 2) (by omega) (fun t ht' => dd.2 t (by omega)) hM
  rw [show 2 * ((d - 1) / 2 + 1) = d + 1 by omega] at e2
  have tc : ∀ y, y < 32 → (tb ((1 : Int32) <<< (nI (mc M i) &&& 31)) y = true ↔ mc M i = y) := fun y hy => by rw [tb_1 (mc M i) (by omega) y hy]; exact decide_eq_true_iff
  have tm : ∀ y, y < 32 → (tb ((1 : Int32) <<< (nI i &&& 31)) y = true ↔ i = y) := fun y hy => by rw [tb_1 i (by omega) y hy]; exact decide_eq_true_iff
  obtain ⟨h2, o2, F2, w2⟩ := M_grB hs hl hv hP hi' hd (by omega) hp (d - 1) 30 1 i h1 ((1 : Int32) <<< (nI (mc M i) &&& 31)) ((1 : Int32) <<< (nI i &&& 31)) (by omega) (by omega) (by omega) m1 e2 e3 e3 hi' (by rw [sh1]; exact h0.symm) (fun y hy z => by
    rw [← (tc y (by omega)).mp z]
    exact dd.2 _ (by omega)) ((tm i (by omega)).mpr rfl) (fun m hm z => Or.inl ((tm m (by omega)).mp z).symm)
  refine ⟨h2, e1.trans ?_, (F2.1 74 0 (Or.inr (by omega))).trans e3, fun j hj => ?_⟩
  · show sX6_findsLoop_c12 (sX6_findsLoop_b12 m) h1 (nI s) (nI i) = _
    unfold sX6_findsLoop_c12
    rw [gd_in (show s < 2 by omega) (show 2 ≤ 1000 by decide), cl_n (show s ≤ 100000 by omega), m1.1, e2, if_neg (by rw [lt_n (by omega) (by omega)]; omega), bd_t M_place]
    dsimp only
    rw [gd_in (show 25 * s + i < 50 by omega) (show 50 ≤ 1000 by decide), cl_n (show 25 * s + i ≤ 100000 by omega), (m1.2 i hi').2.1]
    have o2' : sX6_goesRound 30 h1 (nI s) 1 ((1 : Int32) <<< (nI (mc M i) &&& 31)) ((1 : Int32) <<< (nI i &&& 31)) = some (1, h2) := o2
    rw [bd_t o2']
    dsimp only
    rw [if_neg (show ¬ (1 : Int32) = 0 by decide), (F2.1 54 35 (Or.inl (by decide))).trans e2]
  · have := w2 (j + 1) (by omega) (by omega)
    rw [show j + 1 - 1 = j by omega] at this
    exact this
/-- the ring's matches -/
def rgF (i : Nat) (f : Nat → Nat) (j : Nat) : Nat := if j = 0 then i else f (j - 1)
def rgL (g : Nat → Nat) : Nat → List Int64
  | 0 => []
  | j + 1 => rgL g j ++ [(nI (g j)).toInt64]
theorem rgL_len {g : Nat → Nat} : ∀ {j : Nat}, (rgL g j).length = j
  | 0 => rfl
  | j + 1 => by
    have ih := rgL_len (g := g) (j := j)
    show (rgL g j ++ [(nI (g j)).toInt64]).length = j + 1
    rw [List.length_append, ih]
    rfl
theorem X_rgL (hs : s < 2) {g : Nat → Nat} {d : Nat} (hd : d + 1 ≤ 10) (X : RX h S Ms tx []) (h16 : h.1 (26 + 14 * s) 16 = nI (d + 1)) (hg : ∀ j, j ≤ d → h.1 (26 + 14 * s + 12) j = nI (g j)) : ∃ h', sX5_loop_b38 FU h (26 + 14 * s) 0 = some (nI (d + 1), h') ∧ RX h' S Ms tx (rgL g (d + 1)) := by
  have L := loopI (fun m (q : Hp × Int32) => sX5_loop_b38 m q.1 (26 + 14 * s) q.2) (fun j q => q.2 = nI j ∧ RX q.1 S Ms tx (rgL g j) ∧ q.1.1 (26 + 14 * s) 16 = nI (d + 1) ∧ ∀ j, j ≤ d → q.1.1 (26 + 14 * s + 12) j = nI (g j)) (d + 1) (fun w => w.1 = nI (d + 1) ∧ RX w.2 S Ms tx (rgL g (d + 1))) (by omega) (h, 0) ⟨rfl, X, h16, hg⟩ (fun m j q hj I => by
    obtain ⟨i1, i2, i3, i4⟩ := I
    obtain ⟨h2, e2, r2⟩ := i2.add (by rw [rgL_len]; omega) (nI (g j)).toInt64
    have F := fX4_add _ _ _ e2
    refine ⟨(h2, nI (j + 1)), ⟨rfl, r2, (F.1 _ 16 (by simp) (by simp)).trans i3, fun u hu => (F.1 _ u (by simp) (by simp)).trans (i4 u hu)⟩, ?_⟩
    show sX5_loop_c38 (sX5_loop_b38 m) q.1 (26 + 14 * s) q.2 = _
    unfold sX5_loop_c38
    rw [i1, i3, if_neg (by rw [le_n (by omega) (by omega)]; omega), gd_in (show j < 10 by omega) (show 10 ≤ 1000 by decide), cl_n (show j ≤ 100000 by omega), i4 j (by omega), bd_t e2, nI_1, nm_t rfl]) (fun m q I => by
    obtain ⟨i1, i2, i3, i4⟩ := I
    refine ⟨(nI (d + 1), q.1), ?_, rfl, i2⟩
    show sX5_loop_c38 (sX5_loop_b38 m) q.1 (26 + 14 * s) q.2 = _
    unfold sX5_loop_c38
    rw [i1, i3, if_pos (by rw [le_n (by omega) (by omega)]; omega)])
  obtain ⟨⟨wr, wh⟩, w1, w2, w3⟩ := L
  dsimp only at w2
  subst w2
  exact ⟨wh, w1, w3⟩
theorem M_rgL {g : Nat → Nat} {d : Nat} (hd : d + 1 ≤ 10) (X : RM h S Ms tx []) (hg : ∀ j, j ≤ d → h.1 74 j = nI (g j)) : ∃ h', sX6_loop_b38 FU h (nI (d + 1)) 0 = some (nI (d + 1), h') ∧ RM h' S Ms tx (rgL g (d + 1)) := by
  have L := loopI (fun m (q : Hp × Int32) => sX6_loop_b38 m q.1 (nI (d + 1)) q.2) (fun j q => q.2 = nI j ∧ RM q.1 S Ms tx (rgL g j) ∧ ∀ j, j ≤ d → q.1.1 74 j = nI (g j)) (d + 1) (fun w => w.1 = nI (d + 1) ∧ RM w.2 S Ms tx (rgL g (d + 1))) (by omega) (h, 0) ⟨rfl, X, hg⟩ (fun m j q hj I => by
    obtain ⟨i1, i2, i4⟩ := I
    obtain ⟨h2, e2, r2, F⟩ := i2.ent (by rw [rgL_len]; omega) (nI (g j)).toInt64
    refine ⟨(h2, nI (j + 1)), ⟨rfl, r2, fun u hu => (F.1 _ u (by simp) (by simp)).trans (i4 u hu)⟩, ?_⟩
    show sX6_loop_c38 (sX6_loop_b38 m) q.1 (nI (d + 1)) q.2 = _
    unfold sX6_loop_c38
    rw [i1, if_neg (by rw [le_n (by omega) (by omega)]; omega), gd_in (show j < 24 by omega) (show 24 ≤ 1000 by decide), cl_n (show j ≤ 100000 by omega), i4 j (by omega), bd_t e2, nI_1, nm_t rfl]) (fun m q I => by
    obtain ⟨i1, i2, i4⟩ := I
    refine ⟨(nI (d + 1), q.1), ?_, rfl, i2⟩
    show sX6_loop_c38 (sX6_loop_b38 m) q.1 (nI (d + 1)) q.2 = _
    unfold sX6_loop_c38
    rw [i1, if_pos (by rw [le_n (by omega) (by omega)]; omega)])
  obtain ⟨⟨wr, wh⟩, w1, w2, w3⟩ := L
  dsimp only at w2
  subst w2
  exact ⟨wh, w1, w3⟩
theorem RX.rg {r : Nat} {h' : Hp} (hs : s < 2) (X : RX h S Ms tx row) (F : Fr (wX2_findRing (26 + 14 * s)) zX2_findRing h h') : RX h' S Ms tx row := by
  rcases (show s = 0 ∨ s = 1 by omega) with rfl | rfl
  · exact ⟨X.1.fr F (by decide), X.2.1.fr F (by decide), X.2.2.fr F (by decide) (by decide)⟩
  · exact ⟨X.1.fr F (by decide), X.2.1.fr F (by decide), X.2.2.fr F (by decide) (by decide)⟩
theorem RM.fl {h' : Hp} (X : RM h S Ms tx row) (F : Fr wX6_findsLoop zX6_findsLoop h h') : RM h' S Ms tx row := ⟨X.1.fr F (by decide), X.2.1.fr F (by decide), X.2.2.fr F (by decide) (by decide)⟩
/-- a match of those that stand: what is known of it, and of its ring -/
theorem rg_cs (ok : OK S) (v : VM S s M) (hi' : i < M.length) : (∀ k, k < M.length → mh M k < S.1 ∧ mc M k < S.1) ∧ (∀ k, k < M.length → mh M k ≠ mc M k) ∧ (∀ k, k < M.length → hb S.2.1 S.2.2.1 (mh M k) = 1 ∧ ¬ hb S.2.1 S.2.2.1 (mc M k) = 1) ∧ ((∀ t, ¬ rch M i t (mc M i)) ∨ ∃ d f st, st 0 = mc M i ∧ Pth M i d f st ∧ d < S.1) := by
  have hv : ∀ k, k < M.length → mh M k < S.1 ∧ mc M k < S.1 := fun k hk => ⟨(v.2.1 k hk).1.1, (v.2.1 k hk).1.2.1⟩
  have hP : ∀ k, k < M.length → hb S.2.1 S.2.2.1 (mh M k) = 1 ∧ ¬ hb S.2.1 S.2.2.1 (mc M k) = 1 := fun k hk => by
    have p := (v.2.1 k hk).1
    exact ⟨p.2.2.1, by rw [p.2.2.2.1]; decide⟩
  refine ⟨hv, fun k hk e => ?_, hP, ?_⟩
  · have := hP k hk
    rw [e] at this
    exact this.2 this.1
  · by_cases c : ∃ t, rch M i t (mc M i)
    · obtain ⟨t, ht'⟩ := c
      obtain ⟨d, d1, d2⟩ := rch_dst ht'
      obtain ⟨f, st, s0, s1⟩ := pth_ex d2
      exact Or.inr ⟨d, f, st, s0, s1, dst_lt hi' hv d2⟩
    · exact Or.inl (fun t z => c ⟨t, z⟩)
theorem op_loop (R : Rel h S Ms tx row) (a b : Int32) : Step (fun h => sX5_loop h a b) (fun h => sX6_loop h a b) h := by
  have ok := R.1.1
  have X := R.2.1
  have hn := ok.1
  by_cases c0 : a = 0 ∨ a = 1
  · obtain ⟨s, hs, rfl⟩ := side_cs c0
    have v0 := R.1.2.1 s hs
    have hr := ck_sd hs
    have hl := v0.1
    obtain ⟨hD, hX⟩ := X.1.2.2.2 s hs
    by_cases c : 0 ≤ b ∧ b < nI (Ms s).length
    · obtain ⟨k, hk, rfl⟩ := mat_cs hl c
      have c1 : ¬ bI (0 ≤ nI k ∧ nI k < nI (Ms s).length) = 0 := by rw [bI_z]; exact fun q => q c
      obtain ⟨hv, hne, hP, cs⟩ := rg_cs ok v0 hk
      have hv' := v0.lt ok
      rcases cs with hno | ⟨d, f, st, s0, hp, dn⟩
      · obtain ⟨h1, e1⟩ := S_ring0 hs hn hD hX hl hv hne hk hno
        have x1 := X.rg (r := 0) hs (fX2_findRing _ _ _ _ e1)
        have eX : sX5_loop h (nI s) (nI k) = some (-2, h1) := by
          unfold sX5_loop
          rw [bd_t (X_hasMatch X.1 hs _)]
          dsimp only
          rw [if_neg c1, bd_t (X_sideOf _ hs)]
          dsimp only
          rw [gd_t (isC_ok hr), bd_t e1]
          dsimp only
          rw [if_pos rfl]
        refine mkS (S' := S) (Ms' := Ms) R eX (fX5_loop _ _ _ _ eX) (by decide) (by decide) x1 R.1 (fun hM => ?_) (fun q e => fX6_loop h1 (nI s) (nI k) q e) (by decide) (by decide)
        obtain ⟨m1, F1⟩ := hM.thr 0
        obtain ⟨h2, o2⟩ := M_fl0 hs hl hv' hk hno (m1.1.2 s hs)
        refine ⟨h2, ?_, m1.fl (fX6_findsLoop _ _ _ _ o2)⟩
        show sX6_loop h1 (nI s) (nI k) = _
        unfold sX6_loop
        rw [nm_t rfl, bd_t (M_isMatch (m1.1.2 s hs) hl hs _)]
        dsimp only
        rw [if_neg c1, bd_t o2]
        dsimp only
        rw [if_pos rfl]
      · obtain ⟨h1, e1, w1, w2, w3⟩ := S_ring1 hs hn hD hX hl hv hne hk s0 hp
        have x1 := X.rg (r := 0) hs (fX2_findRing _ _ _ _ e1)
        obtain ⟨e2, x2⟩ := x1.emp
        have F2 := fX4_empty h1 _ e2
        obtain ⟨h3, e3, x3⟩ := X_rgL (g := rgF k f) (d := d) hs (by omega) x2 ((F2.1 _ 16 (by simp) (by simp)).trans w1) (fun j hj => by
          refine (F2.1 _ j (by simp) (by simp)).trans ?_
          unfold rgF
          by_cases z : j = 0
          · rw [if_pos z, z]; exact w2
          · rw [if_neg z]
            have := w3 (j - 1) (by omega)
            rw [show j - 1 + 1 = j by omega] at this
            exact this)
        have eX : sX5_loop h (nI s) (nI k) = some (nI (d + 1), h3) := by
          unfold sX5_loop
          rw [bd_t (X_hasMatch X.1 hs _)]
          dsimp only
          rw [if_neg c1, bd_t (X_sideOf _ hs)]
          dsimp only
          rw [gd_t (isC_ok hr), bd_t e1]
          dsimp only
          rw [if_neg (show ¬ (1 : Int32) = 0 by decide), bd_t e2]
          exact e3
        refine mkS (S' := S) (Ms' := Ms) R eX (fX5_loop _ _ _ _ eX) (by decide) (by decide) x3 (invR R.1 (by rw [rgL_len]; omega)) (fun hM => ?_) (fun q e => fX6_loop h3 (nI s) (nI k) q e) (by decide) (by decide)
        obtain ⟨m1, F1⟩ := hM.thr 0
        obtain ⟨h2, o2, y1, y2⟩ := M_fl1 (P := fun x => hb S.2.1 S.2.2.1 x = 1) hs hl hv' hP hk s0 hp (m1.1.2 s hs)
        have m2 := m1.fl (fX6_findsLoop _ _ _ _ o2)
        obtain ⟨m3, F3⟩ := m2.row0
        obtain ⟨h4, o4, m4⟩ := M_rgL (g := rgF k f) (d := d) (by omega) m3 (fun j hj => by
          refine (F3.1 _ j (by simp) (by simp)).trans ?_
          unfold rgF
          by_cases z : j = 0
          · rw [if_pos z, z]; exact y1
          · rw [if_neg z]
            have := y2 (j - 1) (by omega)
            rw [show j - 1 + 1 = j by omega] at this
            exact this)
        refine ⟨h4, ?_, m4⟩
        show sX6_loop h3 (nI s) (nI k) = _
        unfold sX6_loop
        rw [nm_t rfl, bd_t (M_isMatch (m1.1.2 s hs) hl hs _)]
        dsimp only
        rw [if_neg c1, bd_t o2]
        dsimp only
        rw [if_neg (show ¬ nI (d + 1) = 0 from fun z => by have z : nI (d + 1) = nI 0 := z; rw [eq_n (by omega) (by omega)] at z; omega), nm_t rfl]
        exact o4
    · have c1 : bI (0 ≤ b ∧ b < nI (Ms s).length) = 0 := bI_z.mpr c
      have eX : sX5_loop h (nI s) b = some (-1, h) := by
        unfold sX5_loop
        rw [bd_t (X_hasMatch X.1 hs _)]
        dsimp only
        rw [if_pos c1]
      refine mkS (S' := S) (Ms' := Ms) R eX (fX5_loop _ _ _ _ eX) (by decide) (by decide) X R.1 (fun hM => ?_) (fun q e => fX6_loop h (nI s) b q e) (by decide) (by decide)
      obtain ⟨m1, F1⟩ := hM.thr 0
      refine ⟨u1 h 54 0 0, ?_, m1⟩
      show sX6_loop h (nI s) b = _
      unfold sX6_loop
      rw [nm_t rfl, bd_t (M_isMatch (m1.1.2 s hs) hl hs _)]
      dsimp only
      rw [if_pos c1]
  · have eX : sX5_loop h a b = some (-1, h) := by simp only [sX5_loop, X_hasMatch0 c0, Option.bind_some, if_true]
    refine mkS (S' := S) (Ms' := Ms) R eX (fX5_loop _ _ _ _ eX) (by decide) (by decide) X R.1 (fun hM => ?_) (fun q e => fX6_loop h a b q e) (by decide) (by decide)
    obtain ⟨m1, F1⟩ := hM.thr 0
    exact ⟨u1 h 54 0 0, by simp only [sX6_loop, nm, M_isMatch0 c0, Option.bind_some, if_true], m1⟩
end O41
