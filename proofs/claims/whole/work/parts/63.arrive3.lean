/-! arrive, both -/
section O23
variable {h : Hp} {S : SS} {Ms : Nat → Mt} {tx : List Int32} {row : List Int64} {r s : Nat}
theorem bI_1 {p : Prop} [Decidable p] : bI p = 1 ↔ p := by
  unfold bI
  split
  · next z => exact ⟨fun _ => z, fun _ => rfl⟩
  · next z => exact ⟨fun q => absurd q (by decide), fun q => absurd q z⟩
theorem M_flag01 {x : Int32} (hx : x = 0 ∨ x = 1) : sX6_flag h x = some (x, h) := by rcases hx with rfl | rfl <;> rfl
theorem M_pairs {a b : Nat} {v1 v4 : Int32} {f g : Nat → Int32} (ha : a ≤ 10) (hf : ∀ j, j < a → h.1 65 j = f j) (hg : ∀ j, j < a → h.1 66 j = g j) : ∀ (d i n : Nat), i + d = a → d + 1 < n → ∃ x : Int32, (x = 0 ∨ x = 1) ∧ (x = 1 ↔ ∀ j, i ≤ j → j < a → f j ≤ g j) ∧ sX6_arrive_b76 n h v1 (nI a) (nI b) v4 1 (nI i) = sX6_arrive_c117 h v1 (nI a) (nI b) v4 x
  | 0, i, n, h1, h2 => by
    obtain ⟨m, rfl⟩ : ∃ m, n = m + 1 := ⟨n - 1, by omega⟩
    refine ⟨1, Or.inr rfl, ⟨fun _ j q1 q2 => by omega, fun _ => rfl⟩, ?_⟩
    show sX6_arrive_c76 (sX6_arrive_b76 m) h v1 (nI a) (nI b) v4 1 (nI i) = _
    unfold sX6_arrive_c76
    rw [if_pos (by rw [le_n (by omega) (by omega)]; omega)]
  | d + 1, i, n, h1, h2 => by
    obtain ⟨m, rfl⟩ : ∃ m, n = m + 1 := ⟨n - 1, by omega⟩
    have hle : ¬ nI a ≤ nI i := by rw [le_n (by omega) (by omega)]; omega
    have e0 : sX6_arrive_b76 (m + 1) h v1 (nI a) (nI b) v4 1 (nI i) = if g i < f i then sX6_arrive_b76 m h v1 (nI a) (nI b) v4 0 (nI (i + 1)) else sX6_arrive_b76 m h v1 (nI a) (nI b) v4 1 (nI (i + 1)) := by
      show sX6_arrive_c76 (sX6_arrive_b76 m) h v1 (nI a) (nI b) v4 1 (nI i) = _
      unfold sX6_arrive_c76 sX6_arrive_c109
      rw [if_neg hle, if_neg (by decide), gd_in (show i < 10 by omega) (show 10 ≤ 1000 by decide), gd_in (show i < 10 by omega) (show 10 ≤ 1000 by decide), cl_n (show i ≤ 100000 by omega), hf i (by omega), hg i (by omega), nI_1, nm_t rfl, nm_t rfl]
    rw [e0]
    by_cases c : g i < f i
    · rw [if_pos c]
      refine ⟨0, Or.inl rfl, ⟨fun q => absurd q (by decide), fun q => by have := q i (Nat.le_refl _) (by omega); grind⟩, ?_⟩
      obtain ⟨m', rfl⟩ : ∃ m', m = m' + 1 := ⟨m - 1, by omega⟩
      show sX6_arrive_c76 (sX6_arrive_b76 m') h v1 (nI a) (nI b) v4 0 (nI (i + 1)) = _
      unfold sX6_arrive_c76
      by_cases z : nI a ≤ nI (i + 1)
      · rw [if_pos z]
      · rw [if_neg z, if_pos rfl]
    · rw [if_neg c]
      obtain ⟨x, x1, x2, x3⟩ := M_pairs ha hf hg d (i + 1) m (by omega) (by omega)
      refine ⟨x, x1, ⟨fun q j q1 q2 => ?_, fun q => x2.mpr (fun j q1 q2 => q j (by omega) q2)⟩, x3⟩
      by_cases e : j = i
      · rw [e]; grind
      · exact x2.mp q j (by omega) q2
theorem op_arrive (R : Rel h S Ms tx row) (a : Int32) : Step (fun h => sX5_arrive h a) (fun h => sX6_arrive h a) h := by
  have ok := R.1.1
  have X := R.2.1
  have hn := ok.1
  by_cases c0 : a = 0 ∨ a = 1
  · obtain ⟨s, hs, rfl⟩ := side_cs c0
    have hr := ck_sd hs
    have c1 : ¬ bI (nI s = 0 ∨ nI s = 1) = 0 := by rw [bI_z]; exact fun q => q c0
    obtain ⟨hD, hX⟩ := X.1.2.2.2 s hs
    -- the two kinds
    obtain ⟨K, O, k1, k2, k3⟩ : ∃ K O : Int32, K = (if s = 0 then 1 else 0) ∧ O = (if s = 0 then 0 else 1) ∧ O = (if K = 0 then 1 else 0) := by
      by_cases z : s = 0
      · exact ⟨1, 0, by rw [if_pos z], by rw [if_pos z], by decide⟩
      · exact ⟨0, 1, by rw [if_neg z], by rw [if_neg z], by decide⟩
    obtain ⟨A, hA⟩ : ∃ A, A = cA S s K 0 S.1 := ⟨_, rfl⟩
    obtain ⟨B, hB⟩ : ∃ B, B = cA S s O 0 S.1 := ⟨_, rfl⟩
    have lA : A ≤ 10 := by have := cA_le (S := S) (s := s) (k := K) (m := 0) (i := S.1); omega
    have lB : B ≤ 10 := by have := cA_le (S := S) (s := s) (k := O) (m := 0) (i := S.1); omega
    obtain ⟨fl, hfl⟩ : ∃ fl : Int32, fl = if B < A then 0 else 1 := ⟨_, rfl⟩
    have fl01 : fl = 0 ∨ fl = 1 := by rw [hfl]; split <;> simp
    obtain ⟨y, hy⟩ : ∃ y : Int32, y = bI (∀ m : Fin 20, cA S s K (nI (m.val + 1)) S.1 ≤ cA S s (if K = 0 then 1 else 0) (nI (m.val + 1)) S.1) := ⟨_, rfl⟩
    have y01 : y = 0 ∨ y = 1 := by rw [hy]; exact bI01
    obtain ⟨cold, hcold⟩ : ∃ x, x = if s = 0 then B else A := ⟨_, rfl⟩
    obtain ⟨hot, hhot⟩ : ∃ x, x = if s = 0 then A else B := ⟨_, rfl⟩
    have q1 : sX2_arriving h (26 + 14 * s) 1 0 = some (nI hot, h) := by
      rw [S_arr hr hn hD, hhot, hA, hB, k1, k2]
      split <;> rfl
    have q0 : sX2_arriving h (26 + 14 * s) 0 0 = some (nI cold, h) := by
      rw [S_arr hr hn hD, hcold, hA, hB, k1, k2]
      split <;> rfl
    have qp : sX2_allPaired h (26 + 14 * s) K = some (y, h) := by rw [S_allP hr hn hD, hy]
    obtain ⟨h1, e1, r1⟩ := X.tell3 (nI cold).toInt64 fl.toInt64 y.toInt64
    have z0 : (0 : Int32).toInt64 = 0 := by decide
    have z1 : (1 : Int32).toInt64 = 1 := by decide
    have ltBA : nI B < nI A ↔ B < A := lt_n (by omega) (by omega)
    have s0 : nI s = 0 ↔ s = 0 := s01 hs
    have eX : sX5_arrive h (nI s) = some (nI hot, h1) := by
      have tail : ∀ x : Int32, (x = 0 ∨ x = 1) → x = fl → sX5_arrive_c59 h (nI s) (26 + 14 * s) (nI hot) (nI cold) x = some (nI hot, h1) := by
        intro x x01 xf
        subst xf
        have t2 : ∀ t0 : Int64, t0 = x.toInt64 → sX5_arrive_c78 h (nI s) (26 + 14 * s) (nI hot) t0 (nI cold).toInt64 = some (nI hot, h1) := by
          intro t0 ht0
          subst ht0
          have t3 : sX5_arrive_c88 h (nI hot) K (26 + 14 * s) x.toInt64 (nI cold).toInt64 = some (nI hot, h1) := by
            unfold sX5_arrive_c88 sX5_arrive_c99
            rw [bd_t qp]
            dsimp only
            rcases y01 with y0 | y0
            · rw [y0, z0] at e1
              rw [y0, if_pos rfl, bd_t e1]
            · rw [y0, z1] at e1
              rw [y0, if_neg (by decide), bd_t e1]
          unfold sX5_arrive_c78
          by_cases z : s = 0
          · rw [if_pos (s0.mpr z)]
            rw [k1, if_pos z] at t3
            exact t3
          · rw [if_neg (fun q => z (s0.mp q))]
            rw [k1, if_neg z] at t3
            exact t3
        unfold sX5_arrive_c59
        rcases x01 with rfl | rfl
        · rw [if_pos rfl]; exact t2 _ z0.symm
        · rw [if_neg (by decide)]; exact t2 _ z1.symm
      unfold sX5_arrive
      rw [bd_t (X_isSide _ _)]
      dsimp only
      rw [if_neg c1, bd_t (X_sideOf _ hs)]
      dsimp only
      rw [gd_t (isC_ok hr), bd_t q1]
      dsimp only
      rw [bd_t q0]
      dsimp only
      by_cases z : s = 0
      · rw [if_pos (s0.mpr z)]
        have hc : cold = B := by rw [hcold, if_pos z]
        have hh : hot = A := by rw [hhot, if_pos z]
        by_cases w : B < A
        · rw [if_pos (by rw [hc, hh]; exact ltBA.mpr w)]
          exact tail 0 (Or.inl rfl) (by rw [hfl, if_pos w])
        · rw [if_neg (by rw [hc, hh]; exact fun q => w (ltBA.mp q))]
          exact tail 1 (Or.inr rfl) (by rw [hfl, if_neg w])
      · rw [if_neg (fun q => z (s0.mp q))]
        have hc : cold = A := by rw [hcold, if_neg z]
        have hh : hot = B := by rw [hhot, if_neg z]
        by_cases w : B < A
        · rw [if_pos (by rw [hc, hh]; exact ltBA.mpr w)]
          exact tail 0 (Or.inl rfl) (by rw [hfl, if_pos w])
        · rw [if_neg (by rw [hc, hh]; exact fun q => w (ltBA.mp q))]
          exact tail 1 (Or.inr rfl) (by rw [hfl, if_neg w])
    refine mkS (S' := S) (Ms' := Ms) R eX (fX5_arrive _ _ _ eX) (by decide) (by decide) r1 (invR R.1 (by simp)) (fun hM => ?_) (fun q e => fX6_arrive h1 (nI s) q e) (by decide) (by decide)
    obtain ⟨m1, F1⟩ := hM.thr 0
    obtain ⟨h2, o2, m2, f2⟩ := m1.finds ok
    obtain ⟨h3, o3, F3, a3⟩ := M_laysA (k := K) (c := 65) ok f2 hs (Or.inl rfl)
    have f3 := FD.fr f2 F3 (by decide) (by decide)
    obtain ⟨h4, o4, F4, a4⟩ := M_laysA (k := O) (c := 66) ok f3 hs (Or.inr rfl)
    have f4 := FD.fr f3 F4 (by decide) (by decide)
    have m4 : RM h4 S Ms tx row := ⟨(m2.1.fr F3 (by decide)).fr F4 (by decide), (m2.2.1.fr F3 (by decide)).fr F4 (by decide), (m2.2.2.fr F3 (by decide) (by decide)).fr F4 (by decide) (by decide)⟩
    rw [← hA] at o3
    rw [← hB] at o4
    unfold ARv at a3 a4
    rw [← hA] at a3
    rw [← hB] at a4
    have f65 : ∀ j, h4.1 65 j = h3.1 65 j := fun j => F4.c (by decide) j
    obtain ⟨x, x01, x2, x3⟩ : ∃ x : Int32, (x = 0 ∨ x = 1) ∧ (x = 1 ↔ A ≤ B ∧ ∀ j, j < A → h3.1 65 j ≤ h4.1 66 j) ∧ sX6_arrive_b76 FU h4 (nI s) (nI A) (nI B) fl fl (nI 0) = sX6_arrive_c117 h4 (nI s) (nI A) (nI B) fl x := by
      by_cases w : B < A
      · have : fl = 0 := by rw [hfl, if_pos w]
        refine ⟨0, Or.inl rfl, ⟨fun q => absurd q (by decide), fun q => by omega⟩, ?_⟩
        rw [this]
        show sX6_arrive_c76 (sX6_arrive_b76 999) h4 (nI s) (nI A) (nI B) 0 0 (nI 0) = _
        unfold sX6_arrive_c76
        by_cases z : nI A ≤ nI 0
        · rw [if_pos z]
        · rw [if_neg z, if_pos rfl]
      · have : fl = 1 := by rw [hfl, if_neg w]
        obtain ⟨x, p1, p2, p3⟩ := M_pairs (h := h4) (a := A) (b := B) (v1 := nI s) (v4 := fl) (f := fun j => h3.1 65 j) (g := fun j => h4.1 66 j) lA (fun j _ => f65 j) (fun _ _ => rfl) A 0 FU (by omega) (by show _ < 1000; omega)
        refine ⟨x, p1, ⟨fun q => ⟨by omega, fun j hj => p2.mp q j (Nat.zero_le _) hj⟩, fun q => p2.mpr (fun j _ hj => q.2 j hj)⟩, ?_⟩
        rw [← p3, this]
    have xy : x = y := by
      have H := hall (f := fun j => h3.1 65 j) (g := fun j => h4.1 66 j) a3.1 a4.1 a3.2.2 (fun i hi' => (a4.2.2 i hi').1)
      have P : y = 1 ↔ x = 1 := by
        rw [x2, ← H, hy]
        rw [bI_1, ← k3]
        constructor
        · intro q m g1 g2
          rw [a3.2.1, a4.2.1]
          have := q ⟨m - 1, by omega⟩
          rw [show (⟨m - 1, by omega⟩ : Fin 20).val + 1 = m by show m - 1 + 1 = m; omega] at this
          exact this
        · intro q m
          have := q (m.val + 1) (by omega) (by have := m.isLt; omega)
          rw [a3.2.1, a4.2.1] at this
          exact this
      rcases x01 with x0 | x0
      · rcases y01 with y0 | y0
        · rw [x0, y0]
        · have := P.mp y0; rw [x0] at this; exact absurd this (by decide)
      · rw [P.mpr x0, x0]
    rw [xy] at x3
    obtain ⟨m5, F5⟩ := m4.row0
    obtain ⟨h6, o6, m6, F6⟩ := m5.ent (by simp) (nI cold).toInt64
    obtain ⟨h7, o7, m7, F7⟩ := m6.ent (by simp) fl.toInt64
    obtain ⟨h8, o8, m8, F8⟩ := m7.ent (by simp) y.toInt64
    refine ⟨h8, ?_, m8⟩
    have last : sX6_arrive_c117 h4 (nI s) (nI A) (nI B) fl y = some (nI hot, h8) := by
      unfold sX6_arrive_c117 sX6_arrive_c134 sX6_arrive_c166
      rw [nm_t rfl]
      by_cases z : s = 0
      · rw [if_pos (s0.mpr z)]
        rw [hcold, if_pos z] at o6
        rw [bd_t o6, bd_t (M_flag01 fl01)]
        dsimp only
        rw [bd_t o7, bd_t (M_flag01 y01)]
        dsimp only
        rw [bd_t o8, if_pos (s0.mpr z), hhot, if_pos z]
      · rw [if_neg (fun q => z (s0.mp q))]
        rw [hcold, if_neg z] at o6
        rw [bd_t o6, bd_t (M_flag01 fl01)]
        dsimp only
        rw [bd_t o7, bd_t (M_flag01 y01)]
        dsimp only
        rw [bd_t o8, if_neg (fun q => z (s0.mp q)), hhot, if_neg z]
    show sX6_arrive h1 (nI s) = _
    have s1 : nI s = 1 ↔ ¬ s = 0 := by
      show nI s = nI 1 ↔ _
      rw [eq_n (by omega) (by omega)]
      omega
    have c67 : sX6_arrive_c49 h3 (nI s) (nI A) O (nI s) = some (nI hot, h8) := by
      unfold sX6_arrive_c49 sX6_arrive_c67
      rw [bd_t o4]
      dsimp only
      by_cases w : B < A
      · rw [if_pos (ltBA.mpr w)]
        rw [hfl, if_pos w] at x3 last
        exact x3.trans last
      · rw [if_neg (fun q => w (ltBA.mp q))]
        rw [hfl, if_neg w] at x3 last
        exact x3.trans last
    have c29 : sX6_arrive_c29 h2 (nI s) K (nI s) = some (nI hot, h8) := by
      unfold sX6_arrive_c29
      rw [bd_t o3]
      dsimp only
      by_cases z : s = 0
      · rw [if_neg (fun q => s1.mp q z)]
        rw [k2, if_pos z] at c67
        exact c67
      · rw [if_pos (s1.mpr z)]
        rw [k2, if_neg z] at c67
        exact c67
    unfold sX6_arrive
    rw [nm_t rfl, bd_t (M_isSide _ _)]
    dsimp only
    rw [if_neg c1, bd_t o2]
    by_cases z : s = 0
    · rw [if_pos (s0.mpr z)]
      rw [k1, if_pos z] at c29
      exact c29
    · rw [if_neg (fun q => z (s0.mp q))]
      rw [k1, if_neg z] at c29
      exact c29
  · have c1 : bI (a = 0 ∨ a = 1) = 0 := bI_z.mpr c0
    have eX : sX5_arrive h a = some (-1, h) := by simp only [sX5_arrive, X_isSide, c1, Option.bind_some, if_true]
    refine mkS (S' := S) (Ms' := Ms) R eX (fX5_arrive _ _ _ eX) (by decide) (by decide) X R.1 (fun hM => ?_) (fun q e => fX6_arrive h a q e) (by decide) (by decide)
    obtain ⟨m1, t1⟩ := hM.thr 0
    exact ⟨_, by simp only [sX6_arrive, nm, M_isSide, c1, Option.bind_some, if_true], m1⟩
end O23
