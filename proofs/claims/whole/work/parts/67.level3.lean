/-! level, both -/
section Lv3
variable {h : Hp} {S : SS} {Ms : Nat → Mt} {tx : List Int32} {row : List Int64} {k : Int32}
/-- what is told: m D - (q - heat above m), by D -/
def lvN (S : SS) (k : Int32) (q m : Int) : Int := m * (hZ S k (m - 1) - hZ S k m) - (q - hZ S k m)
def lvD (S : SS) (k : Int32) (m : Int) : Int := hZ S k (m - 1) - hZ S k m
theorem lv_c (ok : OK S) {m : Int} : lvD S k m = cZ S k (m - 1) m := by
  have := h_lin (k := k) (a := m - 1) (b := m) (t := m - 1) ok (fun i _ _ => ⟨by omega, by omega⟩) (by omega) (by omega) (by omega)
  unfold lvD
  rw [this, show m - (m - 1) = 1 by omega]
  omega
theorem X_lv (ok : OK S) (X : RX h S Ms tx row) {q : Int32} (hq : 1 ≤ q.toInt) : ∀ (d : Nat) (n j : Nat) (v e : Int32), j + d = 20 → d + 1 < n → EndK S k e.toInt → 0 ≤ e.toInt → e.toInt ≤ 500 → hZ S k e.toInt < q.toInt → v.toInt = q.toInt - hZ S k e.toInt → cE S k e.toInt + j ≤ 19 → (hZ S k 0 < q.toInt ∧ sX5_level_b25 n h k v e (nI j) = some (-2, h)) ∨ (∃ m x y, Lev S k q.toInt m ∧ x.toInt = lvN S k q.toInt m ∧ y.toInt = lvD S k m ∧ sX5_level_b25 n h k v e (nI j) = ((sX4_empty h).bind fun q7 => (sX4_addFraction q7 x y).bind fun q8 => some ((0 : Int32), q8)))
  | 0, n, j, v, e, hj, hn', hE, e0, e5, hlt, hv, hc => by
    have := cE_top (k := k) ok e.toInt
    omega
  | d + 1, n, j, v, e, hj, hn', hE, e0, e5, hlt, hv, hc => by
    obtain ⟨n', rfl⟩ : ∃ m, n = m + 1 := ⟨n - 1, by omega⟩
    have hn := ok.1
    have pe := P_end (r := 6) (by decide) X.1.1 hn k e
    have hb0 := ha_I (k := k) (t := e) ok ⟨e0, e5⟩
    have q2 := q.toInt_lt
    have ne1 : ¬ e = -1 := by
      intro z
      rw [z] at e0
      exact absurd e0 (by decide)
    have jl : ¬ (20 : Int32) ≤ nI j := by show ¬ nI 20 ≤ nI j; rw [le_n (by omega) (by omega)]; omega
    have e00 : sX5_level_b25 (n' + 1) h k v e (nI j) = (if eB S.2.1 S.2.2.1 k e S.1 = (-1 : Int32) then (sX5_level_c72 (sX5_level_b25 n') h k v e (nI j) (eB S.2.1 S.2.2.1 k e S.1) (0 : Int32)) else sX5_level_c72 (sX5_level_b25 n') h k v e (nI j) (eB S.2.1 S.2.2.1 k e S.1) (cpT S.1 S.2.1 S.2.2.1 S.2.2.2.1 k (eB S.2.1 S.2.2.1 k e S.1) e)) := by
      show sX5_level_c25 (sX5_level_b25 n') h k v e (nI j) = _
      unfold sX5_level_c25
      rw [if_neg jl, if_neg ne1, bd_t pe]
      dsimp only
      rw [bd_t (P_cap (r := 6) (by decide) X.1.1 hn k (eB S.2.1 S.2.2.1 k e S.1) e)]
    rw [e00]
    rcases eB_k (k := k) ok e with ⟨c1, c2⟩ | ⟨c1, c2, c3, c4, c5⟩
    · left
      have z0 : hZ S k 0 = hZ S k e.toInt := by
        have := h_lin (k := k) (a := -1) (b := e.toInt) (t := 0) ok (fun i hi' hk => by have := c2 i hi' hk; omega) (by omega) (by omega) e0
        rw [cZ_neg ok] at this
        omega
      refine ⟨by omega, ?_⟩
      rw [if_pos c1, c1]
      unfold sX5_level_c72
      have m0 : (0 : Int32) * (e - -1) = 0 := Int32.zero_mul
      have v0 : (0 : Int32) < v := by rw [lt_tI, tI0]; omega
      rw [m0, nm_t rfl, if_pos v0, nm_t rfl, nI_1, nm_t rfl]
      obtain ⟨n2, rfl⟩ : ∃ m, n' = m + 1 := ⟨n' - 1, by omega⟩
      show sX5_level_c25 (sX5_level_b25 n2) h k (v - 0) (-1) (nI (j + 1)) = _
      unfold sX5_level_c25 sX5_level_c130
      by_cases w : (20 : Int32) ≤ nI (j + 1)
      · rw [if_pos w]
      · rw [if_neg w, if_pos rfl]
    · have nb : ¬ eB S.2.1 S.2.2.1 k e S.1 = -1 := by
        intro z
        rw [z] at c2
        exact absurd c2 (by decide)
      rw [if_neg nb]
      generalize eB S.2.1 S.2.2.1 k e S.1 = a at *
      have cp := cp_I (k := k) ok a e
      have ha := ha_I (k := k) (t := a) ok ⟨c2, c4⟩
      have ln := h_lin (k := k) (t := a.toInt) ok c5 c3 (Int.le_refl _) (by omega)
      have dm : (e - a).toInt = e.toInt - a.toInt := tI_sub (by omega) (by omega)
      have x4 : (cpT S.1 S.2.1 S.2.2.1 S.2.2.2.1 k a e * (e - a)).toInt = hZ S k a.toInt - hZ S k e.toInt := by
        have pb : cZ S k a.toInt e.toInt * (e.toInt - a.toInt) = hZ S k a.toInt - hZ S k e.toInt := by omega
        rw [tI_mul (by rw [cp.1, dm, pb]; omega) (by rw [cp.1, dm, pb]; omega), cp.1, dm, pb]
      unfold sX5_level_c72
      rw [nm_t rfl]
      by_cases w : cpT S.1 S.2.1 S.2.2.1 S.2.2.2.1 k a e * (e - a) < v
      · rw [if_pos w]
        rw [lt_tI, x4, hv] at w
        have v' : (v - cpT S.1 S.2.1 S.2.2.1 S.2.2.2.1 k a e * (e - a)).toInt = q.toInt - hZ S k a.toInt := by rw [tI_sub (by rw [x4, hv]; omega) (by rw [x4, hv]; omega), x4, hv]; omega
        rw [nm_t rfl, nI_1, nm_t rfl]
        have st := cE_str c3 c1
        exact X_lv ok X hq d n' (j + 1) _ a (by omega) (by omega) c1 c2 c4 (by omega) v' (by omega)
      · rw [if_neg w]
        rw [lt_tI, x4, hv] at w
        right
        obtain ⟨m, m1, m2, m3⟩ := Lev_f (S := S) (k := k) (q := q.toInt) (e.toInt - a.toInt).toNat a.toInt c2 (by omega) (by omega) (by rw [show a.toInt + ((e.toInt - a.toInt).toNat : Int) = e.toInt by omega]; exact hlt)
        have m3' : m ≤ e.toInt := by omega
        have l1 := h_lin (k := k) (t := m) ok c5 c3 (by omega) m3'
        have l2 := h_lin (k := k) (t := m - 1) ok c5 c3 (by omega) (by omega)
        have D : lvD S k m = cZ S k a.toInt e.toInt := by
          unfold lvD
          rw [l1, l2]
          grind
        refine ⟨m, (e * cpT S.1 S.2.1 S.2.2.1 S.2.2.2.1 k a e) - v, cpT S.1 S.2.1 S.2.2.1 S.2.2.2.1 k a e, m1, ?_, by rw [D]; exact cp.1, ?_⟩
        · have N : lvN S k q.toInt m = e.toInt * cZ S k a.toInt e.toInt - (q.toInt - hZ S k e.toInt) := by
            show m * lvD S k m - (q.toInt - hZ S k m) = _
            rw [D, l1]
            grind
          have p1 : e.toInt * cZ S k a.toInt e.toInt ≤ 500 * 200 := Int.mul_le_mul e5 cp.2.2 cp.2.1 (by omega)
          have p0 : 0 ≤ e.toInt * cZ S k a.toInt e.toInt := Int.mul_nonneg e0 cp.2.1
          have t1 : (e * cpT S.1 S.2.1 S.2.2.1 S.2.2.2.1 k a e).toInt = e.toInt * cZ S k a.toInt e.toInt := by rw [tI_mul (by rw [cp.1]; omega) (by rw [cp.1]; omega), cp.1]
          rw [N, tI_sub (by rw [t1, hv]; omega) (by rw [t1, hv]; omega), t1, hv]
        · rfl
theorem M_aboveOf (hk' : MQS h S) (hn : S.1 ≤ 10) (a t : Int32) : sX6_aboveOf h a t = some (haT S.1 S.2.1 S.2.2.1 S.2.2.2.1 a t, h) := by
  unfold sX6_aboveOf
  refine loop0 (fun n (s : Int32 × Int32) => sX6_aboveOf_b5 n h a t s.1 s.2) (fun i => (sI i (fun i => if hb S.2.1 S.2.2.1 i = a ∧ t < hi S.2.1 S.2.2.1 i then S.2.2.2.1 i * (hi S.2.1 S.2.2.1 i - imax (lo S.2.1 S.2.2.1 i) t) else 0), nI i)) S.1 _ (by omega) (fun m i hi' => ?_) (fun m => ?_)
  · show sX6_aboveOf_c5 (sX6_aboveOf_b5 m) h a t _ (nI i) = _
    have hle : ¬ nI S.1 ≤ nI i := by rw [le_n (by omega) (by omega)]; omega
    have em : imax t (lo S.2.1 S.2.2.1 i) = imax (lo S.2.1 S.2.2.1 i) t := by unfold imax; grind
    simp only [sX6_aboveOf_c5, sX6_aboveOf_c63, sX6_aboveOf_c64, hk'.1, hle, if_false, M_isHot hk' hn hi', M_low hk' hn hi', M_high hk' hn hi', Option.bind_some, nm, nI_1, gd_in (show i < 10 by omega) (show 10 ≤ 1000 by decide), cl_n (show i ≤ 100000 by omega), (hk'.2.2 i hi').2.2, sI, em]
    grind
  · show sX6_aboveOf_c5 (sX6_aboveOf_b5 m) h a t _ (nI S.1) = _
    have hle : nI S.1 ≤ nI S.1 := by rw [le_n (by omega) (by omega)]; omega
    simp only [sX6_aboveOf_c5, hk'.1, hle, if_true]
    rfl
theorem M_goingOn (hk' : MQS h S) (hn : S.1 ≤ 10) (a : Int32) {t u : Int32} (hu : u.toInt = t.toInt - 1) : sX6_goingOn h a t = some (cpT S.1 S.2.1 S.2.2.1 S.2.2.2.1 a u t, h) := by
  unfold sX6_goingOn
  refine loop0 (fun n (s : Int32 × Int32) => sX6_goingOn_b5 n h a t s.1 s.2) (fun i => (sI i (fun i => if hb S.2.1 S.2.2.1 i = a ∧ lo S.2.1 S.2.2.1 i ≤ u ∧ t ≤ hi S.2.1 S.2.2.1 i then S.2.2.2.1 i else 0), nI i)) S.1 _ (by omega) (fun m i hi' => ?_) (fun m => ?_)
  · show sX6_goingOn_c5 (sX6_goingOn_b5 m) h a t _ (nI i) = _
    have hle : ¬ nI S.1 ≤ nI i := by rw [le_n (by omega) (by omega)]; omega
    simp only [sX6_goingOn_c5, sX6_goingOn_c55, sX6_goingOn_c56, hk'.1, hle, if_false, M_isHot hk' hn hi', M_low hk' hn hi', M_high hk' hn hi', Option.bind_some, nm, nI_1, gd_in (show i < 10 by omega) (show 10 ≤ 1000 by decide), cl_n (show i ≤ 100000 by omega), (hk'.2.2 i hi').2.2, sI]
    have e1 : lo S.2.1 S.2.2.1 i ≤ u ↔ ¬ t ≤ lo S.2.1 S.2.2.1 i := by rw [le_tI, le_tI, hu]; omega
    by_cases z1 : hb S.2.1 S.2.2.1 i = a
    · rw [if_pos z1]
      by_cases z2 : hi S.2.1 S.2.2.1 i < t
      · rw [if_pos z2, if_neg (fun q => by have := q.2.2; grind)]
      · rw [if_neg z2]
        by_cases z3 : t ≤ lo S.2.1 S.2.2.1 i
        · rw [if_pos z3, if_neg (fun q => e1.mp q.2.1 z3)]
        · rw [if_neg z3, if_pos ⟨z1, e1.mpr z3, by grind⟩]
    · rw [if_neg z1, if_neg (fun q => z1 q.1)]
  · show sX6_goingOn_c5 (sX6_goingOn_b5 m) h a t _ (nI S.1) = _
    have hle : nI S.1 ≤ nI S.1 := by rw [le_n (by omega) (by omega)]; omega
    simp only [sX6_goingOn_c5, hk'.1, hle, if_true]
    rfl
theorem M_lv (ok : OK S) (hk' : MQS h S) {q : Int32} (hq : 1 ≤ q.toInt) : ∀ (t n : Nat), t ≤ 500 → t < n → hZ S k t < q.toInt → (hZ S k 0 < q.toInt ∧ sX6_level_b16 n h k q (nI t) = some (-2, h)) ∨ (∃ m : Nat, Lev S k q.toInt m ∧ sX6_level_b16 n h k q (nI t) = sX6_level_c38 h k q (nI m))
  | 0, n, ht0, hn', hlt => by
    obtain ⟨n', rfl⟩ : ∃ m, n = m + 1 := ⟨n - 1, by omega⟩
    left
    refine ⟨hlt, ?_⟩
    show sX6_level_c16 (sX6_level_b16 n') h k q (nI 0) = _
    unfold sX6_level_c16 sX6_level_c38
    rw [if_pos (by decide), if_pos (by decide)]
  | t + 1, n, ht0, hn', hlt => by
    obtain ⟨n', rfl⟩ : ∃ m, n = m + 1 := ⟨n - 1, by omega⟩
    have hn := ok.1
    have tp : ¬ nI (t + 1) ≤ 0 := by show ¬ nI (t + 1) ≤ nI 0; rw [le_n (by omega) (by omega)]; omega
    have ha := ha_I (k := k) (t := nI t) ok (by rw [tI_n (by omega)]; omega)
    rw [tI_n (by omega)] at ha
    have e1 : nI (t + 1) - 1 = nI t := by rw [nI_m1 (by omega)]; rfl
    have e2 : nI (t + 1) + (-1) = nI t := by rw [nI_a1 (by omega)]; rfl
    have e0 : sX6_level_b16 (n' + 1) h k q (nI (t + 1)) = if q ≤ haT S.1 S.2.1 S.2.2.1 S.2.2.2.1 k (nI t) then sX6_level_c38 h k q (nI (t + 1)) else sX6_level_b16 n' h k q (nI t) := by
      show sX6_level_c16 (sX6_level_b16 n') h k q (nI (t + 1)) = _
      unfold sX6_level_c16
      rw [if_neg tp, e1, bd_t (M_aboveOf hk' hn k (nI t))]
      dsimp only
      rw [e2, nm_t rfl]
    rw [e0]
    by_cases c : q ≤ haT S.1 S.2.1 S.2.2.1 S.2.2.2.1 k (nI t)
    · rw [if_pos c]
      rw [le_tI, ha.1] at c
      exact Or.inr ⟨t + 1, ⟨by omega, by omega, by rw [show ((t + 1 : Nat) : Int) - 1 = t by omega]; exact c, hlt⟩, rfl⟩
    · rw [if_neg c]
      rw [le_tI, ha.1] at c
      exact M_lv ok hk' hq t n' (by omega) (by omega) (by omega)
theorem op_level (R : Rel h S Ms tx row) (a b : Int32) : Step (fun h => sX5_level h a b) (fun h => sX6_level h a b) h := by
  have ok := R.1.1
  have X := R.2.1
  have hn := ok.1
  by_cases c : 1 ≤ b
  · have hq : 1 ≤ b.toInt := by rw [le_tI] at c; exact c
    have t5 : hZ S a 500 = 0 := h_top ok (fun i hi' _ => (lhI ok hi').2.2)
    have pe := P_end (r := 6) (by decide) X.1.1 hn a 501
    have gX : sX5_level h a b = sX5_level_b25 FU h a b (eB S.2.1 S.2.2.1 a 501 S.1) (nI 0) := by
      unfold sX5_level
      rw [if_pos c, bd_t pe]
      rfl
    -- the class
    have CL : (hZ S a 0 < b.toInt ∧ sX5_level h a b = some (-2, h)) ∨ (∃ m x y, Lev S a b.toInt m ∧ x.toInt = lvN S a b.toInt m ∧ y.toInt = lvD S a m ∧ sX5_level h a b = ((sX4_empty h).bind fun q7 => (sX4_addFraction q7 x y).bind fun q8 => some ((0 : Int32), q8))) := by
      rw [gX]
      have f1 : (501 : Int32).toInt = 501 := by decide
      rcases eB_k (k := a) ok 501 with ⟨c1, c2⟩ | ⟨c1, c2, c3, c4, c5⟩
      · left
        have z : hZ S a 0 = 0 := h_top ok (fun i hi' hk => by have := c2 i hi' hk; have := lhI ok hi'; omega)
        refine ⟨by omega, ?_⟩
        rw [c1]
        show sX5_level_c25 (sX5_level_b25 999) h a b (-1) (nI 0) = _
        unfold sX5_level_c25 sX5_level_c130
        rw [if_neg (by decide), if_pos rfl]
      · have st := cE_str (show (eB S.2.1 S.2.2.1 a 501 S.1).toInt < 501 by omega) c1
        have tp := cE_top (k := a) ok 501
        have zt : hZ S a (eB S.2.1 S.2.2.1 a 501 S.1).toInt = 0 := h_top ok (fun i hi' hk => by
          have := (c5 i hi' hk).2
          have := lhI ok hi'
          omega)
        exact X_lv ok X hq 20 FU 0 b _ (by omega) (by show 21 < 1000; omega) c1 c2 c4 (by omega) (by omega) (by omega)
    rcases CL with ⟨z, eX⟩ | ⟨m, x, y, lv, hx, hy, eX⟩
    · refine mkS (S' := S) (Ms' := Ms) R eX (fX5_level _ _ _ _ eX) (by decide) (by decide) X R.1 (fun hM => ?_) (fun q e => fX6_level h a b q e) (by decide) (by decide)
      obtain ⟨m1, t1⟩ := hM.thr 0
      refine ⟨u1 h 54 0 0, ?_, m1⟩
      show sX6_level h a b = _
      unfold sX6_level
      rw [nm_t rfl, if_pos c]
      rcases M_lv (k := a) ok m1.1.1 hq 500 FU (by omega) (by show 500 < 1000; omega) (by show hZ S a 500 < _; omega) with ⟨-, e⟩ | ⟨m, lv, -⟩
      · exact e
      · have := Lev_0 ok lv
        omega
    · have D := lv_c (k := a) (m := m) ok
      obtain ⟨l1, l2, l3, l4⟩ := lv
      have cz0 : 0 ≤ lvD S a m ∧ lvD S a m ≤ 200 := by
        rw [D]
        have := cp_I (k := a) ok (Int32.ofInt (m - 1)) (Int32.ofInt m)
        rw [Int32.toInt_ofInt, Int32.toInt_ofInt, bmod_id (by omega) (by omega), bmod_id (by omega) (by omega)] at this
        exact this.2
      have d1 : 1 ≤ lvD S a m := by unfold lvD; omega
      have n0 : 0 ≤ lvN S a b.toInt m ∧ lvN S a b.toInt m ≤ 100000 := by
        have e : lvN S a b.toInt m = m * lvD S a m - (b.toInt - hZ S a m) := rfl
        have p1 : m * lvD S a m ≤ 500 * 200 := Int.mul_le_mul l2 cz0.2 cz0.1 (by omega)
        have p2 : 1 * lvD S a m ≤ m * lvD S a m := Int.mul_le_mul_of_nonneg_right l1 cz0.1
        have e2 : lvD S a m = hZ S a (m - 1) - hZ S a m := rfl
        omega
      obtain ⟨e0, r0⟩ := X.emp
      have hx' : x.toInt = ((lvN S a b.toInt m).toNat : Int) := by omega
      have hy' : y.toInt = ((lvD S a m).toNat : Int) := by omega
      obtain ⟨h1, e1, r1⟩ := X_addFr r0 (by decide) hx' hy' (by omega)
      have eX' : sX5_level h a b = some (0, h1) := by rw [eX, bd_t e0, bd_t e1]
      refine mkS (S' := S) (Ms' := Ms) R eX' (fX5_level _ _ _ _ eX') (by decide) (by decide) r1 (invR R.1 (by simp)) (fun hM => ?_) (fun q e => fX6_level h1 a b q e) (by decide) (by decide)
      obtain ⟨m1, t1⟩ := hM.thr 0
      rcases M_lv (k := a) ok m1.1.1 hq 500 FU (by omega) (by show 500 < 1000; omega) (by show hZ S a 500 < _; omega) with ⟨z, -⟩ | ⟨m', lv', e⟩
      · have := Lev_0 (k := a) ok ⟨l1, l2, l3, l4⟩
        omega
      · have em := Lev_u (k := a) ok ⟨l1, l2, l3, l4⟩ lv'
        subst em
        have m500 : m' ≤ 500 := by omega
        obtain ⟨m2, F2⟩ := m1.row0
        have u0 : (nI m' - 1).toInt = (nI m').toInt - 1 := by
          have o1 : (1 : Int32).toInt = 1 := rfl
          rw [tI_sub (by rw [tI_n (by omega), o1]; omega) (by rw [tI_n (by omega), o1]; omega), o1]
        have cp := cp_I (k := a) ok (nI m' - 1) (nI m')
        rw [u0, tI_n (by omega), ← D] at cp
        have ha := ha_I (k := a) (t := nI m') ok (by rw [tI_n (by omega)]; omega)
        rw [tI_n (by omega)] at ha
        have qd : (b - haT S.1 S.2.1 S.2.2.1 S.2.2.2.1 a (nI m')).toInt = b.toInt - hZ S a m' := by
          have := b.toInt_lt
          rw [tI_sub (by rw [ha.1]; omega) (by rw [ha.1]; omega), ha.1]
        have p1 : (m' : Int) * lvD S a m' ≤ 500 * 200 := Int.mul_le_mul l2 cz0.2 cz0.1 (by omega)
        have p0 : 0 ≤ (m' : Int) * lvD S a m' := Int.mul_nonneg (by omega) cz0.1
        have t2 : ((nI m').toInt64 * (cpT S.1 S.2.1 S.2.2.1 S.2.2.2.1 a (nI m' - 1) (nI m')).toInt64).toInt = (m' : Int) * lvD S a m' := by
          rw [tL_mul (by rw [tL_i, tI_n (by omega)]; omega) (by rw [tL_i, cp.1]; omega), tL_i, tL_i, tI_n (by omega), cp.1]
        have hN : ((nI m').toInt64 * (cpT S.1 S.2.1 S.2.2.1 S.2.2.2.1 a (nI m' - 1) (nI m')).toInt64 - (b - haT S.1 S.2.1 S.2.2.1 S.2.2.2.1 a (nI m')).toInt64).toInt = ((lvN S a b.toInt m').toNat : Int) := by
          have e : lvN S a b.toInt m' = m' * lvD S a m' - (b.toInt - hZ S a m') := rfl
          have := b.toInt_lt
          rw [tL_sub (by rw [t2, tL_i, qd]; omega) (by rw [t2, tL_i, qd]; omega), t2, tL_i, qd]
          omega
        have hDD : ((cpT S.1 S.2.1 S.2.2.1 S.2.2.2.1 a (nI m' - 1) (nI m')).toInt64).toInt = ((lvD S a m').toNat : Int) := by rw [tL_i, cp.1]; omega
        obtain ⟨h3, o3, m3, F3⟩ := M_entP m2 (by decide) hN hDD (by omega) (by omega)
        refine ⟨h3, ?_, m3⟩
        show sX6_level h1 a b = _
        unfold sX6_level
        rw [nm_t rfl, if_pos c]
        refine Eq.trans e ?_
        have nz : ¬ nI m' = 0 := by show ¬ nI m' = nI 0; rw [eq_n (by omega) (by omega)]; omega
        unfold sX6_level_c38
        rw [if_neg nz, bd_t (M_goingOn m1.1.1 hn a u0)]
        dsimp only
        rw [nm_t rfl, bd_t (M_aboveOf m2.1.1 hn a (nI m'))]
        dsimp only
        rw [bd_t o3]
  · have eX : sX5_level h a b = some (-1, h) := by unfold sX5_level; rw [if_neg c]
    refine mkS (S' := S) (Ms' := Ms) R eX (fX5_level _ _ _ _ eX) (by decide) (by decide) X R.1 (fun hM => ?_) (fun q e => fX6_level h a b q e) (by decide) (by decide)
    obtain ⟨m1, t1⟩ := hM.thr 0
    refine ⟨u1 h 54 0 0, ?_, m1⟩
    show sX6_level h a b = _
    unfold sX6_level
    rw [nm_t rfl, if_neg c]
end Lv3
