/-! ticks -/
theorem loopS {σ β : Type} (b : Nat → σ → Option β) (I : Nat → σ → Prop) (N : Nat) (hs : ∀ n i s, i < N → I i s → ∃ s', I (i + 1) s' ∧ b (n + 1) s = b n s') : ∀ (d i n : Nat) (s : σ), I i s → i + d = N → d < n → ∃ s' m, I N s' ∧ b n s = b (m + 1) s'
  | 0, i, n, s, hI, h1, h2 => by
    obtain ⟨m, rfl⟩ : ∃ m, n = m + 1 := ⟨n - 1, by omega⟩
    have : i = N := by omega
    subst this
    exact ⟨s, m, hI, rfl⟩
  | d + 1, i, n, s, hI, h1, h2 => by
    obtain ⟨m, rfl⟩ : ∃ m, n = m + 1 := ⟨n - 1, by omega⟩
    obtain ⟨s', hI', e⟩ := hs m i s (by omega) hI
    rw [e]
    exact loopS b I N hs d (i + 1) m s' hI' (by omega) (by omega)
abbrev T3 := Int32 × Int32 × Int32
def bR (g : Nat → Int32) (i : Nat) : Nat → T3 → T3
  | 0, q => q
  | k + 1, q => if g k ≤ (bR g i k q).1 then bR g i k q else (g k, nI i, nI k)
def bA (g : Nat → Nat → Int32) (n : Nat) (q0 : T3) : Nat → T3
  | 0 => q0
  | k + 1 => bR (g k) k n (bA g n q0 k)
/-- what the scan has found: nothing, or a pair -/
def bK (g : Nat → Nat → Int32) (n : Nat) (q q' : T3) : Prop := (q.1 = 0 ∧ q'.1 = 0) ∨ (q = q' ∧ 0 < q.1 ∧ ∃ i j, i < n ∧ j < n ∧ q = (g i j, nI i, nI j))
theorem bR_k {g : Nat → Nat → Int32} {n i : Nat} (hi' : i < n) : ∀ {k : Nat} {q q' : T3}, k ≤ n → bK g n q q' → bK g n (bR (g i) i k q) (bR (g i) i k q')
  | 0, _, _, _, H => H
  | k + 1, q, q', hk, H => by
    have H' := bR_k hi' (k := k) (show k ≤ n by omega) H
    show bK g n (if g i k ≤ (bR (g i) i k q).1 then bR (g i) i k q else (g i k, nI i, nI k)) (if g i k ≤ (bR (g i) i k q').1 then bR (g i) i k q' else (g i k, nI i, nI k))
    generalize bR (g i) i k q = x at *
    generalize bR (g i) i k q' = y at *
    have e : x.1 = y.1 := by
      rcases H' with ⟨a, b⟩ | ⟨a, b⟩
      · rw [a, b]
      · rw [a]
    have z : 0 ≤ x.1 := by
      rcases H' with ⟨a, b⟩ | ⟨a, b, -⟩
      · rw [a]; decide
      · grind
    rw [← e]
    by_cases c : g i k ≤ x.1
    · rw [if_pos c, if_pos c]; exact H'
    · rw [if_neg c, if_neg c]
      exact Or.inr ⟨rfl, by show 0 < g i k; grind, i, k, hi', by omega, rfl⟩
theorem bA_k {g : Nat → Nat → Int32} {n : Nat} {q q' : T3} (H : bK g n q q') : ∀ {k : Nat}, k ≤ n → bK g n (bA g n q k) (bA g n q' k)
  | 0, _ => H
  | k + 1, hk => bR_k (by omega) (Nat.le_refl _) (bA_k H (k := k) (by omega))
section O10
variable {h : Hp} {S : SS} {Ms : Nat → Mt} {tx : List Int32} {row : List Int64} {r s : Nat}
abbrev PrD (S : SS) (s a b : Nat) : Prop := a < S.1 ∧ b < S.1 ∧ hb S.2.1 S.2.2.1 a = 1 ∧ hb S.2.1 S.2.2.1 b = 0 ∧ 0 < dg S s a ∧ 0 < dg S s b
def g2 (S : SS) (s : Nat) (M : Mt) (i j : Nat) : Int32 := if PrD S s i j then gl S s M i j else 0
theorem gl_ok {M : Mt} (ok : OK S) (v : VM S s M) {a b : Nat} (hp : Pr S s a b) (c : 0 < (gl S s M a b).toInt) : (gl S s M a b).toInt ≤ (rs S s M a).toInt ∧ (gl S s M a b).toInt ≤ (rs S s M b).toInt ∧ leI S a b ≤ wI S s a b (uz M M.length a) (uz M M.length b) ∧ leI S a b ≤ wI S s a b (uz M M.length a + (gl S s M a b).toInt) (uz M M.length b + (gl S s M a b).toInt) := by
  have ha := hp.1
  have hb' := hp.2.1
  obtain ⟨ua, ua0, ua1, ua2⟩ := v.us ok ha (Nat.le_refl _)
  obtain ⟨ub, ub0, ub1, ub2⟩ := v.us ok hb' (Nat.le_refl _)
  have hx : 0 ≤ (us M M.length a).toInt ∧ (us M M.length a).toInt ≤ 30000 := by omega
  have hy : 0 ≤ (us M M.length b).toInt ∧ (us M M.length b).toInt ≤ 30000 := by omega
  have e1 := spare_I (s := s) ok ha hb' hx hy
  have w := w_bd (s := s) ok ha hb' hx hy
  have l := le_bd ok ha hb'
  have ra := v.rst ok ha
  have rb := v.rst ok hb'
  have ca := C20 ok ha
  have cb := C20 ok hb'
  have up1 : (upv s).toInt = upI s := by unfold upv upI; split <;> rfl
  have up2 : upI s = 1 ∨ upI s = -1 := by unfold upI; split <;> simp
  have cd : (S.2.2.2.1 a - S.2.2.2.1 b).toInt = (S.2.2.2.1 a).toInt - (S.2.2.2.1 b).toInt := tI_sub (by omega) (by omega)
  have by1 : (upv s * (S.2.2.2.1 a - S.2.2.2.1 b)).toInt = upI s * ((S.2.2.2.1 a).toInt - (S.2.2.2.1 b).toInt) := by
    rw [tI_mul (by rw [up1, cd]; rcases up2 with q | q <;> rw [q] <;> omega) (by rw [up1, cd]; rcases up2 with q | q <;> rw [q] <;> omega), up1, cd]
  have by2 : -20 ≤ (upv s * (S.2.2.2.1 a - S.2.2.2.1 b)).toInt ∧ (upv s * (S.2.2.2.1 a - S.2.2.2.1 b)).toInt ≤ 20 := by rw [by1]; rcases up2 with q | q <;> rw [q] <;> omega
  have wE : ∀ z : Int, wI S s a b (uz M M.length a + z) (uz M M.length b + z) = wI S s a b (uz M M.length a) (uz M M.length b) - z * (upv s * (S.2.2.2.1 a - S.2.2.2.1 b)).toInt := by
    intro z
    rw [by1]
    unfold wI
    rcases up2 with q | q <;> rw [q] <;> grind
  rw [wE]
  rw [ua, ub] at e1 w
  unfold gl at c ⊢
  by_cases c1 : 0 ≤ wS S s a b (us M M.length a) (us M M.length b) - S.2.2.2.2 * unS S a b
  · rw [if_pos c1] at c ⊢
    have c1' := c1
    rw [le_tI, tI0, e1] at c1'
    have mn : ∀ {x y : Int32}, (imin x y).toInt ≤ x.toInt ∧ (imin x y).toInt ≤ y.toInt := by
      intro x y
      unfold imin
      by_cases z : y < x
      · rw [if_pos z]; rw [lt_tI] at z; omega
      · rw [if_neg z]; rw [lt_tI] at z; omega
    by_cases c2 : upv s * (S.2.2.2.1 a - S.2.2.2.1 b) ≤ 0
    · rw [if_pos c2] at c ⊢
      have m1 := mn (x := rs S s M a) (y := rs S s M b)
      rw [le_tI, tI0] at c2
      have := Int.mul_nonneg (show 0 ≤ (imin (rs S s M a) (rs S s M b)).toInt by omega) (show 0 ≤ -(upv s * (S.2.2.2.1 a - S.2.2.2.1 b)).toInt by omega)
      rw [Int.mul_neg] at this
      exact ⟨m1.1, m1.2, by omega, by omega⟩
    · rw [if_neg c2] at c ⊢
      rw [le_tI, tI0] at c2
      have m1 := mn (x := rs S s M a) (y := rs S s M b)
      have m2 := mn (x := imin (rs S s M a) (rs S s M b)) (y := (wS S s a b (us M M.length a) (us M M.length b) - S.2.2.2.2 * unS S a b) / (upv s * (S.2.2.2.1 a - S.2.2.2.1 b)))
      have dv : ((wS S s a b (us M M.length a) (us M M.length b) - S.2.2.2.2 * unS S a b) / (upv s * (S.2.2.2.1 a - S.2.2.2.1 b))).toInt = (wI S s a b (uz M M.length a) (uz M M.length b) - leI S a b) / (upv s * (S.2.2.2.1 a - S.2.2.2.1 b)).toInt := by
        have d4 : (wI S s a b (uz M M.length a) (uz M M.length b) - leI S a b) / (upv s * (S.2.2.2.1 a - S.2.2.2.1 b)).toInt ≤ wI S s a b (uz M M.length a) (uz M M.length b) - leI S a b := Int.ediv_le_self _ c1'
        have d3 : 0 ≤ (wI S s a b (uz M M.length a) (uz M M.length b) - leI S a b) / (upv s * (S.2.2.2.1 a - S.2.2.2.1 b)).toInt := Int.ediv_nonneg c1' (by omega)
        rw [Int32.toInt_div, e1, Int.tdiv_eq_ediv_of_nonneg c1']
        exact bmod_id (by omega) (by omega)
      rw [dv] at m2
      generalize (imin (imin (rs S s M a) (rs S s M b)) ((wS S s a b (us M M.length a) (us M M.length b) - S.2.2.2.2 * unS S a b) / (upv s * (S.2.2.2.1 a - S.2.2.2.1 b)))).toInt = z at *
      have := (Int.le_ediv_iff_mul_le (show 0 < (upv s * (S.2.2.2.1 a - S.2.2.2.1 b)).toInt by omega)).mp m2.2
      exact ⟨by omega, by omega, by omega, by omega⟩
  · rw [if_neg c1, tI0] at c
    omega
theorem S_g2 {M : Mt} (hr : ck r = 2) (ok : OK S) (hD : SD h r s S) (hX : XM h r S M) {i j : Nat} (hi' : i < S.1) (hj : j < S.1) {α : Type} (f : Hp → Int32 → Option α) : ((sX2_hasHeat h r (nI i) (1 : Int32)).bind fun q3 => if q3.1 = 0 then f q3.2 0 else ((sX2_hasHeat q3.2 r (nI j) (0 : Int32)).bind fun q4 => if q4.1 = 0 then f q4.2 0 else ((sX2_greatestLoad q4.2 r (nI i) (nI j)).bind fun q5 => f q5.2 q5.1))) = f h (g2 S s M i j) := by
  have hn := ok.1
  have a1 : ∀ k : Nat, k < S.1 → ((0 : Int32) ≤ nI k ∧ nI k < nI S.1) := fun k hk => ⟨nI_pos' (by omega), by rw [lt_n (by omega) (by omega)]; exact hk⟩
  have e1 : bI ((0 ≤ nI i ∧ nI i < nI S.1) ∧ hb S.2.1 S.2.2.1 (nI i).toNatClampNeg = 1 ∧ 0 < dg S s (nI i).toNatClampNeg) = 0 ↔ ¬ (hb S.2.1 S.2.2.1 i = 1 ∧ 0 < dg S s i) := by
    rw [bI_z, cl_n (by omega)]
    have := a1 i hi'
    grind
  have e2 : bI ((0 ≤ nI j ∧ nI j < nI S.1) ∧ hb S.2.1 S.2.2.1 (nI j).toNatClampNeg = 0 ∧ 0 < dg S s (nI j).toNatClampNeg) = 0 ↔ ¬ (hb S.2.1 S.2.2.1 j = 0 ∧ 0 < dg S s j) := by
    rw [bI_z, cl_n (by omega)]
    have := a1 j hj
    grind
  rw [bd_t (S_hasHeat hr ok hD (nI i) 1)]
  dsimp only
  unfold g2
  by_cases c1 : hb S.2.1 S.2.2.1 i = 1 ∧ 0 < dg S s i
  · rw [if_neg (by rw [e1]; exact fun q => q c1), bd_t (S_hasHeat hr ok hD (nI j) 0)]
    dsimp only
    by_cases c2 : hb S.2.1 S.2.2.1 j = 0 ∧ 0 < dg S s j
    · have hp : Pr S s i j := ⟨hi', hj, c1.1, c2.1, c1.2, c2.2⟩
      rw [if_neg (by rw [e2]; exact fun q => q c2), if_pos (show PrD S s i j from hp), bd_t (S_greatest hr ok hD hX hp)]
    · rw [if_pos (e2.mpr c2), if_neg (fun (q : PrD S s i j) => c2 ⟨q.2.2.2.1, q.2.2.2.2.2⟩)]
  · rw [if_pos (e1.mpr c1), if_neg (fun (q : PrD S s i j) => c1 ⟨q.2.2.1, q.2.2.2.2.1⟩)]
theorem S_jg {M : Mt} (hr : ck r = 2) (ok : OK S) (hD : SD h r s S) (hX : XM h r S M) : sX2_joinGreatest h r = (if (bA (g2 S s M) S.1 (0, -1, -1) S.1).1 = 0 then (some ((0 : Int32), h)) else ((sX2_add h r (bA (g2 S s M) S.1 (0, -1, -1) S.1).2.1 (bA (g2 S s M) S.1 (0, -1, -1) S.1).2.2 (bA (g2 S s M) S.1 (0, -1, -1) S.1).1).bind fun q1 => some ((1 : Int32), q1))) := by
  have hn := ok.1
  unfold sX2_joinGreatest
  rw [gd_t (isC_ok hr)]
  refine loop0 (fun n (q : T3 × Int32) => sX2_joinGreatest_b9 n h r q.1.1 q.1.2.1 q.1.2.2 q.2) (fun i => (bA (g2 S s M) S.1 (0, -1, -1) i, nI i)) S.1 _ (by omega) (fun m i hi' => ?_) (fun m => ?_)
  · show sX2_joinGreatest_c9 (sX2_joinGreatest_b9 m) h r (bA (g2 S s M) S.1 (0, -1, -1) i).1 (bA (g2 S s M) S.1 (0, -1, -1) i).2.1 (bA (g2 S s M) S.1 (0, -1, -1) i).2.2 (nI i) = _
    have hle : ¬ nI S.1 ≤ nI i := by rw [le_n (by omega) (by omega)]; omega
    unfold sX2_joinGreatest_c9
    rw [hD.2.2.1, if_neg hle]
    refine loop0 (fun n (q : T3 × Int32) => sX2_joinGreatest_b21 (sX2_joinGreatest_b9 m) n h r q.1.1 q.1.2.1 q.1.2.2 (nI i) q.2) (fun j => (bR (g2 S s M i) i j (bA (g2 S s M) S.1 (0, -1, -1) i), nI j)) S.1 _ (by omega) (fun m' j hj => ?_) (fun m' => ?_)
    · have hle : ¬ nI S.1 ≤ nI j := by rw [le_n (by omega) (by omega)]; omega
      generalize hq : bR (g2 S s M i) i j (bA (g2 S s M) S.1 (0, -1, -1) i) = q
      show sX2_joinGreatest_c21 (sX2_joinGreatest_b9 m) (sX2_joinGreatest_b21 (sX2_joinGreatest_b9 m) m') h r q.1 q.2.1 q.2.2 (nI i) (nI j) = _
      have f := S_g2 hr ok hD hX hi' hj (fun k t => sX2_joinGreatest_c62 (sX2_joinGreatest_b9 m) (sX2_joinGreatest_b21 (sX2_joinGreatest_b9 m) m') k r q.1 q.2.1 q.2.2 (nI i) (nI j) t)
      unfold sX2_joinGreatest_c21
      rw [hD.2.2.1, if_neg hle]
      refine Eq.trans f ?_
      unfold sX2_joinGreatest_c62 sX2_joinGreatest_c79
      simp only [nm, nI_1]
      show _ = sX2_joinGreatest_b21 (sX2_joinGreatest_b9 m) m' h r (bR (g2 S s M i) i (j + 1) (bA (g2 S s M) S.1 (0, -1, -1) i)).1 (bR (g2 S s M i) i (j + 1) (bA (g2 S s M) S.1 (0, -1, -1) i)).2.1 (bR (g2 S s M i) i (j + 1) (bA (g2 S s M) S.1 (0, -1, -1) i)).2.2 (nI i) (nI (j + 1))
      unfold bR
      rw [hq]
      split <;> rfl
    · have hle : nI S.1 ≤ nI S.1 := by rw [le_n (by omega) (by omega)]; omega
      show sX2_joinGreatest_c21 (sX2_joinGreatest_b9 m) (sX2_joinGreatest_b21 (sX2_joinGreatest_b9 m) m') h r _ _ _ (nI i) (nI S.1) = _
      unfold sX2_joinGreatest_c21
      rw [hD.2.2.1, if_pos hle]
      simp only [nm, nI_1]
      rfl
  · have hle : nI S.1 ≤ nI S.1 := by rw [le_n (by omega) (by omega)]; omega
    show sX2_joinGreatest_c9 (sX2_joinGreatest_b9 m) h r _ _ _ (nI S.1) = _
    unfold sX2_joinGreatest_c9
    rw [hD.2.2.1, if_pos hle]
end O10
