/-! loops: the reference's joined streams -/
section O33
variable {h : Hp} {s : Nat} {M : Mt}
def jbt (M : Mt) : Nat → Int32
  | 0 => 0
  | m + 1 => jbt M m ||| mbt M m
theorem jbt_t (hv : ∀ k, k < M.length → mh M k < 10 ∧ mc M k < 10) {j : Nat} (hj : j < 32) : ∀ {k : Nat}, k ≤ M.length → (tb (jbt M k) j = true ↔ ∃ m, m < k ∧ (mh M m = j ∨ mc M m = j))
  | 0, _ => ⟨fun q => (by have z : tb 0 j = true := q; rw [tb_0] at z; cases z), fun ⟨m, hm, _⟩ => absurd hm (Nat.not_lt_zero m)⟩
  | k + 1, hk => by
    have ih := jbt_t hv hj (k := k) (by omega)
    have t := mbt_t hv (m := k) (by omega) hj
    show tb (jbt M k ||| mbt M k) j = true ↔ _
    rw [tb_or, Bool.or_eq_true, ih, t]
    constructor
    · rintro (⟨m, m1, m2⟩ | q)
      · exact ⟨m, by omega, m2⟩
      · exact ⟨k, by omega, q.elim (fun z => Or.inl z.symm) (fun z => Or.inr z.symm)⟩
    · rintro ⟨m, m1, m2⟩
      by_cases e : m = k
      · subst e
        exact Or.inr (m2.elim (fun z => Or.inl z.symm) (fun z => Or.inr z.symm))
      · exact Or.inl ⟨m, by omega, m2⟩
theorem M_jbt (hs : s < 2) (hM : MM h s M) (hl : M.length ≤ 24) : sX6_loops_b24 FU h (nI s) 0 0 0 0 = sX6_loops_b79 FU h (nI s) 0 0 (jbt M M.length) 0 0 := by
  refine loop0 (fun m (q : Int32 × Int32) => sX6_loops_b24 m h (nI s) 0 0 q.1 q.2) (fun i => (jbt M i, nI i)) M.length _ (by omega) (fun m i hi' => ?_) (fun m => ?_)
  · show sX6_loops_c24 (sX6_loops_b24 m) h (nI s) 0 0 (jbt M i) (nI i) = sX6_loops_b24 m h (nI s) 0 0 (jbt M i ||| mbt M i) (nI (i + 1))
    have hle : ¬ nI M.length ≤ nI i := by rw [le_n (by omega) (by omega)]; omega
    obtain ⟨a1, a2, a3⟩ := hM.2 i hi'
    unfold sX6_loops_c24
    rw [gd_in (show s < 2 by omega) (show 2 ≤ 1000 by decide), cl_n (show s ≤ 100000 by omega), hM.1, if_neg hle, bd_t M_place]
    dsimp only
    rw [gd_in (show 25 * s + i < 50 by omega) (show 50 ≤ 1000 by decide), cl_n (show 25 * s + i ≤ 100000 by omega), bd_t M_place]
    dsimp only
    rw [gd_in (show 25 * s + i < 50 by omega) (show 50 ≤ 1000 by decide), cl_n (show 25 * s + i ≤ 100000 by omega), a1, a2]
    rw [nm_t (show jbt M i ||| (((1 : Int32) <<< (nI (mh M i) &&& 31)) ||| ((1 : Int32) <<< (nI (mc M i) &&& 31))) = jbt M i ||| mbt M i from rfl), nI_1, nm_t rfl]
  · show sX6_loops_c24 (sX6_loops_b24 m) h (nI s) 0 0 (jbt M M.length) (nI M.length) = _
    have hle : nI M.length ≤ nI M.length := by rw [le_n (by omega) (by omega)]; omega
    unfold sX6_loops_c24
    rw [gd_in (show s < 2 by omega) (show 2 ≤ 1000 by decide), cl_n (show s ≤ 100000 by omega), hM.1, if_pos hle]
end O33
