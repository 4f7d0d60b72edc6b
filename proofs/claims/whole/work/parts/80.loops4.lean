/-! loops: parts among the joined -/
section O27
variable {S : SS} {s : Nat} {M : Mt}
theorem us_no (ok : OK S) (v : VM S s M) {i : Nat} (hi' : i < S.1) : us M M.length i ≤ 0 ↔ ∀ m, m < M.length → ¬ (mh M m = i ∨ mc M m = i) := by
  obtain ⟨a1, a2, -, -⟩ := v.us ok hi' (Nat.le_refl _)
  rw [le_tI, tI0, a1]
  constructor
  · intro h m hm q
    have b1 := (uz_0 (fun k hk => (v.2.1 k hk).2) i (show m + 1 ≤ M.length by omega)).2
    have b0 := (uz_0 (fun k hk => (v.2.1 k hk).2) i (show m ≤ M.length by omega)).1
    have e : uz M (m + 1) i = uz M m i + (if mh M m = i ∨ mc M m = i then (ml M m).toInt else 0) := rfl
    rw [if_pos q] at e
    have := (v.2.1 m hm).2
    omega
  · intro h
    have e : uz M M.length i = sZ M.length (fun _ => 0) := sZ_cg (fun j hj => if_neg (h j hj))
    have z : ∀ n : Nat, sZ n (fun _ => 0) = 0 := by
      intro n
      induction n with
      | zero => rfl
      | succ n ih => show sZ n (fun _ => 0) + 0 = 0; omega
    rw [e, z]
    omega
theorem lb_own {x : Nat} (h : ∀ m, m < M.length → ¬ (mh M m = x ∨ mc M m = x)) : mnL (lbM M M.length).1 x := by
  intro i hi' e
  have := (lb_con (M := M) (P := fun j => j = x) (k := M.length) (fun m hm => by
    have := h m hm
    constructor
    · intro q; exact absurd (Or.inl q) this
    · intro q; exact absurd (Or.inr q) this) i x e).mpr rfl
  omega
theorem jn_cnt (ok : OK S) (v : VM S s M) : (cJ S M S.1 : Int) = sZ S.1 (fun j => if mnL (lbM M M.length).1 j ∧ ¬ us M M.length j ≤ 0 then 1 else 0) + ((lbM M M.length).2 : Int) := by
  have hv : ∀ k, k < M.length → mh M k < S.1 ∧ mc M k < S.1 := fun k hk => ⟨(v.2.1 k hk).1.1, (v.2.1 k hk).1.2.1⟩
  have L := lb_cnt hv (Nat.le_refl _)
  have K : ∀ n, n ≤ S.1 → (cJ S M n : Int) + sZ n (fun j => if mnL (lbM M M.length).1 j then 1 else 0) = sZ n (fun j => if mnL (lbM M M.length).1 j ∧ ¬ us M M.length j ≤ 0 then 1 else 0) + (n : Int) := by
    intro n
    induction n with
    | zero => intro _; rfl
    | succ n ih =>
      intro hn'
      have ih := ih (by omega)
      have e1 : cJ S M (n + 1) = cJ S M n + (if us M M.length n ≤ 0 then 0 else 1) := rfl
      have e2 : sZ (n + 1) (fun j => if mnL (lbM M M.length).1 j then (1 : Int) else 0) = sZ n (fun j => if mnL (lbM M M.length).1 j then (1 : Int) else 0) + (if mnL (lbM M M.length).1 n then 1 else 0) := rfl
      have e3 : sZ (n + 1) (fun j => if mnL (lbM M M.length).1 j ∧ ¬ us M M.length j ≤ 0 then (1 : Int) else 0) = sZ n (fun j => if mnL (lbM M M.length).1 j ∧ ¬ us M M.length j ≤ 0 then (1 : Int) else 0) + (if mnL (lbM M M.length).1 n ∧ ¬ us M M.length n ≤ 0 then 1 else 0) := rfl
      rw [e1, e2, e3]
      by_cases c : us M M.length n ≤ 0
      · have own := lb_own ((us_no ok v (show n < S.1 by omega)).mp c)
        rw [if_pos c, if_pos own, if_neg (fun q => q.2 c)]
        omega
      · rw [if_neg c]
        by_cases d : mnL (lbM M M.length).1 n
        · rw [if_pos d, if_pos ⟨d, c⟩]; omega
        · rw [if_neg d, if_neg (fun q => d q.1)]; omega
  have := K S.1 (Nat.le_refl _)
  omega
end O27
