/-! loops: how many parts -/
abbrev mnL (l : Nat → Nat) (j : Nat) : Prop := ∀ i, i < j → l i ≠ l j
theorem mn_ex {l : Nat → Nat} {v : Nat} : ∀ {j : Nat}, l j = v → ∃ m, m ≤ j ∧ l m = v ∧ mnL l m
  | j, h => by
    by_cases c : mnL l j
    · exact ⟨j, Nat.le_refl _, h, c⟩
    · have : ∃ i, i < j ∧ l i = l j := by
        by_cases z : ∃ i, i < j ∧ l i = l j
        · exact z
        · exact absurd (fun i hi' e => z ⟨i, hi', e⟩) c
      obtain ⟨i, h1, h2⟩ := this
      obtain ⟨m, m1, m2, m3⟩ := mn_ex (l := l) (v := v) (j := i) (h2.trans h)
      exact ⟨m, by omega, m2, m3⟩
  termination_by j => j
theorem mn_u {l : Nat → Nat} {a b : Nat} (h1 : mnL l a) (h2 : mnL l b) (e : l a = l b) : a = b := by
  rcases Nat.lt_trichotomy a b with c | c | c
  · exact absurd e (h2 a c)
  · exact c
  · exact absurd e.symm (h1 b c)
/-- a merger takes one part away -/
theorem mn_mrg {l l' : Nat → Nat} {n x y : Nat} (hx : x < n) (hy : y < n) (hne : l x ≠ l y) (hl : ∀ j, l' j = if l j = l x then l y else l j) : sZ n (fun j => if mnL l j then 1 else 0) = sZ n (fun j => if mnL l' j then 1 else 0) + 1 := by
  obtain ⟨p, p1, p2, p3⟩ := mn_ex (l := l) (v := l x) (j := x) rfl
  obtain ⟨q, q1, q2, q3⟩ := mn_ex (l := l) (v := l y) (j := y) rfl
  have pq : p ≠ q := fun e => hne (by rw [← p2, ← q2, e])
  -- the greater of the two stops being the first
  obtain ⟨w, z, w1, w2, w3, w4, w5, w6⟩ : ∃ w z, w < n ∧ z < w ∧ mnL l w ∧ mnL l z ∧ (l w = l x ∨ l w = l y) ∧ (l z = l x ∨ l z = l y) := by
    by_cases c : p < q
    · exact ⟨q, p, by omega, c, q3, p3, Or.inr q2, Or.inl p2⟩
    · exact ⟨p, q, by omega, by omega, p3, q3, Or.inl p2, Or.inr q2⟩
  have lw : l' w = l y := by
    rw [hl]
    rcases w5 with e | e
    · rw [if_pos e]
    · by_cases c : l w = l x
      · rw [if_pos c]
      · rw [if_neg c]; exact e
  have lz : l' z = l y := by
    rw [hl]
    rcases w6 with e | e
    · rw [if_pos e]
    · by_cases c : l z = l x
      · rw [if_pos c]
      · rw [if_neg c]; exact e
  have nw : ¬ mnL l' w := fun h => h z w2 (lz.trans lw.symm)
  have same : ∀ j, j ≠ w → (mnL l j ↔ mnL l' j) := by
    intro j hj
    constructor
    · intro h i hi' e
      have h' := h i hi'
      rw [hl, hl] at e
      by_cases c1 : l i = l x
      · rw [if_pos c1] at e
        by_cases c2 : l j = l x
        · exact h' (c1.trans c2.symm)
        · rw [if_neg c2] at e
          -- j is first of y's, i of x's comes earlier: so j is w
          have jq : j = q := mn_u h q3 (e.symm.trans q2.symm)
          have pi : p ≤ i := by
            by_cases z1 : p ≤ i
            · exact z1
            · exact absurd (c1.trans p2.symm) (p3 i (by omega))
          have pl : p < q := by omega
          rcases w5 with z2 | z2
          · have a1 : w = p := mn_u w3 p3 (z2.trans p2.symm)
            rcases w6 with z3 | z3
            · have a2 : z = p := mn_u w4 p3 (z3.trans p2.symm)
              omega
            · have a2 : z = q := mn_u w4 q3 (z3.trans q2.symm)
              omega
          · have a1 : w = q := mn_u w3 q3 (z2.trans q2.symm)
            omega
      · rw [if_neg c1] at e
        by_cases c2 : l j = l x
        · rw [if_pos c2] at e
          have jp : j = p := mn_u h p3 (c2.trans p2.symm)
          have qi : q ≤ i := by
            by_cases z1 : q ≤ i
            · exact z1
            · exact absurd (e.trans q2.symm) (q3 i (by omega))
          have ql : q < p := by omega
          rcases w5 with z2 | z2
          · have a1 : w = p := mn_u w3 p3 (z2.trans p2.symm)
            omega
          · have a1 : w = q := mn_u w3 q3 (z2.trans q2.symm)
            rcases w6 with z3 | z3
            · have a2 : z = p := mn_u w4 p3 (z3.trans p2.symm)
              omega
            · have a2 : z = q := mn_u w4 q3 (z3.trans q2.symm)
              omega
        · rw [if_neg c2] at e
          exact h' e
    · intro h i hi' e
      exact h i hi' (by rw [hl, hl, e])
  have r := sZ_one (n := n) (k := w) (f := fun j => if mnL l j then (1 : Int) else 0) (g := fun j => if mnL l' j then (1 : Int) else 0) w1 (fun j hj => by
    by_cases c : mnL l j
    · rw [if_pos c, if_pos ((same j hj).mp c)]
    · rw [if_neg c, if_neg (fun z => c ((same j hj).mpr z))])
  rw [r, if_pos w3, if_neg nw]
  omega
theorem lb_cnt {M : Mt} {n : Nat} (hv : ∀ k, k < M.length → mh M k < n ∧ mc M k < n) : ∀ {k : Nat}, k ≤ M.length → sZ n (fun j => if mnL (lbM M k).1 j then 1 else 0) + ((lbM M k).2 : Int) = n
  | 0, _ => by
    have e : sZ n (fun j => if mnL (lbM M 0).1 j then 1 else 0) = sZ n (fun _ => 1) := sZ_cg (fun j _ => if_pos (fun i hi' q => by have : i = j := q; omega))
    have e1 : ∀ n : Nat, sZ n (fun _ => 1) = n := by
      intro n
      induction n with
      | zero => rfl
      | succ n ih => show sZ n (fun _ => 1) + 1 = _; omega
    rw [e, e1]
    show (n : Int) + 0 = n
    omega
  | k + 1, hk => by
    have ih := lb_cnt hv (k := k) (by omega)
    have v := hv k (by omega)
    by_cases c : (lbM M k).1 (mh M k) = (lbM M k).1 (mc M k)
    · have en : lbM M (k + 1) = lbM M k := if_pos c
      rw [en]; exact ih
    · have en : lbM M (k + 1) = (fun j => if (lbM M k).1 j = (lbM M k).1 (mh M k) then (lbM M k).1 (mc M k) else (lbM M k).1 j, (lbM M k).2 + 1) := if_neg c
      have r := mn_mrg (n := n) v.1 v.2 c (l' := (lbM M (k + 1)).1) (fun j => by rw [en])
      have e2 : (lbM M (k + 1)).2 = (lbM M k).2 + 1 := by rw [en]
      rw [e2]
      omega
