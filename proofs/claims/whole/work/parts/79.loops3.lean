/-! loops: labels say who hangs together -/
theorem lb_eq {M : Mt} : ∀ {k m : Nat}, m < k → (lbM M k).1 (mh M m) = (lbM M k).1 (mc M m)
  | 0, m, h => absurd h (Nat.not_lt_zero m)
  | k + 1, m, h => by
    by_cases c : (lbM M k).1 (mh M k) = (lbM M k).1 (mc M k)
    · have en : lbM M (k + 1) = lbM M k := if_pos c
      rw [en]
      by_cases e : m = k
      · rw [e]; exact c
      · exact lb_eq (by omega)
    · have en : lbM M (k + 1) = (fun j => if (lbM M k).1 j = (lbM M k).1 (mh M k) then (lbM M k).1 (mc M k) else (lbM M k).1 j, (lbM M k).2 + 1) := if_neg c
      rw [en]
      show (if (lbM M k).1 (mh M m) = (lbM M k).1 (mh M k) then (lbM M k).1 (mc M k) else (lbM M k).1 (mh M m)) = (if (lbM M k).1 (mc M m) = (lbM M k).1 (mh M k) then (lbM M k).1 (mc M k) else (lbM M k).1 (mc M m))
      by_cases e : m = k
      · rw [e, if_pos rfl, if_neg (fun z => c z.symm)]
      · rw [lb_eq (M := M) (k := k) (m := m) (by omega)]
/-- what is closed under the matches holds of all with one label, or of none -/
theorem lb_con {M : Mt} {P : Nat → Prop} : ∀ {k : Nat}, (∀ m, m < k → (P (mh M m) ↔ P (mc M m))) → ∀ i j, (lbM M k).1 i = (lbM M k).1 j → (P i ↔ P j)
  | 0, _, i, j, e => by
    have : i = j := e
    rw [this]
  | k + 1, hP, i, j, e => by
    have ih := lb_con (M := M) (P := P) (k := k) (fun m hm => hP m (by omega))
    by_cases c : (lbM M k).1 (mh M k) = (lbM M k).1 (mc M k)
    · have en : lbM M (k + 1) = lbM M k := if_pos c
      rw [en] at e
      exact ih i j e
    · have en : lbM M (k + 1) = (fun j => if (lbM M k).1 j = (lbM M k).1 (mh M k) then (lbM M k).1 (mc M k) else (lbM M k).1 j, (lbM M k).2 + 1) := if_neg c
      rw [en] at e
      have e' : (if (lbM M k).1 i = (lbM M k).1 (mh M k) then (lbM M k).1 (mc M k) else (lbM M k).1 i) = (if (lbM M k).1 j = (lbM M k).1 (mh M k) then (lbM M k).1 (mc M k) else (lbM M k).1 j) := e
      have hk := hP k (by omega)
      by_cases a : (lbM M k).1 i = (lbM M k).1 (mh M k)
      · rw [if_pos a] at e'
        by_cases b : (lbM M k).1 j = (lbM M k).1 (mh M k)
        · exact ih i j (a.trans b.symm)
        · rw [if_neg b] at e'
          exact (ih i _ a).trans (hk.trans (ih _ j e'))
      · rw [if_neg a] at e'
        by_cases b : (lbM M k).1 j = (lbM M k).1 (mh M k)
        · rw [if_pos b] at e'
          exact (ih i _ e').trans (hk.symm.trans (ih _ j b.symm))
        · rw [if_neg b] at e'
          exact ih i j e'
