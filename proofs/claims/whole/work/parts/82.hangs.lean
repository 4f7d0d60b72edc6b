/-! loops: one pass over the matches -/
section O29
variable {h : Hp} {S : SS} {s : Nat} {M : Mt}
def mbt (M : Mt) (m : Nat) : Int32 := ((1 : Int32) <<< (nI (mh M m) &&& 31)) ||| ((1 : Int32) <<< (nI (mc M m) &&& 31))
def pas (M : Mt) (y : Int32) : Nat → Int32
  | 0 => y
  | m + 1 => if pas M y m &&& mbt M m = 0 then pas M y m else pas M y m ||| mbt M m
theorem mbt_t (hv : ∀ k, k < M.length → mh M k < 10 ∧ mc M k < 10) {m j : Nat} (hm : m < M.length) (hj : j < 32) : tb (mbt M m) j = true ↔ (j = mh M m ∨ j = mc M m) := by
  have := hv m hm
  unfold mbt
  rw [tb_or, tb_1 _ (by omega) _ hj, tb_1 _ (by omega) _ hj]
  simp only [Bool.or_eq_true, decide_eq_true_eq]
  exact ⟨fun q => q.elim (fun z => Or.inl z.symm) (fun z => Or.inr z.symm), fun q => q.elim (fun z => Or.inl z.symm) (fun z => Or.inr z.symm)⟩
theorem pas_up {y : Int32} {j : Nat} (h : tb y j = true) : ∀ {m : Nat}, tb (pas M y m) j = true
  | 0 => h
  | m + 1 => by
    have ih := pas_up h (m := m)
    unfold pas
    split
    · exact ih
    · rw [tb_or, ih]; rfl
/-- what is closed under the matches and holds of y's holds of all that comes in -/
theorem pas_in {y : Int32} {P : Nat → Prop} (hv : ∀ k, k < M.length → mh M k < 10 ∧ mc M k < 10) (hP : ∀ m, m < M.length → (P (mh M m) ↔ P (mc M m))) (hy : ∀ j, j < 32 → tb y j = true → P j) : ∀ {m : Nat}, m ≤ M.length → ∀ j, j < 32 → tb (pas M y m) j = true → P j
  | 0, _, j, hj, q => hy j hj q
  | m + 1, hm, j, hj, q => by
    have ih := pas_in hv hP hy (m := m) (by omega)
    unfold pas at q
    by_cases c : pas M y m &&& mbt M m = 0
    · rw [if_pos c] at q; exact ih j hj q
    · rw [if_neg c, tb_or] at q
      by_cases d : tb (pas M y m) j = true
      · exact ih j hj d
      · have q' : tb (mbt M m) j = true := by
          cases z : tb (pas M y m) j
          · rw [z] at q; exact q
          · exact absurd z d
        have t : ∃ i, i < 32 ∧ tb (pas M y m) i = true ∧ tb (mbt M m) i = true := by
          by_cases z : ∃ i, i < 32 ∧ tb (pas M y m) i = true ∧ tb (mbt M m) i = true
          · exact z
          · exact absurd (tb_and0.mpr (fun i hi' w => z ⟨i, hi', w⟩)) c
        obtain ⟨i, i1, i2, i3⟩ := t
        have pi := ih i i1 i2
        have hk := hP m (by omega)
        rcases (mbt_t hv (by omega) hj).mp q' with e | e <;> rcases (mbt_t hv (by omega) i1).mp i3 with f | f
        · rw [e, ← f]; exact pi
        · rw [e]; rw [f] at pi; exact hk.mpr pi
        · rw [e]; rw [f] at pi; exact hk.mp pi
        · rw [e, ← f]; exact pi
/-- if a pass brings nothing in, what there is is closed -/
theorem pas_cl {y : Int32} (hv : ∀ k, k < M.length → mh M k < 10 ∧ mc M k < 10) (e : pas M y M.length = y) : ∀ m, m < M.length → (tb y (mh M m) = true ↔ tb y (mc M m) = true) := by
  intro m hm
  have v := hv m hm
  have up : ∀ {a d j : Nat}, tb (pas M y a) j = true → tb (pas M y (a + d)) j = true := by
    intro a d j q
    induction d with
    | zero => exact q
    | succ d ih =>
      show tb (if pas M y (a + d) &&& mbt M (a + d) = 0 then pas M y (a + d) else pas M y (a + d) ||| mbt M (a + d)) j = true
      split
      · exact ih
      · rw [tb_or, ih]; rfl
  have all : ∀ j, tb (mbt M m) j = true → (tb y (mh M m) = true ∨ tb y (mc M m) = true) → tb y j = true := by
    intro j hj q
    have c : ¬ pas M y m &&& mbt M m = 0 := by
      rw [tb_and0]
      intro z
      rcases q with q | q
      · exact z (mh M m) (by omega) ⟨pas_up q, (mbt_t hv hm (by omega)).mpr (Or.inl rfl)⟩
      · exact z (mc M m) (by omega) ⟨pas_up q, (mbt_t hv hm (by omega)).mpr (Or.inr rfl)⟩
    have s1 : tb (pas M y (m + 1)) j = true := by
      unfold pas
      rw [if_neg c, tb_or, hj]
      simp
    have s2 := up (d := M.length - (m + 1)) s1
    rw [show m + 1 + (M.length - (m + 1)) = M.length by omega, e] at s2
    exact s2
  constructor
  · intro q
    exact all _ ((mbt_t hv hm (by omega)).mpr (Or.inr rfl)) (Or.inl q)
  · intro q
    exact all _ ((mbt_t hv hm (by omega)).mpr (Or.inl rfl)) (Or.inr q)
end O29
