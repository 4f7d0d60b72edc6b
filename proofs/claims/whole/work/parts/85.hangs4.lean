/-! loops: hangsWith by labels -/
section O32
variable {h : Hp} {s : Nat} {M : Mt}
theorem M_hangs (hs : s < 2) (hM : MM h s M) (hl : M.length ≤ 24) (hv : ∀ k, k < M.length → mh M k < 10 ∧ mc M k < 10) {a : Nat} (ha : a < 10) : ∃ x, sX6_hangsWith h (nI s) (nI a) = some (x, h) ∧ ∀ j, j < 32 → (tb x j = true ↔ (lbM M M.length).1 j = (lbM M M.length).1 a) := by
  have t1 : ∀ j, j < 32 → (tb ((1 : Int32) <<< (nI a &&& 31)) j = true ↔ a = j) := fun j hj => by rw [tb_1 a (by omega) j hj]; exact decide_eq_true_iff
  have n0 : ¬ (0 : Int32) = (1 : Int32) <<< (nI a &&& 31) := by
    intro q
    have := (t1 a (by omega)).mpr rfl
    rw [← q, tb_0] at this
    cases this
  obtain ⟨x, x1, x2, x3, x4⟩ := M_hang0 hs hM hl hv 10 FU ((1 : Int32) <<< (nI a &&& 31)) 0 (by show 11 < 1000; omega) (by have := (nBt_bd ((1 : Int32) <<< (nI a &&& 31))).1; omega) (fun j hj q => by have := (t1 j hj).mp q; omega) (fun z => absurd z n0)
  refine ⟨x, ?_, fun j hj => ⟨fun q => ?_, fun q => ?_⟩⟩
  · unfold sX6_hangsWith
    rw [nm_t rfl]
    exact x1
  · exact x4 (fun j => (lbM M M.length).1 j = (lbM M M.length).1 a) (fun m hm => by rw [lb_eq hm]) (fun i hi' w => by rw [(t1 i hi').mp w]) j hj q
  · exact (lb_con (M := M) (P := fun i => tb x i = true) (k := M.length) (pas_cl hv x3) j a q).mpr (x2 a (by omega) ((t1 a (by omega)).mpr rfl))
end O32
