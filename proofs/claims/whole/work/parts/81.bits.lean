/-! bits -/
def tb (x : Int32) (j : Nat) : Bool := x.toBitVec.getLsbD j
theorem tb_ext {x y : Int32} (h : ∀ j, j < 32 → tb x j = tb y j) : x = y := Int32.toBitVec_inj.mp (BitVec.eq_of_getLsbD_eq (fun i hi' => h i hi'))
theorem tb_or (x y : Int32) (j : Nat) : tb (x ||| y) j = (tb x j || tb y j) := by
  unfold tb
  rw [Int32.toBitVec_or, BitVec.getLsbD_or]
theorem tb_and (x y : Int32) (j : Nat) : tb (x &&& y) j = (tb x j && tb y j) := by
  unfold tb
  rw [Int32.toBitVec_and, BitVec.getLsbD_and]
theorem tb_0 (j : Nat) : tb 0 j = false := BitVec.getLsbD_zero
theorem tb_1 : ∀ i, i < 32 → ∀ j, j < 32 → tb ((1 : Int32) <<< (nI i &&& 31)) j = decide (i = j) := by decide +kernel
theorem tb_and0 {x y : Int32} : x &&& y = 0 ↔ ∀ j, j < 32 → ¬ (tb x j = true ∧ tb y j = true) := by
  constructor
  · intro h j _ q
    have := tb_and x y j
    rw [h, tb_0, q.1, q.2] at this
    cases this
  · intro h
    apply tb_ext
    intro j hj
    rw [tb_and, tb_0]
    have := h j hj
    cases c1 : tb x j <;> cases c2 : tb y j <;> first | rfl | exact absurd ⟨c1, c2⟩ this
theorem tb_sh {x : Int32} {i : Nat} (hi' : i < 32) : ((x >>> (nI i &&& 31)) &&& 1) = (if tb x i = true then 1 else 0) := by
  have k1 : ∀ n, n < 32 → ((nI n &&& 31).toBitVec.smod 32).toNat = n := by decide +kernel
  have k3 : ∀ j, j < 32 → tb 1 j = decide (j = 0) := by decide +kernel
  have e0 : tb (x >>> (nI i &&& 31)) 0 = tb x i := by
    unfold tb
    rw [Int32.toBitVec_shiftRight]
    show (x.toBitVec.sshiftRight ((nI i &&& 31).toBitVec.smod 32).toNat).getLsbD 0 = _
    rw [k1 i hi', BitVec.getLsbD_sshiftRight, if_pos (by omega)]
    simp
  apply tb_ext
  intro j hj
  rw [tb_and, k3 j hj]
  by_cases c : j = 0
  · subst c
    rw [e0]
    by_cases d : tb x i = true
    · rw [if_pos d, d, k3 0 (by omega)]; rfl
    · rw [if_neg d, tb_0]
      cases q : tb x i
      · rfl
      · exact absurd q d
  · by_cases d : tb x i = true
    · rw [if_pos d, k3 j hj]; simp [c]
    · rw [if_neg d, tb_0]; simp [c]
