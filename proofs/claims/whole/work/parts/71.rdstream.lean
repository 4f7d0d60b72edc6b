/-! one stream in the text -/
section Rs
variable {h k : Hp} {tx : List Int32} {p : Nat}
abbrev isS (tx : List Int32) (p : Nat) (c : Int32) : Prop := p < tx.length ∧ tx.getD p 0 = c
theorem X_sgn (hT : TX h tx) (hl : tx.length ≤ 120) (hp : h.1 2 2 = nI p) (hpl : p ≤ tx.length) (c : Int32) : (isS tx p c → sX3_readSign h c = some (1, u1 h 2 2 (nI (p + 1)))) ∧ (¬ isS tx p c → sX3_readSign h c = some (0, h)) := by
  have e : sX3_readSign h c = if isS tx p c then some (1, u1 h 2 2 (nI (p + 1))) else some (0, h) := by
    unfold sX3_readSign sX3_readSign_c24
    rw [hT.1, hp]
    by_cases q : p < tx.length
    · rw [if_neg (by rw [le_n (by omega) (by omega)]; omega), gd_in (show p < 120 by omega) (show 120 ≤ 1000 by decide), cl_n (show p ≤ 100000 by omega), hT.2 p q]
      by_cases z : tx.getD p 0 = c
      · rw [if_pos z, if_pos ⟨q, z⟩, nI_1, nm_t rfl]
      · rw [if_neg z, if_neg (fun w => z w.2)]
    · rw [if_pos (by rw [le_n (by omega) (by omega)]; omega), if_neg (fun w => q w.1)]
  exact ⟨fun q => by rw [e, if_pos q], fun q => by rw [e, if_neg q]⟩
theorem M_sgn (hT : MT h tx) (hl : tx.length ≤ 120) (hp : h.1 54 5 = nI p) (hpl : p ≤ tx.length) (c : Int32) : ∃ h', Fr [(54, some 5)] [] h h' ∧ (isS tx p c → sX6_takes h c = some (1, h') ∧ h'.1 54 5 = nI (p + 1)) ∧ (¬ isS tx p c → sX6_takes h c = some (0, h') ∧ h'.1 54 5 = nI p) := by
  have e : sX6_takes h c = if isS tx p c then some (1, u1 h 54 5 (nI (p + 1))) else some (0, u1 h 54 5 (nI p)) := by
    have c29 : ∀ x : Int32, (x = 0 ∨ x = 1) → sX6_takes_c29 h x = some (x, u1 h 54 5 (nI p + x)) := by
      intro x hx
      unfold sX6_takes_c29
      rw [bd_t (M_flag01 hx)]
      dsimp only
      rw [hp, nm_t rfl, gd_t (show zb x = true from decide_eq_true hx)]
    unfold sX6_takes sX6_takes_c28
    rw [hT.1, hp]
    by_cases q : p < tx.length
    · rw [if_neg (by rw [le_n (by omega) (by omega)]; omega), gd_in (show p < 120 by omega) (show 120 ≤ 1000 by decide), cl_n (show p ≤ 100000 by omega), hT.2 p q]
      by_cases z : tx.getD p 0 = c
      · rw [if_pos z, if_pos ⟨q, z⟩, c29 1 (Or.inr rfl), nI_1]
      · rw [if_neg z, if_neg (fun w => z w.2), c29 0 (Or.inl rfl), Int32.add_zero]
    · rw [if_pos (by rw [le_n (by omega) (by omega)]; omega), if_neg (fun w => q w.1), c29 0 (Or.inl rfl), Int32.add_zero]
  by_cases q : isS tx p c
  · exact ⟨u1 h 54 5 (nI (p + 1)), Fr.w1 Fr.rf rfl (by simp), fun _ => ⟨by rw [e, if_pos q], rd1s⟩, fun z => absurd q z⟩
  · exact ⟨u1 h 54 5 (nI p), Fr.w1 Fr.rf rfl (by simp), fun z => absurd z q, fun _ => ⟨by rw [e, if_neg q], rd1s⟩⟩
theorem M_fit1 (hp : h.1 54 5 = nI p) : ∃ h', sX6_isFit h 1 = some (1, h') ∧ h'.1 54 5 = nI p ∧ Fr [(54, some 5)] [] h h' := by
  refine ⟨u1 h 54 5 (nI p), ?_, rd1s, Fr.w1 Fr.rf rfl (by simp)⟩
  unfold sX6_isFit sX6_isFit_c14
  rw [if_neg (by decide), bd_t (M_flag01 (Or.inl rfl))]
  dsimp only
  rw [hp, Int32.sub_zero, nm_t rfl]
  rfl
theorem M_fit0 (hp : h.1 54 5 = nI p) (h0 : 0 < p) : ∃ h', sX6_isFit h 0 = some (0, h') ∧ h'.1 54 5 = nI (p - 1) ∧ Fr [(54, some 5)] [] h h' := by
  refine ⟨u1 h 54 5 (nI (p - 1)), ?_, rd1s, Fr.w1 Fr.rf rfl (by simp)⟩
  unfold sX6_isFit sX6_isFit_c14
  rw [if_pos rfl, bd_t (M_flag01 (Or.inr rfl))]
  dsimp only
  rw [hp, nI_m1 h0, nm_t rfl]
  rfl
theorem TX.f2 {h' : Hp} (hT : TX h tx) (F : Fr [(2, some 2), (2, some 3), (2, some 4)] [] h h') : TX h' tx := hT.fr F (by decide)
theorem MT.f5 {h' : Hp} (hT : MT h tx) (F : Fr [(54, some 5)] [] h h') : MT h' tx := ⟨(F.f (by decide)).trans hT.1, fun j hj => (F.c (by decide) j).trans (hT.2 j hj)⟩
/-- a number on both sides: fails at e, or is v and ends at q -/
theorem num2 {m : Nat} (hT : TX h tx) (kT : MT k tx) (hl : tx.length ≤ 120) (hp : h.1 2 2 = nI p) (kp : k.1 54 5 = nI p) (hpl : p ≤ tx.length) (hm : 1 ≤ m ∧ m ≤ 3) (lw up : Int32) : ∃ x h' y k', sX3_readNumber h (nI m) lw up = some (x, h') ∧ Fr [(2, some 2), (2, some 3), (2, some 4)] [] h h' ∧ sX6_number k (nI m) = some (y, k') ∧ Fr [(54, some 5)] [] k k' ∧ ((∃ e, e ≤ tx.length ∧ x = 0 ∧ h'.1 2 4 = nI e ∧ y < 0 ∧ k'.1 54 5 = nI e) ∨ (∃ q, p < q ∧ q ≤ tx.length ∧ 0 ≤ y.toInt ∧ y.toInt < 10 ^ m ∧ k'.1 54 5 = nI q ∧ ((¬ (lw ≤ y ∧ y ≤ up) ∧ x = 0 ∧ h'.1 2 4 = nI (q - 1)) ∨ ((lw ≤ y ∧ y ≤ up) ∧ x = 1 ∧ h'.1 2 2 = nI q ∧ h'.1 2 3 = y)))) := by
  obtain ⟨c, x, h', n1, l1, e1, F1, a1, a2, a3⟩ := X_num hT hl hp hpl hm lw up
  obtain ⟨c', y, k', n2, l2, e2, F2, k5, b1, b2⟩ := M_num kT hl kp hpl hm
  have := ND_u n1 n2
  subst this
  refine ⟨x, h', y, k', e1, F1, e2, F2, ?_⟩
  by_cases nb : NB tx p m c
  · left
    obtain ⟨z1, z2⟩ := a1 nb
    exact ⟨p + c, l1, z1, z2, by rw [b1 nb]; decide, k5⟩
  · right
    have c0 : c ≠ 0 := fun z => nb (Or.inl z)
    have y1 := b2 nb
    obtain ⟨v1, v2⟩ := va_bd (c := c) (by have := n1.1; omega) n1.2.1
    have pw : (10 : Int) ^ c ≤ 10 ^ m := by
      have := n1.1
      rcases (show c = 1 ∨ c = 2 ∨ c = 3 by omega) with rfl | rfl | rfl <;> rcases (show m = 1 ∨ m = 2 ∨ m = 3 by omega) with rfl | rfl | rfl <;> first | decide | omega
    refine ⟨p + c, by omega, l1, by rw [y1]; exact v1, by rw [y1]; omega, k5, ?_⟩
    rw [y1]
    by_cases w : lw ≤ va tx p c ∧ va tx p c ≤ up
    · exact Or.inr ⟨w, a3 nb w⟩
    · exact Or.inl ⟨w, a2 nb w⟩
end Rs
