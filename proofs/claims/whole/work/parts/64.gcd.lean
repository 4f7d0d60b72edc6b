/-! the greatest common divisor; fractions -/
theorem L_eq {a b : Int64} : a = b ↔ a.toInt = b.toInt := Int64.toInt_inj.symm
theorem gcd_st {a b : Nat} : Nat.gcd a b = Nat.gcd b (a % b) := by rw [Nat.gcd_comm a b, Nat.gcd_rec b a, Nat.gcd_comm]
theorem em_eq {a b : Nat} : (a : Int) - (a : Int) / (b : Int) * (b : Int) = ((a % b : Nat) : Int) := by
  have := Int.emod_add_mul_ediv (a : Int) (b : Int)
  have e : ((a % b : Nat) : Int) = (a : Int) % (b : Int) := Int.natCast_emod a b
  rw [e, Int.mul_comm]
  omega
theorem md_half {b r : Nat} (hr : 0 < r) (hb : r < b) : 2 * (b % r) < b := by
  have h1 := Nat.mod_lt b hr
  have h2 := Nat.div_add_mod b r
  have h3 : 1 ≤ b / r := (Nat.le_div_iff_mul_le hr).mpr (by omega)
  have h4 : r * 1 ≤ r * (b / r) := Nat.mul_le_mul_left r h3
  omega
section Gc
variable {h : Hp}
theorem X_st {x y : Int32} {a b : Nat} (hx : x.toInt = a) (hy : y.toInt = b) (hb : 0 < b) : (x - x / y * y).toInt = ((a % b : Nat) : Int) := by
  have b1 := x.toInt_lt
  have b2 := y.toInt_lt
  rw [hx] at b1
  rw [hy] at b2
  have d1 : (a : Int) / (b : Int) ≤ a := Int.ediv_le_self _ (by omega)
  have d0 : 0 ≤ (a : Int) / (b : Int) := Int.ediv_nonneg (by omega) (by omega)
  have e1 : (x / y).toInt = (a : Int) / (b : Int) := by
    rw [Int32.toInt_div, hx, hy, Int.tdiv_eq_ediv_of_nonneg (by omega)]
    exact bmod_id (by omega) (by omega)
  have m1 : (a : Int) / (b : Int) * (b : Int) ≤ a := Int.ediv_mul_le _ (by omega)
  have m0 : 0 ≤ (a : Int) / (b : Int) * (b : Int) := Int.mul_nonneg d0 (by omega)
  have e2 : (x / y * y).toInt = (a : Int) / (b : Int) * (b : Int) := by rw [tI_mul (by rw [e1, hy]; omega) (by rw [e1, hy]; omega), e1, hy]
  rw [tI_sub (by rw [e2, hx]; omega) (by rw [e2, hx]; omega), e2, hx, em_eq]
theorem X_gcd0 : ∀ (k j n : Nat) (x y : Int32) (a b : Nat), x.toInt = a → y.toInt = b → b < 2 ^ k → 2 * k + j < 50 → 2 * k < n → ∃ z, sX5_commonDivisor_b7 n h x y (nI j) = some (z, h) ∧ z.toInt = Nat.gcd a b
  | 0, j, n, x, y, a, b, hx, hy, hk, hj, hn' => by
    obtain ⟨m, rfl⟩ : ∃ m, n = m + 1 := ⟨n - 1, by omega⟩
    have b0 : b = 0 := by simp at hk; omega
    subst b0
    refine ⟨x, ?_, by rw [hx, Nat.gcd_zero_right]⟩
    show sX5_commonDivisor_c7 (sX5_commonDivisor_b7 m) h x y (nI j) = _
    unfold sX5_commonDivisor_c7 sX5_commonDivisor_c34
    rw [if_neg (by show ¬ nI 50 ≤ nI j; rw [le_n (by omega) (by omega)]; omega), if_pos (by rw [eq_tI, hy]; rfl)]
  | k + 1, j, n, x, y, a, b, hx, hy, hk, hj, hn' => by
    obtain ⟨m, rfl⟩ : ∃ m, n = m + 2 := ⟨n - 2, by omega⟩
    have st : ∀ (m j : Nat) (x y : Int32) (b : Nat), j < 50 → y.toInt = b → sX5_commonDivisor_b7 (m + 1) h x y (nI j) = if b = 0 then some (x, h) else sX5_commonDivisor_b7 m h y (x - x / y * y) (nI (j + 1)) := by
      intro m j x y b hj hy
      show sX5_commonDivisor_c7 (sX5_commonDivisor_b7 m) h x y (nI j) = _
      unfold sX5_commonDivisor_c7 sX5_commonDivisor_c34
      rw [if_neg (by show ¬ nI 50 ≤ nI j; rw [le_n (by omega) (by omega)]; omega)]
      by_cases c : b = 0
      · rw [if_pos (by rw [eq_tI, hy, c]; rfl), if_pos c]
      · have nz : ¬ y = 0 := by rw [eq_tI, hy, tI0]; omega
        rw [if_neg nz, if_neg c, gd_t (show nzI y = true from decide_eq_true nz), nm_t rfl, nI_1, nm_t rfl]
    rw [st (m + 1) j x y b (by omega) hy]
    by_cases c : b = 0
    · rw [if_pos c]
      exact ⟨x, rfl, by rw [hx, c, Nat.gcd_zero_right]⟩
    · rw [if_neg c]
      have e1 := X_st hx hy (show 0 < b by omega)
      rw [st m (j + 1) y _ (a % b) (by omega) e1]
      by_cases c2 : a % b = 0
      · rw [if_pos c2]
        exact ⟨y, rfl, by rw [hy, gcd_st, c2, Nat.gcd_zero_right]⟩
      · rw [if_neg c2]
        have e2 := X_st hy e1 (show 0 < a % b by omega)
        have hlt := Nat.mod_lt a (show 0 < b by omega)
        have hh := md_half (show 0 < a % b by omega) hlt
        obtain ⟨z, z1, z2⟩ := X_gcd0 k (j + 2) m _ _ _ _ e1 e2 (by rw [Nat.pow_succ] at hk; omega) (by omega) (by omega)
        exact ⟨z, z1, by rw [z2, gcd_st (a := a), gcd_st (a := b)]⟩
theorem X_gcd {x y : Int32} {a b : Nat} (hx : x.toInt = a) (hy : y.toInt = b) (hb : b ≤ 1000) : ∃ z, sX5_commonDivisor h x y = some (z, h) ∧ z.toInt = Nat.gcd a b := X_gcd0 10 0 FU x y a b hx hy (by show b < 1024; omega) (by omega) (by show 20 < 1000; omega)
theorem M_st {x y : Int64} {a b : Nat} (hx : x.toInt = a) (hy : y.toInt = b) (hb : 0 < b) : (x - x / y * y).toInt = ((a % b : Nat) : Int) := by
  have b1 := x.toInt_lt
  have b2 := y.toInt_lt
  rw [hx] at b1
  rw [hy] at b2
  have d1 : (a : Int) / (b : Int) ≤ a := Int.ediv_le_self _ (by omega)
  have d0 : 0 ≤ (a : Int) / (b : Int) := Int.ediv_nonneg (by omega) (by omega)
  have e1 : (x / y).toInt = (a : Int) / (b : Int) := by
    rw [Int64.toInt_div, hx, hy, Int.tdiv_eq_ediv_of_nonneg (by omega)]
    exact bmod_id64 (by omega) (by omega)
  have m1 : (a : Int) / (b : Int) * (b : Int) ≤ a := Int.ediv_mul_le _ (by omega)
  have m0 : 0 ≤ (a : Int) / (b : Int) * (b : Int) := Int.mul_nonneg d0 (by omega)
  have e2 : (x / y * y).toInt = (a : Int) / (b : Int) * (b : Int) := by rw [Int64.toInt_mul, e1, hy, bmod_id64 (by omega) (by omega)]
  rw [Int64.toInt_sub, e2, hx, bmod_id64 (by omega) (by omega), em_eq]
theorem M_gcd0 : ∀ (k n : Nat) (x y : Int64) (a b : Nat), x.toInt = a → y.toInt = b → b < 2 ^ k → 2 * k < n → ∃ z, sX6_common_b17 n h x y = some (z, h) ∧ z.toInt = Nat.gcd a b
  | 0, n, x, y, a, b, hx, hy, hk, hn' => by
    obtain ⟨m, rfl⟩ : ∃ m, n = m + 1 := ⟨n - 1, by omega⟩
    have b0 : b = 0 := by simp at hk; omega
    subst b0
    refine ⟨x, ?_, by rw [hx, Nat.gcd_zero_right]⟩
    show sX6_common_c17 (sX6_common_b17 m) h x y = _
    unfold sX6_common_c17
    rw [if_pos (by rw [lg_eq0, hy]; rfl)]
  | k + 1, n, x, y, a, b, hx, hy, hk, hn' => by
    obtain ⟨m, rfl⟩ : ∃ m, n = m + 2 := ⟨n - 2, by omega⟩
    have st : ∀ (m : Nat) (x y : Int64) (b : Nat), y.toInt = b → sX6_common_b17 (m + 1) h x y = if b = 0 then some (x, h) else sX6_common_b17 m h y (x - x / y * y) := by
      intro m x y b hy
      show sX6_common_c17 (sX6_common_b17 m) h x y = _
      unfold sX6_common_c17
      by_cases c : b = 0
      · rw [if_pos (by rw [lg_eq0, hy, c]; rfl), if_pos c]
      · have nz : ¬ y = 0 := by rw [L_eq, hy, L0]; omega
        rw [if_neg (by rw [lg_eq0, hy, L0]; omega), if_neg c, gd_t (show nzL y = true from decide_eq_true nz), nm_t rfl]
    rw [st (m + 1) x y b hy]
    by_cases c : b = 0
    · rw [if_pos c]
      exact ⟨x, rfl, by rw [hx, c, Nat.gcd_zero_right]⟩
    · rw [if_neg c]
      have e1 := M_st hx hy (show 0 < b by omega)
      rw [st m y _ (a % b) e1]
      by_cases c2 : a % b = 0
      · rw [if_pos c2]
        exact ⟨y, rfl, by rw [hy, gcd_st, c2, Nat.gcd_zero_right]⟩
      · rw [if_neg c2]
        have e2 := M_st hy e1 (show 0 < a % b by omega)
        have hlt := Nat.mod_lt a (show 0 < b by omega)
        have hh := md_half (show 0 < a % b by omega) hlt
        obtain ⟨z, z1, z2⟩ := M_gcd0 k m _ _ _ _ e1 e2 (by rw [Nat.pow_succ] at hk; omega) (by omega)
        exact ⟨z, z1, by rw [z2, gcd_st (a := a), gcd_st (a := b)]⟩
theorem M_gcd {x y : Int64} {a b : Nat} (hx : x.toInt = a) (hy : y.toInt = b) (hb : b ≤ 1000) : ∃ z, sX6_common h x y = some (z, h) ∧ z.toInt = Nat.gcd a b := by
  unfold sX6_common sX6_common_c12
  rw [if_pos (by rw [lg_ge0, hx, L0]; omega)]
  exact M_gcd0 10 FU x y a b hx hy (by show b < 1024; omega) (by show 20 < 1000; omega)
end Gc
/-- a part of a fraction in lowest terms -/
def lwt (a g : Nat) : Int64 := Int64.ofInt (((a / g : Nat)) : Int)
theorem lwt_I {a g : Nat} (h : a < 2147483648) : (lwt a g).toInt = ((a / g : Nat) : Int) := by
  have := Nat.div_le_self a g
  have p0 : (0 : Int) ≤ ((a / g : Nat) : Int) := Int.natCast_nonneg _
  unfold lwt
  rw [Int64.toInt_ofInt]
  exact bmod_id64 (by omega) (by omega)
section Fc
variable {h : Hp} {S : SS} {Ms : Nat → Mt} {tx : List Int32} {row : List Int64}
theorem X_addFr (hR : RX h S Ms tx row) (hl : row.length + 1 < 24) {x y : Int32} {a b : Nat} (hx : x.toInt = a) (hy : y.toInt = b) (hb : 1 ≤ b ∧ b ≤ 1000) : ∃ h', sX4_addFraction h x y = some h' ∧ RX h' S Ms tx (row ++ [lwt a (Nat.gcd a b), lwt b (Nat.gcd a b)]) := by
  obtain ⟨z, z1, z2⟩ := X_gcd (h := h) hx hy hb.2
  have g0 : 0 < Nat.gcd a b := Nat.gcd_pos_of_pos_right a (by omega)
  have a1 := x.toInt_lt
  have a2 := y.toInt_lt
  have q : ∀ {w : Int32} {c : Nat}, w.toInt = c → (if z ≤ 1 then w.toInt64 else (w / z).toInt64) = lwt c (Nat.gcd a b) := by
    intro w c hw
    have b1 := w.toInt_lt
    rw [L_eq, lwt_I (by omega)]
    have e : (w / z).toInt = ((c / Nat.gcd a b : Nat) : Int) := by
      have := Nat.div_le_self c (Nat.gcd a b)
      have p0 : (0 : Int) ≤ ((c / Nat.gcd a b : Nat) : Int) := Int.natCast_nonneg _
      rw [Int32.toInt_div, hw, z2, Int.tdiv_eq_ediv_of_nonneg (by omega), ← Int.natCast_ediv]
      exact bmod_id (by omega) (by omega)
    by_cases c1 : z ≤ 1
    · rw [if_pos c1, tL_i, hw]
      rw [le_tI, z2] at c1
      have o1 : (1 : Int32).toInt = 1 := rfl
      have : Nat.gcd a b = 1 := by omega
      rw [this, Nat.div_one]
    · rw [if_neg c1, tL_i, e]
  obtain ⟨h1, e1, r1⟩ := hR.add (by omega) (lwt a (Nat.gcd a b))
  obtain ⟨h2, e2, r2⟩ := r1.add (by rw [List.length_append]; exact hl) (lwt b (Nat.gcd a b))
  rw [List.append_assoc] at r2
  refine ⟨h2, ?_, r2⟩
  have nz : nzI z = true := decide_eq_true (by rw [eq_tI, z2, tI0]; omega)
  unfold sX4_addFraction sX4_addFraction_c21 sX4_addFraction_c39
  rw [bd_t z1]
  dsimp only
  have qx := q hx
  have qy := q hy
  by_cases c : z ≤ 1
  · rw [if_pos c] at qx qy
    rw [if_pos c, qx, bd_t e1, if_pos c, qy, bd_t e2]
  · rw [if_neg c] at qx qy
    rw [if_neg c, gd_t nz, qx, bd_t e1, if_neg c, gd_t nz, qy, bd_t e2]
theorem M_entP (hR : RM h S Ms tx row) (hl : row.length + 1 < 24) {x y : Int64} {a b : Nat} (hx : x.toInt = a) (hy : y.toInt = b) (ha : a < 2147483648) (hb : 1 ≤ b ∧ b ≤ 1000) : ∃ h', sX6_entersPart h x y = some h' ∧ RM h' S Ms tx (row ++ [lwt a (Nat.gcd a b), lwt b (Nat.gcd a b)]) ∧ Fr wX6_enters zX6_enters h h' := by
  obtain ⟨z, z1, z2⟩ := M_gcd (h := h) hx hy hb.2
  have g0 : 0 < Nat.gcd a b := Nat.gcd_pos_of_pos_right a (by omega)
  have q : ∀ {w : Int64} {c : Nat}, w.toInt = c → c < 2147483648 → w / z = lwt c (Nat.gcd a b) := by
    intro w c hw hc
    have := Nat.div_le_self c (Nat.gcd a b)
    have p0 : (0 : Int) ≤ ((c / Nat.gcd a b : Nat) : Int) := Int.natCast_nonneg _
    rw [L_eq, lwt_I hc, Int64.toInt_div, hw, z2, Int.tdiv_eq_ediv_of_nonneg (by omega), ← Int.natCast_ediv]
    exact bmod_id64 (by omega) (by omega)
  obtain ⟨h1, e1, r1, F1⟩ := hR.ent (by omega) (lwt a (Nat.gcd a b))
  obtain ⟨h2, e2, r2, F2⟩ := r1.ent (by rw [List.length_append]; show row.length + 1 < 64; omega) (lwt b (Nat.gcd a b))
  rw [List.append_assoc] at r2
  refine ⟨h2, ?_, r2, F1.tr F2 (fun _ z => z) (fun _ z => z)⟩
  have nz : nzL z = true := decide_eq_true (by rw [L_eq, z2, L0]; omega)
  unfold sX6_entersPart
  rw [bd_t z1]
  dsimp only
  rw [gd_t nz, q hx ha, bd_t e1, gd_t nz, q hy (by omega), bd_t e2]
end Fc
