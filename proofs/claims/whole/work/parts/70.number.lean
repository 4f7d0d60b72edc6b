/-! numbers in the text -/
abbrev dgt (tx : List Int32) (p : Nat) : Prop := p < tx.length ∧ 48 ≤ tx.getD p 0 ∧ tx.getD p 0 ≤ 57
def va (tx : List Int32) (p : Nat) : Nat → Int32
  | 0 => 0
  | c + 1 => 10 * va tx p c + tx.getD (p + c) 0 - 48
/-- so many digits are read from p on, m at most -/
def ND (tx : List Int32) (p m c : Nat) : Prop := c ≤ m ∧ (∀ j, j < c → dgt tx (p + j)) ∧ (c = m ∨ ¬ dgt tx (p + c))
theorem ND_u {tx : List Int32} {p m a b : Nat} (h1 : ND tx p m a) (h2 : ND tx p m b) : a = b := by
  rcases Nat.lt_trichotomy a b with c | c | c
  · exfalso
    have := h2.2.1 a c
    have := h2.1
    rcases h1.2.2 with q | q
    · omega
    · exact q (by assumption)
  · exact c
  · exfalso
    have := h1.2.1 b c
    have := h1.1
    rcases h2.2.2 with q | q
    · omega
    · exact q (by assumption)
theorem va_bd {tx : List Int32} {p : Nat} : ∀ {c : Nat}, c ≤ 3 → (∀ j, j < c → dgt tx (p + j)) → 0 ≤ (va tx p c).toInt ∧ (va tx p c).toInt < 10 ^ c
  | 0, _, _ => ⟨Int.le_refl 0, by show (0 : Int32).toInt < 10 ^ 0; decide⟩
  | c + 1, hc, hd => by
    obtain ⟨a1, a2⟩ := va_bd (tx := tx) (p := p) (c := c) (by omega) (fun j hj => hd j (by omega))
    obtain ⟨-, d1, d2⟩ := hd c (by omega)
    rw [le_tI] at d1 d2
    have e48 : (48 : Int32).toInt = 48 := rfl
    have e57 : (57 : Int32).toInt = 57 := rfl
    have e10 : (10 : Int32).toInt = 10 := rfl
    rw [e48] at d1
    rw [e57] at d2
    have p10 : (10 : Int) ^ c ≤ 100 := by
      rcases (show c = 0 ∨ c = 1 ∨ c = 2 by omega) with rfl | rfl | rfl <;> decide
    have pe : (10 : Int) ^ (c + 1) = 10 ^ c * 10 := Int.pow_succ _ _
    show 0 ≤ (10 * va tx p c + tx.getD (p + c) 0 - 48).toInt ∧ _
    have m1 : (10 * va tx p c).toInt = 10 * (va tx p c).toInt := by rw [tI_mul (by rw [e10]; omega) (by rw [e10]; omega), e10]
    have m2 : (10 * va tx p c + tx.getD (p + c) 0).toInt = 10 * (va tx p c).toInt + (tx.getD (p + c) 0).toInt := by rw [tI_add (by rw [m1]; omega) (by rw [m1]; omega), m1]
    have m3 : (10 * va tx p c + tx.getD (p + c) 0 - 48).toInt = 10 * (va tx p c).toInt + (tx.getD (p + c) 0).toInt - 48 := by rw [tI_sub (by rw [m2, e48]; omega) (by rw [m2, e48]; omega), m2, e48]
    have m4 : (va tx p (c + 1)).toInt = 10 * (va tx p c).toInt + (tx.getD (p + c) 0).toInt - 48 := m3
    rw [m3, m4, pe]
    omega
section Nm
variable {h : Hp} {tx : List Int32} {p m : Nat}
theorem X_dig (hT : TX h tx) (hl : tx.length ≤ 120) (hp : h.1 2 2 = nI p) (hpl : p ≤ tx.length) : sX3_isDigitHere h = some (bI (dgt tx p), h) := by
  unfold sX3_isDigitHere sX3_isDigitHere_c43 sX3_isDigitHere_c44
  rw [hT.1, hp]
  by_cases c : p < tx.length
  · rw [if_neg (by rw [le_n (by omega) (by omega)]; omega), gd_in (show p < 120 by omega) (show 120 ≤ 1000 by decide), gd_in (show p < 120 by omega) (show 120 ≤ 1000 by decide), cl_n (show p ≤ 100000 by omega), hT.2 p c]
    by_cases c1 : tx.getD p 0 < 48
    · rw [if_pos c1, show bI (dgt tx p) = 0 from bI_z.mpr (fun q => by have := q.2.1; grind)]; rfl
    · rw [if_neg c1]
      by_cases c2 : 57 < tx.getD p 0
      · rw [if_pos c2, show bI (dgt tx p) = 0 from bI_z.mpr (fun q => by have := q.2.2; grind)]; rfl
      · rw [if_neg c2, show bI (dgt tx p) = 1 from if_pos ⟨c, by grind, by grind⟩]; rfl
  · rw [if_pos (by rw [le_n (by omega) (by omega)]; omega), show bI (dgt tx p) = 0 from bI_z.mpr (fun q => c q.1)]; rfl
/-- the reference's text while it reads -/
def MT (h : Hp) (tx : List Int32) : Prop := h.1 54 6 = nI tx.length ∧ ∀ k, k < tx.length → h.1 56 k = tx.getD k 0
theorem M_dig (hT : MT h tx) (hl : tx.length ≤ 120) (hp : h.1 54 5 = nI p) (hpl : p ≤ tx.length) : sX6_isDigit h = some (bI (dgt tx p), h) := by
  unfold sX6_isDigit sX6_isDigit_c37 sX6_isDigit_c38
  rw [hT.1, hp]
  by_cases c : p < tx.length
  · rw [if_neg (by rw [le_n (by omega) (by omega)]; omega), gd_in (show p < 120 by omega) (show 120 ≤ 1000 by decide), cl_n (show p ≤ 100000 by omega), hT.2 p c, bd_t (M_inI _ _ _ _)]
    dsimp only
    have e : bI ((48 : Int64).toInt ≤ (tx.getD p 0).toInt ∧ (tx.getD p 0).toInt ≤ (57 : Int64).toInt) = bI (dgt tx p) := bI_cg (by
      have e1 : (48 : Int32) ≤ tx.getD p 0 ↔ (48 : Int64).toInt ≤ (tx.getD p 0).toInt := le_tI
      have e2 : tx.getD p 0 ≤ (57 : Int32) ↔ (tx.getD p 0).toInt ≤ (57 : Int64).toInt := le_tI
      rw [← e1, ← e2]
      exact ⟨fun q => ⟨c, q⟩, fun q => q.2⟩)
    rw [e]
    rcases bI01 (p := dgt tx p) with q | q
    · rw [q, if_pos rfl]; rfl
    · rw [q, if_neg (by decide)]; rfl
  · rw [if_pos (by rw [le_n (by omega) (by omega)]; omega), show bI (dgt tx p) = 0 from bI_z.mpr (fun q => c q.1)]; rfl
def NB (tx : List Int32) (p m c : Nat) : Prop := c = 0 ∨ (c = m ∧ dgt tx (p + c))
theorem M_num (hT : MT h tx) (hl : tx.length ≤ 120) (hp : h.1 54 5 = nI p) (hpl : p ≤ tx.length) (hm : 1 ≤ m ∧ m ≤ 3) : ∃ c x h', ND tx p m c ∧ p + c ≤ tx.length ∧ sX6_number h (nI m) = some (x, h') ∧ Fr [(54, some 5)] [] h h' ∧ h'.1 54 5 = nI (p + c) ∧ (NB tx p m c → x = -1) ∧ (¬ NB tx p m c → x = va tx p c) := by
  unfold sX6_number
  rw [bd_t (M_dig hT hl hp hpl)]
  dsimp only
  by_cases d0 : dgt tx p
  · rw [if_neg (by rw [bI_z]; exact fun q => q d0)]
    have L : ∀ (d i n : Nat) (h' : Hp), i + d = m → d < n → Fr [(54, some 5)] [] h h' → h'.1 54 5 = nI (p + i) → (∀ j, j < i → dgt tx (p + j)) → p + i ≤ tx.length → (i = 0 → dgt tx p) → ∃ c x h'', ND tx p m c ∧ p + c ≤ tx.length ∧ sX6_number_b13 n h' (nI m) (va tx p i) (nI i) = some (x, h'') ∧ Fr [(54, some 5)] [] h h'' ∧ h''.1 54 5 = nI (p + c) ∧ (NB tx p m c → x = -1) ∧ (¬ NB tx p m c → x = va tx p c) := by
      intro d
      induction d with
      | zero =>
        intro i n h' hi' hn' F h5 hd hpl' _
        obtain ⟨n', rfl⟩ : ∃ q, n = q + 1 := ⟨n - 1, by omega⟩
        have im : i = m := by omega
        have hT' : MT h' tx := ⟨(F.f (by decide)).trans hT.1, fun k hk => (F.c (by decide) k).trans (hT.2 k hk)⟩
        have e0 : sX6_number_b13 (n' + 1) h' (nI m) (va tx p i) (nI i) = if dgt tx (p + i) then some (-1, h') else some (va tx p i, h') := by
          show sX6_number_c13 (sX6_number_b13 n') h' (nI m) (va tx p i) (nI i) = _
          unfold sX6_number_c13
          rw [bd_t (M_dig hT' hl h5 hpl')]
          dsimp only
          by_cases q : dgt tx (p + i)
          · rw [if_neg (by rw [bI_z]; exact fun z => z q), if_pos (by rw [im]), if_pos q]
          · rw [if_pos (bI_z.mpr q), if_neg q]
        rw [e0]
        by_cases q : dgt tx (p + i)
        · rw [if_pos q]
          exact ⟨i, -1, h', ⟨by omega, hd, Or.inl im⟩, hpl', rfl, F, h5, fun _ => rfl, fun z => absurd (Or.inr ⟨im, q⟩) z⟩
        · rw [if_neg q]
          exact ⟨i, _, h', ⟨by omega, hd, Or.inl im⟩, hpl', rfl, F, h5, fun z => by rcases z with z | z; · omega
                                                                                    · exact absurd z.2 q, fun _ => rfl⟩
      | succ d ih =>
        intro i n h' hi' hn' F h5 hd hpl' h00
        obtain ⟨n', rfl⟩ : ∃ q, n = q + 1 := ⟨n - 1, by omega⟩
        have hT' : MT h' tx := ⟨(F.f (by decide)).trans hT.1, fun k hk => (F.c (by decide) k).trans (hT.2 k hk)⟩
        by_cases q : dgt tx (p + i)
        · have F' : Fr [(54, some 5)] [] h (u1 h' 54 5 (nI (p + i + 1))) := Fr.w1 F rfl (by simp)
          obtain ⟨c, x, h'', r1, r2, r3⟩ := ih (i + 1) n' (u1 h' 54 5 (nI (p + i + 1))) (by omega) (by omega) F' rd1s (fun j hj => by
            by_cases e : j = i
            · rw [e]; exact q
            · exact hd j (by omega)) (by have := q.1; omega) (fun z => by omega)
          refine ⟨c, x, h'', r1, r2, ?_⟩
          have e0 : sX6_number_b13 (n' + 1) h' (nI m) (va tx p i) (nI i) = sX6_number_b13 n' (u1 h' 54 5 (nI (p + i + 1))) (nI m) (va tx p (i + 1)) (nI (i + 1)) := by
            show sX6_number_c13 (sX6_number_b13 n') h' (nI m) (va tx p i) (nI i) = _
            unfold sX6_number_c13
            rw [bd_t (M_dig hT' hl h5 hpl')]
            dsimp only
            rw [if_neg (by rw [bI_z]; exact fun z => z q), if_neg (by rw [eq_n (by omega) (by omega)]; omega), h5, gd_in (show p + i < 120 by have := q.1; omega) (show 120 ≤ 1000 by decide), cl_n (show p + i ≤ 100000 by omega), hT'.2 _ q.1, nm_t rfl, nI_1, nI_1, nm_t rfl, nm_t rfl]
            rfl
          rw [e0]
          exact r3
        · have e0 : sX6_number_b13 (n' + 1) h' (nI m) (va tx p i) (nI i) = some (va tx p i, h') := by
            show sX6_number_c13 (sX6_number_b13 n') h' (nI m) (va tx p i) (nI i) = _
            unfold sX6_number_c13
            rw [bd_t (M_dig hT' hl h5 hpl')]
            dsimp only
            rw [if_pos (bI_z.mpr q)]
          rw [e0]
          refine ⟨i, _, h', ⟨by omega, hd, Or.inr q⟩, hpl', rfl, F, h5, fun z => ?_, fun _ => rfl⟩
          rcases z with z | z
          · exact absurd (h00 z) (by rw [z] at q; exact q)
          · omega
    exact L m 0 FU h (by omega) (by show m < 1000; omega) Fr.rf hp (fun j hj => absurd hj (Nat.not_lt_zero j)) hpl (fun _ => d0)
  · rw [if_pos (bI_z.mpr d0)]
    exact ⟨0, -1, h, ⟨by omega, fun j hj => absurd hj (Nat.not_lt_zero j), Or.inr d0⟩, hpl, rfl, Fr.rf, hp, fun _ => rfl, fun q => absurd (Or.inl rfl) q⟩
theorem X_num (hT : TX h tx) (hl : tx.length ≤ 120) (hp : h.1 2 2 = nI p) (hpl : p ≤ tx.length) (hm : 1 ≤ m ∧ m ≤ 3) (lw up : Int32) : ∃ c x h', ND tx p m c ∧ p + c ≤ tx.length ∧ sX3_readNumber h (nI m) lw up = some (x, h') ∧ Fr [(2, some 2), (2, some 3), (2, some 4)] [] h h' ∧ (NB tx p m c → x = 0 ∧ h'.1 2 4 = nI (p + c)) ∧ (¬ NB tx p m c → ¬ (lw ≤ va tx p c ∧ va tx p c ≤ up) → x = 0 ∧ h'.1 2 4 = nI (p + c - 1)) ∧ (¬ NB tx p m c → lw ≤ va tx p c ∧ va tx p c ≤ up → x = 1 ∧ h'.1 2 2 = nI (p + c) ∧ h'.1 2 3 = va tx p c) := by
  unfold sX3_readNumber
  rw [hp, nm_t rfl, nm_t rfl]
  have F0 : Fr [(2, some 2), (2, some 3), (2, some 4)] [] h (u1 h 2 3 0) := Fr.w1 Fr.rf rfl (by simp)
  have fin : ∀ (i : Nat) (h' : Hp), ND tx p m i → Fr [(2, some 2), (2, some 3), (2, some 4)] [] h h' → h'.1 2 2 = nI (p + i) → h'.1 2 3 = va tx p i → p + i ≤ tx.length → ∃ c x h'', ND tx p m c ∧ p + c ≤ tx.length ∧ sX3_readNumber_c66 h' (nI m) lw up (nI p) = some (x, h'') ∧ Fr [(2, some 2), (2, some 3), (2, some 4)] [] h h'' ∧ (NB tx p m c → x = 0 ∧ h''.1 2 4 = nI (p + c)) ∧ (¬ NB tx p m c → ¬ (lw ≤ va tx p c ∧ va tx p c ≤ up) → x = 0 ∧ h''.1 2 4 = nI (p + c - 1)) ∧ (¬ NB tx p m c → lw ≤ va tx p c ∧ va tx p c ≤ up → x = 1 ∧ h''.1 2 2 = nI (p + c) ∧ h''.1 2 3 = va tx p c) := by
    intro i h' nd F h2 h3 hpl'
    have hT' : TX h' tx := ⟨(F.f (by decide)).trans hT.1, fun k hk => (F.c (by decide) k).trans (hT.2 k hk)⟩
    have F' : ∀ v, Fr [(2, some 2), (2, some 3), (2, some 4)] [] h (u1 h' 2 4 v) := fun v => Fr.w1 F rfl (by simp)
    have sb : nI (p + i) - nI p = nI i := by
      rw [eq_tI, tI_sub (by rw [tI_n (by omega), tI_n (by omega)]; omega) (by rw [tI_n (by omega), tI_n (by omega)]; omega), tI_n (by omega), tI_n (by omega), tI_n (by have := nd.1; omega)]
      omega
    have c93 : sX3_readNumber_c93 h' = some (0, u1 h' 2 4 (nI (p + i))) := by
      unfold sX3_readNumber_c93 sX3_failAt
      rw [h2]
      rfl
    have c102 : ¬ i = 0 → sX3_readNumber_c102 h' lw up = if lw ≤ va tx p i ∧ va tx p i ≤ up then some (1, h') else some (0, u1 h' 2 4 (nI (p + i - 1))) := by
      intro i0
      have c118 : sX3_readNumber_c118 h' = some (0, u1 h' 2 4 (nI (p + i - 1))) := by
        unfold sX3_readNumber_c118 sX3_failAt
        rw [h2, nI_m1 (by omega)]
        rfl
      have c131 : sX3_readNumber_c131 h' = some (1, h') := rfl
      unfold sX3_readNumber_c102
      rw [h3, c118, c131]
      by_cases z1 : va tx p i < lw
      · rw [if_pos z1, if_neg (fun q => by have := q.1; grind)]
      · rw [if_neg z1]
        by_cases z2 : va tx p i ≤ up
        · rw [if_pos z2, if_pos ⟨by grind, z2⟩]
        · rw [if_neg z2, if_neg (fun q => z2 q.2)]
    have e66 : sX3_readNumber_c66 h' (nI m) lw up (nI p) = if i = 0 then some (0, u1 h' 2 4 (nI (p + i))) else if i = m ∧ dgt tx (p + i) then some (0, u1 h' 2 4 (nI (p + i))) else if lw ≤ va tx p i ∧ va tx p i ≤ up then some (1, h') else some (0, u1 h' 2 4 (nI (p + i - 1))) := by
      unfold sX3_readNumber_c66
      rw [h2, sb, c93]
      by_cases i0 : i = 0
      · rw [if_pos (by rw [i0]; rfl), if_pos i0]
      · rw [if_neg (by rw [eq_n (by omega) (by omega)]; omega), if_neg i0]
        by_cases im : i = m
        · rw [if_pos (by rw [im]), bd_t (X_dig hT' hl h2 hpl')]
          dsimp only
          by_cases q : dgt tx (p + i)
          · rw [if_neg (by rw [bI_z]; exact fun z => z q), if_pos ⟨im, q⟩, c93]
          · rw [if_pos (bI_z.mpr q), if_neg (fun z => q z.2)]
            exact c102 i0
        · rw [if_neg (by rw [eq_n (by have := nd.1; omega) (by omega)]; exact im), if_neg (fun z => im z.1)]
          exact c102 i0
    rw [e66]
    by_cases i0 : i = 0
    · rw [if_pos i0]
      exact ⟨i, 0, _, nd, hpl', rfl, F' _, fun _ => ⟨rfl, rd1s⟩, fun z => absurd (Or.inl i0) z, fun z => absurd (Or.inl i0) z⟩
    · rw [if_neg i0]
      by_cases q : i = m ∧ dgt tx (p + i)
      · rw [if_pos q]
        exact ⟨i, 0, _, nd, hpl', rfl, F' _, fun _ => ⟨rfl, rd1s⟩, fun z => absurd (Or.inr q) z, fun z => absurd (Or.inr q) z⟩
      · rw [if_neg q]
        have nb : ¬ NB tx p m i := fun z => z.elim i0 q
        by_cases w : lw ≤ va tx p i ∧ va tx p i ≤ up
        · rw [if_pos w]
          exact ⟨i, 1, h', nd, hpl', rfl, F, fun z => absurd z nb, fun _ z => absurd w z, fun _ _ => ⟨rfl, h2, h3⟩⟩
        · rw [if_neg w]
          exact ⟨i, 0, _, nd, hpl', rfl, F' _, fun z => absurd z nb, fun _ _ => ⟨rfl, rd1s⟩, fun _ z => absurd z w⟩
  have L : ∀ (d i n : Nat) (h' : Hp), i + d = m → d < n → Fr [(2, some 2), (2, some 3), (2, some 4)] [] h h' → h'.1 2 2 = nI (p + i) → h'.1 2 3 = va tx p i → (∀ j, j < i → dgt tx (p + j)) → p + i ≤ tx.length → ∃ i' h'', ND tx p m i' ∧ Fr [(2, some 2), (2, some 3), (2, some 4)] [] h h'' ∧ h''.1 2 2 = nI (p + i') ∧ h''.1 2 3 = va tx p i' ∧ p + i' ≤ tx.length ∧ sX3_readNumber_b11 n h' (nI m) lw up (nI p) = sX3_readNumber_c66 h'' (nI m) lw up (nI p) := by
    intro d
    induction d with
    | zero =>
      intro i n h' hi' hn' F h2 h3 hd hpl'
      obtain ⟨n', rfl⟩ : ∃ q, n = q + 1 := ⟨n - 1, by omega⟩
      have sb : nI (p + i) - nI p = nI i := by
        rw [eq_tI, tI_sub (by rw [tI_n (by omega), tI_n (by omega)]; omega) (by rw [tI_n (by omega), tI_n (by omega)]; omega), tI_n (by omega), tI_n (by omega), tI_n (by omega)]
        omega
      refine ⟨i, h', ⟨by omega, hd, Or.inl (by omega)⟩, F, h2, h3, hpl', ?_⟩
      show sX3_readNumber_c11 (sX3_readNumber_b11 n') h' (nI m) lw up (nI p) = _
      unfold sX3_readNumber_c11
      rw [h2, sb, if_pos (by rw [le_n (by omega) (by omega)]; omega)]
    | succ d ih =>
      intro i n h' hi' hn' F h2 h3 hd hpl'
      obtain ⟨n', rfl⟩ : ∃ q, n = q + 1 := ⟨n - 1, by omega⟩
      have hT' : TX h' tx := ⟨(F.f (by decide)).trans hT.1, fun k hk => (F.c (by decide) k).trans (hT.2 k hk)⟩
      have sb : nI (p + i) - nI p = nI i := by
        rw [eq_tI, tI_sub (by rw [tI_n (by omega), tI_n (by omega)]; omega) (by rw [tI_n (by omega), tI_n (by omega)]; omega), tI_n (by omega), tI_n (by omega), tI_n (by omega)]
        omega
      by_cases q : dgt tx (p + i)
      · have r1 : (u1 h' 2 3 (va tx p (i + 1))).1 2 2 = nI (p + i) := (rd1k (by decide)).trans h2
        have F' : Fr [(2, some 2), (2, some 3), (2, some 4)] [] h (u1 (u1 h' 2 3 (va tx p (i + 1))) 2 2 (nI (p + i + 1))) := Fr.w1 (Fr.w1 F rfl (by simp)) rfl (by simp)
        obtain ⟨c, h'', g1, g2', g3, g4, g5, g6⟩ := ih (i + 1) n' (u1 (u1 h' 2 3 (va tx p (i + 1))) 2 2 (nI (p + i + 1))) (by omega) (by omega) F' rd1s ((rd1k (by decide)).trans rd1s) (fun j hj => by
          by_cases e : j = i
          · rw [e]; exact q
          · exact hd j (by omega)) (by have := q.1; omega)
        refine ⟨c, h'', g1, g2', g3, g4, g5, ?_⟩
        rw [← g6]
        show sX3_readNumber_c11 (sX3_readNumber_b11 n') h' (nI m) lw up (nI p) = _
        unfold sX3_readNumber_c11
        rw [h2, sb, if_neg (by rw [le_n (by omega) (by omega)]; omega), bd_t (X_dig hT' hl h2 hpl')]
        dsimp only
        rw [if_neg (by rw [bI_z]; exact fun z => z q), h2, gd_in (show p + i < 120 by have := q.1; omega) (show 120 ≤ 1000 by decide), cl_n (show p + i ≤ 100000 by omega), hT'.2 _ q.1, h3]
        rw [nm_t (show u1 h' 2 3 (10 * va tx p i + tx.getD (p + i) 0 - 48) = u1 h' 2 3 (va tx p (i + 1)) from rfl), r1, nI_1, nm_t rfl]
      · refine ⟨i, h', ⟨by omega, hd, Or.inr q⟩, F, h2, h3, hpl', ?_⟩
        show sX3_readNumber_c11 (sX3_readNumber_b11 n') h' (nI m) lw up (nI p) = _
        unfold sX3_readNumber_c11
        rw [h2, sb, if_neg (by rw [le_n (by omega) (by omega)]; omega), bd_t (X_dig hT' hl h2 hpl')]
        dsimp only
        rw [if_pos (bI_z.mpr q)]
  obtain ⟨i, h', nd, F, h2, h3, h4, e⟩ := L m 0 FU (u1 h 2 3 0) (by omega) (by show m < 1000; omega) F0 ((rd1k (by decide)).trans hp) rd1s (fun j hj => absurd hj (Nat.not_lt_zero j)) hpl
  rw [e]
  exact fin i h' nd F h2 h3 h4
end Nm
