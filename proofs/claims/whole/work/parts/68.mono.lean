/-! fuel grows with the gap -/
section Mo
variable {S : SS}
theorem bl_in {F T : Nat → Int32} {g : Int32} : ∀ {n i : Nat}, i < n → F i - sh F T g i ∈ BLs F T g n ∧ T i - sh F T g i ∈ BLs F T g n
  | 0, i, h => absurd h (Nat.not_lt_zero i)
  | n + 1, i, h => by
    show F i - sh F T g i ∈ insL (T n - sh F T g n) (insL (F n - sh F T g n) (BLs F T g n)) ∧ T i - sh F T g i ∈ insL (T n - sh F T g n) (insL (F n - sh F T g n) (BLs F T g n))
    rw [insL_mem, insL_mem, insL_mem, insL_mem]
    by_cases e : i = n
    · subst e; exact ⟨Or.inr (Or.inl rfl), Or.inl rfl⟩
    · have := bl_in (F := F) (T := T) (g := g) (n := n) (i := i) (by omega)
      exact ⟨Or.inr (Or.inr this.1), Or.inr (Or.inr this.2)⟩
theorem bl_srt {F T : Nat → Int32} {g : Int32} : ∀ {n : Nat}, (BLs F T g n).Pairwise (fun a b => b < a)
  | 0 => List.Pairwise.nil
  | n + 1 => insL_srt _ _ (insL_srt _ _ bl_srt)
def bk (S : SS) (k : Nat) : Int := ((BLs S.2.1 S.2.2.1 S.2.2.2.2 S.1).getD k 0).toInt
def bn (S : SS) : Nat := (BLs S.2.1 S.2.2.1 S.2.2.2.2 S.1).length
def gI (S : SS) : Int := (S.2.2.2.2).toInt
theorem bk_lt {j k : Nat} (h1 : j < k) (h2 : k < bn S) : bk S k < bk S j := by
  unfold bk bn at *
  have := List.pairwise_iff_getElem.mp (bl_srt (F := S.2.1) (T := S.2.2.1) (g := S.2.2.2.2) (n := S.1)) j k (by omega) h2 h1
  rw [List.getD_eq_getElem?_getD, List.getD_eq_getElem?_getD, List.getElem?_eq_getElem h2, List.getElem?_eq_getElem (by omega)]
  exact lt_tI.mp this
theorem bk_bd (ok : OK S) {k : Nat} (hk : k < bn S) : -60 ≤ bk S k ∧ bk S k ≤ 500 := by
  have := BLs_at ok hk
  rw [le_tI, le_tI] at this
  exact this
/-- an end, shifted, is a border -/
theorem bk_in (ok : OK S) {i : Nat} (hi' : i < S.1) : (∃ k, k < bn S ∧ bk S k = (lo S.2.1 S.2.2.1 i).toInt - (if hb S.2.1 S.2.2.1 i = 1 then gI S else 0)) ∧ ∃ k, k < bn S ∧ bk S k = (hi S.2.1 S.2.2.1 i).toInt - (if hb S.2.1 S.2.2.1 i = 1 then gI S else 0) := by
  have m := bl_in (F := S.2.1) (T := S.2.2.1) (g := S.2.2.2.2) hi'
  have b := lhI ok hi'
  have g := ok.g
  have m' := (lh_FT (F := S.2.1) (T := S.2.2.1) (j := i) (P := fun x => x - sh S.2.1 S.2.2.1 S.2.2.2.2 i ∈ (BLs S.2.1 S.2.2.1 S.2.2.2.2 S.1))).mp m
  have sI' : (sh S.2.1 S.2.2.1 S.2.2.2.2 i).toInt = if hb S.2.1 S.2.2.1 i = 1 then gI S else 0 := by
    unfold sh hb gI
    by_cases c : S.2.2.1 i < S.2.1 i
    · rw [if_pos c, if_pos c, if_pos rfl]
    · rw [if_neg c, if_neg c, if_neg (by decide), tI0]
  have key : ∀ x : Int32, 0 ≤ x.toInt → x.toInt ≤ 500 → x - sh S.2.1 S.2.2.1 S.2.2.2.2 i ∈ (BLs S.2.1 S.2.2.1 S.2.2.2.2 S.1) → ∃ k, k < bn S ∧ bk S k = x.toInt - (if hb S.2.1 S.2.2.1 i = 1 then gI S else 0) := by
    intro x x0 x5 hx
    obtain ⟨k, hk, e⟩ := List.mem_iff_getElem.mp hx
    refine ⟨k, hk, ?_⟩
    unfold bk
    rw [List.getD_eq_getElem?_getD, List.getElem?_eq_getElem hk]
    show (((BLs S.2.1 S.2.2.1 S.2.2.2.2 S.1))[k]).toInt = _
    have sb := sh_bd ok i
    rw [le_tI, le_tI, tI0] at sb
    have s60 : (60 : Int32).toInt = 60 := rfl
    rw [e, tI_sub (by omega) (by omega), sI']
  exact ⟨key _ b.1 (by omega) m'.1, key _ (by omega) b.2.2 m'.2⟩
theorem bk_no (ok : OK S) {k : Nat} (hk : k + 1 < bn S) : noE S 0 (bk S (k + 1)) (bk S k) ∧ noE S 1 (bk S (k + 1) + gI S) (bk S k + gI S) := by
  have sep : ∀ j, j < bn S → bk S j ≤ bk S (k + 1) ∨ bk S k ≤ bk S j := by
    intro j hj
    by_cases c : j ≤ k
    · right
      by_cases e : j = k
      · rw [e]; omega
      · have := bk_lt (S := S) (show j < k by omega) (by omega); omega
    · left
      by_cases e : j = k + 1
      · rw [e]; omega
      · have := bk_lt (S := S) (show k + 1 < j by omega) hj; omega
  constructor
  · intro i hi' hk0
    obtain ⟨⟨j1, a1, a2⟩, j2, b1, b2⟩ := bk_in ok hi'
    rw [if_neg (by rw [hk0]; decide)] at a2 b2
    have s1 := sep j1 a1
    have s2 := sep j2 b1
    omega
  · intro i hi' hk1
    obtain ⟨⟨j1, a1, a2⟩, j2, b1, b2⟩ := bk_in ok hi'
    rw [if_pos hk1] at a2 b2
    have s1 := sep j1 a1
    have s2 := sep j2 b1
    omega
/-- heat wanted above a border -/
def DZ (S : SS) (g t : Int) : Int := hZ S 0 t - hZ S 1 (t + g)
theorem bk_top (ok : OK S) {t : Int} (h : ∀ j, j < bn S → bk S j ≤ t) : DZ S (gI S) t = 0 := by
  unfold DZ
  rw [h_top ok (fun i hi' hk => ?_), h_top ok (fun i hi' hk => ?_)]
  · rfl
  · obtain ⟨-, j2, b1, b2⟩ := bk_in ok hi'
    rw [if_pos hk] at b2
    have := h j2 b1
    omega
  · obtain ⟨-, j2, b1, b2⟩ := bk_in ok hi'
    rw [if_neg (by rw [hk]; decide)] at b2
    have := h j2 b1
    omega
theorem cZ_none {k : Int32} {a b : Int} (h : ∀ i, i < S.1 → hb S.2.1 S.2.2.1 i = k → a < (lo S.2.1 S.2.2.1 i).toInt) : cZ S k a b = 0 := by
  have : cZ S k a b = sZ S.1 (fun _ => 0) := sZ_cg (fun i hi' => if_neg (fun q => by have := h i hi' q.1; omega))
  rw [this]
  clear this h
  generalize S.1 = n
  induction n with
  | zero => rfl
  | succ n ih => show sZ n (fun _ => 0) + 0 = 0; omega
theorem D_low (ok : OK S) {t b : Int} (h : ∀ j, j < bn S → b ≤ bk S j) (ht : t < b) : DZ S (gI S) t = DZ S (gI S) b := by
  have e0 : ∀ i, i < S.1 → hb S.2.1 S.2.2.1 i = 0 → b ≤ (lo S.2.1 S.2.2.1 i).toInt ∧ b ≤ (hi S.2.1 S.2.2.1 i).toInt := by
    intro i hi' hk
    obtain ⟨⟨j1, a1, a2⟩, j2, b1, b2⟩ := bk_in ok hi'
    rw [if_neg (by rw [hk]; decide)] at a2 b2
    have s1 := h j1 a1
    have s2 := h j2 b1
    omega
  have e1 : ∀ i, i < S.1 → hb S.2.1 S.2.2.1 i = 1 → b + gI S ≤ (lo S.2.1 S.2.2.1 i).toInt ∧ b + gI S ≤ (hi S.2.1 S.2.2.1 i).toInt := by
    intro i hi' hk
    obtain ⟨⟨j1, a1, a2⟩, j2, b1, b2⟩ := bk_in ok hi'
    rw [if_pos hk] at a2 b2
    have s1 := h j1 a1
    have s2 := h j2 b1
    omega
  have l0 := h_lin (k := 0) (a := t) (b := b) (t := t) ok (fun i hi' hk => by have := e0 i hi' hk; omega) ht (by omega) (by omega)
  have l1 := h_lin (k := 1) (a := t + gI S) (b := b + gI S) (t := t + gI S) ok (fun i hi' hk => by have := e1 i hi' hk; omega) (by omega) (by omega) (by omega)
  rw [cZ_none (fun i hi' hk => by have := e0 i hi' hk; omega)] at l0
  rw [cZ_none (fun i hi' hk => by have := e1 i hi' hk; omega)] at l1
  unfold DZ
  omega
theorem D_lin (ok : OK S) {k : Nat} (hk : k + 1 < bn S) {t : Int} (h1 : bk S (k + 1) ≤ t) (h2 : t ≤ bk S k) : DZ S (gI S) t = DZ S (gI S) (bk S k) + (cZ S 0 (bk S (k + 1)) (bk S k) - cZ S 1 (bk S (k + 1) + gI S) (bk S k + gI S)) * (bk S k - t) := by
  obtain ⟨n0, n1⟩ := bk_no ok hk
  have lt := bk_lt (S := S) (show k < k + 1 by omega) hk
  have l0 := h_lin (k := 0) (t := t) ok n0 lt h1 h2
  have l1 := h_lin (k := 1) (t := t + gI S) ok n1 (by omega) (by omega) (by omega)
  unfold DZ
  rw [l0, l1]
  grind
theorem sur_I (ok : OK S) {k : Nat} (hk : k + 1 < bn S) : (sur S.1 S.2.1 S.2.2.1 S.2.2.2.1 S.2.2.2.2 k).toInt = -((cZ S 0 (bk S (k + 1)) (bk S k) - cZ S 1 (bk S (k + 1) + gI S) (bk S k + gI S)) * (bk S k - bk S (k + 1))) := by
  have g := ok.g
  have b1 := bk_bd ok (show k < bn S by omega)
  have b2 := bk_bd ok hk
  have p1 := BLs_at ok (show k < (BLs S.2.1 S.2.2.1 S.2.2.2.2 S.1).length from (show k < bn S by omega))
  have p2 := BLs_at ok (show k + 1 < (BLs S.2.1 S.2.2.1 S.2.2.2.2 S.1).length from hk)
  have bb := sur_bd ok k
  have e : sur S.1 S.2.1 S.2.2.1 S.2.2.2.1 S.2.2.2.2 k = ((BLs S.2.1 S.2.2.1 S.2.2.2.2 S.1).getD k 0 - (BLs S.2.1 S.2.2.1 S.2.2.2.2 S.1).getD (k + 1) 0) * (thr S.1 S.2.1 S.2.2.1 S.2.2.2.1 S.2.2.2.2 1 ((BLs S.2.1 S.2.2.1 S.2.2.2.2 S.1).getD k 0) ((BLs S.2.1 S.2.2.1 S.2.2.2.2 S.1).getD (k + 1) 0) - thr S.1 S.2.1 S.2.2.1 S.2.2.2.1 S.2.2.2.2 0 ((BLs S.2.1 S.2.2.1 S.2.2.2.2 S.1).getD k 0) ((BLs S.2.1 S.2.2.1 S.2.2.2.2 S.1).getD (k + 1) 0)) := if_pos hk
  rw [e]
  rw [← cpT_1 ok p1 p2, ← cpT_0 ok]
  unfold bk gI at *
  generalize (BLs S.2.1 S.2.2.1 S.2.2.2.2 S.1).getD k 0 = x at *
  generalize (BLs S.2.1 S.2.2.1 S.2.2.2.2 S.1).getD (k + 1) 0 = y at *
  have xg : (x + S.2.2.2.2).toInt = x.toInt + (S.2.2.2.2).toInt := tI_add (by omega) (by omega)
  have yg : (y + S.2.2.2.2).toInt = y.toInt + (S.2.2.2.2).toInt := tI_add (by omega) (by omega)
  have c1 := cp_I (k := 1) ok (y + S.2.2.2.2) (x + S.2.2.2.2)
  have c0 := cp_I (k := 0) ok y x
  rw [xg, yg] at c1
  have d1 : (x - y).toInt = x.toInt - y.toInt := tI_sub (by omega) (by omega)
  have d2 : (cpT S.1 S.2.1 S.2.2.1 S.2.2.2.1 1 (y + S.2.2.2.2) (x + S.2.2.2.2) - cpT S.1 S.2.1 S.2.2.1 S.2.2.2.1 0 y x).toInt = cZ S 1 (y.toInt + (S.2.2.2.2).toInt) (x.toInt + (S.2.2.2.2).toInt) - cZ S 0 y.toInt x.toInt := by rw [tI_sub (by omega) (by omega), c1.1, c0.1]
  have pb := mul_bd (x := x.toInt - y.toInt) (y := cZ S 1 (y.toInt + (S.2.2.2.2).toInt) (x.toInt + (S.2.2.2.2).toInt) - cZ S 0 y.toInt x.toInt) (a := 600) (b := 200) (by omega) (by omega)
  rw [tI_mul (by rw [d1, d2]; omega) (by rw [d1, d2]; omega), d1, d2]
  grind
theorem car_I (ok : OK S) : ∀ {k : Nat}, k < bn S → (car S.1 S.2.1 S.2.2.1 S.2.2.2.1 S.2.2.2.2 k).toInt = -(DZ S (gI S) (bk S k))
  | 0, h => by
    rw [bk_top ok (fun j hj => ?_)]
    · rfl
    · by_cases e : j = 0
      · rw [e]; omega
      · have := bk_lt (S := S) (show 0 < j by omega) hj; omega
  | k + 1, h => by
    have ih := car_I ok (k := k) (by omega)
    have l20 : bn S ≤ 20 := by have := BLs_len S.2.1 S.2.2.1 S.2.2.2.2 S.1; have := ok.1; show (BLs S.2.1 S.2.2.1 S.2.2.2.2 S.1).length ≤ 20; omega
    have s := sur_I ok h
    have cb := car_bd ok (k := k) (by omega)
    have sb := sur_bd ok k
    have lt := bk_lt (S := S) (show k < k + 1 by omega) h
    have l := D_lin ok h (t := bk S (k + 1)) (by omega) (by omega)
    show (car S.1 S.2.1 S.2.2.1 S.2.2.2.1 S.2.2.2.2 k + sur S.1 S.2.1 S.2.2.1 S.2.2.2.1 S.2.2.2.2 k).toInt = _
    rw [tI_add (by omega) (by omega), ih, s, l]
    omega
theorem fuA_I (ok : OK S) : ∀ {k : Nat}, k ≤ bn S → 0 ≤ (fuA S.1 S.2.1 S.2.2.1 S.2.2.2.1 S.2.2.2.2 k).toInt ∧ (∀ j, j < k → DZ S (gI S) (bk S j) ≤ (fuA S.1 S.2.1 S.2.2.1 S.2.2.2.1 S.2.2.2.2 k).toInt) ∧ ((fuA S.1 S.2.1 S.2.2.1 S.2.2.2.1 S.2.2.2.2 k).toInt = 0 ∨ ∃ j, j < k ∧ (fuA S.1 S.2.1 S.2.2.1 S.2.2.2.1 S.2.2.2.2 k).toInt = DZ S (gI S) (bk S j))
  | 0, _ => ⟨Int.le_refl 0, fun j hj => absurd hj (Nat.not_lt_zero j), Or.inl rfl⟩
  | k + 1, h => by
    obtain ⟨a0, a1, a2⟩ := fuA_I ok (k := k) (by omega)
    have c := car_I ok (show k < bn S by omega)
    have l20 : bn S ≤ 20 := by have := BLs_len S.2.1 S.2.2.1 S.2.2.2.2 S.1; have := ok.1; show (BLs S.2.1 S.2.2.1 S.2.2.2.2 S.1).length ≤ 20; omega
    have cb := car_bd ok (k := k) (by omega)
    have e : (fuA S.1 S.2.1 S.2.2.1 S.2.2.2.1 S.2.2.2.2 (k + 1)).toInt = xm (fuA S.1 S.2.1 S.2.2.1 S.2.2.2.1 S.2.2.2.2 k).toInt (DZ S (gI S) (bk S k)) := by
      show (imax (fuA S.1 S.2.1 S.2.2.1 S.2.2.2.1 S.2.2.2.2 k) (-(car S.1 S.2.1 S.2.2.1 S.2.2.2.1 S.2.2.2.2 k))).toInt = _
      rw [imx_I, Int32.toInt_neg, bmod_id (by omega) (by omega), c, Int.neg_neg]
    rw [e]
    generalize (fuA S.1 S.2.1 S.2.2.1 S.2.2.2.1 S.2.2.2.2 k).toInt = v at *
    unfold xm
    by_cases z : v ≤ DZ S (gI S) (bk S k)
    · rw [if_pos z]
      refine ⟨by omega, fun j hj => ?_, Or.inr ⟨k, by omega, rfl⟩⟩
      by_cases e : j = k
      · rw [e]; omega
      · have := a1 j (by omega); omega
    · rw [if_neg z]
      refine ⟨a0, fun j hj => ?_, ?_⟩
      · by_cases e : j = k
        · rw [e]; omega
        · exact a1 j (by omega)
      · rcases a2 with q | ⟨j, j1, j2⟩
        · exact Or.inl q
        · exact Or.inr ⟨j, by omega, j2⟩
theorem D_sup (ok : OK S) (t : Int) : DZ S (gI S) t ≤ (fue S.1 S.2.1 S.2.2.1 S.2.2.2.1 S.2.2.2.2).toInt := by
  obtain ⟨a0, a1, a2⟩ := fuA_I ok (Nat.le_refl (bn S))
  show _ ≤ (fuA S.1 S.2.1 S.2.2.1 S.2.2.2.1 S.2.2.2.2 (bn S)).toInt
  generalize (fuA S.1 S.2.1 S.2.2.1 S.2.2.2.1 S.2.2.2.2 (bn S)).toInt = v at *
  have rcc : ∀ (d k : Nat), k + d + 1 = bn S → t < bk S k → DZ S (gI S) t ≤ v := by
    intro d
    induction d with
    | zero =>
      intro k hk hlt
      rw [D_low ok (b := bk S k) (fun j hj => ?_) hlt]
      · exact a1 k (by omega)
      · by_cases e : j = k
        · rw [e]; omega
        · have := bk_lt (S := S) (show j < k by omega) (by omega); omega
    | succ d ih =>
      intro k hk hlt
      by_cases c : t < bk S (k + 1)
      · exact ih (k + 1) (by omega) c
      · have hk' : k + 1 < bn S := by omega
        have l := D_lin ok hk' (t := t) (by omega) (by omega)
        have l2 := D_lin ok hk' (t := bk S (k + 1)) (by omega) (by have := bk_lt (S := S) (show k < k + 1 by omega) hk'; omega)
        have x1 := a1 k (by omega)
        have x2 := a1 (k + 1) hk'
        generalize cZ S 0 (bk S (k + 1)) (bk S k) - cZ S 1 (bk S (k + 1) + gI S) (bk S k + gI S) = c at *
        by_cases z : c ≤ 0
        · have := Int.mul_nonneg (show 0 ≤ -c by omega) (show 0 ≤ bk S k - t by omega)
          rw [Int.neg_mul] at this
          omega
        · have := Int.mul_le_mul_of_nonneg_left (show bk S k - t ≤ bk S k - bk S (k + 1) by omega) (show 0 ≤ c by omega)
          omega
  by_cases c : bn S = 0
  · rw [bk_top ok (fun j hj => by omega)]; exact a0
  · by_cases c2 : t < bk S 0
    · exact rcc (bn S - 1) 0 (by omega) c2
    · rw [bk_top ok (fun j hj => ?_)]
      · exact a0
      · by_cases e : j = 0
        · rw [e]; omega
        · have := bk_lt (S := S) (show 0 < j by omega) hj; omega
theorem fue_mono {a b : Int32} (oa : OK (gp S a)) (ob : OK (gp S b)) (h : a.toInt ≤ b.toInt) : (fue S.1 S.2.1 S.2.2.1 S.2.2.2.1 a).toInt ≤ (fue S.1 S.2.1 S.2.2.1 S.2.2.2.1 b).toInt ∧ 0 ≤ (fue S.1 S.2.1 S.2.2.1 S.2.2.2.1 a).toInt := by
  obtain ⟨a0, a1, a2⟩ := fuA_I oa (Nat.le_refl (bn (gp S a)))
  have sup : ∀ t, DZ S b.toInt t ≤ (fue S.1 S.2.1 S.2.2.1 S.2.2.2.1 b).toInt := fun t => D_sup ob t
  refine ⟨?_, a0⟩
  show (fuA S.1 S.2.1 S.2.2.1 S.2.2.2.1 a (bn (gp S a))).toInt ≤ _
  rcases a2 with q | ⟨j, j1, j2⟩
  · have z : (fuA S.1 S.2.1 S.2.2.1 S.2.2.2.1 a (bn (gp S a))).toInt = 0 := q
    obtain ⟨b0, -, -⟩ := fuA_I ob (Nat.le_refl (bn (gp S b)))
    have b0' : 0 ≤ (fue S.1 S.2.1 S.2.2.1 S.2.2.2.1 b).toInt := b0
    omega
  · have z : (fuA S.1 S.2.1 S.2.2.1 S.2.2.2.1 a (bn (gp S a))).toInt = DZ S a.toInt (bk (gp S a) j) := j2
    have s := sup (bk (gp S a) j)
    have m := h_mono (S := gp S a) (k := 1) oa (show bk (gp S a) j + a.toInt ≤ bk (gp S a) j + b.toInt by omega)
    have m' : hZ S 1 (bk (gp S a) j + b.toInt) ≤ hZ S 1 (bk (gp S a) j + a.toInt) := m
    unfold DZ at s z
    omega
end Mo
