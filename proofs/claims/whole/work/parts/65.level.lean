/-! level: heat above a temperature, as numbers -/
theorem sZ_top {f : Nat → Int} {B : Int} : ∀ {n : Nat}, (∀ i, i < n → f i ≤ B) → sZ n f ≤ (n : Int) * B
  | 0, _ => by simp [sZ]
  | n + 1, h => by
    have ih := sZ_top (n := n) (fun i hi' => h i (by omega))
    have h1 := h n (by omega)
    show sZ n f + f n ≤ _
    have e : ((n + 1 : Nat) : Int) * B = (n : Int) * B + B := by rw [Int.natCast_add, Int.add_mul]; simp
    rw [e]
    omega
theorem sZ_mn {f g : Nat → Int} : ∀ {n : Nat}, (∀ i, i < n → f i ≤ g i) → sZ n f ≤ sZ n g
  | 0, _ => Int.le_refl _
  | n + 1, h => by
    have ih := sZ_mn (n := n) (fun i hi' => h i (by omega))
    have h1 := h n (by omega)
    show sZ n f + f n ≤ sZ n g + g n
    omega
theorem sZ_lin {f g c : Nat → Int} {x : Int} : ∀ {n : Nat}, (∀ i, i < n → f i = g i + c i * x) → sZ n f = sZ n g + sZ n c * x
  | 0, _ => by simp [sZ]
  | n + 1, h => by
    show sZ n f + f n = sZ n g + g n + (sZ n c + c n) * x
    rw [sZ_lin (n := n) (fun i hi' => h i (by omega)), h n (by omega), Int.add_mul]
    omega
def xm (a b : Int) : Int := if a ≤ b then b else a
def hZ (S : SS) (k : Int32) (t : Int) : Int := sZ S.1 (fun i => if hb S.2.1 S.2.2.1 i = k ∧ t < (hi S.2.1 S.2.2.1 i).toInt then (S.2.2.2.1 i).toInt * ((hi S.2.1 S.2.2.1 i).toInt - xm (lo S.2.1 S.2.2.1 i).toInt t) else 0)
def cZ (S : SS) (k : Int32) (a b : Int) : Int := sZ S.1 (fun i => if hb S.2.1 S.2.2.1 i = k ∧ (lo S.2.1 S.2.2.1 i).toInt ≤ a ∧ b ≤ (hi S.2.1 S.2.2.1 i).toInt then (S.2.2.2.1 i).toInt else 0)
section Lv
variable {h : Hp} {S : SS} {Ms : Nat → Mt} {tx : List Int32} {row : List Int64} {k : Int32}
theorem lhI (ok : OK S) {i : Nat} (hi' : i < S.1) : 0 ≤ (lo S.2.1 S.2.2.1 i).toInt ∧ (lo S.2.1 S.2.2.1 i).toInt < (hi S.2.1 S.2.2.1 i).toInt ∧ (hi S.2.1 S.2.2.1 i).toInt ≤ 500 := by
  obtain ⟨a, b, c⟩ := lohi ok hi'
  rw [le_tI, tI0] at a
  rw [lt_tI] at b
  rw [le_tI] at c
  exact ⟨a, b, c⟩
theorem imx_I {a b : Int32} : (imax a b).toInt = xm a.toInt b.toInt := by
  unfold imax xm
  by_cases c : a < b
  · rw [if_pos c]; rw [lt_tI] at c; rw [if_pos (by omega)]
  · rw [if_neg c]; rw [lt_tI] at c
    by_cases d : a.toInt ≤ b.toInt
    · rw [if_pos d]; omega
    · rw [if_neg d]
theorem ha_I (ok : OK S) {t : Int32} (ht0 : 0 ≤ t.toInt ∧ t.toInt ≤ 500) : (haT S.1 S.2.1 S.2.2.1 S.2.2.2.1 k t).toInt = hZ S k t.toInt ∧ 0 ≤ hZ S k t.toInt ∧ hZ S k t.toInt ≤ 100000 := by
  have hn := ok.1
  have tm : ∀ i, i < S.1 → (if hb S.2.1 S.2.2.1 i = k ∧ t < hi S.2.1 S.2.2.1 i then S.2.2.2.1 i * (hi S.2.1 S.2.2.1 i - imax (lo S.2.1 S.2.2.1 i) t) else 0 : Int32).toInt = (if hb S.2.1 S.2.2.1 i = k ∧ t.toInt < (hi S.2.1 S.2.2.1 i).toInt then (S.2.2.2.1 i).toInt * ((hi S.2.1 S.2.2.1 i).toInt - xm (lo S.2.1 S.2.2.1 i).toInt t.toInt) else 0) ∧ 0 ≤ (if hb S.2.1 S.2.2.1 i = k ∧ t.toInt < (hi S.2.1 S.2.2.1 i).toInt then (S.2.2.2.1 i).toInt * ((hi S.2.1 S.2.2.1 i).toInt - xm (lo S.2.1 S.2.2.1 i).toInt t.toInt) else 0) ∧ (if hb S.2.1 S.2.2.1 i = k ∧ t.toInt < (hi S.2.1 S.2.2.1 i).toInt then (S.2.2.2.1 i).toInt * ((hi S.2.1 S.2.2.1 i).toInt - xm (lo S.2.1 S.2.2.1 i).toInt t.toInt) else 0) ≤ 10000 := by
    intro i hi'
    have b := lhI ok hi'
    have c := C20 ok hi'
    by_cases q : hb S.2.1 S.2.2.1 i = k ∧ t < hi S.2.1 S.2.2.1 i
    · have q' : hb S.2.1 S.2.2.1 i = k ∧ t.toInt < (hi S.2.1 S.2.2.1 i).toInt := ⟨q.1, lt_tI.mp q.2⟩
      rw [if_pos q, if_pos q']
      have x1 : t.toInt ≤ xm (lo S.2.1 S.2.2.1 i).toInt t.toInt ∧ xm (lo S.2.1 S.2.2.1 i).toInt t.toInt < (hi S.2.1 S.2.2.1 i).toInt := by unfold xm; split <;> omega
      have x2 : (hi S.2.1 S.2.2.1 i - imax (lo S.2.1 S.2.2.1 i) t).toInt = (hi S.2.1 S.2.2.1 i).toInt - xm (lo S.2.1 S.2.2.1 i).toInt t.toInt := by rw [tI_sub (by rw [imx_I]; omega) (by rw [imx_I]; omega), imx_I]
      generalize xm (lo S.2.1 S.2.2.1 i).toInt t.toInt = m at *
      have p1 : (S.2.2.2.1 i).toInt * ((hi S.2.1 S.2.2.1 i).toInt - m) ≤ 20 * 500 := Int.mul_le_mul c.2 (by omega) (by omega) (by omega)
      have p0 : 0 ≤ (S.2.2.2.1 i).toInt * ((hi S.2.1 S.2.2.1 i).toInt - m) := Int.mul_nonneg (by omega) (by omega)
      rw [tI_mul (by rw [x2]; omega) (by rw [x2]; omega), x2]
      exact ⟨rfl, p0, by omega⟩
    · have q' : ¬ (hb S.2.1 S.2.2.1 i = k ∧ t.toInt < (hi S.2.1 S.2.2.1 i).toInt) := fun z => q ⟨z.1, lt_tI.mpr z.2⟩
      rw [if_neg q, if_neg q']
      exact ⟨rfl, Int.le_refl 0, by omega⟩
  have e : sZ S.1 (fun i => (if hb S.2.1 S.2.2.1 i = k ∧ t < hi S.2.1 S.2.2.1 i then S.2.2.2.1 i * (hi S.2.1 S.2.2.1 i - imax (lo S.2.1 S.2.2.1 i) t) else 0 : Int32).toInt) = hZ S k t.toInt := sZ_cg (fun i hi' => (tm i hi').1)
  have b1 : hZ S k t.toInt ≤ (S.1 : Int) * 10000 := sZ_top (fun i hi' => (tm i hi').2.2)
  have b0 : 0 ≤ hZ S k t.toInt := sZ_0 (fun i hi' => (tm i hi').2.1)
  refine ⟨?_, b0, by omega⟩
  unfold haT
  rw [sI_sZ (fun i hi' => by rw [(tm i hi').1]; exact (tm i hi').2.1) (by rw [e]; omega), e]
theorem cp_I (ok : OK S) (a b : Int32) : (cpT S.1 S.2.1 S.2.2.1 S.2.2.2.1 k a b).toInt = cZ S k a.toInt b.toInt ∧ 0 ≤ cZ S k a.toInt b.toInt ∧ cZ S k a.toInt b.toInt ≤ 200 := by
  have hn := ok.1
  have tm : ∀ i, i < S.1 → (if hb S.2.1 S.2.2.1 i = k ∧ lo S.2.1 S.2.2.1 i ≤ a ∧ b ≤ hi S.2.1 S.2.2.1 i then S.2.2.2.1 i else 0 : Int32).toInt = (if hb S.2.1 S.2.2.1 i = k ∧ (lo S.2.1 S.2.2.1 i).toInt ≤ a.toInt ∧ b.toInt ≤ (hi S.2.1 S.2.2.1 i).toInt then (S.2.2.2.1 i).toInt else 0) ∧ 0 ≤ (if hb S.2.1 S.2.2.1 i = k ∧ (lo S.2.1 S.2.2.1 i).toInt ≤ a.toInt ∧ b.toInt ≤ (hi S.2.1 S.2.2.1 i).toInt then (S.2.2.2.1 i).toInt else 0) ∧ (if hb S.2.1 S.2.2.1 i = k ∧ (lo S.2.1 S.2.2.1 i).toInt ≤ a.toInt ∧ b.toInt ≤ (hi S.2.1 S.2.2.1 i).toInt then (S.2.2.2.1 i).toInt else 0) ≤ 20 := by
    intro i hi'
    have c := C20 ok hi'
    by_cases q : hb S.2.1 S.2.2.1 i = k ∧ lo S.2.1 S.2.2.1 i ≤ a ∧ b ≤ hi S.2.1 S.2.2.1 i
    · rw [if_pos q, if_pos ⟨q.1, le_tI.mp q.2.1, le_tI.mp q.2.2⟩]
      exact ⟨rfl, by omega, by omega⟩
    · rw [if_neg q, if_neg (fun z => q ⟨z.1, le_tI.mpr z.2.1, le_tI.mpr z.2.2⟩)]
      exact ⟨rfl, by omega, by omega⟩
  have e : sZ S.1 (fun i => (if hb S.2.1 S.2.2.1 i = k ∧ lo S.2.1 S.2.2.1 i ≤ a ∧ b ≤ hi S.2.1 S.2.2.1 i then S.2.2.2.1 i else 0 : Int32).toInt) = cZ S k a.toInt b.toInt := sZ_cg (fun i hi' => (tm i hi').1)
  have b1 : cZ S k a.toInt b.toInt ≤ (S.1 : Int) * 20 := sZ_top (fun i hi' => (tm i hi').2.2)
  have b0 : 0 ≤ cZ S k a.toInt b.toInt := sZ_0 (fun i hi' => (tm i hi').2.1)
  refine ⟨?_, b0, by omega⟩
  unfold cpT
  rw [sI_sZ (fun i hi' => by rw [(tm i hi').1]; exact (tm i hi').2.1) (by rw [e]; omega), e]
/-- no end of the kind lies strictly between -/
def noE (S : SS) (k : Int32) (a b : Int) : Prop := ∀ i, i < S.1 → hb S.2.1 S.2.2.1 i = k → ((lo S.2.1 S.2.2.1 i).toInt ≤ a ∨ b ≤ (lo S.2.1 S.2.2.1 i).toInt) ∧ ((hi S.2.1 S.2.2.1 i).toInt ≤ a ∨ b ≤ (hi S.2.1 S.2.2.1 i).toInt)
theorem h_lin (ok : OK S) {a b t : Int} (hE : noE S k a b) (hab : a < b) (h1 : a ≤ t) (h2 : t ≤ b) : hZ S k t = hZ S k b + cZ S k a b * (b - t) := by
  refine sZ_lin (fun i hi' => ?_)
  have L := lhI ok hi'
  by_cases q : hb S.2.1 S.2.2.1 i = k
  · obtain ⟨e1, e2⟩ := hE i hi' q
    generalize (lo S.2.1 S.2.2.1 i).toInt = l at *
    generalize (hi S.2.1 S.2.2.1 i).toInt = u at *
    generalize (S.2.2.2.1 i).toInt = c at *
    simp only [q, true_and]
    by_cases z : l ≤ a ∧ b ≤ u
    · rw [if_pos z]
      have x1 : xm l t = t := by unfold xm; rw [if_pos (by omega)]
      have x2 : xm l b = b := by unfold xm; rw [if_pos (by omega)]
      rw [x1, x2]
      by_cases w : t < u
      · rw [if_pos w]
        by_cases w2 : b < u
        · rw [if_pos w2, ← Int.mul_add]; congr 1; omega
        · rw [if_neg w2, Int.zero_add]; congr 1; omega
      · rw [if_neg w, if_neg (by omega)]
        have : b - t = 0 := by omega
        rw [this]; simp
    · rw [if_neg z, Int.zero_mul, Int.add_zero]
      by_cases w : u ≤ a
      · rw [if_neg (by omega), if_neg (by omega)]
      · have w2 : b ≤ l := by omega
        rw [if_pos (by omega), if_pos (by omega)]
        have x1 : xm l t = l := by unfold xm; split <;> omega
        have x2 : xm l b = l := by unfold xm; split <;> omega
        rw [x1, x2]
  · simp only [q, false_and, if_false]; simp
theorem h_mono (ok : OK S) {t u : Int} (h1 : t ≤ u) : hZ S k u ≤ hZ S k t := by
  refine sZ_mn (fun i hi' => ?_)
  have L := lhI ok hi'
  have c := C20 ok hi'
  by_cases q : hb S.2.1 S.2.2.1 i = k
  · generalize (lo S.2.1 S.2.2.1 i).toInt = l at *
    generalize (hi S.2.1 S.2.2.1 i).toInt = w at *
    simp only [q, true_and]
    by_cases z : u < w
    · rw [if_pos z, if_pos (by omega)]
      refine Int.mul_le_mul_of_nonneg_left ?_ (by omega)
      unfold xm
      split <;> split <;> omega
    · rw [if_neg z]
      by_cases z2 : t < w
      · rw [if_pos z2]
        refine Int.mul_nonneg (by omega) ?_
        unfold xm
        split <;> omega
      · rw [if_neg z2]; omega
  · simp only [q, false_and, if_false]; omega
theorem h_top (ok : OK S) {t : Int} (h1 : ∀ i, i < S.1 → hb S.2.1 S.2.2.1 i = k → (hi S.2.1 S.2.2.1 i).toInt ≤ t) : hZ S k t = 0 := by
  have : hZ S k t = sZ S.1 (fun _ => 0) := sZ_cg (fun i hi' => if_neg (fun q => by have := h1 i hi' q.1; omega))
  rw [this]
  clear this h1
  generalize S.1 = n
  induction n with
  | zero => rfl
  | succ n ih => show sZ n (fun _ => 0) + 0 = 0; omega
end Lv
