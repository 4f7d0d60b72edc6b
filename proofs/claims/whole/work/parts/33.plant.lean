/-! bounds -/
theorem mul_bd {x y a b : Int} (hx : -a ≤ x ∧ x ≤ a) (hy : -b ≤ y ∧ y ≤ b) : -(a * b) ≤ x * y ∧ x * y ≤ a * b := by
  have h1 : x.natAbs ≤ a.natAbs := by omega
  have h2 : y.natAbs ≤ b.natAbs := by omega
  have h3 := Nat.mul_le_mul h1 h2
  rw [← Int.natAbs_mul, ← Int.natAbs_mul] at h3
  have h4 : 0 ≤ a * b := Int.mul_nonneg (by omega) (by omega)
  generalize a * b = p at *
  generalize x * y = q at *
  omega
theorem tI_add {a b : Int32} (h1 : -2147483648 ≤ a.toInt + b.toInt) (h2 : a.toInt + b.toInt < 2147483648) : (a + b).toInt = a.toInt + b.toInt := by rw [Int32.toInt_add, bmod_id h1 h2]
theorem tI_sub {a b : Int32} (h1 : -2147483648 ≤ a.toInt - b.toInt) (h2 : a.toInt - b.toInt < 2147483648) : (a - b).toInt = a.toInt - b.toInt := by rw [Int32.toInt_sub, bmod_id h1 h2]
theorem tI_mul {a b : Int32} (h1 : -2147483648 ≤ a.toInt * b.toInt) (h2 : a.toInt * b.toInt < 2147483648) : (a * b).toInt = a.toInt * b.toInt := by rw [Int32.toInt_mul, bmod_id h1 h2]
theorem le_tI {a b : Int32} : a ≤ b ↔ a.toInt ≤ b.toInt := Int32.le_iff_toInt_le
theorem lt_tI {a b : Int32} : a < b ↔ a.toInt < b.toInt := Int32.lt_iff_toInt_lt
theorem eq_tI {a b : Int32} : a = b ↔ a.toInt = b.toInt := Int32.toInt_inj.symm
theorem tI_n {j : Nat} (h : j ≤ 100000) : (nI j).toInt = (j : Int) := nI_toInt (by omega)
theorem sI_bd {f : Nat → Int32} {M : Int} (hM : 0 ≤ M) : ∀ {n : Nat}, (n : Int) * M ≤ 2000000000 → (∀ i, i < n → -M ≤ (f i).toInt ∧ (f i).toInt ≤ M) → -((n : Int) * M) ≤ (sI n f).toInt ∧ (sI n f).toInt ≤ (n : Int) * M
  | 0, _, _ => by simp [sI]
  | n + 1, h1, h2 => by
    have e : ((n + 1 : Nat) : Int) * M = (n : Int) * M + M := by rw [Int.natCast_add, Int.add_mul]; simp
    rw [e] at h1 ⊢
    have ih := sI_bd hM (n := n) (by omega) (fun i hi => h2 i (by omega))
    have h3 := h2 n (by omega)
    show -_ ≤ (sI n f + f n).toInt ∧ (sI n f + f n).toInt ≤ _
    generalize (n : Int) * M = x at *
    rw [tI_add (by omega) (by omega)]
    omega
theorem lohi {n : Nat} {F T C : Nat → Int32} {g : Int32} (ok : OkS n F T C g) {i : Nat} (h : i < n) : 0 ≤ lo F T i ∧ lo F T i < hi F T i ∧ hi F T i ≤ 500 := by
  have := ok.2.2 i h
  unfold lo hi imin imax
  grind
theorem sh_bd {n : Nat} {F T C : Nat → Int32} {g : Int32} (ok : OkS n F T C g) (i : Nat) : 0 ≤ sh F T g i ∧ sh F T g i ≤ 60 := by
  have := ok.2.1
  unfold sh
  grind
theorem BLs_bd {n : Nat} {F T C : Nat → Int32} {g : Int32} (ok : OkS n F T C g) : ∀ i, i ≤ n → ∀ b ∈ BLs F T g i, -60 ≤ b ∧ b ≤ 500
  | 0, _, b, hb => by simp [BLs] at hb
  | i + 1, hi, b, hb => by
    have h1 := ok.2.2 i (by omega)
    have h2 := sh_bd ok i
    have hb : b ∈ insL (T i - sh F T g i) (insL (F i - sh F T g i) (BLs F T g i)) := hb
    rw [insL_mem, insL_mem] at hb
    rcases hb with e | e | e
    · grind
    · grind
    · exact BLs_bd ok i (by omega) b e
theorem BLs_at {n : Nat} {F T C : Nat → Int32} {g : Int32} (ok : OkS n F T C g) {k : Nat} (hk : k < (BLs F T g n).length) : -60 ≤ (BLs F T g n).getD k 0 ∧ (BLs F T g n).getD k 0 ≤ 500 := by
  refine BLs_bd ok n (Nat.le_refl n) _ ?_
  rw [List.getD_eq_getElem?_getD, List.getElem?_eq_getElem hk]
  exact List.getElem_mem hk
theorem C20 {n : Nat} {F T C : Nat → Int32} {g : Int32} (ok : OkS n F T C g) {i : Nat} (h : i < n) : 1 ≤ (C i).toInt ∧ (C i).toInt ≤ 20 := by
  obtain ⟨-, -, -, -, -, h1, h2⟩ := ok.2.2 i h
  rw [le_tI] at h1 h2
  exact ⟨h1, h2⟩
theorem thr_bd {n : Nat} {F T C : Nat → Int32} {g : Int32} (ok : OkS n F T C g) (k u l : Int32) : -200 ≤ (thr n F T C g k u l).toInt ∧ (thr n F T C g k u l).toInt ≤ 200 := by
  have hn := ok.1
  have := sI_bd (n := n) (M := 20) (f := fun i => if hb F T i = k ∧ lo F T i - sh F T g i ≤ l ∧ u ≤ hi F T i - sh F T g i then C i else 0) (by decide) (by omega) (fun i h => by
    have := C20 ok h
    split
    · omega
    · show -20 ≤ (0 : Int) ∧ (0 : Int) ≤ 20
      omega)
  unfold thr
  omega
theorem sur_bd {n : Nat} {F T C : Nat → Int32} {g : Int32} (ok : OkS n F T C g) (k : Nat) : -224000 ≤ (sur n F T C g k).toInt ∧ (sur n F T C g k).toInt ≤ 224000 := by
  unfold sur
  split
  · rename_i c
    have h1 := BLs_at ok c
    have h2 := BLs_at ok (show k < _ by omega)
    have h3 := thr_bd ok 1 ((BLs F T g n).getD k 0) ((BLs F T g n).getD (k + 1) 0)
    have h4 := thr_bd ok 0 ((BLs F T g n).getD k 0) ((BLs F T g n).getD (k + 1) 0)
    rw [le_tI, le_tI] at h1 h2
    have e1 : (-60 : Int32).toInt = -60 := by decide
    have e2 : (500 : Int32).toInt = 500 := by decide
    rw [e1, e2] at h1 h2
    generalize thr n F T C g 1 _ _ = a at *
    generalize thr n F T C g 0 _ _ = b at *
    generalize (BLs F T g n).getD k 0 = x at *
    generalize (BLs F T g n).getD (k + 1) 0 = y at *
    have e3 : (x - y).toInt = x.toInt - y.toInt := tI_sub (by omega) (by omega)
    have e4 : (a - b).toInt = a.toInt - b.toInt := tI_sub (by omega) (by omega)
    have h5 := mul_bd (x := (x - y).toInt) (y := (a - b).toInt) (a := 560) (b := 400) (by omega) (by omega)
    rw [tI_mul (by omega) (by omega)]
    omega
  · show -224000 ≤ (0 : Int) ∧ (0 : Int) ≤ 224000
    omega
theorem car_bd {n : Nat} {F T C : Nat → Int32} {g : Int32} (ok : OkS n F T C g) {k : Nat} (hk : k ≤ 20) : -4480000 ≤ (car n F T C g k).toInt ∧ (car n F T C g k).toInt ≤ 4480000 := by
  have := sI_bd (n := k) (M := 224000) (f := sur n F T C g) (by decide) (by omega) (fun i _ => sur_bd ok i)
  unfold car
  omega
def lsA (n : Nat) (F T C : Nat → Int32) (g : Int32) : Nat → Int32
  | 0 => 0
  | k + 1 => imin (lsA n F T C g k) (car n F T C g k)
theorem lsA_bd {n : Nat} {F T C : Nat → Int32} {g : Int32} (ok : OkS n F T C g) : ∀ {k : Nat}, k ≤ 20 → fuA n F T C g k = -(lsA n F T C g k) ∧ -4480000 ≤ (lsA n F T C g k).toInt ∧ (lsA n F T C g k).toInt ≤ 0
  | 0, _ => ⟨by unfold fuA lsA; decide, by unfold lsA; decide, by unfold lsA; decide⟩
  | k + 1, h => by
    obtain ⟨h1, h2, h3⟩ := lsA_bd ok (k := k) (by omega)
    have h4 := car_bd ok (k := k) (by omega)
    unfold fuA lsA
    rw [h1]
    generalize lsA n F T C g k = a at *
    generalize car n F T C g k = b at *
    unfold imax imin
    have e1 : (-a).toInt = -a.toInt := by rw [Int32.toInt_neg, bmod_id (by omega) (by omega)]
    have e2 : (-b).toInt = -b.toInt := by rw [Int32.toInt_neg, bmod_id (by omega) (by omega)]
    by_cases c : b < a
    · rw [if_pos c, if_pos (by rw [lt_tI] at c ⊢; omega)]
      exact ⟨rfl, h4.1, by rw [lt_tI] at c; omega⟩
    · rw [if_neg c, if_neg (by rw [lt_tI] at c ⊢; omega)]
      exact ⟨rfl, h2, h3⟩
def cpT (n : Nat) (F T C : Nat → Int32) (k low up : Int32) : Int32 := sI n (fun i => if hb F T i = k ∧ lo F T i ≤ low ∧ up ≤ hi F T i then C i else 0)
theorem shL {a b c : Int32} (h1 : 0 ≤ a) (h2 : a ≤ 500) (h3 : 0 ≤ b) (h4 : b ≤ 60) (h5 : -60 ≤ c) (h6 : c ≤ 500) : (a - b ≤ c ↔ a ≤ c + b) := by grind
theorem shR {a b c : Int32} (h1 : 0 ≤ a) (h2 : a ≤ 500) (h3 : 0 ≤ b) (h4 : b ≤ 60) (h5 : -60 ≤ c) (h6 : c ≤ 500) : (c ≤ a - b ↔ c + b ≤ a) := by grind
theorem cpT_1 {n : Nat} {F T C : Nat → Int32} {g : Int32} (ok : OkS n F T C g) {up low : Int32} (h1 : -60 ≤ up ∧ up ≤ 500) (h2 : -60 ≤ low ∧ low ≤ 500) : cpT n F T C 1 (low + g) (up + g) = thr n F T C g 1 up low := by
  refine sI_cg (fun i hi' => ?_)
  have := lohi ok hi'
  have := ok.2.1
  have e : (hb F T i = 1 ∧ lo F T i ≤ low + g ∧ up + g ≤ hi F T i) ↔ (hb F T i = 1 ∧ lo F T i - sh F T g i ≤ low ∧ up ≤ hi F T i - sh F T g i) := by
    unfold hb sh
    by_cases c : T i < F i
    · simp only [if_pos c]
      rw [shL (a := lo F T i) (by grind) (by grind) (by grind) (by grind) h2.1 h2.2, shR (a := hi F T i) (by grind) (by grind) (by grind) (by grind) h1.1 h1.2]
    · simp only [if_neg c]; grind
  simp only [e]
theorem cpT_0 {n : Nat} {F T C : Nat → Int32} {g : Int32} (ok : OkS n F T C g) {up low : Int32} : cpT n F T C 0 low up = thr n F T C g 0 up low := by
  refine sI_cg (fun i hi' => ?_)
  have e : (hb F T i = 0 ∧ lo F T i ≤ low ∧ up ≤ hi F T i) ↔ (hb F T i = 0 ∧ lo F T i - sh F T g i ≤ low ∧ up ≤ hi F T i - sh F T g i) := by
    unfold hb sh
    by_cases c : T i < F i
    · simp only [if_pos c]; grind
    · simp only [if_neg c]; grind
  simp only [e]
/-! the class's streams -/
theorem PS.fr {W : List (Nat × Option Nat)} {Z : List Nat} {h h' : Hp} {r n : Nat} {F T C : Nat → Int32} (hP : PS h r n F T C) (R : Fr W Z h h') (hw : ∀ w ∈ W, w.1 < r ∨ r + 4 < w.1) : PS h' r n F T C := by
  have key : ∀ c k, r ≤ c → c ≤ r + 4 → h'.1 c k = h.1 c k := fun c k h1 h2 => R.1 c k (fun q => by have := hw _ q; simp at this; omega) (fun q => by have := hw _ q; simp at this; omega)
  obtain ⟨p1, p2⟩ := hP
  refine ⟨(key r 4 (by omega) (by omega)).trans p1, fun i hi => ?_⟩
  obtain ⟨a1, a2, a3, a4⟩ := p2 i hi
  exact ⟨(key _ i (by omega) (by omega)).trans a1, (key _ i (by omega) (by omega)).trans a2, (key _ i (by omega) (by omega)).trans a3, (key _ i (by omega) (by omega)).trans a4⟩
theorem isC_ok {r c : Nat} (h : ck r = c) : isC r c = true := decide_eq_true h
section Pl
variable {h : Hp} {r n : Nat} {F T C : Nat → Int32} {i : Nat}
theorem P_low (hr : ck r = 1) (hP : PS h r n F T C) (hn : n ≤ 10) (hi' : i < n) : sX1_low h r (nI i) = some (lo F T i, h) := by
  obtain ⟨a1, a2, a3, a4⟩ := hP.2 i hi'
  simp only [sX1_low, gd_t (isC_ok hr), gd_in (show i < 10 by omega) (show 10 ≤ 1000 by decide), cl_n (show i ≤ 100000 by omega), a2, a3]
  rfl
theorem P_high (hr : ck r = 1) (hP : PS h r n F T C) (hn : n ≤ 10) (hi' : i < n) : sX1_high h r (nI i) = some (hi F T i, h) := by
  obtain ⟨a1, a2, a3, a4⟩ := hP.2 i hi'
  simp only [sX1_high, gd_t (isC_ok hr), gd_in (show i < 10 by omega) (show 10 ≤ 1000 by decide), cl_n (show i ≤ 100000 by omega), a2, a3]
  rfl
theorem P_heatOf (hr : ck r = 1) (hP : PS h r n F T C) (hn : n ≤ 10) (hi' : i < n) : sX1_heatOf h r (nI i) = some (C i * (hi F T i - lo F T i), h) := by
  obtain ⟨a1, a2, a3, a4⟩ := hP.2 i hi'
  simp only [sX1_heatOf, gd_t (isC_ok hr), gd_in (show i < 10 by omega) (show 10 ≤ 1000 by decide), cl_n (show i ≤ 100000 by omega), P_high hr hP hn hi', P_low hr hP hn hi', Option.bind_some, a4]
theorem P_cap (hr : ck r = 1) (hP : PS h r n F T C) (hn : n ≤ 10) (k low up : Int32) : sX1_capThrough h r k low up = some (cpT n F T C k low up, h) := by
  unfold sX1_capThrough
  rw [gd_t (isC_ok hr)]
  refine loop0 (fun n (s : Int32 × Int32) => sX1_capThrough_b6 n h r k low up s.1 s.2) (fun i => (sI i (fun i => if hb F T i = k ∧ lo F T i ≤ low ∧ up ≤ hi F T i then C i else 0), nI i)) n _ (by omega) (fun m i hi' => ?_) (fun m => ?_)
  · show sX1_capThrough_c6 (sX1_capThrough_b6 m) h r k low up _ (nI i) = _
    obtain ⟨a1, a2, a3, a4⟩ := hP.2 i hi'
    have hle : ¬ nI n ≤ nI i := by rw [le_n (by omega) (by omega)]; omega
    simp only [sX1_capThrough_c6, sX1_capThrough_c58, hP.1, hle, if_false, P_low hr hP hn hi', P_high hr hP hn hi', Option.bind_some, nm, nI_1, gd_in (show i < 10 by omega) (show 10 ≤ 1000 by decide), cl_n (show i ≤ 100000 by omega), a1, a4, sI]
    grind
  · show sX1_capThrough_c6 (sX1_capThrough_b6 m) h r k low up _ (nI n) = _
    have hle : nI n ≤ nI n := by rw [le_n (by omega) (by omega)]; omega
    simp only [sX1_capThrough_c6, hP.1, hle, if_true]
    rfl
/-- heat above a temperature -/
def haT (n : Nat) (F T C : Nat → Int32) (k t : Int32) : Int32 := sI n (fun i => if hb F T i = k ∧ t < hi F T i then C i * (hi F T i - imax (lo F T i) t) else 0)
theorem P_heatAbove (hr : ck r = 1) (hP : PS h r n F T C) (hn : n ≤ 10) (k t : Int32) : sX1_heatAbove h r k t = some (haT n F T C k t, h) := by
  unfold sX1_heatAbove
  rw [gd_t (isC_ok hr)]
  refine loop0 (fun n (s : Int32 × Int32) => sX1_heatAbove_b5 n h r k t s.1 s.2) (fun i => (sI i (fun i => if hb F T i = k ∧ t < hi F T i then C i * (hi F T i - imax (lo F T i) t) else 0), nI i)) n _ (by omega) (fun m i hi' => ?_) (fun m => ?_)
  · show sX1_heatAbove_c5 (sX1_heatAbove_b5 m) h r k t _ (nI i) = _
    obtain ⟨a1, a2, a3, a4⟩ := hP.2 i hi'
    have hle : ¬ nI n ≤ nI i := by rw [le_n (by omega) (by omega)]; omega
    simp only [sX1_heatAbove_c5, sX1_heatAbove_c63, hP.1, hle, if_false, P_low hr hP hn hi', P_high hr hP hn hi', Option.bind_some, nm, nI_1, gd_in (show i < 10 by omega) (show 10 ≤ 1000 by decide), cl_n (show i ≤ 100000 by omega), a1, a4, sI]
    grind
  · show sX1_heatAbove_c5 (sX1_heatAbove_b5 m) h r k t _ (nI n) = _
    have hle : nI n ≤ nI n := by rw [le_n (by omega) (by omega)]; omega
    simp only [sX1_heatAbove_c5, hP.1, hle, if_true]
    rfl
def hmT (n : Nat) (F T : Nat → Int32) (k t : Int32) : Int32 := sI n (fun i => if hb F T i = k ∧ lo F T i ≤ t ∧ t ≤ hi F T i then 1 else 0)
theorem P_howMany (hr : ck r = 1) (hP : PS h r n F T C) (hn : n ≤ 10) (k t : Int32) : sX1_howManyAt h r k t = some (hmT n F T k t, h) := by
  unfold sX1_howManyAt
  rw [gd_t (isC_ok hr)]
  refine loop0 (fun n (s : Int32 × Int32) => sX1_howManyAt_b5 n h r k t s.1 s.2) (fun i => (sI i (fun i => if hb F T i = k ∧ lo F T i ≤ t ∧ t ≤ hi F T i then 1 else 0), nI i)) n _ (by omega) (fun m i hi' => ?_) (fun m => ?_)
  · show sX1_howManyAt_c5 (sX1_howManyAt_b5 m) h r k t _ (nI i) = _
    obtain ⟨a1, a2, a3, a4⟩ := hP.2 i hi'
    have hle : ¬ nI n ≤ nI i := by rw [le_n (by omega) (by omega)]; omega
    simp only [sX1_howManyAt_c5, sX1_howManyAt_c48, hP.1, hle, if_false, P_low hr hP hn hi', P_high hr hP hn hi', Option.bind_some, nm, nI_1, gd_in (show i < 10 by omega) (show 10 ≤ 1000 by decide), cl_n (show i ≤ 100000 by omega), a1, a4, sI]
    grind
  · show sX1_howManyAt_c5 (sX1_howManyAt_b5 m) h r k t _ (nI n) = _
    have hle : nI n ≤ nI n := by rw [le_n (by omega) (by omega)]; omega
    simp only [sX1_howManyAt_c5, hP.1, hle, if_true]
    rfl
/-- bits of the hot ones -/
def hbt (F T : Nat → Int32) : Nat → Int32
  | 0 => 0
  | i + 1 => if hb F T i = 0 then hbt F T i else hbt F T i ||| ((1 : Int32) <<< (nI i &&& 31))
theorem P_hotBits (hr : ck r = 1) (hP : PS h r n F T C) (hn : n ≤ 10) : sX1_hotBits h r = some (hbt F T n, h) := by
  unfold sX1_hotBits
  rw [gd_t (isC_ok hr)]
  refine loop0 (fun n (s : Int32 × Int32) => sX1_hotBits_b4 n h r s.1 s.2) (fun i => (hbt F T i, nI i)) n _ (by omega) (fun m i hi' => ?_) (fun m => ?_)
  · show sX1_hotBits_c4 (sX1_hotBits_b4 m) h r _ (nI i) = _
    obtain ⟨a1, a2, a3, a4⟩ := hP.2 i hi'
    have hle : ¬ nI n ≤ nI i := by rw [le_n (by omega) (by omega)]; omega
    simp only [sX1_hotBits_c4, sX1_hotBits_c27, hP.1, hle, if_false, nm, nI_1, gd_in (show i < 10 by omega) (show 10 ≤ 1000 by decide), cl_n (show i ≤ 100000 by omega), a1, hbt]
    grind
  · show sX1_hotBits_c4 (sX1_hotBits_b4 m) h r _ (nI n) = _
    have hle : nI n ≤ nI n := by rw [le_n (by omega) (by omega)]; omega
    simp only [sX1_hotBits_c4, hP.1, hle, if_true]
end Pl
