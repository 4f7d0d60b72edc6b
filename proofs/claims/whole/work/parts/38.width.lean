/-! widths -/
theorem tL_add {a b : Int64} (h1 : -9000000000000000000 ≤ a.toInt + b.toInt) (h2 : a.toInt + b.toInt ≤ 9000000000000000000) : (a + b).toInt = a.toInt + b.toInt := by rw [Int64.toInt_add, bmod_id64 (by omega) (by omega)]
theorem tL_sub {a b : Int64} (h1 : -9000000000000000000 ≤ a.toInt - b.toInt) (h2 : a.toInt - b.toInt ≤ 9000000000000000000) : (a - b).toInt = a.toInt - b.toInt := by rw [Int64.toInt_sub, bmod_id64 (by omega) (by omega)]
theorem tL_mul {a b : Int64} (ha : -1000000000 ≤ a.toInt ∧ a.toInt ≤ 1000000000) (hb : -1000000000 ≤ b.toInt ∧ b.toInt ≤ 1000000000) : (a * b).toInt = a.toInt * b.toInt := by
  have := mul_bd (x := a.toInt) (y := b.toInt) (a := 1000000000) (b := 1000000000) (by omega) (by omega)
  rw [Int64.toInt_mul, bmod_id64 (by omega) (by omega)]
theorem tL_i (x : Int32) : (x.toInt64).toInt = x.toInt := by simp
theorem lg_lt0 {x y : Int64} : lg_cmp x y < 0 ↔ x.toInt < y.toInt := by
  have h1 := lg_cmp_ge x y
  rw [Int64.le_iff_toInt_le] at h1
  constructor
  · intro h
    rcases Int.lt_or_le x.toInt y.toInt with q | q
    · exact q
    · have := h1.mpr q
      grind
  · intro h
    have : ¬ 0 ≤ lg_cmp x y := fun q => by have := h1.mp q; omega
    grind
theorem lg_ge0 {x y : Int64} : 0 ≤ lg_cmp x y ↔ y.toInt ≤ x.toInt := by
  have h1 := lg_cmp_ge x y
  rw [Int64.le_iff_toInt_le] at h1
  exact h1
theorem lg_gt0 {x y : Int64} : 0 < lg_cmp x y ↔ y.toInt < x.toInt := by
  unfold lg_cmp
  have e : x > y ↔ y.toInt < x.toInt := Int64.lt_iff_toInt_lt
  by_cases c : x > y
  · rw [if_pos c]; simp [← e, c]
  · rw [if_neg c]
    by_cases d : x = y
    · rw [if_pos d, d]; simp
    · rw [if_neg d]; simp [← e, c]
def wS (S : SS) (s a b : Nat) (x y : Int32) : Int32 := (nr S s a - nr S s b) * (S.2.2.2.1 a * S.2.2.2.1 b) + upv s * (x * S.2.2.2.1 b - y * S.2.2.2.1 a)
def wL (S : SS) (s a b : Nat) (x y : Int32) : Int64 := ((nr S s a).toInt64 * (S.2.2.2.1 a).toInt64 + (upv s * x).toInt64) * (S.2.2.2.1 b).toInt64 - ((nr S s b).toInt64 * (S.2.2.2.1 b).toInt64 + (upv s * y).toInt64) * (S.2.2.2.1 a).toInt64
def unS (S : SS) (a b : Nat) : Int32 := S.2.2.2.1 a * S.2.2.2.1 b
def unL (S : SS) (a b : Nat) : Int64 := (S.2.2.2.1 a).toInt64 * (S.2.2.2.1 b).toInt64
section Wd
variable {S : SS} {s a b : Nat}
theorem un_bd (ok : OK S) (ha : a < S.1) (hb' : b < S.1) : 1 ≤ unI S a b ∧ unI S a b ≤ 400 ∧ (unS S a b).toInt = unI S a b ∧ (unL S a b).toInt = unI S a b := by
  have h1 := C20 ok ha
  have h2 := C20 ok hb'
  have h3 := mul_bd (x := (S.2.2.2.1 a).toInt) (y := (S.2.2.2.1 b).toInt) (a := 20) (b := 20) (by omega) (by omega)
  have h4 : 0 < (S.2.2.2.1 a).toInt * (S.2.2.2.1 b).toInt := Int.mul_pos (by omega) (by omega)
  unfold unI unS unL
  refine ⟨by omega, by omega, tI_mul (by omega) (by omega), ?_⟩
  rw [tL_mul (by rw [tL_i]; omega) (by rw [tL_i]; omega), tL_i, tL_i]
theorem le_bd (ok : OK S) (ha : a < S.1) (hb' : b < S.1) : 0 ≤ leI S a b ∧ leI S a b ≤ 24000 ∧ (S.2.2.2.2 * unS S a b).toInt = leI S a b ∧ ((S.2.2.2.2).toInt64 * unL S a b).toInt = leI S a b := by
  obtain ⟨u1', u2', u3', u4'⟩ := un_bd ok ha hb'
  have h1 := ok.g
  have h3 := mul_bd (x := (S.2.2.2.2).toInt) (y := unI S a b) (a := 60) (b := 400) (by omega) (by omega)
  have h4 : 0 ≤ (S.2.2.2.2).toInt * unI S a b := Int.mul_nonneg (by omega) (by omega)
  unfold leI
  refine ⟨by omega, by omega, ?_, ?_⟩
  · rw [tI_mul (by rw [u3']; omega) (by rw [u3']; omega), u3']
  · rw [tL_mul (by rw [tL_i]; omega) (by rw [u4']; omega), tL_i, u4']
theorem w_bd (ok : OK S) (ha : a < S.1) (hb' : b < S.1) {x y : Int32} (hx : 0 ≤ x.toInt ∧ x.toInt ≤ 30000) (hy : 0 ≤ y.toInt ∧ y.toInt ≤ 30000) : (wS S s a b x y).toInt = wI S s a b x.toInt y.toInt ∧ (wL S s a b x y).toInt = wI S s a b x.toInt y.toInt ∧ -1500000 ≤ wI S s a b x.toInt y.toInt ∧ wI S s a b x.toInt y.toInt ≤ 1500000 := by
  obtain ⟨u1', u2', u3', u4'⟩ := un_bd ok ha hb'
  have h1 := C20 ok ha
  have h2 := C20 ok hb'
  have n1 := nr_bd ok (s := s) ha
  have n2 := nr_bd ok (s := s) hb'
  have e1 : (nr S s a - nr S s b).toInt = (nr S s a).toInt - (nr S s b).toInt := tI_sub (by omega) (by omega)
  have m1 := mul_bd (x := (nr S s a).toInt - (nr S s b).toInt) (y := unI S a b) (a := 620) (b := 400) (by omega) (by omega)
  have m2 := mul_bd (x := x.toInt) (y := (S.2.2.2.1 b).toInt) (a := 30000) (b := 20) (by omega) (by omega)
  have m3 := mul_bd (x := y.toInt) (y := (S.2.2.2.1 a).toInt) (a := 30000) (b := 20) (by omega) (by omega)
  have m4 : 0 ≤ x.toInt * (S.2.2.2.1 b).toInt := Int.mul_nonneg (by omega) (by omega)
  have m5 : 0 ≤ y.toInt * (S.2.2.2.1 a).toInt := Int.mul_nonneg (by omega) (by omega)
  have e2 : (x * S.2.2.2.1 b).toInt = x.toInt * (S.2.2.2.1 b).toInt := tI_mul (by omega) (by omega)
  have e3 : (y * S.2.2.2.1 a).toInt = y.toInt * (S.2.2.2.1 a).toInt := tI_mul (by omega) (by omega)
  have e4 : (x * S.2.2.2.1 b - y * S.2.2.2.1 a).toInt = x.toInt * (S.2.2.2.1 b).toInt - y.toInt * (S.2.2.2.1 a).toInt := by rw [tI_sub (by omega) (by omega), e2, e3]
  have up1 : (upv s).toInt = upI s := by unfold upv upI; split <;> rfl
  have up2 : upI s = 1 ∨ upI s = -1 := by unfold upI; split <;> simp
  have m6 := mul_bd (x := upI s) (y := x.toInt * (S.2.2.2.1 b).toInt - y.toInt * (S.2.2.2.1 a).toInt) (a := 1) (b := 600000) (by omega) (by omega)
  have e5 : (upv s * (x * S.2.2.2.1 b - y * S.2.2.2.1 a)).toInt = upI s * (x.toInt * (S.2.2.2.1 b).toInt - y.toInt * (S.2.2.2.1 a).toInt) := by rw [tI_mul (by rw [up1, e4]; omega) (by rw [up1, e4]; omega), up1, e4]
  have e6 : ((nr S s a - nr S s b) * (S.2.2.2.1 a * S.2.2.2.1 b)).toInt = ((nr S s a).toInt - (nr S s b).toInt) * unI S a b := by
    have u3'' : (S.2.2.2.1 a * S.2.2.2.1 b).toInt = unI S a b := u3'
    rw [tI_mul (by rw [e1, u3'']; omega) (by rw [e1, u3'']; omega), e1, u3'']
  have f1 : (upv s * x).toInt = upI s * x.toInt := by rw [tI_mul (by rw [up1]; rcases up2 with q | q <;> rw [q] <;> omega) (by rw [up1]; rcases up2 with q | q <;> rw [q] <;> omega), up1]
  have f2 : (upv s * y).toInt = upI s * y.toInt := by rw [tI_mul (by rw [up1]; rcases up2 with q | q <;> rw [q] <;> omega) (by rw [up1]; rcases up2 with q | q <;> rw [q] <;> omega), up1]
  have f3 : -30000 ≤ upI s * x.toInt ∧ upI s * x.toInt ≤ 30000 := by rcases up2 with q | q <;> rw [q] <;> omega
  have f4 : -30000 ≤ upI s * y.toInt ∧ upI s * y.toInt ≤ 30000 := by rcases up2 with q | q <;> rw [q] <;> omega
  have g1 := mul_bd (x := (nr S s a).toInt) (y := (S.2.2.2.1 a).toInt) (a := 560) (b := 20) (by omega) (by omega)
  have g2 := mul_bd (x := (nr S s b).toInt) (y := (S.2.2.2.1 b).toInt) (a := 560) (b := 20) (by omega) (by omega)
  have k1 : ((nr S s a).toInt64 * (S.2.2.2.1 a).toInt64).toInt = (nr S s a).toInt * (S.2.2.2.1 a).toInt := by rw [tL_mul (by rw [tL_i]; omega) (by rw [tL_i]; omega), tL_i, tL_i]
  have k2 : ((nr S s b).toInt64 * (S.2.2.2.1 b).toInt64).toInt = (nr S s b).toInt * (S.2.2.2.1 b).toInt := by rw [tL_mul (by rw [tL_i]; omega) (by rw [tL_i]; omega), tL_i, tL_i]
  have k3 : ((nr S s a).toInt64 * (S.2.2.2.1 a).toInt64 + (upv s * x).toInt64).toInt = (nr S s a).toInt * (S.2.2.2.1 a).toInt + upI s * x.toInt := by rw [tL_add (by rw [k1, tL_i, f1]; omega) (by rw [k1, tL_i, f1]; omega), k1, tL_i, f1]
  have k4 : ((nr S s b).toInt64 * (S.2.2.2.1 b).toInt64 + (upv s * y).toInt64).toInt = (nr S s b).toInt * (S.2.2.2.1 b).toInt + upI s * y.toInt := by rw [tL_add (by rw [k2, tL_i, f2]; omega) (by rw [k2, tL_i, f2]; omega), k2, tL_i, f2]
  have k5 : (((nr S s a).toInt64 * (S.2.2.2.1 a).toInt64 + (upv s * x).toInt64) * (S.2.2.2.1 b).toInt64).toInt = ((nr S s a).toInt * (S.2.2.2.1 a).toInt + upI s * x.toInt) * (S.2.2.2.1 b).toInt := by rw [tL_mul (by rw [k3]; omega) (by rw [tL_i]; omega), k3, tL_i]
  have k6 : (((nr S s b).toInt64 * (S.2.2.2.1 b).toInt64 + (upv s * y).toInt64) * (S.2.2.2.1 a).toInt64).toInt = ((nr S s b).toInt * (S.2.2.2.1 b).toInt + upI s * y.toInt) * (S.2.2.2.1 a).toInt := by rw [tL_mul (by rw [k4]; omega) (by rw [tL_i]; omega), k4, tL_i]
  have l1 := mul_bd (x := (nr S s a).toInt * (S.2.2.2.1 a).toInt + upI s * x.toInt) (y := (S.2.2.2.1 b).toInt) (a := 41200) (b := 20) (by omega) (by omega)
  have l2 := mul_bd (x := (nr S s b).toInt * (S.2.2.2.1 b).toInt + upI s * y.toInt) (y := (S.2.2.2.1 a).toInt) (a := 41200) (b := 20) (by omega) (by omega)
  have eL : (wL S s a b x y).toInt = wI S s a b x.toInt y.toInt := by
    unfold wL wI unI
    rw [tL_sub (by rw [k5, k6]; omega) (by rw [k5, k6]; omega), k5, k6]
    grind
  refine ⟨?_, eL, ?_, ?_⟩
  · unfold wS wI
    rw [tI_add (by rw [e5, e6]; omega) (by rw [e5, e6]; omega), e5, e6]
  · unfold wI; omega
  · unfold wI; omega
end Wd
section Xw
variable {h : Hp} {S : SS} {r s a b : Nat} {M : Mt}
theorem S_unit (hr : ck r = 2) (hn : S.1 ≤ 10) (hD : SD h r s S) (ha : a < S.1) (hb' : b < S.1) : sX2_unit h r (nI a) (nI b) = some (unS S a b, h) := by
  simp only [sX2_unit, gd_t (isC_ok hr), gd_in (show a < 10 by omega) (show 10 ≤ 1000 by decide), gd_in (show b < 10 by omega) (show 10 ≤ 1000 by decide), cl_n (show a ≤ 100000 by omega), cl_n (show b ≤ 100000 by omega), (hD.2.2.2 a ha).2.2.1, (hD.2.2.2 b hb').2.2.1]
  rfl
theorem S_width (hr : ck r = 2) (hn : S.1 ≤ 10) (hD : SD h r s S) (hp : Pr S s a b) (x y : Int32) : sX2_width h r (nI a) (nI b) x y = some (wS S s a b x y, h) := by
  obtain ⟨ha, hb', p1, p2, p3, p4⟩ := hp
  have e1 : h.1 (r + 4) a = nr S s a := by rw [(hD.2.2.2 a ha).2.2.2.1]; unfold nr0; rw [if_pos p3]
  have e2 : h.1 (r + 4) b = nr S s b := by rw [(hD.2.2.2 b hb').2.2.2.1]; unfold nr0; rw [if_pos p4]
  simp only [sX2_width, gd_t (isC_ok hr), gd_in (show a < 10 by omega) (show 10 ≤ 1000 by decide), gd_in (show b < 10 by omega) (show 10 ≤ 1000 by decide), cl_n (show a ≤ 100000 by omega), cl_n (show b ≤ 100000 by omega), S_unit hr hn hD ha hb', Option.bind_some, nm, e1, e2, (hD.2.2.2 a ha).2.2.1, (hD.2.2.2 b hb').2.2.1, hD.1]
  rfl
theorem S_spare (hr : ck r = 2) (hn : S.1 ≤ 10) (hD : SD h r s S) (hp : Pr S s a b) (x y : Int32) : sX2_spare h r (nI a) (nI b) x y = some (wS S s a b x y - S.2.2.2.2 * unS S a b, h) := by
  simp only [sX2_spare, gd_t (isC_ok hr), S_width hr hn hD hp, S_unit hr hn hD hp.1 hp.2.1, Option.bind_some, hD.2.1]
/-- the spare width, as a number -/
theorem spare_I (ok : OK S) (ha : a < S.1) (hb' : b < S.1) {x y : Int32} (hx : 0 ≤ x.toInt ∧ x.toInt ≤ 30000) (hy : 0 ≤ y.toInt ∧ y.toInt ≤ 30000) : (wS S s a b x y - S.2.2.2.2 * unS S a b).toInt = wI S s a b x.toInt y.toInt - leI S a b := by
  have h1 := w_bd (s := s) ok ha hb' hx hy
  have h2 := le_bd ok ha hb'
  rw [tI_sub (by omega) (by omega), h1.1, h2.2.2.1]
def kp (S : SS) (s a b : Nat) (x y : Int) : Int32 := if leI S a b ≤ wI S s a b x y then 1 else 0
theorem S_isWide (hr : ck r = 2) (ok : OK S) (hD : SD h r s S) (hp : Pr S s a b) {x y : Int32} (hx : 0 ≤ x.toInt ∧ x.toInt ≤ 30000) (hy : 0 ≤ y.toInt ∧ y.toInt ≤ 30000) : sX2_isWide h r (nI a) (nI b) x y = some (kp S s a b x.toInt y.toInt, h) := by
  have e := spare_I (s := s) ok hp.1 hp.2.1 hx hy
  unfold sX2_isWide sX2_isWide_c17
  rw [gd_t (isC_ok hr), bd_t (S_spare hr ok.1 hD hp x y)]
  unfold kp
  by_cases c : leI S a b ≤ wI S s a b x.toInt y.toInt
  · have c1 : ¬ wS S s a b x y - S.2.2.2.2 * unS S a b < 0 := by rw [lt_tI, e, tI0]; omega
    simp only [c1, if_false, c, if_true]
    rfl
  · have c1 : wS S s a b x y - S.2.2.2.2 * unS S a b < 0 := by rw [lt_tI, e, tI0]; omega
    simp only [c1, if_true, c, if_false]
    rfl
end Xw
section Mw
variable {h : Hp} {S : SS} {s a b : Nat} {M : Mt}
theorem M_under (hM : MQS h S) (hn : S.1 ≤ 10) (ha : a < S.1) (hb' : b < S.1) : sX6_under h (nI a) (nI b) = some (unL S a b, h) := by
  simp only [sX6_under, gd_in (show a < 10 by omega) (show 10 ≤ 1000 by decide), gd_in (show b < 10 by omega) (show 10 ≤ 1000 by decide), cl_n (show a ≤ 100000 by omega), cl_n (show b ≤ 100000 by omega), (hM.2.2 a ha).2.2, (hM.2.2 b hb').2.2]
  rfl
theorem M_least (hM : MQS h S) (hn : S.1 ≤ 10) (ha : a < S.1) (hb' : b < S.1) : sX6_least h (nI a) (nI b) = some ((S.2.2.2.2).toInt64 * unL S a b, h) := by
  simp only [sX6_least, M_under hM hn ha hb', Option.bind_some, hM.2.1]
theorem M_width (hF : FD h S) (hn : S.1 ≤ 10) (hs : s < 2) (ha : a < S.1) (hb' : b < S.1) (x y : Int32) : sX6_width h (nI s) (nI a) (nI b) x y = some (wL S s a b x y, h) := by
  unfold wL upv
  simp only [sX6_width, sX6_width_c9, s01 hs, M_near hF hn hs ha, M_near hF hn hs hb', Option.bind_some, gd_in (show a < 10 by omega) (show 10 ≤ 1000 by decide), gd_in (show b < 10 by omega) (show 10 ≤ 1000 by decide), cl_n (show a ≤ 100000 by omega), cl_n (show b ≤ 100000 by omega), (hF.1.2.2 a ha).2.2, (hF.1.2.2 b hb').2.2, nm]
  split <;> rfl
/-- a match k of M (which may stand behind the last one that counts): its width at the begin (e 0), at the end -/
def MMk (h : Hp) (s : Nat) (M : Mt) : Prop := ∀ k, k < M.length → h.1 68 (25 * s + k) = nI (mh M k) ∧ h.1 69 (25 * s + k) = nI (mc M k) ∧ h.1 70 (25 * s + k) = ml M k
theorem M_usedk (hs : s < 2) (hM : MMk h s M) (hl : M.length ≤ 25) (hv : ∀ k, k < M.length → mh M k < 10 ∧ mc M k < 10) {i : Nat} (hi' : i < 10) {k : Nat} (hk : k ≤ M.length) : sX6_used h (nI s) (nI i) (nI k) = some (us M k i, h) := by
  unfold sX6_used
  refine loop0 (fun n (q : Int32 × Int32) => sX6_used_b6 n h (nI s) (nI i) (nI k) q.1 q.2) (fun j => (us M j i, nI j)) k _ (by omega) (fun m j hj => ?_) (fun m => ?_)
  · show sX6_used_c6 (sX6_used_b6 m) h (nI s) (nI i) (nI k) (us M j i) (nI j) = _
    have hle : ¬ nI k ≤ nI j := by rw [le_n (by omega) (by omega)]; omega
    obtain ⟨a1, a2, a3⟩ := hM j (by omega)
    obtain ⟨v1, v2⟩ := hv j (by omega)
    have e1 : nI (mh M j) = nI i ↔ mh M j = i := eq_n (by omega) (by omega)
    have e2 : nI (mc M j) = nI i ↔ mc M j = i := eq_n (by omega) (by omega)
    simp only [sX6_used_c6, sX6_used_c44, sX6_used_c55, hle, if_false, M_place, Option.bind_some, gd_in (show 25 * s + j < 50 by omega) (show 50 ≤ 1000 by decide), cl_n (show 25 * s + j ≤ 100000 by omega), a1, a2, a3, e1, e2, nm, nI_1, us, sI]
    grind
  · show sX6_used_c6 (sX6_used_b6 m) h (nI s) (nI i) (nI k) (us M k i) (nI k) = _
    have hle : nI k ≤ nI k := by rw [le_n (by omega) (by omega)]; omega
    simp only [sX6_used_c6, hle, if_true]
/-- begin or end of a match -/
def wv (S : SS) (s : Nat) (M : Mt) (k : Nat) (e : Int32) : Int64 := wL S s (mh M k) (mc M k) (us M k (mh M k) + (if e = 0 then 0 else ml M k)) (us M k (mc M k) + (if e = 0 then 0 else ml M k))
theorem M_widthAt (ok : OK S) (hF : FD h S) (hs : s < 2) (hM : MMk h s M) (hl : M.length ≤ 25) (hv : ∀ k, k < M.length → mh M k < S.1 ∧ mc M k < S.1) {k : Nat} (hk : k < M.length) (e : Int32) : sX6_widthAt h (nI s) (nI k) e = some (wv S s M k e, h) := by
  have hn := ok.1
  have hv' : ∀ k, k < M.length → mh M k < 10 ∧ mc M k < 10 := fun k hk => by have := hv k hk; omega
  obtain ⟨a1, a2, a3⟩ := hM k hk
  have v1 := hv' k hk
  have v2 := hv k hk
  unfold wv
  by_cases c : e = 0
  · simp only [sX6_widthAt, sX6_widthAt_c22, M_place, Option.bind_some, c, if_true, gd_in (show 25 * s + k < 50 by omega) (show 50 ≤ 1000 by decide), cl_n (show 25 * s + k ≤ 100000 by omega), a1, a2, M_usedk hs hM hl hv' v1.1 (Nat.le_of_lt hk), M_usedk hs hM hl hv' v1.2 (Nat.le_of_lt hk), M_width hF hn hs v2.1 v2.2]
  · simp only [sX6_widthAt, sX6_widthAt_c22, M_place, Option.bind_some, c, if_false, gd_in (show 25 * s + k < 50 by omega) (show 50 ≤ 1000 by decide), cl_n (show 25 * s + k ≤ 100000 by omega), a1, a2, a3, M_usedk hs hM hl hv' v1.1 (Nat.le_of_lt hk), M_usedk hs hM hl hv' v1.2 (Nat.le_of_lt hk), M_width hF hn hs v2.1 v2.2]
theorem M_keeps (ok : OK S) (hF : FD h S) (hs : s < 2) (hM : MMk h s M) (hl : M.length ≤ 25) (hv : ∀ k, k < M.length → mh M k < S.1 ∧ mc M k < S.1) {k : Nat} (hk : k < M.length) (e : Int32) : sX6_keeps h (nI s) (nI k) e = some ((if leI S (mh M k) (mc M k) ≤ (wv S s M k e).toInt then 1 else 0), h) := by
  have hn := ok.1
  obtain ⟨a1, a2, a3⟩ := hM k hk
  have v2 := hv k hk
  have l1 := le_bd ok v2.1 v2.2
  unfold sX6_keeps sX6_keeps_c41
  rw [bd_t M_place]
  simp only [M_widthAt ok hF hs hM hl hv hk e, Option.bind_some, gd_in (show 25 * s + k < 50 by omega) (show 50 ≤ 1000 by decide), cl_n (show 25 * s + k ≤ 100000 by omega), a1, a2, M_least hF.1 hn v2.1 v2.2, lg_lt0, l1.2.2.2]
  by_cases c : leI S (mh M k) (mc M k) ≤ (wv S s M k e).toInt
  · rw [if_neg (by omega), if_pos c]; rfl
  · rw [if_pos (by omega), if_neg c]; rfl
end Mw
