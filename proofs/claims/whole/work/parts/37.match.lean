/-! matches -/
abbrev Mt : Type := List (Nat × Nat × Int32)
def mh (M : Mt) (k : Nat) : Nat := (M.getD k (0, 0, 0)).1
def mc (M : Mt) (k : Nat) : Nat := (M.getD k (0, 0, 0)).2.1
def ml (M : Mt) (k : Nat) : Int32 := (M.getD k (0, 0, 0)).2.2
def sZ : Nat → (Nat → Int) → Int
  | 0, _ => 0
  | n + 1, f => sZ n f + f n
theorem sZ_cg {f g : Nat → Int} : ∀ {n : Nat}, (∀ i, i < n → f i = g i) → sZ n f = sZ n g
  | 0, _ => rfl
  | n + 1, h => by
    show sZ n f + f n = sZ n g + g n
    rw [sZ_cg (fun i hi => h i (by omega)), h n (by omega)]
theorem sZ_0 {f : Nat → Int} : ∀ {n : Nat}, (∀ i, i < n → 0 ≤ f i) → 0 ≤ sZ n f
  | 0, _ => Int.le_refl 0
  | n + 1, h => by
    have h1 := sZ_0 (n := n) (fun i hi => h i (by omega))
    have h2 := h n (by omega)
    show 0 ≤ sZ n f + f n
    omega
theorem sZ_mono {f : Nat → Int} {k : Nat} : ∀ {n : Nat}, k ≤ n → (∀ i, i < n → 0 ≤ f i) → sZ k f ≤ sZ n f
  | 0, hk, _ => by have : k = 0 := by omega
                   subst this; exact Int.le_refl _
  | n + 1, hk, h => by
    have h2 := h n (by omega)
    show sZ k f ≤ sZ n f + f n
    by_cases e : k = n + 1
    · subst e; show sZ n f + f n ≤ _; omega
    · have h1 := sZ_mono (n := n) (k := k) (f := f) (by omega) (fun i hi => h i (by omega))
      omega
theorem sI_sZ {f : Nat → Int32} : ∀ {n : Nat}, (∀ i, i < n → 0 ≤ (f i).toInt) → sZ n (fun i => (f i).toInt) ≤ 1000000000 → (sI n f).toInt = sZ n (fun i => (f i).toInt)
  | 0, _, _ => rfl
  | n + 1, h1, h2 => by
    have h3 : sZ n (fun i => (f i).toInt) + (f n).toInt ≤ 1000000000 := h2
    have h4 := h1 n (by omega)
    have h5 := sZ_0 (n := n) (f := fun i => (f i).toInt) (fun i hi => h1 i (by omega))
    have ih := sI_sZ (n := n) (fun i hi => h1 i (by omega)) (by omega)
    show (sI n f + f n).toInt = sZ n (fun i => (f i).toInt) + (f n).toInt
    rw [tI_add (by omega) (by omega), ih]
def us (M : Mt) (k i : Nat) : Int32 := sI k (fun j => if mh M j = i ∨ mc M j = i then ml M j else 0)
def uz (M : Mt) (k i : Nat) : Int := sZ k (fun j => if mh M j = i ∨ mc M j = i then (ml M j).toInt else 0)
/-- widths, times both capacities; what is least -/
def unI (S : SS) (a b : Nat) : Int := (S.2.2.2.1 a).toInt * (S.2.2.2.1 b).toInt
def upI (s : Nat) : Int := if s = 0 then 1 else -1
def wI (S : SS) (s a b : Nat) (x y : Int) : Int := ((nr S s a).toInt - (nr S s b).toInt) * unI S a b + upI s * (x * (S.2.2.2.1 b).toInt - y * (S.2.2.2.1 a).toInt)
def leI (S : SS) (a b : Nat) : Int := (S.2.2.2.2).toInt * unI S a b
/-- a hot and a cold stream with heat on a side -/
def Pr (S : SS) (s a b : Nat) : Prop := a < S.1 ∧ b < S.1 ∧ hb S.2.1 S.2.2.1 a = 1 ∧ hb S.2.1 S.2.2.1 b = 0 ∧ 0 < dg S s a ∧ 0 < dg S s b
/-- matches that may stand: streams with heat there, loads from 1 on and no more than the heat, the gap kept -/
def VM (S : SS) (s : Nat) (M : Mt) : Prop := M.length ≤ 24 ∧ (∀ k, k < M.length → Pr S s (mh M k) (mc M k) ∧ 1 ≤ (ml M k).toInt) ∧ (∀ i, i < S.1 → uz M M.length i ≤ (ht S s i).toInt) ∧ ∀ k, k < M.length → leI S (mh M k) (mc M k) ≤ wI S s (mh M k) (mc M k) (uz M k (mh M k)) (uz M k (mc M k)) ∧ leI S (mh M k) (mc M k) ≤ wI S s (mh M k) (mc M k) (uz M k (mh M k) + (ml M k).toInt) (uz M k (mc M k) + (ml M k).toInt)
/-- the class's matches of a side -/
def XM (h : Hp) (r : Nat) (S : SS) (M : Mt) : Prop := h.1 r 14 = nI M.length ∧ (∀ k, k < M.length → h.1 (r + 8) k = nI (mh M k) ∧ h.1 (r + 9) k = nI (mc M k) ∧ h.1 (r + 10) k = ml M k) ∧ ∀ i, i < S.1 → h.1 (r + 7) i = us M M.length i
/-- the reference's -/
def MM (h : Hp) (s : Nat) (M : Mt) : Prop := h.1 67 s = nI M.length ∧ ∀ k, k < M.length → h.1 68 (25 * s + k) = nI (mh M k) ∧ h.1 69 (25 * s + k) = nI (mc M k) ∧ h.1 70 (25 * s + k) = ml M k
def rs (S : SS) (s : Nat) (M : Mt) (i : Nat) : Int32 := ht S s i - us M M.length i
theorem tI0 : (0 : Int32).toInt = 0 := rfl
theorem nr_bd {S : SS} (ok : OK S) {s i : Nat} (hi' : i < S.1) : -60 ≤ (nr S s i).toInt ∧ (nr S s i).toInt ≤ 560 := by
  have h1 := lohi ok hi'
  have h2 := sh_bd ok i
  have h3 := pin_bd ok
  have h4 : -60 ≤ nr S s i ∧ nr S s i ≤ 560 := by
    unfold nr pof pinS imax imin
    by_cases c : s = 0
    · simp only [if_pos c]; grind
    · simp only [if_neg c]; grind
  rw [le_tI, le_tI] at h4
  exact h4
theorem dg_bd {S : SS} (ok : OK S) {s i : Nat} (hi' : i < S.1) : (dg S s i).toInt ≤ 560 := by
  have h1 := lohi ok hi'
  have h5 := nr_bd ok (s := s) hi'
  have e1 : (fr S s i).toInt = if s = 0 then (hi S.2.1 S.2.2.1 i).toInt else (lo S.2.1 S.2.2.1 i).toInt := by unfold fr; split <;> rfl
  obtain ⟨q1, q2, q3⟩ := h1
  rw [le_tI] at q1 q3
  rw [lt_tI] at q2
  have e5 : (500 : Int32).toInt = 500 := rfl
  rw [tI0] at q1
  rw [e5] at q3
  unfold dg
  by_cases c : s = 0
  · rw [if_pos c] at e1 ⊢
    rw [tI_sub (by omega) (by omega)]
    omega
  · rw [if_neg c] at e1 ⊢
    rw [tI_sub (by omega) (by omega)]
    omega
theorem ht_bd {S : SS} (ok : OK S) {s i : Nat} (hi' : i < S.1) : 0 ≤ (ht S s i).toInt ∧ (ht S s i).toInt ≤ 11200 ∧ (0 < ht S s i ↔ 0 < dg S s i) ∧ (ht S s i ≤ 0 ↔ ¬ 0 < dg S s i) := by
  have h1 := C20 ok hi'
  have h2 := dg_bd ok (s := s) hi'
  rw [ht_i]
  by_cases c : 0 < dg S s i
  · rw [if_pos c]
    have c' := c
    rw [lt_tI, tI0] at c'
    have h3 := mul_bd (x := (S.2.2.2.1 i).toInt) (y := (dg S s i).toInt) (a := 20) (b := 560) (by omega) (by omega)
    have h4 : 0 < (S.2.2.2.1 i).toInt * (dg S s i).toInt := Int.mul_pos (by omega) (by omega)
    have e : (S.2.2.2.1 i * dg S s i).toInt = (S.2.2.2.1 i).toInt * (dg S s i).toInt := tI_mul (by omega) (by omega)
    rw [lt_tI, le_tI, e, tI0]
    refine ⟨by omega, by omega, ?_, ?_⟩
    · simp [c]; omega
    · simp [c]; omega
  · rw [if_neg c]
    refine ⟨Int.le_refl 0, by decide, ?_, ?_⟩
    · simp [c]
    · simp [c]
theorem OK.g {S : SS} (ok : OK S) : 0 ≤ (S.2.2.2.2).toInt ∧ (S.2.2.2.2).toInt ≤ 60 := by
  obtain ⟨h1, h2⟩ := ok.2.1
  rw [le_tI] at h1 h2
  exact ⟨h1, h2⟩
theorem uz_0 {M : Mt} (hl : ∀ k, k < M.length → 1 ≤ (ml M k).toInt) (i : Nat) {k : Nat} (hk : k ≤ M.length) : 0 ≤ uz M k i ∧ uz M k i ≤ uz M M.length i := by
  have h0 : ∀ j, j < M.length → 0 ≤ (if mh M j = i ∨ mc M j = i then (ml M j).toInt else 0 : Int) := by
    intro j hj
    have := hl j hj
    split <;> omega
  exact ⟨sZ_0 (fun j hj => h0 j (by omega)), sZ_mono hk h0⟩
theorem us_uz {M : Mt} (hl : ∀ k, k < M.length → 1 ≤ (ml M k).toInt) {i : Nat} (hb : uz M M.length i ≤ 100000) {k : Nat} (hk : k ≤ M.length) : (us M k i).toInt = uz M k i := by
  have h1 := uz_0 hl i hk
  have e : uz M k i = sZ k (fun j => (if mh M j = i ∨ mc M j = i then ml M j else 0 : Int32).toInt) := by
    refine sZ_cg (fun j hj => ?_)
    split <;> rfl
  unfold us
  rw [sI_sZ, ← e]
  · intro j hj
    have := hl j (by omega)
    split
    · omega
    · exact Int.le_refl 0
  · rw [← e]; omega
theorem VM.us {S : SS} {s : Nat} {M : Mt} (ok : OK S) (v : VM S s M) {i : Nat} (hi' : i < S.1) {k : Nat} (hk : k ≤ M.length) : (us M k i).toInt = uz M k i ∧ 0 ≤ uz M k i ∧ uz M k i ≤ (ht S s i).toInt ∧ uz M k i ≤ 11200 := by
  have h1 := v.2.2.1 i hi'
  have h2 := ht_bd ok (s := s) hi'
  have h3 := uz_0 (fun k hk => (v.2.1 k hk).2) i hk
  refine ⟨us_uz (fun k hk => (v.2.1 k hk).2) (by omega) hk, by omega, by omega, by omega⟩
theorem VM.rst {S : SS} {s : Nat} {M : Mt} (ok : OK S) (v : VM S s M) {i : Nat} (hi' : i < S.1) : (rs S s M i).toInt = (ht S s i).toInt - uz M M.length i ∧ 0 ≤ (rs S s M i).toInt ∧ (rs S s M i).toInt ≤ 11200 := by
  have h1 := v.us ok hi' (Nat.le_refl _)
  have h2 := ht_bd ok (s := s) hi'
  unfold rs
  rw [tI_sub (by omega) (by omega)]
  omega
/-! the same, in the two programs -/
theorem XM.fr {W : List (Nat × Option Nat)} {Z : List Nat} {h h' : Hp} {r : Nat} {S : SS} {M : Mt} (hX : XM h r S M) (R : Fr W Z h h') (hw : ∀ w ∈ W, w.1 < r ∨ r + 10 < w.1 ∨ (r < w.1 ∧ w.1 < r + 7) ∨ (w.1 = r ∧ ∃ k, w.2 = some k ∧ k ≠ 14)) : XM h' r S M := by
  have key : ∀ c k, r + 7 ≤ c → c ≤ r + 10 → h'.1 c k = h.1 c k := fun c k h1 h2 => R.1 c k (fun q => by have := hw _ q; simp at this; omega) (fun q => by have := hw _ q; simp at this; omega)
  have key0 : h'.1 r 14 = h.1 r 14 := R.1 r 14 (fun q => by have := hw _ q; simp at this; omega) (fun q => by have := hw _ q; simp at this; omega)
  obtain ⟨p1, p2, p3⟩ := hX
  refine ⟨key0.trans p1, fun k hk => ?_, fun i hi => (key _ i (by omega) (by omega)).trans (p3 i hi)⟩
  obtain ⟨a1, a2, a3⟩ := p2 k hk
  exact ⟨(key _ k (by omega) (by omega)).trans a1, (key _ k (by omega) (by omega)).trans a2, (key _ k (by omega) (by omega)).trans a3⟩
theorem MM.fr {W : List (Nat × Option Nat)} {Z : List Nat} {h h' : Hp} {s : Nat} {M : Mt} (hX : MM h s M) (R : Fr W Z h h') (hw : W.all (fun w => w.1 != 67 && w.1 != 68 && w.1 != 69 && w.1 != 70) = true) : MM h' s M := by
  have key : ∀ c, (c = 67 ∨ c = 68 ∨ c = 69 ∨ c = 70) → ∀ k, h'.1 c k = h.1 c k := fun c hc k => R.c (List.all_eq_true.mpr (fun w h => by
    have := List.all_eq_true.mp hw w h
    simp at this
    rcases hc with rfl | rfl | rfl | rfl <;> simp <;> omega)) k
  obtain ⟨p1, p2⟩ := hX
  refine ⟨(key 67 (by simp) s).trans p1, fun k hk => ?_⟩
  obtain ⟨a1, a2, a3⟩ := p2 k hk
  exact ⟨(key 68 (by simp) _).trans a1, (key 69 (by simp) _).trans a2, (key 70 (by simp) _).trans a3⟩
theorem MQS.fr {W : List (Nat × Option Nat)} {Z : List Nat} {h h' : Hp} {S : SS} (hM : MQS h S) (R : Fr W Z h h') (hw : W.all (fun w => w.1 != 57 && w.1 != 58 && w.1 != 59 && (w.1 != 54 || (w.2 != none && w.2 != some 7 && w.2 != some 11))) = true) : MQS h' S := MS.fr hM R hw
theorem M_place {h : Hp} {s k : Nat} : sX6_place h (nI s) (nI k) = some (nI (25 * s + k), h) := by
  unfold sX6_place
  rw [show (25 : Int32) = nI 25 from rfl, pk_mul, nI_add]
section Mu
variable {h : Hp} {S : SS} {s : Nat} {M : Mt}
theorem M_used (hs : s < 2) (hM : MM h s M) (hl : M.length ≤ 24) (hv : ∀ k, k < M.length → mh M k < 10 ∧ mc M k < 10) {i : Nat} (hi' : i < 10) {k : Nat} (hk : k ≤ M.length) : sX6_used h (nI s) (nI i) (nI k) = some (us M k i, h) := by
  unfold sX6_used
  refine loop0 (fun n (q : Int32 × Int32) => sX6_used_b6 n h (nI s) (nI i) (nI k) q.1 q.2) (fun j => (us M j i, nI j)) k _ (by omega) (fun m j hj => ?_) (fun m => ?_)
  · show sX6_used_c6 (sX6_used_b6 m) h (nI s) (nI i) (nI k) (us M j i) (nI j) = _
    have hle : ¬ nI k ≤ nI j := by rw [le_n (by omega) (by omega)]; omega
    obtain ⟨a1, a2, a3⟩ := hM.2 j (by omega)
    obtain ⟨v1, v2⟩ := hv j (by omega)
    have e1 : nI (mh M j) = nI i ↔ mh M j = i := eq_n (by omega) (by omega)
    have e2 : nI (mc M j) = nI i ↔ mc M j = i := eq_n (by omega) (by omega)
    simp only [sX6_used_c6, sX6_used_c44, sX6_used_c55, hle, if_false, M_place, Option.bind_some, gd_in (show 25 * s + j < 50 by omega) (show 50 ≤ 1000 by decide), cl_n (show 25 * s + j ≤ 100000 by omega), a1, a2, a3, e1, e2, nm, nI_1, us, sI]
    grind
  · show sX6_used_c6 (sX6_used_b6 m) h (nI s) (nI i) (nI k) (us M k i) (nI k) = _
    have hle : nI k ≤ nI k := by rw [le_n (by omega) (by omega)]; omega
    simp only [sX6_used_c6, hle, if_true]
theorem M_rest (ok : OK S) (hs : s < 2) (hF : FD h S) (hM : MM h s M) (hl : M.length ≤ 24) (hv : ∀ k, k < M.length → mh M k < 10 ∧ mc M k < 10) {i : Nat} (hi' : i < S.1) : sX6_rest h (nI s) (nI i) = some (rs S s M i, h) := by
  have hn := ok.1
  simp only [sX6_rest, M_heat hF hn hs hi', Option.bind_some, gd_in (show s < 2 by omega) (show 2 ≤ 1000 by decide), cl_n (show s ≤ 100000 by omega), hM.1, M_used hs hM hl hv (show i < 10 by omega) (Nat.le_refl _)]
  rfl
theorem VM.lt {S : SS} {s : Nat} {M : Mt} (ok : OK S) (v : VM S s M) : ∀ k, k < M.length → mh M k < 10 ∧ mc M k < 10 := fun k hk => by
  have hn := ok.1
  obtain ⟨⟨h1, h2, -⟩, -⟩ := v.2.1 k hk
  omega
end Mu
section Xu
variable {h : Hp} {S : SS} {r s : Nat} {M : Mt}
theorem S_sum (hr : ck r = 2) {ac : Nat} (hac : ck ac = 10 ∧ an ac = 24) (hM : XM h r S M) (hl : M.length ≤ 24) (hv : ∀ k, k < M.length → mh M k < 10 ∧ mc M k < 10) {i : Nat} (hi' : i < 10) {k : Nat} (hk : k ≤ M.length) : sX2_sumAhead h r ac (nI k) (nI i) = some (sI k (fun j => if mh M j = i ∨ mc M j = i then h.1 ac j else 0), h) := by
  unfold sX2_sumAhead
  rw [gd_t (isC_ok hr), gd_t (show isA ac 10 24 = true from decide_eq_true hac)]
  refine loop0 (fun n (q : Int32 × Int32) => sX2_sumAhead_b6 n h r ac (nI k) (nI i) q.1 q.2) (fun j => (sI j (fun j => if mh M j = i ∨ mc M j = i then h.1 ac j else 0), nI j)) k _ (by omega) (fun m j hj => ?_) (fun m => ?_)
  · show sX2_sumAhead_c6 (sX2_sumAhead_b6 m) h r ac (nI k) (nI i) _ (nI j) = _
    have hle : ¬ nI k ≤ nI j := by rw [le_n (by omega) (by omega)]; omega
    obtain ⟨a1, a2, a3⟩ := hM.2.1 j (by omega)
    obtain ⟨v1, v2⟩ := hv j (by omega)
    have e1 : nI (mh M j) = nI i ↔ mh M j = i := eq_n (by omega) (by omega)
    have e2 : nI (mc M j) = nI i ↔ mc M j = i := eq_n (by omega) (by omega)
    simp only [sX2_sumAhead_c6, sX2_sumAhead_c34, sX2_sumAhead_c43, hle, if_false, gd_in (show j < 24 by omega) (show 24 ≤ 1000 by decide), cl_n (show j ≤ 100000 by omega), a1, a2, e1, e2, nm, nI_1, sI]
    grind
  · show sX2_sumAhead_c6 (sX2_sumAhead_b6 m) h r ac (nI k) (nI i) _ (nI k) = _
    have hle : nI k ≤ nI k := by rw [le_n (by omega) (by omega)]; omega
    simp only [sX2_sumAhead_c6, hle, if_true]
theorem S_sumL (hr : ck r = 2) (hM : XM h r S M) (hl : M.length ≤ 24) (hv : ∀ k, k < M.length → mh M k < 10 ∧ mc M k < 10) {i : Nat} (hi' : i < 10) {k : Nat} (hk : k ≤ M.length) : sX2_sumAhead h r (r + 10) (nI k) (nI i) = some (us M k i, h) := by
  rw [S_sum hr (akX2_10 hr) hM hl hv hi' hk]
  congr 2
  refine sI_cg (fun j hj => ?_)
  rw [(hM.2.1 j (by omega)).2.2]
theorem S_rest (hr : ck r = 2) (hn : S.1 ≤ 10) (hD : SD h r s S) (hM : XM h r S M) {i : Nat} (hi' : i < S.1) : sX2_rest h r (nI i) = some (rs S s M i, h) := by
  simp only [sX2_rest, gd_t (isC_ok hr), gd_in (show i < 10 by omega) (show 10 ≤ 1000 by decide), cl_n (show i ≤ 100000 by omega), (hD.2.2.2 i hi').2.2.2.2.2, hM.2.2 i hi']
  rfl
end Xu
