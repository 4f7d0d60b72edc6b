/-! numbers, loops, sums: words for the functions' values -/
theorem inb_n {j n : Nat} (h : j < n) (hn : n ≤ 1000) : inb (nI j) n = true := by
  unfold inb
  have := nI_in (c := j) (N := n) h (by omega)
  simp only [decide_eq_true_eq]
  exact this
theorem gd_in {β : Type} {f : Option β} {j n : Nat} (h : j < n) (hn : n ≤ 1000) : gd (inb (nI j) n) f = f := by
  rw [inb_n h hn]
  rfl
theorem gd_t {β : Type} {f : Option β} {b : Bool} (h : b = true) : gd b f = f := by
  rw [h]
  rfl
theorem bd_t {α β : Type} {o : Option α} {f : α → Option β} {a : α} (h : o = some a) : o.bind f = f a := by
  rw [h]
  rfl
theorem nm_t {α β : Type} {f : α → Option β} {a b : α} (h : a = b) : nm a f = f b := by
  rw [h]
  rfl
theorem cl_n {j : Nat} (h : j ≤ 100000) : (nI j).toNatClampNeg = j := nI_clamp (by omega)
theorem le_n {a b : Nat} (ha : a ≤ 100000) (hb : b ≤ 100000) : (nI a ≤ nI b) ↔ a ≤ b := nI_leI (by omega) (by omega)
theorem lt_n {a b : Nat} (ha : a ≤ 100000) (hb : b ≤ 100000) : (nI a < nI b) ↔ a < b := nI_ltI (by omega) (by omega)
theorem eq_n {a b : Nat} (ha : a ≤ 100000) (hb : b ≤ 100000) : (nI a = nI b) ↔ a = b := nI_eq (by omega) (by omega)
theorem nI_m1 {a : Nat} (h : 0 < a) : nI a - 1 = nI (a - 1) := by
  obtain ⟨b, rfl⟩ : ∃ b, a = b + 1 := ⟨a - 1, by omega⟩
  exact nI_pred b
theorem nI_a1 {a : Nat} (h : 0 < a) : nI a + (-1) = nI (a - 1) := by
  obtain ⟨b, rfl⟩ : ∃ b, a = b + 1 := ⟨a - 1, by omega⟩
  exact pk_m1 b
/-- an int that is in range, or not -/
theorem nI_cs (x : Int32) (n : Nat) (hn : n ≤ 100000) : (¬ (0 ≤ x ∧ x < nI n)) ∨ ∃ j : Nat, j < n ∧ x = nI j := by
  rcases pk_ix x (n := n) (by omega) with h | h | h
  · exact Or.inl (by grind)
  · exact Or.inl (by grind)
  · exact Or.inr h
theorem bmod_id {x : Int} (h1 : -2147483648 ≤ x) (h2 : x < 2147483648) : x.bmod (2 ^ 32) = x := by
  rw [Int.bmod_eq_of_le (by omega) (by omega)]
theorem bmod_id64 {x : Int} (h1 : -9223372036854775808 ≤ x) (h2 : x < 9223372036854775808) : x.bmod (2 ^ 64) = x := by
  rw [Int.bmod_eq_of_le (by omega) (by omega)]
def sI : Nat → (Nat → Int32) → Int32
  | 0, _ => 0
  | n + 1, f => sI n f + f n
theorem sI_cg {f g : Nat → Int32} : ∀ {n : Nat}, (∀ i, i < n → f i = g i) → sI n f = sI n g
  | 0, _ => rfl
  | n + 1, h => by
    show sI n f + f n = sI n g + g n
    rw [sI_cg (fun i hi => h i (by omega)), h n (by omega)]
/-- a loop that goes on from S i to S (i+1), and ends at S N -/
theorem loopG {σ β : Type} (b : Nat → σ → Option β) (S : Nat → σ) (N : Nat) (out : Option β) (hs : ∀ n i, i < N → b (n + 1) (S i) = b n (S (i + 1))) (he : ∀ n, b (n + 1) (S N) = out) : ∀ (d i n : Nat), i + d = N → d < n → b n (S i) = out
  | 0, i, n, h1, h2 => by
    obtain ⟨m, rfl⟩ : ∃ m, n = m + 1 := ⟨n - 1, by omega⟩
    have : i = N := by omega
    subst this
    exact he m
  | d + 1, i, n, h1, h2 => by
    obtain ⟨m, rfl⟩ : ∃ m, n = m + 1 := ⟨n - 1, by omega⟩
    rw [hs m i (by omega)]
    exact loopG b S N out hs he d (i + 1) m (by omega) (by omega)
theorem loop0 {σ β : Type} (b : Nat → σ → Option β) (S : Nat → σ) (N : Nat) (out : Option β) (hN : N < 1000) (hs : ∀ n i, i < N → b (n + 1) (S i) = b n (S (i + 1))) (he : ∀ n, b (n + 1) (S N) = out) : b FU (S 0) = out := loopG b S N out hs he N 0 FU (by omega) hN
/-- the same with an invariant -/
theorem loopE {σ β : Type} (b : Nat → σ → Option β) (I : Nat → σ → Prop) (N : Nat) (P : β → Prop) (hs : ∀ n i s, i < N → I i s → ∃ s', I (i + 1) s' ∧ b (n + 1) s = b n s') (he : ∀ n s, I N s → ∃ q, b (n + 1) s = some q ∧ P q) : ∀ (d i n : Nat) (s : σ), I i s → i + d = N → d < n → ∃ q, b n s = some q ∧ P q
  | 0, i, n, s, hI, h1, h2 => by
    obtain ⟨m, rfl⟩ : ∃ m, n = m + 1 := ⟨n - 1, by omega⟩
    have : i = N := by omega
    subst this
    exact he m s hI
  | d + 1, i, n, s, hI, h1, h2 => by
    obtain ⟨m, rfl⟩ : ∃ m, n = m + 1 := ⟨n - 1, by omega⟩
    obtain ⟨s', h3, h4⟩ := hs m i s (by omega) hI
    rw [h4]
    exact loopE b I N P hs he d (i + 1) m s' h3 (by omega) (by omega)
theorem loopI {σ β : Type} (b : Nat → σ → Option β) (I : Nat → σ → Prop) (N : Nat) (P : β → Prop) (hN : N < 1000) (s : σ) (h0 : I 0 s) (hs : ∀ n i s, i < N → I i s → ∃ s', I (i + 1) s' ∧ b (n + 1) s = b n s') (he : ∀ n s, I N s → ∃ q, b (n + 1) s = some q ∧ P q) : ∃ q, b FU s = some q ∧ P q := loopE b I N P hs he N 0 FU s h0 (by omega) hN
theorem rd1 {h : Hp} {c k c' k' : Nat} {v : Int32} : (u1 h c k v).1 c' k' = if c' = c ∧ k' = k then v else h.1 c' k' := by
  show (if c' = c then upd (h.1 c) k v else h.1 c') k' = _
  by_cases e1 : c' = c
  · subst e1
    rw [if_pos rfl]
    unfold upd
    by_cases e2 : k' = k
    · rw [if_pos e2, if_pos ⟨rfl, e2⟩]
    · rw [if_neg e2, if_neg (fun q => e2 q.2)]
  · rw [if_neg e1, if_neg (fun q => e1 q.1)]
theorem rd1s {h : Hp} {c k : Nat} {v : Int32} : (u1 h c k v).1 c k = v := by rw [rd1, if_pos ⟨rfl, rfl⟩]
theorem rd1c {h : Hp} {c k c' k' : Nat} {v : Int32} (hc : c' ≠ c) : (u1 h c k v).1 c' k' = h.1 c' k' := by rw [rd1, if_neg (fun q => hc q.1)]
theorem rd1k {h : Hp} {c k c' k' : Nat} {v : Int32} (hc : k' ≠ k) : (u1 h c k v).1 c' k' = h.1 c' k' := by rw [rd1, if_neg (fun q => hc q.2)]
theorem rd1l {h : Hp} {c k : Nat} {v : Int32} : (u1 h c k v).2 = h.2 := rfl
theorem rd2 {h : Hp} {c k c' k' : Nat} {v : Int64} : (u2 h c k v).2 c' k' = if c' = c ∧ k' = k then v else h.2 c' k' := by
  show (if c' = c then vp_updL (h.2 c) k v else h.2 c') k' = _
  by_cases e1 : c' = c
  · subst e1
    rw [if_pos rfl]
    unfold vp_updL
    by_cases e2 : k' = k
    · rw [if_pos e2, if_pos ⟨rfl, e2⟩]
    · rw [if_neg e2, if_neg (fun q => e2 q.2)]
  · rw [if_neg e1, if_neg (fun q => e1 q.1)]
theorem rd2l {h : Hp} {c k : Nat} {v : Int64} : (u2 h c k v).1 = h.1 := rfl
/-! the streams, as both sides have them -/
def hb (F T : Nat → Int32) (i : Nat) : Int32 := if T i < F i then 1 else 0
def lo (F T : Nat → Int32) (i : Nat) : Int32 := imin (F i) (T i)
def hi (F T : Nat → Int32) (i : Nat) : Int32 := imax (F i) (T i)
def sh (F T : Nat → Int32) (g : Int32) (i : Nat) : Int32 := if T i < F i then g else 0
def thr (n : Nat) (F T C : Nat → Int32) (g kind up low : Int32) : Int32 := sI n (fun i => if hb F T i = kind ∧ lo F T i - sh F T g i ≤ low ∧ up ≤ hi F T i - sh F T g i then C i else 0)
/-- streams within their bounds -/
def OkS (n : Nat) (F T C : Nat → Int32) (g : Int32) : Prop := n ≤ 10 ∧ (0 ≤ g ∧ g ≤ 60) ∧ ∀ i, i < n → 0 ≤ F i ∧ F i ≤ 500 ∧ 0 ≤ T i ∧ T i ≤ 500 ∧ F i ≠ T i ∧ 1 ≤ C i ∧ C i ≤ 20
/-- the reference's streams -/
def MS (h : Hp) (n : Nat) (F T C : Nat → Int32) (g : Int32) : Prop := h.1 54 7 = nI n ∧ h.1 54 11 = g ∧ ∀ i, i < n → h.1 57 i = F i ∧ h.1 58 i = T i ∧ h.1 59 i = C i
/-- the class's streams, of a Plant -/
def PS (h : Hp) (r n : Nat) (F T C : Nat → Int32) : Prop := h.1 r 4 = nI n ∧ ∀ i, i < n → h.1 (r + 1) i = hb F T i ∧ h.1 (r + 2) i = F i ∧ h.1 (r + 3) i = T i ∧ h.1 (r + 4) i = C i
theorem hb01 (F T : Nat → Int32) (i : Nat) : hb F T i = 0 ∨ hb F T i = 1 := by
  unfold hb
  split
  · exact Or.inr rfl
  · exact Or.inl rfl
section MSs
variable {h : Hp} {n : Nat} {F T C : Nat → Int32} {g : Int32} {i : Nat}
theorem M_isHot (hM : MS h n F T C g) (hn : n ≤ 10) (hi : i < n) : sX6_isHot h (nI i) = some (hb F T i, h) := by
  obtain ⟨m1, m2, m3⟩ := hM
  obtain ⟨e1, e2, e3⟩ := m3 i hi
  unfold sX6_isHot sX6_isHot_c20
  rw [gd_in (by omega) (by decide), gd_in (by omega) (by decide), cl_n (by omega), e1, e2]
  unfold hb
  by_cases c : T i < F i
  · rw [if_neg (by grind), if_pos c]; rfl
  · rw [if_pos (by grind), if_neg c]; rfl
theorem M_low (hM : MS h n F T C g) (hn : n ≤ 10) (hi : i < n) : sX6_low h (nI i) = some (lo F T i, h) := by
  obtain ⟨m1, m2, m3⟩ := hM
  obtain ⟨e1, e2, e3⟩ := m3 i hi
  unfold sX6_low
  rw [gd_in (by omega) (by decide), gd_in (by omega) (by decide), cl_n (by omega), e1, e2]
  rfl
theorem M_high (hM : MS h n F T C g) (hn : n ≤ 10) (hi' : i < n) : sX6_high h (nI i) = some (hi F T i, h) := by
  obtain ⟨m1, m2, m3⟩ := hM
  obtain ⟨e1, e2, e3⟩ := m3 i hi'
  unfold sX6_high
  rw [gd_in (by omega) (by decide), gd_in (by omega) (by decide), cl_n (by omega), e1, e2]
  rfl
theorem M_shift (hM : MS h n F T C g) (hn : n ≤ 10) (hi : i < n) : sX6_shift h (nI i) = some (sh F T g i, h) := by
  unfold sX6_shift
  rw [bd_t (M_isHot hM hn hi)]
  unfold sX6_shift_c16 sh hb
  by_cases c : T i < F i
  · simp [c, hM.2.1]
  · simp [c]
theorem M_heatOf (hM : MS h n F T C g) (hn : n ≤ 10) (hi' : i < n) : sX6_heatOf h (nI i) = some (C i * (hi F T i - lo F T i), h) := by
  unfold sX6_heatOf
  rw [gd_in (by omega) (by decide), bd_t (M_high hM hn hi'), bd_t (M_low hM hn hi'), cl_n (by omega), (hM.2.2 i hi').2.2]
theorem M_through (hM : MS h n F T C g) (hn : n ≤ 10) (k up low : Int32) : sX6_through h k up low = some (thr n F T C g k up low, h) := by
  unfold sX6_through
  refine loop0 (fun n (s : Hp × Int32 × Int32) => sX6_through_b6 n s.1 k up low s.2.1 s.2.2) (fun i => (h, sI i (fun i => if hb F T i = k ∧ lo F T i - sh F T g i ≤ low ∧ up ≤ hi F T i - sh F T g i then C i else 0), nI i)) n _ (by omega) (fun m i hi' => ?_) (fun m => ?_)
  · show sX6_through_c6 (sX6_through_b6 m) h k up low _ (nI i) = _
    unfold sX6_through_c6 sX6_through_c63 sX6_through_c64 sX6_through_c84
    have hle : ¬ nI n ≤ nI i := by rw [le_n (by omega) (by omega)]; omega
    simp only [hM.1, hle, if_false, M_isHot hM hn hi', Option.bind_some, M_low hM hn hi', M_shift hM hn hi', M_high hM hn hi', nm, nI_1, gd_in (show i < 10 by omega) (show 10 ≤ 1000 by decide), cl_n (show i ≤ 100000 by omega), (hM.2.2 i hi').2.2, sI]
    grind
  · show sX6_through_c6 (sX6_through_b6 m) h k up low _ (nI n) = _
    unfold sX6_through_c6
    rw [hM.1, if_pos (by rw [le_n (by omega) (by omega)]; omega)]
    rfl
end MSs
