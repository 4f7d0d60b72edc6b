/-! arrive -/
def cG (f : Nat → Int32) (m : Int32) : Nat → Nat
  | 0 => 0
  | k + 1 => cG f m k + (if m ≤ f k then 1 else 0)
def dsc (f : Nat → Int32) (n : Nat) : Prop := ∀ i j, i < j → j < n → f j ≤ f i
theorem cG_le {f : Nat → Int32} {m : Int32} : ∀ {k : Nat}, cG f m k ≤ k
  | 0 => Nat.le_refl 0
  | k + 1 => by
    have := cG_le (f := f) (m := m) (k := k)
    show cG f m k + (if m ≤ f k then 1 else 0) ≤ k + 1
    split <;> omega
theorem cG_all {f : Nat → Int32} {m : Int32} : ∀ {k : Nat}, (∀ j, j < k → m ≤ f j) → cG f m k = k
  | 0, _ => rfl
  | k + 1, h => by
    show cG f m k + (if m ≤ f k then 1 else 0) = k + 1
    rw [cG_all (fun j hj => h j (by omega)), if_pos (h k (by omega))]
theorem cG_i {f : Nat → Int32} {m : Int32} : ∀ {n : Nat}, dsc f n → ∀ i, i < n → (m ≤ f i ↔ i < cG f m n)
  | 0, _, i, h => absurd h (Nat.not_lt_zero i)
  | n + 1, hd, i, hi' => by
    have hd' : dsc f n := fun i j h1 h2 => hd i j h1 (by omega)
    show _ ↔ i < cG f m n + (if m ≤ f n then 1 else 0)
    by_cases c : m ≤ f n
    · have al : ∀ j, j < n → m ≤ f j := fun j hj => by have := hd j n hj (by omega); grind
      rw [if_pos c, cG_all al]
      refine ⟨fun _ => hi', fun _ => ?_⟩
      by_cases e : i = n
      · rw [e]; exact c
      · exact al i (by omega)
    · rw [if_neg c, Nat.add_zero]
      have le := cG_le (f := f) (m := m) (k := n)
      by_cases e : i = n
      · subst e
        exact ⟨fun q => absurd q c, fun q => by omega⟩
      · exact cG_i hd' i (by omega)
/-- one more comes in at place p -/
def insA (f : Nat → Int32) (p : Nat) (x : Int32) : Nat → Int32 := fun j => if j < p then f j else if j = p then x else f (j - 1)
theorem cG_cg {f g : Nat → Int32} {m : Int32} : ∀ {k : Nat}, (∀ j, j < k → f j = g j) → cG f m k = cG g m k
  | 0, _ => rfl
  | k + 1, h => by
    show cG f m k + (if m ≤ f k then 1 else 0) = cG g m k + (if m ≤ g k then 1 else 0)
    rw [cG_cg (fun j hj => h j (by omega)), h k (by omega)]
theorem insA_c {f : Nat → Int32} {p : Nat} {x m : Int32} : ∀ {d : Nat}, cG (insA f p x) m (p + d + 1) = cG f m (p + d) + (if m ≤ x then 1 else 0)
  | 0 => by
    show cG (insA f p x) m p + (if m ≤ insA f p x p then 1 else 0) = _
    rw [cG_cg (f := insA f p x) (g := f) (k := p) (fun j hj => if_pos hj)]
    unfold insA
    rw [if_neg (Nat.lt_irrefl p), if_pos rfl]
    rfl
  | d + 1 => by
    show cG (insA f p x) m (p + d + 1) + (if m ≤ insA f p x (p + d + 1) then 1 else 0) = cG f m (p + d) + (if m ≤ f (p + d) then 1 else 0) + (if m ≤ x then 1 else 0)
    rw [insA_c (d := d)]
    have : insA f p x (p + d + 1) = f (p + d) := by
      unfold insA
      rw [if_neg (by omega), if_neg (by omega)]
      rfl
    rw [this]
    omega
theorem insA_d {f : Nat → Int32} {p n : Nat} {x : Int32} (hp : p ≤ n) (hd : dsc f n) (h1 : p = 0 ∨ x ≤ f (p - 1)) (h2 : p < n → f p ≤ x) : dsc (insA f p x) (n + 1) := by
  intro i j hij hj
  have lo : ∀ i, i < p → x ≤ f i := fun i hi' => by
    rcases h1 with e | e
    · omega
    · by_cases c : i = p - 1
      · rw [c]; exact e
      · have := hd i (p - 1) (by omega) (by omega); grind
  have hi'' : ∀ i, p ≤ i → i < n → f i ≤ x := fun i h1 h3 => by
    by_cases c : i = p
    · rw [c]; exact h2 (by omega)
    · have := hd p i (by omega) h3
      have := h2 (by omega)
      grind
  unfold insA
  by_cases a : i < p
  · rw [if_pos a]
    by_cases b : j < p
    · rw [if_pos b]; exact hd i j hij (by omega)
    · rw [if_neg b]
      by_cases c : j = p
      · rw [if_pos c]; exact lo i a
      · rw [if_neg c]
        exact hd i (j - 1) (by omega) (by omega)
  · rw [if_neg a, if_neg (show ¬ j < p by omega), if_neg (show ¬ j = p by omega)]
    by_cases c : i = p
    · rw [if_pos c]; exact hi'' (j - 1) (by omega) (by omega)
    · rw [if_neg c]
      exact hd (i - 1) (j - 1) (by omega) (by omega)
/-- Hall -/
theorem hall {f g : Nat → Int32} {a b : Nat} (hf : dsc f a) (hg : dsc g b) (bf : ∀ i, i < a → 1 ≤ (f i).toInt ∧ (f i).toInt ≤ 20) (bg : ∀ i, i < b → 1 ≤ (g i).toInt) : (∀ m : Nat, 1 ≤ m → m ≤ 20 → cG f (nI m) a ≤ cG g (nI m) b) ↔ a ≤ b ∧ ∀ i, i < a → f i ≤ g i := by
  constructor
  · intro H
    have ab : a ≤ b := by
      have := H 1 (by omega) (by omega)
      rw [cG_all (k := a) (fun j hj => by rw [le_tI, tI_n (by omega)]; have := bf j hj; omega), cG_all (k := b) (fun j hj => by rw [le_tI, tI_n (by omega)]; have := bg j hj; omega)] at this
      exact this
    refine ⟨ab, fun i hi' => ?_⟩
    obtain ⟨b1, b2⟩ := bf i hi'
    have e : f i = nI (f i).toInt.toNat := by rw [eq_tI, tI_n (by omega)]; omega
    have h1 := (cG_i (m := f i) hf i hi').mp (by grind)
    have h2 := H (f i).toInt.toNat (by omega) (by omega)
    rw [← e] at h2
    exact (cG_i hg i (by omega)).mpr (by omega)
  · intro H m h1 h2
    have hle := cG_le (f := f) (m := nI m) (k := a)
    by_cases c : cG f (nI m) a = 0
    · omega
    · have k1 := (cG_i (m := nI m) hf (cG f (nI m) a - 1) (by omega)).mpr (by omega)
      have k2 := H.2 (cG f (nI m) a - 1) (by omega)
      have k3 := (cG_i (m := nI m) hg (cG f (nI m) a - 1) (by omega)).mp (by grind)
      omega
section O21
variable {h : Hp} {S : SS} {Ms : Nat → Mt} {tx : List Int32} {row : List Int64} {r s : Nat}
def cA (S : SS) (s : Nat) (k m : Int32) : Nat → Nat
  | 0 => 0
  | i + 1 => cA S s k m i + (if (0 < dg S s i ∧ nr S s i = pof S i) ∧ hb S.2.1 S.2.2.1 i = k ∧ m ≤ S.2.2.2.1 i then 1 else 0)
theorem cA_le {k m : Int32} : ∀ {i : Nat}, cA S s k m i ≤ i
  | 0 => Nat.le_refl 0
  | i + 1 => by
    have := cA_le (k := k) (m := m) (i := i)
    show cA S s k m i + (if _ then 1 else 0) ≤ i + 1
    split <;> omega
theorem S_arr (hr : ck r = 2) (hn : S.1 ≤ 10) (hD : SD h r s S) (k m : Int32) : sX2_arriving h r k m = some (nI (cA S s k m S.1), h) := by
  unfold sX2_arriving
  rw [gd_t (isC_ok hr)]
  refine loop0 (fun n (q : Int32 × Int32) => sX2_arriving_b5 n h r k m q.1 q.2) (fun i => (nI (cA S s k m i), nI i)) S.1 _ (by omega) (fun m' i hi' => ?_) (fun m' => ?_)
  · show sX2_arriving_c5 (sX2_arriving_b5 m') h r k m (nI (cA S s k m i)) (nI i) = _
    have hle : ¬ nI S.1 ≤ nI i := by rw [le_n (by omega) (by omega)]; omega
    obtain ⟨d1, d2, d3, d4, d5, d6⟩ := hD.2.2.2 i hi'
    simp only [sX2_arriving_c5, sX2_arriving_c49, hD.2.2.1, hle, if_false, gd_in (show i < 10 by omega) (show 10 ≤ 1000 by decide), cl_n (show i ≤ 100000 by omega), d1, d2, d3, nm, nI_1, cA, cm]
    by_cases c1 : 0 < dg S s i ∧ nr S s i = pof S i
    · rw [if_pos c1, if_neg (by decide)]
      by_cases c2 : hb S.2.1 S.2.2.1 i = k
      · rw [if_pos c2]
        by_cases c3 : S.2.2.2.1 i < m
        · rw [if_pos c3, if_neg (fun q => by have := q.2.2; grind)]; rfl
        · rw [if_neg c3, if_pos ⟨c1, c2, by grind⟩]
      · rw [if_neg c2, if_neg (fun q => c2 q.2.1)]; rfl
    · rw [if_neg c1, if_pos rfl, if_neg (fun q => c1 q.1)]; rfl
  · show sX2_arriving_c5 (sX2_arriving_b5 m') h r k m (nI (cA S s k m S.1)) (nI S.1) = _
    have hle : nI S.1 ≤ nI S.1 := by rw [le_n (by omega) (by omega)]; omega
    simp only [sX2_arriving_c5, hD.2.2.1, hle, if_true]
theorem S_allP (hr : ck r = 2) (hn : S.1 ≤ 10) (hD : SD h r s S) (k : Int32) : sX2_allPaired h r k = some (bI (∀ m : Fin 20, cA S s k (nI (m.val + 1)) S.1 ≤ cA S s (if k = 0 then 1 else 0) (nI (m.val + 1)) S.1), h) := by
  suffices H : ∀ d m n, m + d = 21 → d < n → 1 ≤ m → sX2_allPaired_b2 n h r k (nI m) = some (bI (∀ j : Fin 20, m ≤ j.val + 1 → cA S s k (nI (j.val + 1)) S.1 ≤ cA S s (if k = 0 then 1 else 0) (nI (j.val + 1)) S.1), h) by
    unfold sX2_allPaired
    rw [gd_t (isC_ok hr)]
    refine (H 20 1 FU (by omega) (by show 20 < 1000; omega) (by omega)).trans ?_
    congr 2
    exact bI_cg ⟨fun q m => q m (by omega), fun q m _ => q m⟩
  intro d
  induction d with
  | zero =>
    intro m n hm hn' h1
    obtain ⟨m', rfl⟩ : ∃ m, n = m + 1 := ⟨n - 1, by omega⟩
    show sX2_allPaired_c2 (sX2_allPaired_b2 m') h r k (nI m) = _
    unfold sX2_allPaired_c2
    rw [show m = 21 by omega, if_pos (by decide), show bI _ = 1 from if_pos (fun (j : Fin 20) q => by have := j.isLt; omega)]
  | succ d ih =>
    intro m n hm hn' h1
    obtain ⟨m', rfl⟩ : ∃ m, n = m + 1 := ⟨n - 1, by omega⟩
    have i1 := ih (m + 1) m' (by omega) (by omega) (by omega)
    have hle : ¬ (20 : Int32) < nI m := by show ¬ nI 20 < nI m; rw [lt_n (by omega) (by omega)]; omega
    have l1 := cA_le (S := S) (s := s) (k := k) (m := nI m) (i := S.1)
    have l2 := cA_le (S := S) (s := s) (k := if k = 0 then 1 else 0) (m := nI m) (i := S.1)
    have key : (nI (cA S s k (nI m) S.1) ≤ nI (cA S s (if k = 0 then 1 else 0) (nI m) S.1)) ↔ cA S s k (nI m) S.1 ≤ cA S s (if k = 0 then 1 else 0) (nI m) S.1 := le_n (by omega) (by omega)
    have e0 : sX2_allPaired_b2 (m' + 1) h r k (nI m) = (if nI (cA S s k (nI m) S.1) ≤ nI (cA S s (if k = 0 then 1 else 0) (nI m) S.1) then sX2_allPaired_b2 m' h r k (nI (m + 1)) else (some ((0 : Int32), h))) := by
      show sX2_allPaired_c2 (sX2_allPaired_b2 m') h r k (nI m) = _
      unfold sX2_allPaired_c2
      rw [if_neg hle, bd_t (S_arr hr hn hD k (nI m))]
      dsimp only
      by_cases c : k = 0
      · rw [if_pos c, if_pos c]
        unfold sX2_allPaired_c24
        rw [bd_t (S_arr hr hn hD 1 (nI m)), nI_1]
        rfl
      · rw [if_neg c, if_neg c]
        unfold sX2_allPaired_c24
        rw [bd_t (S_arr hr hn hD 0 (nI m)), nI_1]
        rfl
    rw [e0]
    by_cases c : cA S s k (nI m) S.1 ≤ cA S s (if k = 0 then 1 else 0) (nI m) S.1
    · rw [if_pos (key.mpr c), i1]
      congr 2
      refine bI_cg ⟨fun q j hj => ?_, fun q j hj => q j (by omega)⟩
      by_cases e : j.val + 1 = m
      · rw [e]; exact c
      · exact q j (by omega)
    · rw [if_neg (fun q => c (key.mp q)), show bI _ = 0 from bI_z.mpr (fun q => c (by have := q ⟨m - 1, by omega⟩ (by show m ≤ m - 1 + 1; omega); rw [show m - 1 + 1 = m by omega] at this; exact this))]
end O21
