/-! level -/
def eB (F T : Nat → Int32) (k t : Int32) : Nat → Int32
  | 0 => -1
  | i + 1 => if hb F T i = k then (if T i < t then imax (if F i < t then imax (eB F T k t i) (F i) else eB F T k t i) (T i) else (if F i < t then imax (eB F T k t i) (F i) else eB F T k t i)) else eB F T k t i
theorem eB_p {F T : Nat → Int32} {k t : Int32} : ∀ {n : Nat}, (eB F T k t n = -1 ∨ (eB F T k t n < t ∧ ∃ j, j < n ∧ hb F T j = k ∧ (F j = eB F T k t n ∨ T j = eB F T k t n))) ∧ (-1 ≤ eB F T k t n) ∧ ∀ j, j < n → hb F T j = k → (F j < t → F j ≤ eB F T k t n) ∧ (T j < t → T j ≤ eB F T k t n)
  | 0 => ⟨Or.inl rfl, show (-1 : Int32) ≤ -1 by decide, fun j hj => absurd hj (Nat.not_lt_zero j)⟩
  | n + 1 => by
    obtain ⟨h1, h0, h2⟩ := eB_p (F := F) (T := T) (k := k) (t := t) (n := n)
    unfold eB
    generalize eB F T k t n = v at *
    by_cases c : hb F T n = k
    · simp only [c, if_true]
      have key : ∀ w : Int32, w = (if T n < t then imax (if F n < t then imax v (F n) else v) (T n) else (if F n < t then imax v (F n) else v)) → v ≤ w ∧ (F n < t → F n ≤ w) ∧ (T n < t → T n ≤ w) ∧ (w = v ∨ (w = F n ∧ F n < t) ∨ (w = T n ∧ T n < t)) := by
        intro w hw
        unfold imax at hw
        grind
      generalize hw : (if T n < t then imax (if F n < t then imax v (F n) else v) (T n) else (if F n < t then imax v (F n) else v)) = w at *
      obtain ⟨k1, k2, k3, k4⟩ := key w rfl
      refine ⟨?_, by grind, fun j hj hk => ?_⟩
      · rcases k4 with e | ⟨e, e2⟩ | ⟨e, e2⟩
        · rw [e]
          rcases h1 with q | ⟨q, j, j1, j2, j3⟩
          · exact Or.inl q
          · exact Or.inr ⟨q, j, by omega, j2, j3⟩
        · exact Or.inr ⟨by rw [e]; exact e2, n, by omega, c, Or.inl e.symm⟩
        · exact Or.inr ⟨by rw [e]; exact e2, n, by omega, c, Or.inr e.symm⟩
      · by_cases e : j = n
        · subst e; exact ⟨k2, k3⟩
        · have := h2 j (by omega) hk
          grind
    · simp only [c, if_false]
      refine ⟨?_, h0, fun j hj hk => ?_⟩
      · rcases h1 with q | ⟨q, j, j1, j2, j3⟩
        · exact Or.inl q
        · exact Or.inr ⟨q, j, by omega, j2, j3⟩
      · by_cases e : j = n
        · subst e; exact absurd hk c
        · exact h2 j (by omega) hk
theorem sZ_str {f g : Nat → Int} {j : Nat} : ∀ {n : Nat}, (∀ i, i < n → f i ≤ g i) → j < n → f j + 1 ≤ g j → sZ n f + 1 ≤ sZ n g
  | 0, _, hj, _ => absurd hj (Nat.not_lt_zero j)
  | n + 1, h, hj, hs => by
    show sZ n f + f n + 1 ≤ sZ n g + g n
    by_cases e : j = n
    · subst e
      have := sZ_mn (n := j) (fun i hi' => h i (by omega))
      omega
    · have := sZ_str (n := n) (fun i hi' => h i (by omega)) (by omega) hs
      have := h n (by omega)
      omega
section Lv2
variable {h : Hp} {S : SS} {Ms : Nat → Mt} {tx : List Int32} {row : List Int64} {k : Int32}
theorem P_end {r n : Nat} {F T C : Nat → Int32} (hr : ck r = 1) (hP : PS h r n F T C) (hn : n ≤ 10) (k t : Int32) : sX1_endBelow h r k t = some (eB F T k t n, h) := by
  unfold sX1_endBelow
  rw [gd_t (isC_ok hr)]
  refine loop0 (fun m (s : Int32 × Int32) => sX1_endBelow_b5 m h r k t s.1 s.2) (fun i => (eB F T k t i, nI i)) n _ (by omega) (fun m i hi' => ?_) (fun m => ?_)
  · show sX1_endBelow_c5 (sX1_endBelow_b5 m) h r k t (eB F T k t i) (nI i) = sX1_endBelow_b5 m h r k t (eB F T k t (i + 1)) (nI (i + 1))
    obtain ⟨a1, a2, a3, a4⟩ := hP.2 i hi'
    have hle : ¬ nI n ≤ nI i := by rw [le_n (by omega) (by omega)]; omega
    simp only [sX1_endBelow_c5, sX1_endBelow_c51, sX1_endBelow_c78, sX1_endBelow_c79, hP.1, hle, if_false, nm, nI_1, gd_in (show i < 10 by omega) (show 10 ≤ 1000 by decide), cl_n (show i ≤ 100000 by omega), a1, a2, a3, eB]
    by_cases c : hb F T i = k
    · simp only [c, if_true]
      by_cases c1 : F i < t
      · have n1 : ¬ t ≤ F i := by grind
        by_cases c2 : T i < t
        · have n2 : ¬ t ≤ T i := by grind
          simp only [c1, c2, n1, n2, if_true, if_false]
        · have n2 : t ≤ T i := by grind
          simp only [c1, c2, n1, n2, if_true, if_false]
      · have n1 : t ≤ F i := by grind
        by_cases c2 : T i < t
        · have n2 : ¬ t ≤ T i := by grind
          simp only [c1, c2, n1, n2, if_true, if_false]
        · have n2 : t ≤ T i := by grind
          simp only [c1, c2, n1, n2, if_true, if_false]
    · simp only [c, if_false]
  · show sX1_endBelow_c5 (sX1_endBelow_b5 m) h r k t (eB F T k t n) (nI n) = _
    have hle : nI n ≤ nI n := by rw [le_n (by omega) (by omega)]; omega
    simp only [sX1_endBelow_c5, hP.1, hle, if_true]
def EndK (S : SS) (k : Int32) (e : Int) : Prop := ∃ j, j < S.1 ∧ hb S.2.1 S.2.2.1 j = k ∧ ((lo S.2.1 S.2.2.1 j).toInt = e ∨ (hi S.2.1 S.2.2.1 j).toInt = e)
def cE (S : SS) (k : Int32) (e : Int) : Int := sZ S.1 (fun i => if hb S.2.1 S.2.2.1 i = k then (if (lo S.2.1 S.2.2.1 i).toInt < e then 1 else 0) + (if (hi S.2.1 S.2.2.1 i).toInt < e then 1 else 0) else 0)
theorem cE_top (ok : OK S) (e : Int) : 0 ≤ cE S k e ∧ cE S k e ≤ 20 := by
  have hn := ok.1
  have a : cE S k e ≤ (S.1 : Int) * 2 := sZ_top (fun i _ => by split <;> (try split) <;> (try split) <;> omega)
  have b : 0 ≤ cE S k e := sZ_0 (fun i _ => by split <;> (try split) <;> (try split) <;> omega)
  omega
theorem cE_str {e e' : Int} (h1 : e' < e) (h2 : EndK S k e') : cE S k e' + 1 ≤ cE S k e := by
  obtain ⟨j, j1, j2, j3⟩ := h2
  refine sZ_str (j := j) (fun i _ => ?_) j1 ?_
  · by_cases c : hb S.2.1 S.2.2.1 i = k
    · simp only [c, if_true]
      split <;> split <;> split <;> split <;> omega
    · simp only [c, if_false]; omega
  · simp only [j2, if_true]
    split <;> split <;> split <;> split <;> omega
theorem lh_FT {F T : Nat → Int32} {j : Nat} {P : Int32 → Prop} : (P (F j) ∧ P (T j)) ↔ (P (lo F T j) ∧ P (hi F T j)) := by
  unfold lo hi imin imax
  by_cases c : T j < F j
  · have c2 : ¬ F j < T j := by grind
    rw [if_pos c, if_neg c2]; exact ⟨fun q => ⟨q.2, q.1⟩, fun q => ⟨q.2, q.1⟩⟩
  · by_cases c2 : F j < T j
    · rw [if_neg c, if_pos c2]
    · have e : F j = T j := by grind
      rw [if_neg c, if_neg c2, e]
/-- the next end below: none, or one with no other between -/
theorem eB_k (ok : OK S) (t : Int32) : (eB S.2.1 S.2.2.1 k t S.1 = -1 ∧ ∀ j, j < S.1 → hb S.2.1 S.2.2.1 j = k → t.toInt ≤ (lo S.2.1 S.2.2.1 j).toInt ∧ t.toInt ≤ (hi S.2.1 S.2.2.1 j).toInt) ∨ (EndK S k (eB S.2.1 S.2.2.1 k t S.1).toInt ∧ 0 ≤ (eB S.2.1 S.2.2.1 k t S.1).toInt ∧ (eB S.2.1 S.2.2.1 k t S.1).toInt < t.toInt ∧ (eB S.2.1 S.2.2.1 k t S.1).toInt ≤ 500 ∧ noE S k (eB S.2.1 S.2.2.1 k t S.1).toInt t.toInt) := by
  obtain ⟨h1, h0, h2⟩ := eB_p (F := S.2.1) (T := S.2.2.1) (k := k) (t := t) (n := S.1)
  generalize eB S.2.1 S.2.2.1 k t S.1 = v at *
  have h2' : ∀ j, j < S.1 → hb S.2.1 S.2.2.1 j = k → ((lo S.2.1 S.2.2.1 j).toInt < t.toInt → (lo S.2.1 S.2.2.1 j).toInt ≤ v.toInt) ∧ ((hi S.2.1 S.2.2.1 j).toInt < t.toInt → (hi S.2.1 S.2.2.1 j).toInt ≤ v.toInt) := by
    intro j hj hk
    have := (lh_FT (F := S.2.1) (T := S.2.2.1) (j := j) (P := fun x => x < t → x ≤ v)).mp (h2 j hj hk)
    exact ⟨fun q => le_tI.mp (this.1 (lt_tI.mpr q)), fun q => le_tI.mp (this.2 (lt_tI.mpr q))⟩
  rcases h1 with e | ⟨q, j, j1, j2, j3⟩
  · left
    refine ⟨e, fun j hj hk => ?_⟩
    obtain ⟨a, b⟩ := h2' j hj hk
    have L := lhI ok hj
    have m1 : v.toInt = -1 := by rw [e]; rfl
    omega
  · right
    have ej : (lo S.2.1 S.2.2.1 j).toInt = v.toInt ∨ (hi S.2.1 S.2.2.1 j).toInt = v.toInt := by
      have n : ¬ ((S.2.1 j ≠ v) ∧ (S.2.2.1 j ≠ v)) := fun z => j3.elim z.1 z.2
      have n2 : ¬ ((lo S.2.1 S.2.2.1 j ≠ v) ∧ (hi S.2.1 S.2.2.1 j ≠ v)) := fun z => n ((lh_FT (F := S.2.1) (T := S.2.2.1) (j := j) (P := fun x => x ≠ v)).mpr z)
      by_cases c : lo S.2.1 S.2.2.1 j = v
      · exact Or.inl (by rw [c])
      · by_cases c2 : hi S.2.1 S.2.2.1 j = v
        · exact Or.inr (by rw [c2])
        · exact absurd ⟨c, c2⟩ n2
    have L := lhI ok j1
    refine ⟨⟨j, j1, j2, ej⟩, by omega, lt_tI.mp q, by omega, fun i hi' hk => ?_⟩
    obtain ⟨a, b⟩ := h2' i hi' hk
    omega
theorem cZ_neg (ok : OK S) {b : Int} : cZ S k (-1) b = 0 := by
  have : cZ S k (-1) b = sZ S.1 (fun _ => 0) := sZ_cg (fun i hi' => if_neg (fun q => by have := lhI ok hi'; omega))
  rw [this]
  clear this
  generalize S.1 = n
  induction n with
  | zero => rfl
  | succ n ih => show sZ n (fun _ => 0) + 0 = 0; omega
def Lev (S : SS) (k : Int32) (q m : Int) : Prop := 1 ≤ m ∧ m ≤ 500 ∧ q ≤ hZ S k (m - 1) ∧ hZ S k m < q
theorem Lev_u (ok : OK S) {q m m' : Int} (h1 : Lev S k q m) (h2 : Lev S k q m') : m = m' := by
  rcases Int.lt_trichotomy m m' with c | c | c
  · have := h_mono (k := k) ok (show m ≤ m' - 1 by omega)
    have := h1.2.2.2
    have := h2.2.2.1
    omega
  · exact c
  · have := h_mono (k := k) ok (show m' ≤ m - 1 by omega)
    have := h2.2.2.2
    have := h1.2.2.1
    omega
theorem Lev_0 (ok : OK S) {q m : Int} (h1 : Lev S k q m) : q ≤ hZ S k 0 := by
  have := h_mono (k := k) ok (show 0 ≤ m - 1 by have := h1.1; omega)
  have := h1.2.2.1
  omega
theorem Lev_f {q : Int} : ∀ (d : Nat) (a : Int), 0 ≤ a → a + d ≤ 500 → q ≤ hZ S k a → hZ S k (a + d) < q → ∃ m, Lev S k q m ∧ a < m ∧ m ≤ a + d
  | 0, a, h0, h1, h2, h3 => by rw [show a + ((0 : Nat) : Int) = a by omega] at h3; omega
  | d + 1, a, h0, h1, h2, h3 => by
    by_cases c : q ≤ hZ S k (a + 1)
    · obtain ⟨m, m1, m2, m3⟩ := Lev_f d (a + 1) (by omega) (by omega) c (by rw [show a + 1 + (d : Int) = a + ((d + 1 : Nat) : Int) by omega]; exact h3)
      exact ⟨m, m1, by omega, by omega⟩
    · exact ⟨a + 1, ⟨by omega, by omega, by rw [show a + 1 - 1 = a by omega]; exact h2, by omega⟩, by omega, by omega⟩
end Lv2
