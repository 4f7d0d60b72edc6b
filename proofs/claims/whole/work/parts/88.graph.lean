/-! loop: how far streams are from the hot one of a match, without it -/
section O35
variable {M : Mt} {i : Nat}
def jn (M : Mt) (i k x y : Nat) : Prop := k < M.length ∧ k ≠ i ∧ ((mh M k = x ∧ mc M k = y) ∨ (mc M k = x ∧ mh M k = y))
def rch (M : Mt) (i : Nat) : Nat → Nat → Prop
  | 0, x => x = mh M i
  | t + 1, x => rch M i t x ∨ ∃ k y, jn M i k x y ∧ rch M i t y
def dst (M : Mt) (i t x : Nat) : Prop := rch M i t x ∧ ∀ b, b < t → ¬ rch M i b x
theorem jn_sym {k x y : Nat} (h : jn M i k x y) : jn M i k y x := ⟨h.1, h.2.1, h.2.2.elim (fun q => Or.inr ⟨q.2, q.1⟩) (fun q => Or.inl ⟨q.2, q.1⟩)⟩
theorem rch_up {t x : Nat} (h : rch M i t x) : ∀ {d : Nat}, rch M i (t + d) x
  | 0 => h
  | d + 1 => Or.inl (rch_up h (d := d))
theorem rch_le {t u x : Nat} (h : rch M i t x) (hle : t ≤ u) : rch M i u x := by
  obtain ⟨d, rfl⟩ : ∃ d, u = t + d := ⟨u - t, by omega⟩
  exact rch_up h
theorem rch_jn {t k x y : Nat} (hj : jn M i k x y) (h : rch M i t y) : rch M i (t + 1) x := Or.inr ⟨k, y, hj, h⟩
theorem rch_dst : ∀ {t x : Nat}, rch M i t x → ∃ a, a ≤ t ∧ dst M i a x
  | 0, x, h => ⟨0, Nat.le_refl _, h, fun b hb' => absurd hb' (Nat.not_lt_zero b)⟩
  | t + 1, x, h => by
    by_cases c : rch M i t x
    · obtain ⟨a, a1, a2⟩ := rch_dst c
      exact ⟨a, by omega, a2⟩
    · exact ⟨t + 1, Nat.le_refl _, h, fun b hb' q => c (rch_le q (by omega))⟩
theorem dst_u {a b x : Nat} (h1 : dst M i a x) (h2 : dst M i b x) : a = b := by
  rcases Nat.lt_trichotomy a b with c | c | c
  · exact absurd h1.1 (h2.2 a c)
  · exact c
  · exact absurd h2.1 (h1.2 b c)
theorem dst_0 {x : Nat} : dst M i 0 x ↔ x = mh M i := ⟨fun h => h.1, fun h => ⟨h, fun b hb' => absurd hb' (Nat.not_lt_zero b)⟩⟩
theorem dst_of {r k x y : Nat} (h : dst M i (r + 1) x) (hj : jn M i k x y) (hr : rch M i r y) : dst M i r y := ⟨hr, fun b hb' q => h.2 (b + 1) (by omega) (rch_jn hj q)⟩
theorem dst_pr {t x : Nat} (h : dst M i (t + 1) x) : ∃ k y, jn M i k x y ∧ dst M i t y := by
  rcases h.1 with q | ⟨k, y, hj, hr⟩
  · exact absurd q (h.2 t (by omega))
  · exact ⟨k, y, hj, dst_of h hj hr⟩
theorem dst_ch : ∀ {a x : Nat}, dst M i a x → ∀ t, t ≤ a → ∃ y, dst M i t y
  | 0, x, h, t, ht' => ⟨x, by rw [show t = 0 by omega]; exact h⟩
  | a + 1, x, h, t, ht' => by
    by_cases e : t = a + 1
    · exact ⟨x, by rw [e]; exact h⟩
    · obtain ⟨k, y, hj, hy⟩ := dst_pr h
      exact dst_ch hy t (by omega)
theorem rch_lt {n : Nat} (hi' : i < M.length) (hv : ∀ k, k < M.length → mh M k < n ∧ mc M k < n) : ∀ {t x : Nat}, rch M i t x → x < n
  | 0, x, h => by
    have h : x = mh M i := h
    rw [h]; exact (hv i hi').1
  | t + 1, x, h => by
    rcases h with q | ⟨k, y, hj, hr⟩
    · exact rch_lt hi' hv q
    · rcases hj.2.2 with q | q
      · rw [← q.1]; exact (hv k hj.1).1
      · rw [← q.1]; exact (hv k hj.1).2
/-- as many as can be told apart -/
theorem pgh : ∀ {n N : Nat} {R : Nat → Nat → Prop}, (∀ k t u, R k t → R k u → t = u) → (∀ t, t < N → ∃ k, k < n ∧ R k t) → N ≤ n
  | 0, N, R, hf, h => by
    by_cases c : 0 < N
    · obtain ⟨k, hk, _⟩ := h 0 c
      exact absurd hk (Nat.not_lt_zero k)
    · omega
  | n + 1, N, R, hf, h => by
    by_cases c : ∃ v, v < N ∧ R n v
    · obtain ⟨v, v1, v2⟩ := c
      have := pgh (n := n) (N := N - 1) (R := fun k t => t < N - 1 ∧ ((t ≠ v ∧ R k t) ∨ (t = v ∧ R k (N - 1)))) (fun k t u p q => by
        obtain ⟨p1, p2⟩ := p
        obtain ⟨q1, q2⟩ := q
        rcases p2 with ⟨p2, p3⟩ | ⟨p2, p3⟩ <;> rcases q2 with ⟨q2, q3⟩ | ⟨q2, q3⟩
        · exact hf k t u p3 q3
        · have := hf k t (N - 1) p3 q3; omega
        · have := hf k u (N - 1) q3 p3; omega
        · omega) (fun t ht' => by
        by_cases e : t = v
        · obtain ⟨k, k1, k2⟩ := h (N - 1) (by omega)
          have : k ≠ n := fun q => by
            rw [q] at k2
            have := hf n v (N - 1) v2 k2
            omega
          exact ⟨k, by omega, ht', Or.inr ⟨e, k2⟩⟩
        · obtain ⟨k, k1, k2⟩ := h t (by omega)
          have : k ≠ n := fun q => by
            rw [q] at k2
            exact e (hf n t v k2 v2)
          exact ⟨k, by omega, ht', Or.inl ⟨e, k2⟩⟩)
      omega
    · have := pgh (n := n) (N := N) (R := R) hf (fun t ht' => by
        obtain ⟨k, k1, k2⟩ := h t ht'
        have : k ≠ n := fun q => c ⟨t, ht', by rw [← q]; exact k2⟩
        exact ⟨k, by omega, k2⟩)
      omega
theorem dst_lt {n a x : Nat} (hi' : i < M.length) (hv : ∀ k, k < M.length → mh M k < n ∧ mc M k < n) (h : dst M i a x) : a < n := by
  have := pgh (n := n) (N := a + 1) (R := fun y t => dst M i t y) (fun k t u p q => dst_u p q) (fun t ht' => by
    obtain ⟨y, hy⟩ := dst_ch h t (by omega)
    exact ⟨y, rch_lt hi' hv hy.1, hy⟩)
  omega
theorem dst_len {d x : Nat} (hi' : i < M.length) (h : dst M i d x) : d + 1 ≤ M.length := by
  refine pgh (n := M.length) (N := d + 1) (R := fun k t => (k = i ∧ t = 0) ∨ (k ≠ i ∧ 1 ≤ t ∧ ((dst M i t (mh M k) ∧ dst M i (t - 1) (mc M k)) ∨ (dst M i t (mc M k) ∧ dst M i (t - 1) (mh M k))))) (fun k t u p q => ?_) (fun t ht' => ?_)
  · rcases p with ⟨p1, p2⟩ | ⟨p1, p2, p3⟩ <;> rcases q with ⟨q1, q2⟩ | ⟨q1, q2, q3⟩
    · omega
    · exact absurd p1 q1
    · exact absurd q1 p1
    · rcases p3 with ⟨a1, a2⟩ | ⟨a1, a2⟩ <;> rcases q3 with ⟨b1, b2⟩ | ⟨b1, b2⟩
      · exact dst_u a1 b1
      · have := dst_u a1 b2
        have := dst_u a2 b1
        omega
      · have := dst_u a1 b2
        have := dst_u a2 b1
        omega
      · exact dst_u a1 b1
  · by_cases e : t = 0
    · exact ⟨i, hi', Or.inl ⟨rfl, e⟩⟩
    · obtain ⟨y, hy⟩ := dst_ch h t (by omega)
      obtain ⟨u, rfl⟩ : ∃ u, t = u + 1 := ⟨t - 1, by omega⟩
      obtain ⟨k, z, hj, hz⟩ := dst_pr hy
      refine ⟨k, hj.1, Or.inr ⟨hj.2.1, by omega, ?_⟩⟩
      rcases hj.2.2 with ⟨e1, e2⟩ | ⟨e1, e2⟩
      · left; rw [e1, e2]; exact ⟨hy, hz⟩
      · right; rw [e1, e2]; exact ⟨hy, hz⟩
theorem dst_par {P : Nat → Prop} (hP : ∀ k, k < M.length → P (mh M k) ∧ ¬ P (mc M k)) (hi' : i < M.length) : ∀ {t x : Nat}, dst M i t x → (P x ↔ t % 2 = 0)
  | 0, x, h => by
    rw [dst_0.mp h]
    exact ⟨fun _ => rfl, fun _ => (hP i hi').1⟩
  | t + 1, x, h => by
    obtain ⟨k, y, hj, hy⟩ := dst_pr h
    have ih := dst_par hP hi' hy
    have pk := hP k hj.1
    rcases hj.2.2 with ⟨e1, e2⟩ | ⟨e1, e2⟩
    · rw [e1, e2] at pk
      have : ¬ t % 2 = 0 := fun q => pk.2 (ih.mpr q)
      exact ⟨fun _ => by omega, fun _ => pk.1⟩
    · rw [e1, e2] at pk
      have : t % 2 = 0 := ih.mp pk.1
      exact ⟨fun q => absurd q pk.2, fun q => by omega⟩
/-- the first match by which one comes nearer -/
def isF (M : Mt) (i x t k : Nat) : Prop := (∃ y, jn M i k x y ∧ dst M i t y) ∧ ∀ j, j < k → ¬ ∃ y, jn M i j x y ∧ dst M i t y
theorem isF_ex {x t k : Nat} (h : ∃ y, jn M i k x y ∧ dst M i t y) : ∃ m, isF M i x t m := by
  suffices H : ∀ k, (∃ y, jn M i k x y ∧ dst M i t y) → ∃ m, isF M i x t m from H k h
  intro k
  induction k using Nat.strongRecOn with
  | ind k ih =>
    intro h
    by_cases c : ∃ j, j < k ∧ ∃ y, jn M i j x y ∧ dst M i t y
    · obtain ⟨j, j1, j2⟩ := c
      exact ih j j1 j2
    · exact ⟨k, h, fun j hj q => c ⟨j, hj, q⟩⟩
def Pth (M : Mt) (i r : Nat) (f st : Nat → Nat) : Prop := (∀ j, j < r → isF M i (st j) (r - 1 - j) (f j) ∧ jn M i (f j) (st j) (st (j + 1))) ∧ ∀ j, j ≤ r → dst M i (r - j) (st j)
theorem pth_ex : ∀ {r x : Nat}, dst M i r x → ∃ f st, st 0 = x ∧ Pth M i r f st
  | 0, x, h => ⟨fun _ => 0, fun _ => x, rfl, fun j hj => absurd hj (Nat.not_lt_zero j), fun j hj => by rw [show 0 - j = 0 by omega]; exact h⟩
  | r + 1, x, h => by
    obtain ⟨k, y, hj, hy⟩ := dst_pr h
    obtain ⟨m, m1, m2⟩ := isF_ex (M := M) (i := i) (x := x) (t := r) (k := k) ⟨y, hj, hy⟩
    obtain ⟨z, z1, z2⟩ := m1
    obtain ⟨f, st, s0, s1, s2⟩ := pth_ex z2
    refine ⟨fun j => if j = 0 then m else f (j - 1), fun j => if j = 0 then x else st (j - 1), rfl, fun j hj' => ?_, fun j hj' => ?_⟩
    · by_cases e : j = 0
      · subst e
        dsimp only
        rw [if_pos rfl, if_pos rfl, if_neg (by omega)]
        rw [show 0 + 1 - 1 = 0 by omega, s0]
        exact ⟨⟨⟨z, z1, z2⟩, m2⟩, z1⟩
      · obtain ⟨u, rfl⟩ : ∃ u, j = u + 1 := ⟨j - 1, by omega⟩
        dsimp only
        rw [if_neg e, if_neg e, if_neg (by omega)]
        have := s1 u (by omega)
        rw [show r + 1 - 1 - (u + 1) = r - 1 - u by omega]
        exact this
    · by_cases e : j = 0
      · subst e
        dsimp only
        rw [if_pos rfl]
        exact h
      · obtain ⟨u, rfl⟩ : ∃ u, j = u + 1 := ⟨j - 1, by omega⟩
        dsimp only
        rw [if_neg e, show r + 1 - (u + 1) = r - u by omega]
        exact s2 u (by omega)
end O35
