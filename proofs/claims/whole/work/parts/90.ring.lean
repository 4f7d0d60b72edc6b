/-! loop: the class's ring -/
section O37
variable {h : Hp} {S : SS} {s : Nat} {M : Mt} {i : Nat}
def mkD (M : Mt) (i n x : Nat) (v : Int32) : Prop := (v = -1 ∧ ∀ t, ¬ rch M i t x) ∨ ∃ a, a < n ∧ v = nI a ∧ dst M i a x
theorem S_markAll {r n : Nat} (hr : ck r = 2) (hn : n ≤ 10) (hs : h.1 r 2 = nI n) (v : Int32) : ∃ h', sX2_markAll h r v = some h' ∧ Fr [(r + 13, none)] [] h h' ∧ ∀ x, x < n → h'.1 (r + 13) x = v := by
  unfold sX2_markAll
  rw [gd_t (isC_ok hr)]
  refine loopI (fun m (q : Hp × Int32) => sX2_markAll_b2 m q.1 r v q.2) (fun j q => q.2 = nI j ∧ Fr [(r + 13, none)] [] h q.1 ∧ ∀ x, x < j → q.1.1 (r + 13) x = v) n (fun q => Fr [(r + 13, none)] [] h q ∧ ∀ x, x < n → q.1 (r + 13) x = v) (by omega) (h, 0) ⟨rfl, Fr.rf, fun x hx => absurd hx (Nat.not_lt_zero x)⟩ (fun m j q hj I => ?_) (fun m q I => ?_)
  · obtain ⟨i1, i2, i3⟩ := I
    have s2 : q.1.1 r 2 = nI n := (i2.1 r 2 (by simp) (by simp)).trans hs
    refine ⟨(u1 q.1 (r + 13) j v, nI (j + 1)), ⟨rfl, Fr.w1 i2 rfl (by simp), fun x hx => ?_⟩, ?_⟩
    · by_cases e : x = j
      · subst e; exact rd1s
      · exact (rd1k e).trans (i3 x (by omega))
    · show sX2_markAll_c2 (sX2_markAll_b2 m) q.1 r v q.2 = _
      unfold sX2_markAll_c2
      rw [i1, s2, if_neg (by rw [le_n (by omega) (by omega)]; omega), gd_in (show j < 10 by omega) (show 10 ≤ 1000 by decide), cl_n (show j ≤ 100000 by omega), nm_t rfl, nI_1, nm_t rfl]
  · obtain ⟨i1, i2, i3⟩ := I
    have s2 : q.1.1 r 2 = nI n := (i2.1 r 2 (by simp) (by simp)).trans hs
    refine ⟨q.1, ?_, i2, i3⟩
    show sX2_markAll_c2 (sX2_markAll_b2 m) q.1 r v q.2 = _
    unfold sX2_markAll_c2
    rw [i1, s2, if_pos (by rw [le_n (by omega) (by omega)]; omega)]
theorem S_marks (hs : s < 2) (hn : S.1 ≤ 10) (hD : SD h (26 + 14 * s) s S) (hX : XM h (26 + 14 * s) S M) (hl : M.length ≤ 24) (hv : ∀ k, k < M.length → mh M k < S.1 ∧ mc M k < S.1) (hne : ∀ k, k < M.length → mh M k ≠ mc M k) (hi' : i < M.length) : ∃ h', sX2_markSteps h (26 + 14 * s) (nI i) = some h' ∧ Fr [(26 + 14 * s + 13, none)] [] h h' ∧ ∀ x, x < S.1 → mkD M i S.1 x (h'.1 (26 + 14 * s + 13) x) := by
  have hr := ck_sd hs
  have vi := hv i hi'
  obtain ⟨h1, e1, F1, m1⟩ := S_markAll hr hn hD.2.2.1 (-1)
  have g8 : h1.1 (26 + 14 * s + 8) i = nI (mh M i) := (F1.1 _ i (by simp) (by simp)).trans (hX.2.1 i hi').1
  unfold sX2_markSteps
  rw [gd_t (isC_ok hr), bd_t e1, gd_in (show i < 24 by omega) (show 24 ≤ 1000 by decide), cl_n (show i ≤ 100000 by omega), g8, gd_in (show mh M i < 10 by omega) (show 10 ≤ 1000 by decide), cl_n (show mh M i ≤ 100000 by omega), nm_t rfl]
  refine loopI (fun m (q : Hp × Int32) => sX2_markSteps_b19 m q.1 (26 + 14 * s) (nI i) q.2) (fun t q => q.2 = nI (t + 1) ∧ Fr [(26 + 14 * s + 13, none)] [] h q.1 ∧ ∀ x, x < S.1 → ∃ w, q.1.1 (26 + 14 * s + 13) x = w ∧ mkT M i t x w) (S.1 - 1) (fun q => Fr [(26 + 14 * s + 13, none)] [] h q ∧ ∀ x, x < S.1 → mkD M i S.1 x (q.1 (26 + 14 * s + 13) x)) (by omega) (u1 h1 (26 + 14 * s + 13) (mh M i) 0, 1) ⟨rfl, Fr.w1 F1 rfl (by simp), fun x hx => ?_⟩ (fun m t q ht' I => ?_) (fun m q I => ?_)
  · by_cases e : x = mh M i
    · exact ⟨0, by rw [e]; exact rd1s, Or.inr ⟨0, Nat.le_refl _, rfl, dst_0.mpr e⟩⟩
    · exact ⟨-1, (rd1k e).trans (m1 x hx), Or.inl ⟨rfl, e⟩⟩
  · obtain ⟨i1, i2, i3⟩ := I
    obtain ⟨h2, e2, F2, m2⟩ := S_mkpass hs hn hX hl hv hne hi' (show t ≤ 1000 by omega) (sX2_markSteps_b19 m) i2 i3
    have s2 : q.1.1 (26 + 14 * s) 2 = nI S.1 := (i2.1 _ 2 (by simp) (by simp)).trans hD.2.2.1
    refine ⟨(h2, nI (t + 1 + 1)), ⟨rfl, F2, m2⟩, ?_⟩
    show sX2_markSteps_c19 (sX2_markSteps_b19 m) q.1 (26 + 14 * s) (nI i) q.2 = _
    unfold sX2_markSteps_c19
    rw [i1, s2, if_neg (by rw [le_n (by omega) (by omega)]; omega), e2]
  · obtain ⟨i1, i2, i3⟩ := I
    have s2 : q.1.1 (26 + 14 * s) 2 = nI S.1 := (i2.1 _ 2 (by simp) (by simp)).trans hD.2.2.1
    refine ⟨q.1, ?_, i2, fun x hx => ?_⟩
    · show sX2_markSteps_c19 (sX2_markSteps_b19 m) q.1 (26 + 14 * s) (nI i) q.2 = _
      unfold sX2_markSteps_c19
      rw [i1, s2, if_pos (by rw [le_n (by omega) (by omega)]; omega)]
    · obtain ⟨w, w1, w2⟩ := i3 x hx
      rw [w1]
      rcases w2 with ⟨a, b⟩ | ⟨a, a1, a2, a3⟩
      · refine Or.inl ⟨a, fun t q' => ?_⟩
        obtain ⟨u, u1', u2'⟩ := rch_dst q'
        have := dst_lt hi' hv u2'
        exact b (rch_le u2'.1 (by omega))
      · exact Or.inr ⟨a, dst_lt hi' hv a3, a2, a3⟩
theorem mkD_eq {n x t : Nat} {v : Int32} (hn : n ≤ 10) (h : mkD M i n x v) (ht' : t ≤ 100000) : v = nI t ↔ dst M i t x := by
  rcases h with ⟨a, b⟩ | ⟨a, a1, a2, a3⟩
  · rw [a]
    exact ⟨fun q => absurd q (m1_n ht'), fun q => absurd q.1 (b t)⟩
  · rw [a2, eq_n (by omega) ht']
    exact ⟨fun q => q ▸ a3, fun q => dst_u a3 q⟩
theorem S_other (hr : ck (26 + 14 * s) = 2) (hX : XM h (26 + 14 * s) S M) (hl : M.length ≤ 24) (hv : ∀ k, k < M.length → mh M k < S.1 ∧ mc M k < S.1) (hn : S.1 ≤ 10) {k x : Nat} (hk : k < M.length) (hx : x < S.1) : sX2_otherEnd h (26 + 14 * s) (nI k) (nI x) = some (nI (if mh M k = x then mc M k else mh M k), h) := by
  obtain ⟨a1, a2, a3⟩ := hX.2.1 k hk
  have v := hv k hk
  unfold sX2_otherEnd sX2_otherEnd_c25
  rw [gd_t (isC_ok hr), gd_in (show k < 24 by omega) (show 24 ≤ 1000 by decide), gd_in (show k < 24 by omega) (show 24 ≤ 1000 by decide), gd_in (show k < 24 by omega) (show 24 ≤ 1000 by decide), cl_n (show k ≤ 100000 by omega), a1, a2]
  by_cases c : mh M k = x
  · rw [if_pos (by rw [c]), if_pos c]
  · rw [if_neg (by rw [eq_n (by omega) (by omega)]; exact c), if_neg c]
theorem S_first (hs : s < 2) (hn : S.1 ≤ 10) (hX : XM h (26 + 14 * s) S M) (hl : M.length ≤ 24) (hv : ∀ k, k < M.length → mh M k < S.1 ∧ mc M k < S.1) (hm : ∀ x, x < S.1 → mkD M i S.1 x (h.1 (26 + 14 * s + 13) x)) (hi' : i < M.length) {x t k : Nat} (hx : x < S.1) (ht' : t ≤ 1000) (hF : isF M i x t k) : sX2_firstTowards h (26 + 14 * s) (nI i) (nI x) (nI t) = some (nI k, h) := by
  have hr := ck_sd hs
  have hk : k < M.length := by
    obtain ⟨y, hj, _⟩ := hF.1
    exact hj.1
  unfold sX2_firstTowards
  rw [gd_t (isC_ok hr)]
  have step : ∀ m j, j < M.length → sX2_firstTowards_b3 (m + 1) h (26 + 14 * s) (nI i) (nI x) (nI t) (nI j) = if j ≠ i ∧ (mh M j = x ∨ mc M j = x) ∧ h.1 (26 + 14 * s + 13) (if mh M j = x then mc M j else mh M j) = nI t then some (nI j, h) else sX2_firstTowards_b3 m h (26 + 14 * s) (nI i) (nI x) (nI t) (nI (j + 1)) := by
    intro m j hj
    obtain ⟨a1, a2, a3⟩ := hX.2.1 j hj
    have v := hv j hj
    have oe := S_other hr hX hl hv hn hj hx
    have od : (if mh M j = x then mc M j else mh M j) < S.1 := by split <;> omega
    show sX2_firstTowards_c3 (sX2_firstTowards_b3 m) h (26 + 14 * s) (nI i) (nI x) (nI t) (nI j) = _
    have hle : ¬ nI M.length ≤ nI j := by rw [le_n (by omega) (by omega)]; omega
    have ci : nI j = nI i ↔ j = i := eq_n (by omega) (by omega)
    have c71 : sX2_firstTowards_c71 (sX2_firstTowards_b3 m) h (26 + 14 * s) (nI i) (nI x) (nI t) (nI j) = sX2_firstTowards_b3 m h (26 + 14 * s) (nI i) (nI x) (nI t) (nI (j + 1)) := by
      unfold sX2_firstTowards_c71
      rw [nI_1, nm_t rfl]
    have c39 : sX2_firstTowards_c39 (sX2_firstTowards_b3 m) h (26 + 14 * s) (nI i) (nI x) (nI t) (nI j) 1 = if j ≠ i ∧ h.1 (26 + 14 * s + 13) (if mh M j = x then mc M j else mh M j) = nI t then some (nI j, h) else sX2_firstTowards_b3 m h (26 + 14 * s) (nI i) (nI x) (nI t) (nI (j + 1)) := by
      unfold sX2_firstTowards_c39
      rw [c71]
      by_cases e : j = i
      · rw [if_pos (ci.mpr e), if_neg (fun q => q.1 e)]
      · rw [if_neg (fun q => e (ci.mp q)), if_neg (show ¬ (1 : Int32) = 0 by decide), bd_t oe]
        dsimp only
        rw [gd_in (show (if mh M j = x then mc M j else mh M j) < 10 by omega) (show 10 ≤ 1000 by decide), cl_n (show (if mh M j = x then mc M j else mh M j) ≤ 100000 by omega)]
        by_cases d : h.1 (26 + 14 * s + 13) (if mh M j = x then mc M j else mh M j) = nI t
        · rw [if_pos d, if_pos ⟨e, d⟩]
        · rw [if_neg d, if_neg (fun q => d q.2), c71]
    unfold sX2_firstTowards_c3
    rw [hX.1, if_neg hle, gd_in (show j < 24 by omega) (show 24 ≤ 1000 by decide), cl_n (show j ≤ 100000 by omega), a1]
    unfold sX2_firstTowards_c34
    rw [c39]
    by_cases e1 : mh M j = x
    · rw [if_pos (by rw [e1])]
      by_cases d : j ≠ i ∧ h.1 (26 + 14 * s + 13) (if mh M j = x then mc M j else mh M j) = nI t
      · rw [if_pos d, if_pos ⟨d.1, Or.inl e1, d.2⟩]
      · rw [if_neg d, if_neg (fun q => d ⟨q.1, q.2.2⟩)]
    · rw [if_neg (by rw [eq_n (by omega) (by omega)]; exact e1), gd_in (show j < 24 by omega) (show 24 ≤ 1000 by decide), a2]
      by_cases e2 : mc M j = x
      · rw [if_pos (by rw [e2])]
        by_cases d : j ≠ i ∧ h.1 (26 + 14 * s + 13) (if mh M j = x then mc M j else mh M j) = nI t
        · rw [if_pos d, if_pos ⟨d.1, Or.inr e2, d.2⟩]
        · rw [if_neg d, if_neg (fun q => d ⟨q.1, q.2.2⟩)]
      · rw [if_neg (by rw [eq_n (by omega) (by omega)]; exact e2), if_neg (fun q => q.2.1.elim e1 e2)]
        unfold sX2_firstTowards_c39
        rw [c71]
        by_cases e : nI j = nI i
        · rw [if_pos e]
        · rw [if_neg e, if_pos rfl]
  refine loop0 (fun m (q : Int32) => sX2_firstTowards_b3 m h (26 + 14 * s) (nI i) (nI x) (nI t) q) (fun j => nI j) k _ (by omega) (fun m j hj => ?_) (fun m => ?_)
  · show sX2_firstTowards_b3 (m + 1) h (26 + 14 * s) (nI i) (nI x) (nI t) (nI j) = sX2_firstTowards_b3 m h (26 + 14 * s) (nI i) (nI x) (nI t) (nI (j + 1))
    rw [step m j (by omega), if_neg]
    rintro ⟨q1, q2, q3⟩
    have vj := hv j (by omega)
    have od : (if mh M j = x then mc M j else mh M j) < S.1 := by split <;> omega
    refine hF.2 j hj ⟨_, ⟨by omega, q1, ?_⟩, (mkD_eq hn (hm _ od) (by omega)).mp q3⟩
    by_cases e : mh M j = x
    · rw [if_pos e]; exact Or.inl ⟨e, rfl⟩
    · rw [if_neg e]; exact Or.inr ⟨q2.resolve_left e, rfl⟩
  · show sX2_firstTowards_b3 (m + 1) h (26 + 14 * s) (nI i) (nI x) (nI t) (nI k) = _
    rw [step m k hk, if_pos]
    obtain ⟨y, hj, hy⟩ := hF.1
    have vk := hv k hk
    have od : (if mh M k = x then mc M k else mh M k) < S.1 := by split <;> omega
    refine ⟨hj.2.1, ?_⟩
    rw [mkD_eq hn (hm _ od) (by omega)]
    rcases hj.2.2 with ⟨p1, p2⟩ | ⟨p1, p2⟩
    · refine ⟨Or.inl p1, ?_⟩
      rw [if_pos p1, p2]; exact hy
    · refine ⟨Or.inr p1, ?_⟩
      by_cases e : mh M k = x
      · rw [if_pos e, p1, ← e, p2]; exact hy
      · rw [if_neg e, p2]; exact hy
end O37
section O38
variable {h : Hp} {S : SS} {s : Nat} {M : Mt} {i : Nat}
theorem S_ring0 (hs : s < 2) (hn : S.1 ≤ 10) (hD : SD h (26 + 14 * s) s S) (hX : XM h (26 + 14 * s) S M) (hl : M.length ≤ 24) (hv : ∀ k, k < M.length → mh M k < S.1 ∧ mc M k < S.1) (hne : ∀ k, k < M.length → mh M k ≠ mc M k) (hi' : i < M.length) (hno : ∀ t, ¬ rch M i t (mc M i)) : ∃ h', sX2_findRing h (26 + 14 * s) (nI i) = some (0, h') := by
  have hr := ck_sd hs
  obtain ⟨h1, e1, F1, m1⟩ := S_marks hs hn hD hX hl hv hne hi'
  have vi := hv i hi'
  have g9 : h1.1 (26 + 14 * s + 9) i = nI (mc M i) := (F1.1 _ i (by simp) (by simp)).trans (hX.2.1 i hi').2.1
  have g8 : h1.1 (26 + 14 * s + 8) i = nI (mh M i) := (F1.1 _ i (by simp) (by simp)).trans (hX.2.1 i hi').1
  have mk : h1.1 (26 + 14 * s + 13) (mc M i) = -1 := by
    rcases m1 _ vi.2 with ⟨q, _⟩ | ⟨a, _, _, q⟩
    · exact q
    · exact absurd q.1 (hno a)
  have z0 : (0 : Int32).toNatClampNeg = 0 := by decide
  refine ⟨u1 (u1 h1 (26 + 14 * s + 12) 0 (nI i)) (26 + 14 * s) 16 1, ?_⟩
  have F2 : Fr [(26 + 14 * s + 12, none), (26 + 14 * s, some 16)] [] h1 (u1 (u1 h1 (26 + 14 * s + 12) 0 (nI i)) (26 + 14 * s) 16 1) := Fr.w1 (Fr.w1 Fr.rf rfl (by simp)) rfl (by simp)
  have mk' : (u1 (u1 h1 (26 + 14 * s + 12) 0 (nI i)) (26 + 14 * s) 16 1).1 (26 + 14 * s + 13) (mc M i) = -1 := (F2.1 _ _ (by simp) (by simp)).trans mk
  have g8' : (u1 (u1 h1 (26 + 14 * s + 12) 0 (nI i)) (26 + 14 * s) 16 1).1 (26 + 14 * s + 8) i = nI (mh M i) := (F2.1 _ _ (by simp) (by simp)).trans g8
  unfold sX2_findRing
  rw [gd_t (isC_ok hr), bd_t e1, gd_in (show i < 24 by omega) (show 24 ≤ 1000 by decide), cl_n (show i ≤ 100000 by omega), g9, nm_t rfl, z0, nm_t rfl, nm_t rfl, gd_in (show mc M i < 10 by omega) (show 10 ≤ 1000 by decide), cl_n (show mc M i ≤ 100000 by omega), nm_t mk']
  show sX2_findRing_c31 (sX2_findRing_b31 999) _ (26 + 14 * s) (nI i) (nI (mc M i)) (-1) = _
  unfold sX2_findRing_c31 sX2_findRing_c101 sX2_findRing_c116
  rw [if_pos (by decide), gd_in (show i < 24 by omega) (show 24 ≤ 1000 by decide), cl_n (show i ≤ 100000 by omega), g8', if_neg (by rw [eq_n (by omega) (by omega)]; exact fun z => hne i hi' z.symm)]
  rfl
theorem S_ring1 (hs : s < 2) (hn : S.1 ≤ 10) (hD : SD h (26 + 14 * s) s S) (hX : XM h (26 + 14 * s) S M) (hl : M.length ≤ 24) (hv : ∀ k, k < M.length → mh M k < S.1 ∧ mc M k < S.1) (hne : ∀ k, k < M.length → mh M k ≠ mc M k) (hi' : i < M.length) {d : Nat} {f st : Nat → Nat} (h0 : st 0 = mc M i) (hp : Pth M i d f st) : ∃ h', sX2_findRing h (26 + 14 * s) (nI i) = some (1, h') ∧ h'.1 (26 + 14 * s) 16 = nI (d + 1) ∧ h'.1 (26 + 14 * s + 12) 0 = nI i ∧ ∀ j, j < d → h'.1 (26 + 14 * s + 12) (j + 1) = nI (f j) := by
  have hr := ck_sd hs
  obtain ⟨h1, e1, F1, m1⟩ := S_marks hs hn hD hX hl hv hne hi'
  have vi := hv i hi'
  have dd : dst M i d (mc M i) := by have := hp.2 0 (Nat.zero_le _); rw [h0] at this; exact this
  have dn := dst_lt hi' hv dd
  have g9 : h1.1 (26 + 14 * s + 9) i = nI (mc M i) := (F1.1 _ i (by simp) (by simp)).trans (hX.2.1 i hi').2.1
  have mk : h1.1 (26 + 14 * s + 13) (mc M i) = nI d := (mkD_eq hn (m1 _ vi.2) (by omega)).mpr dd
  have z0 : (0 : Int32).toNatClampNeg = 0 := by decide
  have F2 : Fr [(26 + 14 * s + 12, none), (26 + 14 * s, some 16)] [] h1 (u1 (u1 h1 (26 + 14 * s + 12) 0 (nI i)) (26 + 14 * s) 16 1) := Fr.w1 (Fr.w1 Fr.rf rfl (by simp)) rfl (by simp)
  have mk' : (u1 (u1 h1 (26 + 14 * s + 12) 0 (nI i)) (26 + 14 * s) 16 1).1 (26 + 14 * s + 13) (mc M i) = nI d := (F2.1 _ _ (by simp) (by simp)).trans mk
  have X1 : XM h1 (26 + 14 * s) S M := hX.fr F1 (fun w hw => by simp at hw; subst hw; dsimp only; omega)
  unfold sX2_findRing
  rw [gd_t (isC_ok hr), bd_t e1, gd_in (show i < 24 by omega) (show 24 ≤ 1000 by decide), cl_n (show i ≤ 100000 by omega), g9, nm_t rfl, z0, nm_t rfl, nm_t rfl, gd_in (show mc M i < 10 by omega) (show 10 ≤ 1000 by decide), cl_n (show mc M i ≤ 100000 by omega), nm_t mk']
  have L := loopI (fun m (q : Hp × Int32 × Int32) => sX2_findRing_b31 m q.1 (26 + 14 * s) (nI i) q.2.1 q.2.2) (fun j q => q.2.1 = nI (st j) ∧ q.2.2 = nI (d - j) ∧ Fr [(26 + 14 * s + 12, none), (26 + 14 * s, some 16)] [] h1 q.1 ∧ q.1.1 (26 + 14 * s) 16 = nI (j + 1) ∧ q.1.1 (26 + 14 * s + 12) 0 = nI i ∧ ∀ u, u < j → q.1.1 (26 + 14 * s + 12) (u + 1) = nI (f u)) d (fun w => w.1 = 1 ∧ w.2.1 (26 + 14 * s) 16 = nI (d + 1) ∧ w.2.1 (26 + 14 * s + 12) 0 = nI i ∧ ∀ j, j < d → w.2.1 (26 + 14 * s + 12) (j + 1) = nI (f j)) (by omega) (u1 (u1 h1 (26 + 14 * s + 12) 0 (nI i)) (26 + 14 * s) 16 1, nI (mc M i), nI d) ⟨by rw [h0], rfl, F2, rd1s, (rd1c (by omega)).trans rd1s, fun u hu => absurd hu (Nat.not_lt_zero u)⟩ (fun m j q hj I => by
    obtain ⟨i1, i2, i3, i4, i5, i6⟩ := I
    obtain ⟨p1, p2⟩ := hp.1 j hj
    have dj := hp.2 j (by omega)
    have sj : st j < S.1 := rch_lt hi' hv dj.1
    have fj : f j < M.length := p2.1
    have Xq : XM q.1 (26 + 14 * s) S M := X1.fr i3 (fun w hw => by
      simp only [List.mem_cons, List.not_mem_nil, or_false] at hw
      rcases hw with rfl | rfl
      · dsimp only; omega
      · exact Or.inr (Or.inr (Or.inr ⟨rfl, 16, rfl, by omega⟩)))
    have mq : ∀ x, x < S.1 → mkD M i S.1 x (q.1.1 (26 + 14 * s + 13) x) := fun x hx => by rw [i3.1 _ x (by simp) (by simp)]; exact m1 x hx
    have ft := S_first hs hn Xq hl hv mq hi' sj (show d - 1 - j ≤ 1000 by omega) p1
    have nx : (if mh M (f j) = st j then mc M (f j) else mh M (f j)) = st (j + 1) := by
      rcases p2.2.2 with ⟨z1, z2⟩ | ⟨z1, z2⟩
      · rw [if_pos z1, z2]
      · by_cases z : mh M (f j) = st j
        · exact absurd (z.trans z1.symm) (hne _ fj)
        · rw [if_neg z, z2]
    have F3 : Fr [(26 + 14 * s + 12, none), (26 + 14 * s, some 16)] [] h1 (u1 (u1 q.1 (26 + 14 * s + 12) (j + 1) (nI (f j))) (26 + 14 * s) 16 (nI (j + 1) + 1)) := Fr.w1 (Fr.w1 i3 rfl (by simp)) rfl (by simp)
    have X3 : XM (u1 (u1 q.1 (26 + 14 * s + 12) (j + 1) (nI (f j))) (26 + 14 * s) 16 (nI (j + 1) + 1)) (26 + 14 * s) S M := X1.fr F3 (fun w hw => by
      simp only [List.mem_cons, List.not_mem_nil, or_false] at hw
      rcases hw with rfl | rfl
      · dsimp only; omega
      · exact Or.inr (Or.inr (Or.inr ⟨rfl, 16, rfl, by omega⟩)))
    have oe := S_other hr X3 hl hv hn fj sj
    rw [nx] at oe
    have n16 : (u1 q.1 (26 + 14 * s + 12) (j + 1) (nI (f j))).1 (26 + 14 * s) 16 = nI (j + 1) := (rd1c (by omega)).trans i4
    refine ⟨(u1 (u1 q.1 (26 + 14 * s + 12) (j + 1) (nI (f j))) (26 + 14 * s) 16 (nI (j + 1) + 1), nI (st (j + 1)), nI (d - (j + 1))), ⟨rfl, rfl, F3, by rw [rd1s, nI_1], (rd1c (by omega)).trans ((rd1k (by omega)).trans i5), fun u hu => ?_⟩, ?_⟩
    · by_cases e : u = j
      · subst e; exact (rd1c (by omega)).trans rd1s
      · exact (rd1c (by omega)).trans ((rd1k (by omega)).trans (i6 u (by omega)))
    · show sX2_findRing_c31 (sX2_findRing_b31 m) q.1 (26 + 14 * s) (nI i) q.2.1 q.2.2 = _
      have hle : ¬ nI (d - j) ≤ 0 := by show ¬ nI (d - j) ≤ nI 0; rw [le_n (by omega) (by omega)]; omega
      have hle2 : ¬ (10 : Int32) ≤ nI (j + 1) := by show ¬ nI 10 ≤ nI (j + 1); rw [le_n (by omega) (by omega)]; omega
      have e3 : nI (d - j) - 1 = nI (d - 1 - j) := by rw [nI_m1 (by omega), show d - j - 1 = d - 1 - j by omega]
      have e4 : nI (d - j) + (-1) = nI (d - (j + 1)) := by rw [nI_a1 (by omega), show d - j - 1 = d - (j + 1) by omega]
      unfold sX2_findRing_c31
      rw [i1, i2, if_neg hle, i4, if_neg hle2, e3, bd_t ft]
      dsimp only
      rw [if_neg (fun z => m1_n (show f j ≤ 100000 by omega) z.symm), i4, gd_in (show j + 1 < 10 by omega) (show 10 ≤ 1000 by decide), cl_n (show j + 1 ≤ 100000 by omega), nm_t rfl, n16, nm_t rfl, bd_t oe]
      dsimp only
      rw [nm_t e4]) (fun m q I => by
    obtain ⟨i1, i2, i3, i4, i5, i6⟩ := I
    have z : st d = mh M i := dst_0.mp (by have := hp.2 d (Nat.le_refl _); rw [Nat.sub_self] at this; exact this)
    have Xq : XM q.1 (26 + 14 * s) S M := X1.fr i3 (fun w hw => by
      simp only [List.mem_cons, List.not_mem_nil, or_false] at hw
      rcases hw with rfl | rfl
      · dsimp only; omega
      · exact Or.inr (Or.inr (Or.inr ⟨rfl, 16, rfl, by omega⟩)))
    refine ⟨(1, q.1), ?_, rfl, i4, i5, i6⟩
    show sX2_findRing_c31 (sX2_findRing_b31 m) q.1 (26 + 14 * s) (nI i) q.2.1 q.2.2 = _
    unfold sX2_findRing_c31 sX2_findRing_c101 sX2_findRing_c116
    rw [i1, i2, Nat.sub_self, if_pos (show nI 0 ≤ 0 by decide), gd_in (show i < 24 by omega) (show 24 ≤ 1000 by decide), cl_n (show i ≤ 100000 by omega), (Xq.2.1 i hi').1, z, if_pos rfl]
    rfl)
  obtain ⟨⟨wr, wh⟩, w1, w2, w3, w4, w5⟩ := L
  dsimp only at w2
  subst w2
  exact ⟨wh, w1, w3, w4, w5⟩
end O38
