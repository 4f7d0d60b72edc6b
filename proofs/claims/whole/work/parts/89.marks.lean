/-! loop: the class marks how far streams are -/
section O36
variable {h : Hp} {S : SS} {s : Nat} {M : Mt} {i : Nat}
/-- a mark, behind t passes -/
def mkT (M : Mt) (i t x : Nat) (v : Int32) : Prop := (v = -1 ∧ ¬ rch M i t x) ∨ ∃ a, a ≤ t ∧ v = nI a ∧ dst M i a x
/-- within pass t + 1, behind k matches -/
def mkP (M : Mt) (i t k x : Nat) (v : Int32) : Prop := (v = -1 ∧ ¬ rch M i t x ∧ ∀ j y, j < k → jn M i j x y → ¬ dst M i t y) ∨ ∃ a, a ≤ t + 1 ∧ v = nI a ∧ dst M i a x
theorem m1_n {a : Nat} (ha : a ≤ 100000) : ¬ (-1 : Int32) = nI a := by
  intro q
  have := congrArg Int32.toInt q
  rw [tI_n ha] at this
  have m1 : (-1 : Int32).toInt = -1 := rfl
  omega
theorem mkP_0 {t x : Nat} {v : Int32} (h : mkT M i t x v) : mkP M i t 0 x v := by
  rcases h with ⟨a, b⟩ | ⟨a, a1, a2, a3⟩
  · exact Or.inl ⟨a, b, fun j y hj => absurd hj (Nat.not_lt_zero j)⟩
  · exact Or.inr ⟨a, by omega, a2, a3⟩
theorem mkP_e {t x : Nat} {v : Int32} (h : mkP M i t M.length x v) : mkT M i (t + 1) x v := by
  rcases h with ⟨a, b, c⟩ | ⟨a, a1, a2, a3⟩
  · refine Or.inl ⟨a, fun q => ?_⟩
    rcases q with q | ⟨k, y, hj, hr⟩
    · exact b q
    · obtain ⟨a', a1, a2⟩ := rch_dst hr
      by_cases e : a' = t
      · rw [e] at a2
        exact c k y hj.1 hj a2
      · exact b (rch_le (rch_jn hj a2.1) (by omega))
  · exact Or.inr ⟨a, a1, a2, a3⟩
/-- one end of a match: what is marked behind markNext -/
theorem S_mkN (hr : ck (26 + 14 * s) = 2) {n t k a b : Nat} (ht' : t ≤ 1000) (ha : a < n) (hb' : b < n) (hn : n ≤ 10) (hj : jn M i k a b) (hm : ∀ x, x < n → ∃ w, h.1 (26 + 14 * s + 13) x = w ∧ mkP M i t k x w) : ∃ h', sX2_markNext h (26 + 14 * s) (nI a) (nI b) (nI (t + 1)) = some h' ∧ Fr [(26 + 14 * s + 13, none)] [] h h' ∧ (∀ x, x < n → ∃ w, h'.1 (26 + 14 * s + 13) x = w ∧ mkP M i t k x w) ∧ (h'.1 (26 + 14 * s + 13) b = -1 → ¬ dst M i t a) := by
  obtain ⟨wa, a1, a2⟩ := hm a ha
  obtain ⟨wb, b1, b2⟩ := hm b hb'
  have e1 : nI (t + 1) - 1 = nI t := nI_pred t
  unfold sX2_markNext sX2_markNext_c29
  rw [gd_t (isC_ok hr), gd_in (show a < 10 by omega) (show 10 ≤ 1000 by decide), cl_n (show a ≤ 100000 by omega), a1, e1]
  by_cases c1 : wa = nI t
  · rw [if_pos c1, gd_in (show b < 10 by omega) (show 10 ≤ 1000 by decide), cl_n (show b ≤ 100000 by omega), b1]
    have da : dst M i t a := by
      rcases a2 with ⟨q, _⟩ | ⟨u, u1', u2', u3'⟩
      · exact absurd (q.symm.trans c1) (m1_n (by omega))
      · have := u2'.symm.trans c1
        rw [eq_n (by omega) (by omega)] at this
        rw [← this]; exact u3'
    by_cases c2 : wb = -1
    · rw [if_pos c2, gd_in (show b < 10 by omega) (show 10 ≤ 1000 by decide), nm_t rfl]
      have nb : ¬ rch M i t b := by
        rcases b2 with ⟨_, q, _⟩ | ⟨u, u1', u2', u3'⟩
        · exact q
        · exact absurd (c2.symm.trans u2') (m1_n (by omega))
      have db : dst M i (t + 1) b := ⟨rch_jn (jn_sym hj) da.1, fun u hu q => nb (rch_le q (by omega))⟩
      refine ⟨_, rfl, Fr.w1 Fr.rf rfl (by simp), fun x hx => ?_, fun q => ?_⟩
      · by_cases e : x = b
        · subst e
          exact ⟨nI (t + 1), rd1s, Or.inr ⟨t + 1, Nat.le_refl _, rfl, db⟩⟩
        · obtain ⟨w, w1, w2⟩ := hm x hx
          exact ⟨w, (rd1k e).trans w1, w2⟩
      · rw [rd1s] at q
        exact absurd q.symm (m1_n (by omega))
    · rw [if_neg c2]
      exact ⟨h, rfl, Fr.rf, hm, fun q => absurd (b1.symm.trans q) c2⟩
  · rw [if_neg c1]
    refine ⟨h, rfl, Fr.rf, hm, fun q da => ?_⟩
    rcases a2 with ⟨q1, q2, _⟩ | ⟨u, u1', u2', u3'⟩
    · exact q2 da.1
    · have := dst_u da u3'
      exact c1 (by rw [u2', this])
theorem mkP_k {t k x : Nat} {v : Int32} (ht' : t ≤ 1000) (h : mkP M i t k x v) (hq : ∀ y, jn M i k x y → v = -1 → ¬ dst M i t y) : mkP M i t (k + 1) x v := by
  rcases h with ⟨a, b, c⟩ | q
  · refine Or.inl ⟨a, b, fun j y hj hy => ?_⟩
    by_cases e : j = k
    · subst e; exact hq y hy a
    · exact c j y (by omega) hy
  · exact Or.inr q
/-- a pass over the matches -/
theorem S_mkpass (hs : s < 2) (hn : S.1 ≤ 10) (hX : XM h (26 + 14 * s) S M) (hl : M.length ≤ 24) (hv : ∀ k, k < M.length → mh M k < S.1 ∧ mc M k < S.1) (hne : ∀ k, k < M.length → mh M k ≠ mc M k) (hi' : i < M.length) {t : Nat} (ht' : t ≤ 1000) (k19 : Hp → Nat → Int32 → Int32 → Option Hp) {h0 : Hp} (F0 : Fr [(26 + 14 * s + 13, none)] [] h h0) (hm : ∀ x, x < S.1 → ∃ w, h0.1 (26 + 14 * s + 13) x = w ∧ mkT M i t x w) : ∃ h', sX2_markSteps_b29 k19 FU h0 (26 + 14 * s) (nI i) (nI (t + 1)) 0 = k19 h' (26 + 14 * s) (nI i) (nI (t + 1 + 1)) ∧ Fr [(26 + 14 * s + 13, none)] [] h h' ∧ ∀ x, x < S.1 → ∃ w, h'.1 (26 + 14 * s + 13) x = w ∧ mkT M i (t + 1) x w := by
  have hr := ck_sd hs
  have L := loopS (fun m (q : Hp × Int32) => sX2_markSteps_b29 k19 m q.1 (26 + 14 * s) (nI i) (nI (t + 1)) q.2) (fun k q => q.2 = nI k ∧ Fr [(26 + 14 * s + 13, none)] [] h q.1 ∧ ∀ x, x < S.1 → ∃ w, q.1.1 (26 + 14 * s + 13) x = w ∧ mkP M i t k x w) M.length (fun m k q hk I => by
    obtain ⟨i1, i2, i3⟩ := I
    obtain ⟨a1, a2, a3⟩ := hX.2.1 k hk
    have v := hv k hk
    have g14 : q.1.1 (26 + 14 * s) 14 = nI M.length := (i2.1 _ 14 (by simp) (by simp)).trans hX.1
    have g8 : q.1.1 (26 + 14 * s + 8) k = nI (mh M k) := (i2.1 _ k (by simp) (by simp)).trans a1
    have g9 : q.1.1 (26 + 14 * s + 9) k = nI (mc M k) := (i2.1 _ k (by simp) (by simp)).trans a2
    have hle : ¬ nI M.length ≤ nI k := by rw [le_n (by omega) (by omega)]; omega
    have e0 : sX2_markSteps_b29 k19 (m + 1) q.1 (26 + 14 * s) (nI i) (nI (t + 1)) q.2 = sX2_markSteps_c29 k19 (sX2_markSteps_b29 k19 m) q.1 (26 + 14 * s) (nI i) (nI (t + 1)) (nI k) := by rw [← i1]; rfl
    by_cases c : k = i
    · refine ⟨(q.1, nI (k + 1)), ⟨rfl, i2, fun x hx => ?_⟩, ?_⟩
      · obtain ⟨w, w1, w2⟩ := i3 x hx
        exact ⟨w, w1, mkP_k ht' w2 (fun y hj => absurd c hj.2.1)⟩
      · refine e0.trans ?_
        unfold sX2_markSteps_c29 sX2_markSteps_c76
        rw [g14, if_neg hle, if_pos (by rw [c]), nI_1, nm_t rfl]
    · have j1 : jn M i k (mh M k) (mc M k) := ⟨hk, c, Or.inl ⟨rfl, rfl⟩⟩
      obtain ⟨h1, e1, F1, m1, z1⟩ := S_mkN (h := q.1) (M := M) (i := i) hr ht' v.1 v.2 hn j1 i3
      have g9' : h1.1 (26 + 14 * s + 9) k = nI (mc M k) := (F1.1 _ k (by simp) (by simp)).trans g9
      have g8' : h1.1 (26 + 14 * s + 8) k = nI (mh M k) := (F1.1 _ k (by simp) (by simp)).trans g8
      obtain ⟨h2, e2, F2, m2, z2⟩ := S_mkN (h := h1) (M := M) (i := i) hr ht' v.2 v.1 hn (jn_sym j1) m1
      refine ⟨(h2, nI (k + 1)), ⟨rfl, (i2.tr F1 (fun _ z => z) (fun _ z => z)).tr F2 (fun _ z => z) (fun _ z => z), fun x hx => ?_⟩, ?_⟩
      · obtain ⟨w, w1, w2⟩ := m2 x hx
        refine ⟨w, w1, mkP_k ht' w2 (fun y hj hw => ?_)⟩
        rcases hj.2.2 with ⟨p1, p2⟩ | ⟨p1, p2⟩
        · rw [← p2]
          exact z2 (by rw [p1, w1, hw])
        · rw [← p2]
          -- x is the cold one: it was marked, or not, ahead of the second
          intro q
          have hx1 : h1.1 (26 + 14 * s + 13) x = -1 := by
            obtain ⟨w', y1, y2⟩ := m1 x hx
            have e3 : h2.1 (26 + 14 * s + 13) x = h1.1 (26 + 14 * s + 13) x := by
              -- the second markNext writes the hot one alone
              have := e2
              unfold sX2_markNext sX2_markNext_c29 at this
              rw [gd_t (isC_ok hr), gd_in (show mc M k < 10 by omega) (show 10 ≤ 1000 by decide), gd_in (show mh M k < 10 by omega) (show 10 ≤ 1000 by decide), gd_in (show mh M k < 10 by omega) (show 10 ≤ 1000 by decide), cl_n (show mh M k ≤ 100000 by omega)] at this
              split at this
              · split at this
                · rw [nm_t rfl] at this
                  cases this
                  exact rd1k (by rw [← p1]; exact fun z => hne k hk z.symm)
                · cases this; rfl
              · cases this; rfl
            rw [← e3, w1, hw]
          exact z1 (by rw [p1]; exact hx1) q
      · refine e0.trans ?_
        unfold sX2_markSteps_c29 sX2_markSteps_c76
        rw [g14, if_neg hle, if_neg (by rw [eq_n (by omega) (by omega)]; exact c), gd_in (show k < 24 by omega) (show 24 ≤ 1000 by decide), gd_in (show k < 24 by omega) (show 24 ≤ 1000 by decide), cl_n (show k ≤ 100000 by omega), g8, g9, bd_t e1, gd_in (show k < 24 by omega) (show 24 ≤ 1000 by decide), gd_in (show k < 24 by omega) (show 24 ≤ 1000 by decide), g9', g8', bd_t e2, nI_1, nm_t rfl]) M.length 0 FU (h0, 0) ⟨rfl, F0, fun x hx => by
        obtain ⟨w, w1, w2⟩ := hm x hx
        exact ⟨w, w1, mkP_0 w2⟩⟩ (by omega) (show M.length < 1000 by omega)
  obtain ⟨q, m, ⟨i1, i2, i3⟩, e⟩ := L
  refine ⟨q.1, ?_, i2, fun x hx => ?_⟩
  · refine Eq.trans e ?_
    have g14 : q.1.1 (26 + 14 * s) 14 = nI M.length := (i2.1 _ 14 (by simp) (by simp)).trans hX.1
    show sX2_markSteps_c29 k19 (sX2_markSteps_b29 k19 m) q.1 (26 + 14 * s) (nI i) (nI (t + 1)) q.2 = _
    unfold sX2_markSteps_c29
    rw [i1, g14, if_pos (by rw [le_n (by omega) (by omega)]; omega), nI_1, nm_t rfl]
  · obtain ⟨w, w1, w2⟩ := i3 x hx
    exact ⟨w, w1, mkP_e w2⟩
end O36
