-- X0_placeBorder
abbrev wX0_placeBorder (r : Nat) : List (Nat × Option Nat) := [(r + 1, none), (r, some 4)]
abbrev zX0_placeBorder : List Nat := []
set_option maxRecDepth 10000 in
theorem fX0_placeBorder_c53 (h0 : Hp) (r : Nat) (h : Hp) (q : Hp) (F : Fr (wX0_placeBorder r) zX0_placeBorder h0 h) (e : sX0_placeBorder_c53 h = some q) : Fr (wX0_placeBorder r) zX0_placeBorder h0 q := by
  unfold sX0_placeBorder_c53 at e
  exact Fr.e0 F e
set_option maxRecDepth 10000 in
theorem fX0_placeBorder_c59 (h0 : Hp) (r : Nat) (k59 : Hp → Nat → Int32 → Int32 → Int32 → Option Hp) (hk59 : ∀ (h : Hp) (v1 : Int32) (v2 : Int32) (v3 : Int32) (hr : ck r = 0) (q : Hp), Fr (wX0_placeBorder r) zX0_placeBorder h0 h → k59 h r v1 v2 v3 = some q → Fr (wX0_placeBorder r) zX0_placeBorder h0 q) (h : Hp) (v1 : Int32) (v2 : Int32) (v3 : Int32) (hr : ck r = 0) (q : Hp) (F : Fr (wX0_placeBorder r) zX0_placeBorder h0 h) (e : sX0_placeBorder_c59 k59 h r v1 v2 v3 = some q) : Fr (wX0_placeBorder r) zX0_placeBorder h0 q := by
  unfold sX0_placeBorder_c59 at e
  by_cases c : v3 ≤ v2
  · rw [if_pos c] at e
    obtain ⟨c5, e⟩ := gd_s e
    obtain ⟨h6, eh6, e⟩ := nm_s e
    have F := Fr.w1 F eh6 (Or.inl (by simp))
    obtain ⟨h7, eh7, e⟩ := nm_s e
    have F := Fr.w1 F eh7 (Or.inr (by simp))
    exact Fr.e0 F e
  · rw [if_neg c] at e
    obtain ⟨c8, e⟩ := gd_s e
    obtain ⟨c9, e⟩ := gd_s e
    obtain ⟨h10, eh10, e⟩ := nm_s e
    have F := Fr.w1 F eh10 (Or.inl (by simp))
    obtain ⟨x11, ex11, e⟩ := nm_s e
    exact hk59 h10 v1 v2 x11 hr q F e
theorem fX0_placeBorder_b59 (h0 : Hp) (r : Nat) : ∀ (n : Nat) (h : Hp) (v1 : Int32) (v2 : Int32) (v3 : Int32) (hr : ck r = 0) (q : Hp), Fr (wX0_placeBorder r) zX0_placeBorder h0 h → sX0_placeBorder_b59 n h r v1 v2 v3 = some q → Fr (wX0_placeBorder r) zX0_placeBorder h0 q
  | 0 => fun _ _ _ _ _ _ _ e => by cases e
  | n + 1 => fun h v1 v2 v3 hr q F e => fX0_placeBorder_c59 h0 r (sX0_placeBorder_b59 n) (fX0_placeBorder_b59 h0 r n) h v1 v2 v3 hr q F e
set_option maxRecDepth 10000 in
theorem fX0_placeBorder_c54 (h0 : Hp) (r : Nat) (h : Hp) (v1 : Int32) (v2 : Int32) (hr : ck r = 0) (q : Hp) (F : Fr (wX0_placeBorder r) zX0_placeBorder h0 h) (e : sX0_placeBorder_c54 h r v1 v2 = some q) : Fr (wX0_placeBorder r) zX0_placeBorder h0 q := by
  unfold sX0_placeBorder_c54 at e
  obtain ⟨x4, ex4, e⟩ := nm_s e
  exact fX0_placeBorder_b59 h0 r FU h v1 v2 x4 hr q F e
set_option maxRecDepth 10000 in
theorem fX0_placeBorder_c26 (h0 : Hp) (r : Nat) (h : Hp) (v1 : Int32) (v2 : Int32) (hr : ck r = 0) (q : Hp) (F : Fr (wX0_placeBorder r) zX0_placeBorder h0 h) (e : sX0_placeBorder_c26 h r v1 v2 = some q) : Fr (wX0_placeBorder r) zX0_placeBorder h0 q := by
  unfold sX0_placeBorder_c26 at e
  by_cases c : (20 : Int32) ≤ (h.1 r 4)
  · rw [if_pos c] at e
    exact fX0_placeBorder_c53 h0 r h q F e
  · rw [if_neg c] at e
    by_cases c : (h.1 r 4) ≤ v2
    · rw [if_pos c] at e
      exact fX0_placeBorder_c54 h0 r h v1 v2 hr q F e
    · rw [if_neg c] at e
      obtain ⟨c3, e⟩ := gd_s e
      by_cases c : (h.1 (r + 1) v2.toNatClampNeg) = v1
      · rw [if_pos c] at e
        exact fX0_placeBorder_c53 h0 r h q F e
      · rw [if_neg c] at e
        exact fX0_placeBorder_c54 h0 r h v1 v2 hr q F e
set_option maxRecDepth 10000 in
theorem fX0_placeBorder_c2 (h0 : Hp) (r : Nat) (k2 : Hp → Nat → Int32 → Int32 → Option Hp) (hk2 : ∀ (h : Hp) (v1 : Int32) (v2 : Int32) (hr : ck r = 0) (q : Hp), Fr (wX0_placeBorder r) zX0_placeBorder h0 h → k2 h r v1 v2 = some q → Fr (wX0_placeBorder r) zX0_placeBorder h0 q) (h : Hp) (v1 : Int32) (v2 : Int32) (hr : ck r = 0) (q : Hp) (F : Fr (wX0_placeBorder r) zX0_placeBorder h0 h) (e : sX0_placeBorder_c2 k2 h r v1 v2 = some q) : Fr (wX0_placeBorder r) zX0_placeBorder h0 q := by
  unfold sX0_placeBorder_c2 at e
  by_cases c : (h.1 r 4) ≤ v2
  · rw [if_pos c] at e
    exact fX0_placeBorder_c26 h0 r h v1 v2 hr q F e
  · rw [if_neg c] at e
    obtain ⟨c1, e⟩ := gd_s e
    by_cases c : (h.1 (r + 1) v2.toNatClampNeg) ≤ v1
    · rw [if_pos c] at e
      exact fX0_placeBorder_c26 h0 r h v1 v2 hr q F e
    · rw [if_neg c] at e
      obtain ⟨x2, ex2, e⟩ := nm_s e
      exact hk2 h v1 x2 hr q F e
theorem fX0_placeBorder_b2 (h0 : Hp) (r : Nat) : ∀ (n : Nat) (h : Hp) (v1 : Int32) (v2 : Int32) (hr : ck r = 0) (q : Hp), Fr (wX0_placeBorder r) zX0_placeBorder h0 h → sX0_placeBorder_b2 n h r v1 v2 = some q → Fr (wX0_placeBorder r) zX0_placeBorder h0 q
  | 0 => fun _ _ _ _ _ _ e => by cases e
  | n + 1 => fun h v1 v2 hr q F e => fX0_placeBorder_c2 h0 r (sX0_placeBorder_b2 n) (fX0_placeBorder_b2 h0 r n) h v1 v2 hr q F e
set_option maxRecDepth 10000 in
theorem fX0_placeBorder (h : Hp) (r : Nat) (a1 : Int32) (q : Hp) (e : sX0_placeBorder h r a1 = some q) : Fr (wX0_placeBorder r) zX0_placeBorder h q := by
  unfold sX0_placeBorder at e
  obtain ⟨hr, e⟩ := gd_s e
  have hr := isC_t hr
  have F : Fr (wX0_placeBorder r) zX0_placeBorder h h := Fr.rf
  exact fX0_placeBorder_b2 h r FU h a1 (0 : Int32) hr q F e

-- X0_surplusOf
abbrev wX0_surplusOf (r : Nat) : List (Nat × Option Nat) := []
abbrev zX0_surplusOf : List Nat := []
set_option maxRecDepth 10000 in
theorem fX0_surplusOf_c43 (h0 : Hp) (r : Nat) (h : Hp) (t0 : Int32) (q : (Int32 × Hp)) (F : Fr (wX0_surplusOf r) zX0_surplusOf h0 h) (e : sX0_surplusOf_c43 h t0 = some q) : Fr (wX0_surplusOf r) zX0_surplusOf h0 q.2 := by
  unfold sX0_surplusOf_c43 at e
  exact Fr.e1 F e
set_option maxRecDepth 10000 in
theorem fX0_surplusOf (h : Hp) (r : Nat) (a1 : Int32) (q : (Int32 × Hp)) (e : sX0_surplusOf h r a1 = some q) : Fr (wX0_surplusOf r) zX0_surplusOf h q.2 := by
  unfold sX0_surplusOf at e
  obtain ⟨hr, e⟩ := gd_s e
  have hr := isC_t hr
  have F : Fr (wX0_surplusOf r) zX0_surplusOf h h := Fr.rf
  by_cases c : ((h.1 r 4) - (1 : Int32)) ≤ a1
  · rw [if_pos c] at e
    exact fX0_surplusOf_c43 h r h (0 : Int32) q F e
  · rw [if_neg c] at e
    obtain ⟨c1, e⟩ := gd_s e
    obtain ⟨c2, e⟩ := gd_s e
    obtain ⟨c3, e⟩ := gd_s e
    obtain ⟨c4, e⟩ := gd_s e
    exact fX0_surplusOf_c43 h r h (((h.1 (r + 1) a1.toNatClampNeg) - (h.1 (r + 1) (a1 + (1 : Int32)).toNatClampNeg)) * ((h.1 (r + 3) a1.toNatClampNeg) - (h.1 (r + 4) a1.toNatClampNeg))) q F e

-- X0_cool
abbrev wX0_cool (r : Nat) : List (Nat × Option Nat) := []
abbrev zX0_cool : List Nat := []
set_option maxRecDepth 10000 in
theorem fX0_cool_c22 (h0 : Hp) (r : Nat) (h : Hp) (t0 : Int32) (q : (Int32 × Hp)) (F : Fr (wX0_cool r) zX0_cool h0 h) (e : sX0_cool_c22 h t0 = some q) : Fr (wX0_cool r) zX0_cool h0 q.2 := by
  unfold sX0_cool_c22 at e
  exact Fr.e1 F e
set_option maxRecDepth 10000 in
theorem fX0_cool (h : Hp) (r : Nat) (q : (Int32 × Hp)) (e : sX0_cool h r = some q) : Fr (wX0_cool r) zX0_cool h q.2 := by
  unfold sX0_cool at e
  obtain ⟨hr, e⟩ := gd_s e
  have hr := isC_t hr
  have F : Fr (wX0_cool r) zX0_cool h h := Fr.rf
  by_cases c : (h.1 r 4) = 0
  · rw [if_pos c] at e
    exact fX0_cool_c22 h r h (0 : Int32) q F e
  · rw [if_neg c] at e
    obtain ⟨c1, e⟩ := gd_s e
    exact fX0_cool_c22 h r h (h.1 (r + 2) ((h.1 r 4) - (1 : Int32)).toNatClampNeg) q F e

-- X0_pinchAt
abbrev wX0_pinchAt (r : Nat) : List (Nat × Option Nat) := []
abbrev zX0_pinchAt : List Nat := []
set_option maxRecDepth 10000 in
theorem fX0_pinchAt_c2 (h0 : Hp) (r : Nat) (k2 : Hp → Nat → Int32 → Option (Int32 × Hp)) (hk2 : ∀ (h : Hp) (v1 : Int32) (hr : ck r = 0) (q : (Int32 × Hp)), Fr (wX0_pinchAt r) zX0_pinchAt h0 h → k2 h r v1 = some q → Fr (wX0_pinchAt r) zX0_pinchAt h0 q.2) (h : Hp) (v1 : Int32) (hr : ck r = 0) (q : (Int32 × Hp)) (F : Fr (wX0_pinchAt r) zX0_pinchAt h0 h) (e : sX0_pinchAt_c2 k2 h r v1 = some q) : Fr (wX0_pinchAt r) zX0_pinchAt h0 q.2 := by
  unfold sX0_pinchAt_c2 at e
  by_cases c : (h.1 r 4) ≤ v1
  · rw [if_pos c] at e
    exact Fr.e1 F e
  · rw [if_neg c] at e
    obtain ⟨c1, e⟩ := gd_s e
    by_cases c : (h.1 (r + 2) v1.toNatClampNeg) = 0
    · rw [if_pos c] at e
      obtain ⟨c3, e⟩ := gd_s e
      exact Fr.e1 F e
    · rw [if_neg c] at e
      obtain ⟨x2, ex2, e⟩ := nm_s e
      exact hk2 h x2 hr q F e
theorem fX0_pinchAt_b2 (h0 : Hp) (r : Nat) : ∀ (n : Nat) (h : Hp) (v1 : Int32) (hr : ck r = 0) (q : (Int32 × Hp)), Fr (wX0_pinchAt r) zX0_pinchAt h0 h → sX0_pinchAt_b2 n h r v1 = some q → Fr (wX0_pinchAt r) zX0_pinchAt h0 q.2
  | 0 => fun _ _ _ _ _ e => by cases e
  | n + 1 => fun h v1 hr q F e => fX0_pinchAt_c2 h0 r (sX0_pinchAt_b2 n) (fX0_pinchAt_b2 h0 r n) h v1 hr q F e
set_option maxRecDepth 10000 in
theorem fX0_pinchAt (h : Hp) (r : Nat) (q : (Int32 × Hp)) (e : sX0_pinchAt h r = some q) : Fr (wX0_pinchAt r) zX0_pinchAt h q.2 := by
  unfold sX0_pinchAt at e
  obtain ⟨hr, e⟩ := gd_s e
  have hr := isC_t hr
  have F : Fr (wX0_pinchAt r) zX0_pinchAt h h := Fr.rf
  exact fX0_pinchAt_b2 h r FU h (0 : Int32) hr q F e

-- X0_spans
abbrev wX0_spans (r : Nat) : List (Nat × Option Nat) := []
abbrev zX0_spans : List Nat := []
set_option maxRecDepth 10000 in
theorem fX0_spans_c37 (h0 : Hp) (r : Nat) (h : Hp) (t0 : Int32) (q : (Int32 × Hp)) (F : Fr (wX0_spans r) zX0_spans h0 h) (e : sX0_spans_c37 h t0 = some q) : Fr (wX0_spans r) zX0_spans h0 q.2 := by
  unfold sX0_spans_c37 at e
  obtain ⟨c2, e⟩ := gd_s e
  exact Fr.e1 F e
set_option maxRecDepth 10000 in
theorem fX0_spans_c36 (h0 : Hp) (r : Nat) (h : Hp) (q : (Int32 × Hp)) (F : Fr (wX0_spans r) zX0_spans h0 h) (e : sX0_spans_c36 h = some q) : Fr (wX0_spans r) zX0_spans h0 q.2 := by
  unfold sX0_spans_c36 at e
  exact fX0_spans_c37 h0 r h (0 : Int32) q F e
set_option maxRecDepth 10000 in
theorem fX0_spans (h : Hp) (r : Nat) (a1 : Int32) (q : (Int32 × Hp)) (e : sX0_spans h r a1 = some q) : Fr (wX0_spans r) zX0_spans h q.2 := by
  unfold sX0_spans at e
  obtain ⟨hr, e⟩ := gd_s e
  have hr := isC_t hr
  have F : Fr (wX0_spans r) zX0_spans h h := Fr.rf
  by_cases c : (h.1 r 4) ≤ 0
  · rw [if_pos c] at e
    exact fX0_spans_c36 h r h q F e
  · rw [if_neg c] at e
    by_cases c : (h.1 (r + 1) (0 : Int32).toNatClampNeg) < a1
    · rw [if_pos c] at e
      exact fX0_spans_c36 h r h q F e
    · rw [if_neg c] at e
      obtain ⟨c1, e⟩ := gd_s e
      by_cases c : a1 < (h.1 (r + 1) ((h.1 r 4) - (1 : Int32)).toNatClampNeg)
      · rw [if_pos c] at e
        exact fX0_spans_c36 h r h q F e
      · rw [if_neg c] at e
        exact fX0_spans_c37 h r h (1 : Int32) q F e

-- X0_carryAt
abbrev wX0_carryAt (r : Nat) : List (Nat × Option Nat) := []
abbrev zX0_carryAt : List Nat := []
set_option maxRecDepth 10000 in
theorem fX0_carryAt_c30 (h0 : Hp) (r : Nat) (h : Hp) (v1 : Int32) (v2 : Int32) (hr : ck r = 0) (q : (Int32 × Hp)) (F : Fr (wX0_carryAt r) zX0_carryAt h0 h) (e : sX0_carryAt_c30 h r v1 v2 = some q) : Fr (wX0_carryAt r) zX0_carryAt h0 q.2 := by
  unfold sX0_carryAt_c30 at e
  obtain ⟨c3, e⟩ := gd_s e
  obtain ⟨c4, e⟩ := gd_s e
  obtain ⟨c5, e⟩ := gd_s e
  obtain ⟨c6, e⟩ := gd_s e
  exact Fr.e1 F e
set_option maxRecDepth 10000 in
theorem fX0_carryAt_c2 (h0 : Hp) (r : Nat) (k2 : Hp → Nat → Int32 → Int32 → Option (Int32 × Hp)) (hk2 : ∀ (h : Hp) (v1 : Int32) (v2 : Int32) (hr : ck r = 0) (q : (Int32 × Hp)), Fr (wX0_carryAt r) zX0_carryAt h0 h → k2 h r v1 v2 = some q → Fr (wX0_carryAt r) zX0_carryAt h0 q.2) (h : Hp) (v1 : Int32) (v2 : Int32) (hr : ck r = 0) (q : (Int32 × Hp)) (F : Fr (wX0_carryAt r) zX0_carryAt h0 h) (e : sX0_carryAt_c2 k2 h r v1 v2 = some q) : Fr (wX0_carryAt r) zX0_carryAt h0 q.2 := by
  unfold sX0_carryAt_c2 at e
  by_cases c : ((h.1 r 4) - (1 : Int32)) ≤ v2
  · rw [if_pos c] at e
    exact fX0_carryAt_c30 h0 r h v1 v2 hr q F e
  · rw [if_neg c] at e
    obtain ⟨c1, e⟩ := gd_s e
    by_cases c : (h.1 (r + 1) (v2 + (1 : Int32)).toNatClampNeg) < v1
    · rw [if_pos c] at e
      exact fX0_carryAt_c30 h0 r h v1 v2 hr q F e
    · rw [if_neg c] at e
      obtain ⟨x2, ex2, e⟩ := nm_s e
      exact hk2 h v1 x2 hr q F e
theorem fX0_carryAt_b2 (h0 : Hp) (r : Nat) : ∀ (n : Nat) (h : Hp) (v1 : Int32) (v2 : Int32) (hr : ck r = 0) (q : (Int32 × Hp)), Fr (wX0_carryAt r) zX0_carryAt h0 h → sX0_carryAt_b2 n h r v1 v2 = some q → Fr (wX0_carryAt r) zX0_carryAt h0 q.2
  | 0 => fun _ _ _ _ _ _ e => by cases e
  | n + 1 => fun h v1 v2 hr q F e => fX0_carryAt_c2 h0 r (sX0_carryAt_b2 n) (fX0_carryAt_b2 h0 r n) h v1 v2 hr q F e
set_option maxRecDepth 10000 in
theorem fX0_carryAt (h : Hp) (r : Nat) (a1 : Int32) (q : (Int32 × Hp)) (e : sX0_carryAt h r a1 = some q) : Fr (wX0_carryAt r) zX0_carryAt h q.2 := by
  unfold sX0_carryAt at e
  obtain ⟨hr, e⟩ := gd_s e
  have hr := isC_t hr
  have F : Fr (wX0_carryAt r) zX0_carryAt h h := Fr.rf
  exact fX0_carryAt_b2 h r FU h a1 (0 : Int32) hr q F e

-- X1_empty
abbrev wX1_empty (r : Nat) : List (Nat × Option Nat) := [(r, some 4)]
abbrev zX1_empty : List Nat := []
set_option maxRecDepth 10000 in
theorem fX1_empty (h : Hp) (r : Nat) (q : Hp) (e : sX1_empty h r = some q) : Fr (wX1_empty r) zX1_empty h q := by
  unfold sX1_empty at e
  obtain ⟨hr, e⟩ := gd_s e
  have hr := isC_t hr
  have F : Fr (wX1_empty r) zX1_empty h h := Fr.rf
  obtain ⟨h1, eh1, e⟩ := nm_s e
  have F := Fr.w1 F eh1 (Or.inr (by simp))
  exact Fr.e0 F e

-- X1_has
abbrev wX1_has (r : Nat) : List (Nat × Option Nat) := []
abbrev zX1_has : List Nat := []
set_option maxRecDepth 10000 in
theorem fX1_has_c17 (h0 : Hp) (r : Nat) (h : Hp) (t0 : Int32) (q : (Int32 × Hp)) (F : Fr (wX1_has r) zX1_has h0 h) (e : sX1_has_c17 h t0 = some q) : Fr (wX1_has r) zX1_has h0 q.2 := by
  unfold sX1_has_c17 at e
  obtain ⟨c1, e⟩ := gd_s e
  exact Fr.e1 F e
set_option maxRecDepth 10000 in
theorem fX1_has_c16 (h0 : Hp) (r : Nat) (h : Hp) (q : (Int32 × Hp)) (F : Fr (wX1_has r) zX1_has h0 h) (e : sX1_has_c16 h = some q) : Fr (wX1_has r) zX1_has h0 q.2 := by
  unfold sX1_has_c16 at e
  exact fX1_has_c17 h0 r h (0 : Int32) q F e
set_option maxRecDepth 10000 in
theorem fX1_has (h : Hp) (r : Nat) (a1 : Int32) (q : (Int32 × Hp)) (e : sX1_has h r a1 = some q) : Fr (wX1_has r) zX1_has h q.2 := by
  unfold sX1_has at e
  obtain ⟨hr, e⟩ := gd_s e
  have hr := isC_t hr
  have F : Fr (wX1_has r) zX1_has h h := Fr.rf
  by_cases c : a1 < 0
  · rw [if_pos c] at e
    exact fX1_has_c16 h r h q F e
  · rw [if_neg c] at e
    by_cases c : (h.1 r 4) ≤ a1
    · rw [if_pos c] at e
      exact fX1_has_c16 h r h q F e
    · rw [if_neg c] at e
      exact fX1_has_c17 h r h (1 : Int32) q F e

-- X1_add
abbrev wX1_add (r : Nat) : List (Nat × Option Nat) := [(r + 1, none), (r + 2, none), (r + 3, none), (r + 4, none), (r, some 4)]
abbrev zX1_add : List Nat := []
set_option maxRecDepth 10000 in
theorem fX1_add_c60 (h0 : Hp) (r : Nat) (h : Hp) (q : Hp) (F : Fr (wX1_add r) zX1_add h0 h) (e : sX1_add_c60 h = some q) : Fr (wX1_add r) zX1_add h0 q := by
  unfold sX1_add_c60 at e
  exact Fr.e0 F e
set_option maxRecDepth 10000 in
theorem fX1_add (h : Hp) (r : Nat) (a1 : Int32) (a2 : Int32) (a3 : Int32) (a4 : Int32) (q : Hp) (e : sX1_add h r a1 a2 a3 a4 = some q) : Fr (wX1_add r) zX1_add h q := by
  unfold sX1_add at e
  obtain ⟨hr, e⟩ := gd_s e
  have hr := isC_t hr
  have F : Fr (wX1_add r) zX1_add h h := Fr.rf
  by_cases c : (10 : Int32) ≤ (h.1 r 4)
  · rw [if_pos c] at e
    exact fX1_add_c60 h r h q F e
  · rw [if_neg c] at e
    obtain ⟨c1, e⟩ := gd_s e
    obtain ⟨h2, eh2, e⟩ := nm_s e
    have F := Fr.w1 F eh2 (Or.inl (by simp))
    obtain ⟨c3, e⟩ := gd_s e
    obtain ⟨h4, eh4, e⟩ := nm_s e
    have F := Fr.w1 F eh4 (Or.inl (by simp))
    obtain ⟨c5, e⟩ := gd_s e
    obtain ⟨h6, eh6, e⟩ := nm_s e
    have F := Fr.w1 F eh6 (Or.inl (by simp))
    obtain ⟨c7, e⟩ := gd_s e
    obtain ⟨h8, eh8, e⟩ := nm_s e
    have F := Fr.w1 F eh8 (Or.inl (by simp))
    obtain ⟨h9, eh9, e⟩ := nm_s e
    have F := Fr.w1 F eh9 (Or.inr (by simp))
    exact fX1_add_c60 h r h9 q F e

-- X1_remove
abbrev wX1_remove (r : Nat) : List (Nat × Option Nat) := [(r, some 4), (r + 1, none), (r + 2, none), (r + 3, none), (r + 4, none)]
abbrev zX1_remove : List Nat := []
set_option maxRecDepth 10000 in
theorem fX1_remove_c4 (h0 : Hp) (r : Nat) (k4 : Hp → Nat → Int32 → Option Hp) (hk4 : ∀ (h : Hp) (v2 : Int32) (hr : ck r = 1) (q : Hp), Fr (wX1_remove r) zX1_remove h0 h → k4 h r v2 = some q → Fr (wX1_remove r) zX1_remove h0 q) (h : Hp) (v2 : Int32) (hr : ck r = 1) (q : Hp) (F : Fr (wX1_remove r) zX1_remove h0 h) (e : sX1_remove_c4 k4 h r v2 = some q) : Fr (wX1_remove r) zX1_remove h0 q := by
  unfold sX1_remove_c4 at e
  by_cases c : (h.1 r 4) ≤ v2
  · rw [if_pos c] at e
    obtain ⟨h2, eh2, e⟩ := nm_s e
    have F := Fr.w1 F eh2 (Or.inr (by simp))
    exact Fr.e0 F e
  · rw [if_neg c] at e
    obtain ⟨c3, e⟩ := gd_s e
    obtain ⟨c4, e⟩ := gd_s e
    obtain ⟨h5, eh5, e⟩ := nm_s e
    have F := Fr.w1 F eh5 (Or.inl (by simp))
    obtain ⟨c6, e⟩ := gd_s e
    obtain ⟨c7, e⟩ := gd_s e
    obtain ⟨h8, eh8, e⟩ := nm_s e
    have F := Fr.w1 F eh8 (Or.inl (by simp))
    obtain ⟨c9, e⟩ := gd_s e
    obtain ⟨c10, e⟩ := gd_s e
    obtain ⟨h11, eh11, e⟩ := nm_s e
    have F := Fr.w1 F eh11 (Or.inl (by simp))
    obtain ⟨c12, e⟩ := gd_s e
    obtain ⟨c13, e⟩ := gd_s e
    obtain ⟨h14, eh14, e⟩ := nm_s e
    have F := Fr.w1 F eh14 (Or.inl (by simp))
    obtain ⟨x15, ex15, e⟩ := nm_s e
    exact hk4 h14 x15 hr q F e
theorem fX1_remove_b4 (h0 : Hp) (r : Nat) : ∀ (n : Nat) (h : Hp) (v2 : Int32) (hr : ck r = 1) (q : Hp), Fr (wX1_remove r) zX1_remove h0 h → sX1_remove_b4 n h r v2 = some q → Fr (wX1_remove r) zX1_remove h0 q
  | 0 => fun _ _ _ _ _ e => by cases e
  | n + 1 => fun h v2 hr q F e => fX1_remove_c4 h0 r (sX1_remove_b4 n) (fX1_remove_b4 h0 r n) h v2 hr q F e
set_option maxRecDepth 10000 in
theorem fX1_remove (h : Hp) (r : Nat) (a1 : Int32) (q : Hp) (e : sX1_remove h r a1 = some q) : Fr (wX1_remove r) zX1_remove h q := by
  unfold sX1_remove at e
  obtain ⟨hr, e⟩ := gd_s e
  have hr := isC_t hr
  have F : Fr (wX1_remove r) zX1_remove h h := Fr.rf
  obtain ⟨x1, ex1, e⟩ := nm_s e
  exact fX1_remove_b4 h r FU h x1 hr q F e

-- X1_value
abbrev wX1_value (r : Nat) : List (Nat × Option Nat) := []
abbrev zX1_value : List Nat := []
set_option maxRecDepth 10000 in
theorem fX1_value_c31 (h0 : Hp) (r : Nat) (h : Hp) (t0 : Int32) (q : (Int32 × Hp)) (F : Fr (wX1_value r) zX1_value h0 h) (e : sX1_value_c31 h t0 = some q) : Fr (wX1_value r) zX1_value h0 q.2 := by
  unfold sX1_value_c31 at e
  exact Fr.e1 F e
set_option maxRecDepth 10000 in
theorem fX1_value (h : Hp) (r : Nat) (a1 : Int32) (a2 : Int32) (q : (Int32 × Hp)) (e : sX1_value h r a1 a2 = some q) : Fr (wX1_value r) zX1_value h q.2 := by
  unfold sX1_value at e
  obtain ⟨hr, e⟩ := gd_s e
  have hr := isC_t hr
  have F : Fr (wX1_value r) zX1_value h h := Fr.rf
  by_cases c : a2 = (2 : Int32)
  · rw [if_pos c] at e
    obtain ⟨c3, e⟩ := gd_s e
    exact Fr.e1 F e
  · rw [if_neg c] at e
    by_cases c : a2 = 0
    · rw [if_pos c] at e
      obtain ⟨c2, e⟩ := gd_s e
      exact fX1_value_c31 h r h (h.1 (r + 2) a1.toNatClampNeg) q F e
    · rw [if_neg c] at e
      obtain ⟨c1, e⟩ := gd_s e
      exact fX1_value_c31 h r h (h.1 (r + 3) a1.toNatClampNeg) q F e

-- X1_put
abbrev wX1_put (r : Nat) : List (Nat × Option Nat) := [(r + 3, none), (r + 2, none), (r + 4, none)]
abbrev zX1_put : List Nat := []
set_option maxRecDepth 10000 in
theorem fX1_put_c36 (h0 : Hp) (r : Nat) (h : Hp) (q : Hp) (F : Fr (wX1_put r) zX1_put h0 h) (e : sX1_put_c36 h = some q) : Fr (wX1_put r) zX1_put h0 q := by
  unfold sX1_put_c36 at e
  exact Fr.e0 F e
set_option maxRecDepth 10000 in
theorem fX1_put (h : Hp) (r : Nat) (a1 : Int32) (a2 : Int32) (a3 : Int32) (q : Hp) (e : sX1_put h r a1 a2 a3 = some q) : Fr (wX1_put r) zX1_put h q := by
  unfold sX1_put at e
  obtain ⟨hr, e⟩ := gd_s e
  have hr := isC_t hr
  have F : Fr (wX1_put r) zX1_put h h := Fr.rf
  by_cases c : a2 = (2 : Int32)
  · rw [if_pos c] at e
    obtain ⟨c5, e⟩ := gd_s e
    obtain ⟨h6, eh6, e⟩ := nm_s e
    have F := Fr.w1 F eh6 (Or.inl (by simp))
    exact fX1_put_c36 h r h6 q F e
  · rw [if_neg c] at e
    by_cases c : a2 = 0
    · rw [if_pos c] at e
      obtain ⟨c3, e⟩ := gd_s e
      obtain ⟨h4, eh4, e⟩ := nm_s e
      have F := Fr.w1 F eh4 (Or.inl (by simp))
      exact fX1_put_c36 h r h4 q F e
    · rw [if_neg c] at e
      obtain ⟨c1, e⟩ := gd_s e
      obtain ⟨h2, eh2, e⟩ := nm_s e
      have F := Fr.w1 F eh2 (Or.inl (by simp))
      exact fX1_put_c36 h r h2 q F e

-- X1_turns
abbrev wX1_turns (r : Nat) : List (Nat × Option Nat) := []
abbrev zX1_turns : List Nat := []
set_option maxRecDepth 10000 in
theorem fX1_turns_c69 (h0 : Hp) (r : Nat) (h : Hp) (t0 : Int32) (q : (Int32 × Hp)) (F : Fr (wX1_turns r) zX1_turns h0 h) (e : sX1_turns_c69 h t0 = some q) : Fr (wX1_turns r) zX1_turns h0 q.2 := by
  unfold sX1_turns_c69 at e
  obtain ⟨c4, e⟩ := gd_s e
  exact Fr.e1 F e
set_option maxRecDepth 10000 in
theorem fX1_turns_c31 (h0 : Hp) (r : Nat) (h : Hp) (v1 : Int32) (v4 : Int32) (t0 : Int32) (hr : ck r = 1) (q : (Int32 × Hp)) (F : Fr (wX1_turns r) zX1_turns h0 h) (e : sX1_turns_c31 h r v1 v4 t0 = some q) : Fr (wX1_turns r) zX1_turns h0 q.2 := by
  unfold sX1_turns_c31 at e
  obtain ⟨c3, e⟩ := gd_s e
  by_cases c : (h.1 (r + 1) v1.toNatClampNeg) = 0
  · rw [if_pos c] at e
    by_cases c : v4 < t0
    · rw [if_pos c] at e
      exact fX1_turns_c69 h0 r h (0 : Int32) q F e
    · rw [if_neg c] at e
      exact fX1_turns_c69 h0 r h (1 : Int32) q F e
  · rw [if_neg c] at e
    by_cases c : t0 < v4
    · rw [if_pos c] at e
      exact fX1_turns_c69 h0 r h (0 : Int32) q F e
    · rw [if_neg c] at e
      exact fX1_turns_c69 h0 r h (1 : Int32) q F e
set_option maxRecDepth 10000 in
theorem fX1_turns_c14 (h0 : Hp) (r : Nat) (h : Hp) (v1 : Int32) (v2 : Int32) (v3 : Int32) (t0 : Int32) (hr : ck r = 1) (q : (Int32 × Hp)) (F : Fr (wX1_turns r) zX1_turns h0 h) (e : sX1_turns_c14 h r v1 v2 v3 t0 = some q) : Fr (wX1_turns r) zX1_turns h0 q.2 := by
  unfold sX1_turns_c14 at e
  by_cases c : v2 = (1 : Int32)
  · rw [if_pos c] at e
    exact fX1_turns_c31 h0 r h v1 t0 v3 hr q F e
  · rw [if_neg c] at e
    obtain ⟨c2, e⟩ := gd_s e
    exact fX1_turns_c31 h0 r h v1 t0 (h.1 (r + 3) v1.toNatClampNeg) hr q F e
set_option maxRecDepth 10000 in
theorem fX1_turns (h : Hp) (r : Nat) (a1 : Int32) (a2 : Int32) (a3 : Int32) (q : (Int32 × Hp)) (e : sX1_turns h r a1 a2 a3 = some q) : Fr (wX1_turns r) zX1_turns h q.2 := by
  unfold sX1_turns at e
  obtain ⟨hr, e⟩ := gd_s e
  have hr := isC_t hr
  have F : Fr (wX1_turns r) zX1_turns h h := Fr.rf
  by_cases c : a2 = 0
  · rw [if_pos c] at e
    exact fX1_turns_c14 h r h a1 a2 a3 a3 hr q F e
  · rw [if_neg c] at e
    obtain ⟨c1, e⟩ := gd_s e
    exact fX1_turns_c14 h r h a1 a2 a3 (h.1 (r + 2) a1.toNatClampNeg) hr q F e

-- X1_hotBits
abbrev wX1_hotBits (r : Nat) : List (Nat × Option Nat) := []
abbrev zX1_hotBits : List Nat := []
set_option maxRecDepth 10000 in
theorem fX1_hotBits_c27 (h0 : Hp) (r : Nat) (k4 : Hp → Nat → Int32 → Int32 → Option (Int32 × Hp)) (hk4 : ∀ (h : Hp) (v1 : Int32) (v2 : Int32) (hr : ck r = 1) (q : (Int32 × Hp)), Fr (wX1_hotBits r) zX1_hotBits h0 h → k4 h r v1 v2 = some q → Fr (wX1_hotBits r) zX1_hotBits h0 q.2) (h : Hp) (v1 : Int32) (v2 : Int32) (hr : ck r = 1) (q : (Int32 × Hp)) (F : Fr (wX1_hotBits r) zX1_hotBits h0 h) (e : sX1_hotBits_c27 k4 h r v1 v2 = some q) : Fr (wX1_hotBits r) zX1_hotBits h0 q.2 := by
  unfold sX1_hotBits_c27 at e
  obtain ⟨x3, ex3, e⟩ := nm_s e
  exact hk4 h v1 x3 hr q F e
set_option maxRecDepth 10000 in
theorem fX1_hotBits_c4 (h0 : Hp) (r : Nat) (k4 : Hp → Nat → Int32 → Int32 → Option (Int32 × Hp)) (hk4 : ∀ (h : Hp) (v1 : Int32) (v2 : Int32) (hr : ck r = 1) (q : (Int32 × Hp)), Fr (wX1_hotBits r) zX1_hotBits h0 h → k4 h r v1 v2 = some q → Fr (wX1_hotBits r) zX1_hotBits h0 q.2) (h : Hp) (v1 : Int32) (v2 : Int32) (hr : ck r = 1) (q : (Int32 × Hp)) (F : Fr (wX1_hotBits r) zX1_hotBits h0 h) (e : sX1_hotBits_c4 k4 h r v1 v2 = some q) : Fr (wX1_hotBits r) zX1_hotBits h0 q.2 := by
  unfold sX1_hotBits_c4 at e
  by_cases c : (h.1 r 4) ≤ v2
  · rw [if_pos c] at e
    exact Fr.e1 F e
  · rw [if_neg c] at e
    obtain ⟨c1, e⟩ := gd_s e
    by_cases c : (h.1 (r + 1) v2.toNatClampNeg) = 0
    · rw [if_pos c] at e
      exact fX1_hotBits_c27 h0 r k4 hk4 h v1 v2 hr q F e
    · rw [if_neg c] at e
      obtain ⟨x2, ex2, e⟩ := nm_s e
      exact fX1_hotBits_c27 h0 r k4 hk4 h x2 v2 hr q F e
theorem fX1_hotBits_b4 (h0 : Hp) (r : Nat) : ∀ (n : Nat) (h : Hp) (v1 : Int32) (v2 : Int32) (hr : ck r = 1) (q : (Int32 × Hp)), Fr (wX1_hotBits r) zX1_hotBits h0 h → sX1_hotBits_b4 n h r v1 v2 = some q → Fr (wX1_hotBits r) zX1_hotBits h0 q.2
  | 0 => fun _ _ _ _ _ _ e => by cases e
  | n + 1 => fun h v1 v2 hr q F e => fX1_hotBits_c4 h0 r (sX1_hotBits_b4 n) (fX1_hotBits_b4 h0 r n) h v1 v2 hr q F e
set_option maxRecDepth 10000 in
theorem fX1_hotBits (h : Hp) (r : Nat) (q : (Int32 × Hp)) (e : sX1_hotBits h r = some q) : Fr (wX1_hotBits r) zX1_hotBits h q.2 := by
  unfold sX1_hotBits at e
  obtain ⟨hr, e⟩ := gd_s e
  have hr := isC_t hr
  have F : Fr (wX1_hotBits r) zX1_hotBits h h := Fr.rf
  exact fX1_hotBits_b4 h r FU h (0 : Int32) (0 : Int32) hr q F e

-- X2_empty
abbrev wX2_empty (r : Nat) : List (Nat × Option Nat) := [(r, some 14), (r + 7, none)]
abbrev zX2_empty : List Nat := []
set_option maxRecDepth 10000 in
theorem fX2_empty_c7 (h0 : Hp) (r : Nat) (k7 : Hp → Nat → Int32 → Option Hp) (hk7 : ∀ (h : Hp) (v1 : Int32) (hr : ck r = 2) (q : Hp), Fr (wX2_empty r) zX2_empty h0 h → k7 h r v1 = some q → Fr (wX2_empty r) zX2_empty h0 q) (h : Hp) (v1 : Int32) (hr : ck r = 2) (q : Hp) (F : Fr (wX2_empty r) zX2_empty h0 h) (e : sX2_empty_c7 k7 h r v1 = some q) : Fr (wX2_empty r) zX2_empty h0 q := by
  unfold sX2_empty_c7 at e
  by_cases c : (h.1 r 2) ≤ v1
  · rw [if_pos c] at e
    exact Fr.e0 F e
  · rw [if_neg c] at e
    obtain ⟨c2, e⟩ := gd_s e
    obtain ⟨h3, eh3, e⟩ := nm_s e
    have F := Fr.w1 F eh3 (Or.inl (by simp))
    obtain ⟨x4, ex4, e⟩ := nm_s e
    exact hk7 h3 x4 hr q F e
theorem fX2_empty_b7 (h0 : Hp) (r : Nat) : ∀ (n : Nat) (h : Hp) (v1 : Int32) (hr : ck r = 2) (q : Hp), Fr (wX2_empty r) zX2_empty h0 h → sX2_empty_b7 n h r v1 = some q → Fr (wX2_empty r) zX2_empty h0 q
  | 0 => fun _ _ _ _ _ e => by cases e
  | n + 1 => fun h v1 hr q F e => fX2_empty_c7 h0 r (sX2_empty_b7 n) (fX2_empty_b7 h0 r n) h v1 hr q F e
set_option maxRecDepth 10000 in
theorem fX2_empty (h : Hp) (r : Nat) (q : Hp) (e : sX2_empty h r = some q) : Fr (wX2_empty r) zX2_empty h q := by
  unfold sX2_empty at e
  obtain ⟨hr, e⟩ := gd_s e
  have hr := isC_t hr
  have F : Fr (wX2_empty r) zX2_empty h h := Fr.rf
  obtain ⟨h1, eh1, e⟩ := nm_s e
  have F := Fr.w1 F eh1 (Or.inr (by simp))
  exact fX2_empty_b7 h r FU h1 (0 : Int32) hr q F e

-- X2_hasHeat
abbrev wX2_hasHeat (r : Nat) : List (Nat × Option Nat) := []
abbrev zX2_hasHeat : List Nat := []
set_option maxRecDepth 10000 in
theorem fX2_hasHeat_c36 (h0 : Hp) (r : Nat) (h : Hp) (t0 : Int32) (q : (Int32 × Hp)) (F : Fr (wX2_hasHeat r) zX2_hasHeat h0 h) (e : sX2_hasHeat_c36 h t0 = some q) : Fr (wX2_hasHeat r) zX2_hasHeat h0 q.2 := by
  unfold sX2_hasHeat_c36 at e
  obtain ⟨c3, e⟩ := gd_s e
  exact Fr.e1 F e
set_option maxRecDepth 10000 in
theorem fX2_hasHeat_c35 (h0 : Hp) (r : Nat) (h : Hp) (q : (Int32 × Hp)) (F : Fr (wX2_hasHeat r) zX2_hasHeat h0 h) (e : sX2_hasHeat_c35 h = some q) : Fr (wX2_hasHeat r) zX2_hasHeat h0 q.2 := by
  unfold sX2_hasHeat_c35 at e
  exact fX2_hasHeat_c36 h0 r h (0 : Int32) q F e
set_option maxRecDepth 10000 in
theorem fX2_hasHeat (h : Hp) (r : Nat) (a1 : Int32) (a2 : Int32) (q : (Int32 × Hp)) (e : sX2_hasHeat h r a1 a2 = some q) : Fr (wX2_hasHeat r) zX2_hasHeat h q.2 := by
  unfold sX2_hasHeat at e
  obtain ⟨hr, e⟩ := gd_s e
  have hr := isC_t hr
  have F : Fr (wX2_hasHeat r) zX2_hasHeat h h := Fr.rf
  by_cases c : a1 < 0
  · rw [if_pos c] at e
    exact fX2_hasHeat_c35 h r h q F e
  · rw [if_neg c] at e
    by_cases c : (h.1 r 2) ≤ a1
    · rw [if_pos c] at e
      exact fX2_hasHeat_c35 h r h q F e
    · rw [if_neg c] at e
      obtain ⟨c1, e⟩ := gd_s e
      by_cases c : (h.1 (r + 1) a1.toNatClampNeg) = a2
      · rw [if_pos c] at e
        obtain ⟨c2, e⟩ := gd_s e
        by_cases c : (h.1 (r + 6) a1.toNatClampNeg) ≤ 0
        · rw [if_pos c] at e
          exact fX2_hasHeat_c35 h r h q F e
        · rw [if_neg c] at e
          exact fX2_hasHeat_c36 h r h (1 : Int32) q F e
      · rw [if_neg c] at e
        exact fX2_hasHeat_c35 h r h q F e

-- X2_rest
abbrev wX2_rest (r : Nat) : List (Nat × Option Nat) := []
abbrev zX2_rest : List Nat := []
set_option maxRecDepth 10000 in
theorem fX2_rest (h : Hp) (r : Nat) (a1 : Int32) (q : (Int32 × Hp)) (e : sX2_rest h r a1 = some q) : Fr (wX2_rest r) zX2_rest h q.2 := by
  unfold sX2_rest at e
  obtain ⟨hr, e⟩ := gd_s e
  have hr := isC_t hr
  have F : Fr (wX2_rest r) zX2_rest h h := Fr.rf
  obtain ⟨c1, e⟩ := gd_s e
  obtain ⟨c2, e⟩ := gd_s e
  exact Fr.e1 F e

-- X2_arriving
abbrev wX2_arriving (r : Nat) : List (Nat × Option Nat) := []
abbrev zX2_arriving : List Nat := []
set_option maxRecDepth 10000 in
theorem fX2_arriving_c49 (h0 : Hp) (r : Nat) (k5 : Hp → Nat → Int32 → Int32 → Int32 → Int32 → Option (Int32 × Hp)) (hk5 : ∀ (h : Hp) (v1 : Int32) (v2 : Int32) (v3 : Int32) (v4 : Int32) (hr : ck r = 2) (q : (Int32 × Hp)), Fr (wX2_arriving r) zX2_arriving h0 h → k5 h r v1 v2 v3 v4 = some q → Fr (wX2_arriving r) zX2_arriving h0 q.2) (h : Hp) (v1 : Int32) (v2 : Int32) (v3 : Int32) (v4 : Int32) (hr : ck r = 2) (q : (Int32 × Hp)) (F : Fr (wX2_arriving r) zX2_arriving h0 h) (e : sX2_arriving_c49 k5 h r v1 v2 v3 v4 = some q) : Fr (wX2_arriving r) zX2_arriving h0 q.2 := by
  unfold sX2_arriving_c49 at e
  obtain ⟨x5, ex5, e⟩ := nm_s e
  exact hk5 h v1 v2 v3 x5 hr q F e
set_option maxRecDepth 10000 in
theorem fX2_arriving_c5 (h0 : Hp) (r : Nat) (k5 : Hp → Nat → Int32 → Int32 → Int32 → Int32 → Option (Int32 × Hp)) (hk5 : ∀ (h : Hp) (v1 : Int32) (v2 : Int32) (v3 : Int32) (v4 : Int32) (hr : ck r = 2) (q : (Int32 × Hp)), Fr (wX2_arriving r) zX2_arriving h0 h → k5 h r v1 v2 v3 v4 = some q → Fr (wX2_arriving r) zX2_arriving h0 q.2) (h : Hp) (v1 : Int32) (v2 : Int32) (v3 : Int32) (v4 : Int32) (hr : ck r = 2) (q : (Int32 × Hp)) (F : Fr (wX2_arriving r) zX2_arriving h0 h) (e : sX2_arriving_c5 k5 h r v1 v2 v3 v4 = some q) : Fr (wX2_arriving r) zX2_arriving h0 q.2 := by
  unfold sX2_arriving_c5 at e
  by_cases c : (h.1 r 2) ≤ v4
  · rw [if_pos c] at e
    exact Fr.e1 F e
  · rw [if_neg c] at e
    obtain ⟨c1, e⟩ := gd_s e
    by_cases c : (h.1 (r + 2) v4.toNatClampNeg) = 0
    · rw [if_pos c] at e
      exact fX2_arriving_c49 h0 r k5 hk5 h v1 v2 v3 v4 hr q F e
    · rw [if_neg c] at e
      obtain ⟨c2, e⟩ := gd_s e
      by_cases c : (h.1 (r + 1) v4.toNatClampNeg) = v1
      · rw [if_pos c] at e
        obtain ⟨c3, e⟩ := gd_s e
        by_cases c : (h.1 (r + 3) v4.toNatClampNeg) < v2
        · rw [if_pos c] at e
          exact fX2_arriving_c49 h0 r k5 hk5 h v1 v2 v3 v4 hr q F e
        · rw [if_neg c] at e
          obtain ⟨x4, ex4, e⟩ := nm_s e
          exact fX2_arriving_c49 h0 r k5 hk5 h v1 v2 x4 v4 hr q F e
      · rw [if_neg c] at e
        exact fX2_arriving_c49 h0 r k5 hk5 h v1 v2 v3 v4 hr q F e
theorem fX2_arriving_b5 (h0 : Hp) (r : Nat) : ∀ (n : Nat) (h : Hp) (v1 : Int32) (v2 : Int32) (v3 : Int32) (v4 : Int32) (hr : ck r = 2) (q : (Int32 × Hp)), Fr (wX2_arriving r) zX2_arriving h0 h → sX2_arriving_b5 n h r v1 v2 v3 v4 = some q → Fr (wX2_arriving r) zX2_arriving h0 q.2
  | 0 => fun _ _ _ _ _ _ _ _ e => by cases e
  | n + 1 => fun h v1 v2 v3 v4 hr q F e => fX2_arriving_c5 h0 r (sX2_arriving_b5 n) (fX2_arriving_b5 h0 r n) h v1 v2 v3 v4 hr q F e
set_option maxRecDepth 10000 in
theorem fX2_arriving (h : Hp) (r : Nat) (a1 : Int32) (a2 : Int32) (q : (Int32 × Hp)) (e : sX2_arriving h r a1 a2 = some q) : Fr (wX2_arriving r) zX2_arriving h q.2 := by
  unfold sX2_arriving at e
  obtain ⟨hr, e⟩ := gd_s e
  have hr := isC_t hr
  have F : Fr (wX2_arriving r) zX2_arriving h h := Fr.rf
  exact fX2_arriving_b5 h r FU h a1 a2 (0 : Int32) (0 : Int32) hr q F e

-- X2_unit
abbrev wX2_unit (r : Nat) : List (Nat × Option Nat) := []
abbrev zX2_unit : List Nat := []
set_option maxRecDepth 10000 in
theorem fX2_unit (h : Hp) (r : Nat) (a1 : Int32) (a2 : Int32) (q : (Int32 × Hp)) (e : sX2_unit h r a1 a2 = some q) : Fr (wX2_unit r) zX2_unit h q.2 := by
  unfold sX2_unit at e
  obtain ⟨hr, e⟩ := gd_s e
  have hr := isC_t hr
  have F : Fr (wX2_unit r) zX2_unit h h := Fr.rf
  obtain ⟨c1, e⟩ := gd_s e
  obtain ⟨c2, e⟩ := gd_s e
  exact Fr.e1 F e

-- X2_add
abbrev wX2_add (r : Nat) : List (Nat × Option Nat) := [(r + 8, none), (r + 9, none), (r + 10, none), (r, some 14), (r + 7, none)]
abbrev zX2_add : List Nat := []
set_option maxRecDepth 10000 in
theorem fX2_add_c69 (h0 : Hp) (r : Nat) (h : Hp) (q : Hp) (F : Fr (wX2_add r) zX2_add h0 h) (e : sX2_add_c69 h = some q) : Fr (wX2_add r) zX2_add h0 q := by
  unfold sX2_add_c69 at e
  exact Fr.e0 F e
set_option maxRecDepth 10000 in
theorem fX2_add (h : Hp) (r : Nat) (a1 : Int32) (a2 : Int32) (a3 : Int32) (q : Hp) (e : sX2_add h r a1 a2 a3 = some q) : Fr (wX2_add r) zX2_add h q := by
  unfold sX2_add at e
  obtain ⟨hr, e⟩ := gd_s e
  have hr := isC_t hr
  have F : Fr (wX2_add r) zX2_add h h := Fr.rf
  by_cases c : (24 : Int32) ≤ (h.1 r 14)
  · rw [if_pos c] at e
    exact fX2_add_c69 h r h q F e
  · rw [if_neg c] at e
    obtain ⟨c1, e⟩ := gd_s e
    obtain ⟨h2, eh2, e⟩ := nm_s e
    have F := Fr.w1 F eh2 (Or.inl (by simp))
    obtain ⟨c3, e⟩ := gd_s e
    obtain ⟨h4, eh4, e⟩ := nm_s e
    have F := Fr.w1 F eh4 (Or.inl (by simp))
    obtain ⟨c5, e⟩ := gd_s e
    obtain ⟨h6, eh6, e⟩ := nm_s e
    have F := Fr.w1 F eh6 (Or.inl (by simp))
    obtain ⟨h7, eh7, e⟩ := nm_s e
    have F := Fr.w1 F eh7 (Or.inr (by simp))
    obtain ⟨c8, e⟩ := gd_s e
    obtain ⟨c9, e⟩ := gd_s e
    obtain ⟨h10, eh10, e⟩ := nm_s e
    have F := Fr.w1 F eh10 (Or.inl (by simp))
    obtain ⟨c11, e⟩ := gd_s e
    obtain ⟨c12, e⟩ := gd_s e
    obtain ⟨h13, eh13, e⟩ := nm_s e
    have F := Fr.w1 F eh13 (Or.inl (by simp))
    exact fX2_add_c69 h r h13 q F e

-- X2_sumAhead
abbrev wX2_sumAhead (r : Nat) (a1 : Nat) : List (Nat × Option Nat) := []
abbrev zX2_sumAhead : List Nat := []
set_option maxRecDepth 10000 in
theorem fX2_sumAhead_c43 (h0 : Hp) (r : Nat) (a1 : Nat) (k6 : Hp → Nat → Nat → Int32 → Int32 → Int32 → Int32 → Option (Int32 × Hp)) (hk6 : ∀ (h : Hp) (v2 : Int32) (v3 : Int32) (v4 : Int32) (v5 : Int32) (hr : ck r = 2) (ha1 : ck a1 = 10 ∧ an a1 = 24) (q : (Int32 × Hp)), Fr (wX2_sumAhead r a1) zX2_sumAhead h0 h → k6 h r a1 v2 v3 v4 v5 = some q → Fr (wX2_sumAhead r a1) zX2_sumAhead h0 q.2) (h : Hp) (v2 : Int32) (v3 : Int32) (v4 : Int32) (v5 : Int32) (hr : ck r = 2) (ha1 : ck a1 = 10 ∧ an a1 = 24) (q : (Int32 × Hp)) (F : Fr (wX2_sumAhead r a1) zX2_sumAhead h0 h) (e : sX2_sumAhead_c43 k6 h r a1 v2 v3 v4 v5 = some q) : Fr (wX2_sumAhead r a1) zX2_sumAhead h0 q.2 := by
  unfold sX2_sumAhead_c43 at e
  obtain ⟨x3, ex3, e⟩ := nm_s e
  exact hk6 h v2 v3 v4 x3 hr ⟨ha1.1, ha1.2⟩ q F e
set_option maxRecDepth 10000 in
theorem fX2_sumAhead_c34 (h0 : Hp) (r : Nat) (a1 : Nat) (k6 : Hp → Nat → Nat → Int32 → Int32 → Int32 → Int32 → Option (Int32 × Hp)) (hk6 : ∀ (h : Hp) (v2 : Int32) (v3 : Int32) (v4 : Int32) (v5 : Int32) (hr : ck r = 2) (ha1 : ck a1 = 10 ∧ an a1 = 24) (q : (Int32 × Hp)), Fr (wX2_sumAhead r a1) zX2_sumAhead h0 h → k6 h r a1 v2 v3 v4 v5 = some q → Fr (wX2_sumAhead r a1) zX2_sumAhead h0 q.2) (h : Hp) (v2 : Int32) (v3 : Int32) (v4 : Int32) (v5 : Int32) (hr : ck r = 2) (ha1 : ck a1 = 10 ∧ an a1 = 24) (q : (Int32 × Hp)) (F : Fr (wX2_sumAhead r a1) zX2_sumAhead h0 h) (e : sX2_sumAhead_c34 k6 h r a1 v2 v3 v4 v5 = some q) : Fr (wX2_sumAhead r a1) zX2_sumAhead h0 q.2 := by
  unfold sX2_sumAhead_c34 at e
  obtain ⟨c4, e⟩ := gd_s e
  obtain ⟨x5, ex5, e⟩ := nm_s e
  exact fX2_sumAhead_c43 h0 r a1 k6 hk6 h v2 v3 x5 v5 hr ⟨ha1.1, ha1.2⟩ q F e
set_option maxRecDepth 10000 in
theorem fX2_sumAhead_c6 (h0 : Hp) (r : Nat) (a1 : Nat) (k6 : Hp → Nat → Nat → Int32 → Int32 → Int32 → Int32 → Option (Int32 × Hp)) (hk6 : ∀ (h : Hp) (v2 : Int32) (v3 : Int32) (v4 : Int32) (v5 : Int32) (hr : ck r = 2) (ha1 : ck a1 = 10 ∧ an a1 = 24) (q : (Int32 × Hp)), Fr (wX2_sumAhead r a1) zX2_sumAhead h0 h → k6 h r a1 v2 v3 v4 v5 = some q → Fr (wX2_sumAhead r a1) zX2_sumAhead h0 q.2) (h : Hp) (v2 : Int32) (v3 : Int32) (v4 : Int32) (v5 : Int32) (hr : ck r = 2) (ha1 : ck a1 = 10 ∧ an a1 = 24) (q : (Int32 × Hp)) (F : Fr (wX2_sumAhead r a1) zX2_sumAhead h0 h) (e : sX2_sumAhead_c6 k6 h r a1 v2 v3 v4 v5 = some q) : Fr (wX2_sumAhead r a1) zX2_sumAhead h0 q.2 := by
  unfold sX2_sumAhead_c6 at e
  by_cases c : v2 ≤ v5
  · rw [if_pos c] at e
    exact Fr.e1 F e
  · rw [if_neg c] at e
    obtain ⟨c1, e⟩ := gd_s e
    by_cases c : (h.1 (r + 8) v5.toNatClampNeg) = v3
    · rw [if_pos c] at e
      exact fX2_sumAhead_c34 h0 r a1 k6 hk6 h v2 v3 v4 v5 hr ⟨ha1.1, ha1.2⟩ q F e
    · rw [if_neg c] at e
      obtain ⟨c2, e⟩ := gd_s e
      by_cases c : (h.1 (r + 9) v5.toNatClampNeg) = v3
      · rw [if_pos c] at e
        exact fX2_sumAhead_c34 h0 r a1 k6 hk6 h v2 v3 v4 v5 hr ⟨ha1.1, ha1.2⟩ q F e
      · rw [if_neg c] at e
        exact fX2_sumAhead_c43 h0 r a1 k6 hk6 h v2 v3 v4 v5 hr ⟨ha1.1, ha1.2⟩ q F e
theorem fX2_sumAhead_b6 (h0 : Hp) (r : Nat) (a1 : Nat) : ∀ (n : Nat) (h : Hp) (v2 : Int32) (v3 : Int32) (v4 : Int32) (v5 : Int32) (hr : ck r = 2) (ha1 : ck a1 = 10 ∧ an a1 = 24) (q : (Int32 × Hp)), Fr (wX2_sumAhead r a1) zX2_sumAhead h0 h → sX2_sumAhead_b6 n h r a1 v2 v3 v4 v5 = some q → Fr (wX2_sumAhead r a1) zX2_sumAhead h0 q.2
  | 0 => fun _ _ _ _ _ _ _ _ _ e => by cases e
  | n + 1 => fun h v2 v3 v4 v5 hr ha1 q F e => fX2_sumAhead_c6 h0 r a1 (sX2_sumAhead_b6 n) (fX2_sumAhead_b6 h0 r a1 n) h v2 v3 v4 v5 hr ha1 q F e
set_option maxRecDepth 10000 in
theorem fX2_sumAhead (h : Hp) (r : Nat) (a1 : Nat) (a2 : Int32) (a3 : Int32) (q : (Int32 × Hp)) (e : sX2_sumAhead h r a1 a2 a3 = some q) : Fr (wX2_sumAhead r a1) zX2_sumAhead h q.2 := by
  unfold sX2_sumAhead at e
  obtain ⟨hr, e⟩ := gd_s e
  have hr := isC_t hr
  obtain ⟨ha1, e⟩ := gd_s e
  have ha1 := isA_t ha1
  have F : Fr (wX2_sumAhead r a1) zX2_sumAhead h h := Fr.rf
  exact fX2_sumAhead_b6 h r a1 FU h a2 a3 (0 : Int32) (0 : Int32) hr ⟨ha1.1, ha1.2⟩ q F e

-- X2_wantAsIs
abbrev wX2_wantAsIs (r : Nat) : List (Nat × Option Nat) := [(r + 11, none)]
abbrev zX2_wantAsIs : List Nat := []
set_option maxRecDepth 10000 in
theorem fX2_wantAsIs_c2 (h0 : Hp) (r : Nat) (k2 : Hp → Nat → Int32 → Option Hp) (hk2 : ∀ (h : Hp) (v1 : Int32) (hr : ck r = 2) (q : Hp), Fr (wX2_wantAsIs r) zX2_wantAsIs h0 h → k2 h r v1 = some q → Fr (wX2_wantAsIs r) zX2_wantAsIs h0 q) (h : Hp) (v1 : Int32) (hr : ck r = 2) (q : Hp) (F : Fr (wX2_wantAsIs r) zX2_wantAsIs h0 h) (e : sX2_wantAsIs_c2 k2 h r v1 = some q) : Fr (wX2_wantAsIs r) zX2_wantAsIs h0 q := by
  unfold sX2_wantAsIs_c2 at e
  by_cases c : (h.1 r 14) ≤ v1
  · rw [if_pos c] at e
    exact Fr.e0 F e
  · rw [if_neg c] at e
    obtain ⟨c1, e⟩ := gd_s e
    obtain ⟨c2, e⟩ := gd_s e
    obtain ⟨h3, eh3, e⟩ := nm_s e
    have F := Fr.w1 F eh3 (Or.inl (by simp))
    obtain ⟨x4, ex4, e⟩ := nm_s e
    exact hk2 h3 x4 hr q F e
theorem fX2_wantAsIs_b2 (h0 : Hp) (r : Nat) : ∀ (n : Nat) (h : Hp) (v1 : Int32) (hr : ck r = 2) (q : Hp), Fr (wX2_wantAsIs r) zX2_wantAsIs h0 h → sX2_wantAsIs_b2 n h r v1 = some q → Fr (wX2_wantAsIs r) zX2_wantAsIs h0 q
  | 0 => fun _ _ _ _ _ e => by cases e
  | n + 1 => fun h v1 hr q F e => fX2_wantAsIs_c2 h0 r (sX2_wantAsIs_b2 n) (fX2_wantAsIs_b2 h0 r n) h v1 hr q F e
set_option maxRecDepth 10000 in
theorem fX2_wantAsIs (h : Hp) (r : Nat) (q : Hp) (e : sX2_wantAsIs h r = some q) : Fr (wX2_wantAsIs r) zX2_wantAsIs h q := by
  unfold sX2_wantAsIs at e
  obtain ⟨hr, e⟩ := gd_s e
  have hr := isC_t hr
  have F : Fr (wX2_wantAsIs r) zX2_wantAsIs h h := Fr.rf
  exact fX2_wantAsIs_b2 h r FU h (0 : Int32) hr q F e

-- X2_markAll
abbrev wX2_markAll (r : Nat) : List (Nat × Option Nat) := [(r + 13, none)]
abbrev zX2_markAll : List Nat := []
set_option maxRecDepth 10000 in
theorem fX2_markAll_c2 (h0 : Hp) (r : Nat) (k2 : Hp → Nat → Int32 → Int32 → Option Hp) (hk2 : ∀ (h : Hp) (v1 : Int32) (v2 : Int32) (hr : ck r = 2) (q : Hp), Fr (wX2_markAll r) zX2_markAll h0 h → k2 h r v1 v2 = some q → Fr (wX2_markAll r) zX2_markAll h0 q) (h : Hp) (v1 : Int32) (v2 : Int32) (hr : ck r = 2) (q : Hp) (F : Fr (wX2_markAll r) zX2_markAll h0 h) (e : sX2_markAll_c2 k2 h r v1 v2 = some q) : Fr (wX2_markAll r) zX2_markAll h0 q := by
  unfold sX2_markAll_c2 at e
  by_cases c : (h.1 r 2) ≤ v2
  · rw [if_pos c] at e
    exact Fr.e0 F e
  · rw [if_neg c] at e
    obtain ⟨c1, e⟩ := gd_s e
    obtain ⟨h2, eh2, e⟩ := nm_s e
    have F := Fr.w1 F eh2 (Or.inl (by simp))
    obtain ⟨x3, ex3, e⟩ := nm_s e
    exact hk2 h2 v1 x3 hr q F e
theorem fX2_markAll_b2 (h0 : Hp) (r : Nat) : ∀ (n : Nat) (h : Hp) (v1 : Int32) (v2 : Int32) (hr : ck r = 2) (q : Hp), Fr (wX2_markAll r) zX2_markAll h0 h → sX2_markAll_b2 n h r v1 v2 = some q → Fr (wX2_markAll r) zX2_markAll h0 q
  | 0 => fun _ _ _ _ _ _ e => by cases e
  | n + 1 => fun h v1 v2 hr q F e => fX2_markAll_c2 h0 r (sX2_markAll_b2 n) (fX2_markAll_b2 h0 r n) h v1 v2 hr q F e
set_option maxRecDepth 10000 in
theorem fX2_markAll (h : Hp) (r : Nat) (a1 : Int32) (q : Hp) (e : sX2_markAll h r a1 = some q) : Fr (wX2_markAll r) zX2_markAll h q := by
  unfold sX2_markAll at e
  obtain ⟨hr, e⟩ := gd_s e
  have hr := isC_t hr
  have F : Fr (wX2_markAll r) zX2_markAll h h := Fr.rf
  exact fX2_markAll_b2 h r FU h a1 (0 : Int32) hr q F e

-- X2_joinedStreams
abbrev wX2_joinedStreams (r : Nat) : List (Nat × Option Nat) := []
abbrev zX2_joinedStreams : List Nat := []
set_option maxRecDepth 10000 in
theorem fX2_joinedStreams_c24 (h0 : Hp) (r : Nat) (k4 : Hp → Nat → Int32 → Int32 → Option (Int32 × Hp)) (hk4 : ∀ (h : Hp) (v1 : Int32) (v2 : Int32) (hr : ck r = 2) (q : (Int32 × Hp)), Fr (wX2_joinedStreams r) zX2_joinedStreams h0 h → k4 h r v1 v2 = some q → Fr (wX2_joinedStreams r) zX2_joinedStreams h0 q.2) (h : Hp) (v1 : Int32) (v2 : Int32) (hr : ck r = 2) (q : (Int32 × Hp)) (F : Fr (wX2_joinedStreams r) zX2_joinedStreams h0 h) (e : sX2_joinedStreams_c24 k4 h r v1 v2 = some q) : Fr (wX2_joinedStreams r) zX2_joinedStreams h0 q.2 := by
  unfold sX2_joinedStreams_c24 at e
  obtain ⟨x3, ex3, e⟩ := nm_s e
  exact hk4 h v1 x3 hr q F e
set_option maxRecDepth 10000 in
theorem fX2_joinedStreams_c4 (h0 : Hp) (r : Nat) (k4 : Hp → Nat → Int32 → Int32 → Option (Int32 × Hp)) (hk4 : ∀ (h : Hp) (v1 : Int32) (v2 : Int32) (hr : ck r = 2) (q : (Int32 × Hp)), Fr (wX2_joinedStreams r) zX2_joinedStreams h0 h → k4 h r v1 v2 = some q → Fr (wX2_joinedStreams r) zX2_joinedStreams h0 q.2) (h : Hp) (v1 : Int32) (v2 : Int32) (hr : ck r = 2) (q : (Int32 × Hp)) (F : Fr (wX2_joinedStreams r) zX2_joinedStreams h0 h) (e : sX2_joinedStreams_c4 k4 h r v1 v2 = some q) : Fr (wX2_joinedStreams r) zX2_joinedStreams h0 q.2 := by
  unfold sX2_joinedStreams_c4 at e
  by_cases c : (h.1 r 2) ≤ v2
  · rw [if_pos c] at e
    exact Fr.e1 F e
  · rw [if_neg c] at e
    obtain ⟨c1, e⟩ := gd_s e
    by_cases c : (h.1 (r + 7) v2.toNatClampNeg) ≤ 0
    · rw [if_pos c] at e
      exact fX2_joinedStreams_c24 h0 r k4 hk4 h v1 v2 hr q F e
    · rw [if_neg c] at e
      obtain ⟨x2, ex2, e⟩ := nm_s e
      exact fX2_joinedStreams_c24 h0 r k4 hk4 h x2 v2 hr q F e
theorem fX2_joinedStreams_b4 (h0 : Hp) (r : Nat) : ∀ (n : Nat) (h : Hp) (v1 : Int32) (v2 : Int32) (hr : ck r = 2) (q : (Int32 × Hp)), Fr (wX2_joinedStreams r) zX2_joinedStreams h0 h → sX2_joinedStreams_b4 n h r v1 v2 = some q → Fr (wX2_joinedStreams r) zX2_joinedStreams h0 q.2
  | 0 => fun _ _ _ _ _ _ e => by cases e
  | n + 1 => fun h v1 v2 hr q F e => fX2_joinedStreams_c4 h0 r (sX2_joinedStreams_b4 n) (fX2_joinedStreams_b4 h0 r n) h v1 v2 hr q F e
set_option maxRecDepth 10000 in
theorem fX2_joinedStreams (h : Hp) (r : Nat) (q : (Int32 × Hp)) (e : sX2_joinedStreams h r = some q) : Fr (wX2_joinedStreams r) zX2_joinedStreams h q.2 := by
  unfold sX2_joinedStreams at e
  obtain ⟨hr, e⟩ := gd_s e
  have hr := isC_t hr
  have F : Fr (wX2_joinedStreams r) zX2_joinedStreams h h := Fr.rf
  exact fX2_joinedStreams_b4 h r FU h (0 : Int32) (0 : Int32) hr q F e

-- X2_mergers
abbrev wX2_mergers (r : Nat) : List (Nat × Option Nat) := [(r + 13, none)]
abbrev zX2_mergers : List Nat := []
set_option maxRecDepth 10000 in
theorem fX2_mergers_c110 (h0 : Hp) (r : Nat) (k27 : Hp → Nat → Int32 → Int32 → Option (Int32 × Hp)) (hk27 : ∀ (h : Hp) (v1 : Int32) (v2 : Int32) (hr : ck r = 2) (q : (Int32 × Hp)), Fr (wX2_mergers r) zX2_mergers h0 h → k27 h r v1 v2 = some q → Fr (wX2_mergers r) zX2_mergers h0 q.2) (k72 : Hp → Nat → Int32 → Int32 → Int32 → Int32 → Int32 → Option (Int32 × Hp)) (hk72 : ∀ (h : Hp) (v1 : Int32) (v2 : Int32) (v3 : Int32) (v4 : Int32) (v5 : Int32) (hr : ck r = 2) (q : (Int32 × Hp)), Fr (wX2_mergers r) zX2_mergers h0 h → k72 h r v1 v2 v3 v4 v5 = some q → Fr (wX2_mergers r) zX2_mergers h0 q.2) (h : Hp) (v1 : Int32) (v2 : Int32) (v3 : Int32) (v4 : Int32) (v5 : Int32) (t0 : Int32) (t1 : Int32) (hr : ck r = 2) (q : (Int32 × Hp)) (F : Fr (wX2_mergers r) zX2_mergers h0 h) (e : sX2_mergers_c110 k27 k72 h r v1 v2 v3 v4 v5 t0 t1 = some q) : Fr (wX2_mergers r) zX2_mergers h0 q.2 := by
  unfold sX2_mergers_c110 at e
  obtain ⟨c13, e⟩ := gd_s e
  obtain ⟨h14, eh14, e⟩ := nm_s e
  have F := Fr.w1 F eh14 (Or.inl (by simp))
  obtain ⟨x15, ex15, e⟩ := nm_s e
  exact hk72 h14 v1 v2 v3 v4 x15 hr q F e
set_option maxRecDepth 10000 in
theorem fX2_mergers_c117 (h0 : Hp) (r : Nat) (k27 : Hp → Nat → Int32 → Int32 → Option (Int32 × Hp)) (hk27 : ∀ (h : Hp) (v1 : Int32) (v2 : Int32) (hr : ck r = 2) (q : (Int32 × Hp)), Fr (wX2_mergers r) zX2_mergers h0 h → k27 h r v1 v2 = some q → Fr (wX2_mergers r) zX2_mergers h0 q.2) (h : Hp) (v1 : Int32) (v2 : Int32) (hr : ck r = 2) (q : (Int32 × Hp)) (F : Fr (wX2_mergers r) zX2_mergers h0 h) (e : sX2_mergers_c117 k27 h r v1 v2 = some q) : Fr (wX2_mergers r) zX2_mergers h0 q.2 := by
  unfold sX2_mergers_c117 at e
  obtain ⟨x16, ex16, e⟩ := nm_s e
  exact hk27 h v1 x16 hr q F e
set_option maxRecDepth 10000 in
theorem fX2_mergers_c72 (h0 : Hp) (r : Nat) (k27 : Hp → Nat → Int32 → Int32 → Option (Int32 × Hp)) (hk27 : ∀ (h : Hp) (v1 : Int32) (v2 : Int32) (hr : ck r = 2) (q : (Int32 × Hp)), Fr (wX2_mergers r) zX2_mergers h0 h → k27 h r v1 v2 = some q → Fr (wX2_mergers r) zX2_mergers h0 q.2) (k72 : Hp → Nat → Int32 → Int32 → Int32 → Int32 → Int32 → Option (Int32 × Hp)) (hk72 : ∀ (h : Hp) (v1 : Int32) (v2 : Int32) (v3 : Int32) (v4 : Int32) (v5 : Int32) (hr : ck r = 2) (q : (Int32 × Hp)), Fr (wX2_mergers r) zX2_mergers h0 h → k72 h r v1 v2 v3 v4 v5 = some q → Fr (wX2_mergers r) zX2_mergers h0 q.2) (h : Hp) (v1 : Int32) (v2 : Int32) (v3 : Int32) (v4 : Int32) (v5 : Int32) (hr : ck r = 2) (q : (Int32 × Hp)) (F : Fr (wX2_mergers r) zX2_mergers h0 h) (e : sX2_mergers_c72 k27 k72 h r v1 v2 v3 v4 v5 = some q) : Fr (wX2_mergers r) zX2_mergers h0 q.2 := by
  unfold sX2_mergers_c72 at e
  by_cases c : (h.1 r 2) ≤ v5
  · rw [if_pos c] at e
    exact fX2_mergers_c117 h0 r k27 hk27 h v1 v2 hr q F e
  · rw [if_neg c] at e
    obtain ⟨c11, e⟩ := gd_s e
    by_cases c : (h.1 (r + 13) v5.toNatClampNeg) = v3
    · rw [if_pos c] at e
      exact fX2_mergers_c110 h0 r k27 hk27 k72 hk72 h v1 v2 v3 v4 v5 v4 v5 hr q F e
    · rw [if_neg c] at e
      obtain ⟨c12, e⟩ := gd_s e
      exact fX2_mergers_c110 h0 r k27 hk27 k72 hk72 h v1 v2 v3 v4 v5 (h.1 (r + 13) v5.toNatClampNeg) v5 hr q F e
theorem fX2_mergers_b72 (h0 : Hp) (r : Nat) (k27 : Hp → Nat → Int32 → Int32 → Option (Int32 × Hp)) (hk27 : ∀ (h : Hp) (v1 : Int32) (v2 : Int32) (hr : ck r = 2) (q : (Int32 × Hp)), Fr (wX2_mergers r) zX2_mergers h0 h → k27 h r v1 v2 = some q → Fr (wX2_mergers r) zX2_mergers h0 q.2) : ∀ (n : Nat) (h : Hp) (v1 : Int32) (v2 : Int32) (v3 : Int32) (v4 : Int32) (v5 : Int32) (hr : ck r = 2) (q : (Int32 × Hp)), Fr (wX2_mergers r) zX2_mergers h0 h → sX2_mergers_b72 k27 n h r v1 v2 v3 v4 v5 = some q → Fr (wX2_mergers r) zX2_mergers h0 q.2
  | 0 => fun _ _ _ _ _ _ _ _ _ e => by cases e
  | n + 1 => fun h v1 v2 v3 v4 v5 hr q F e => fX2_mergers_c72 h0 r k27 hk27 (sX2_mergers_b72 k27 n) (fX2_mergers_b72 h0 r k27 hk27 n) h v1 v2 v3 v4 v5 hr q F e
set_option maxRecDepth 10000 in
theorem fX2_mergers_c27 (h0 : Hp) (r : Nat) (k27 : Hp → Nat → Int32 → Int32 → Option (Int32 × Hp)) (hk27 : ∀ (h : Hp) (v1 : Int32) (v2 : Int32) (hr : ck r = 2) (q : (Int32 × Hp)), Fr (wX2_mergers r) zX2_mergers h0 h → k27 h r v1 v2 = some q → Fr (wX2_mergers r) zX2_mergers h0 q.2) (h : Hp) (v1 : Int32) (v2 : Int32) (hr : ck r = 2) (q : (Int32 × Hp)) (F : Fr (wX2_mergers r) zX2_mergers h0 h) (e : sX2_mergers_c27 k27 h r v1 v2 = some q) : Fr (wX2_mergers r) zX2_mergers h0 q.2 := by
  unfold sX2_mergers_c27 at e
  by_cases c : (h.1 r 14) ≤ v2
  · rw [if_pos c] at e
    exact Fr.e1 F e
  · rw [if_neg c] at e
    obtain ⟨c4, e⟩ := gd_s e
    obtain ⟨c5, e⟩ := gd_s e
    obtain ⟨x6, ex6, e⟩ := nm_s e
    obtain ⟨c7, e⟩ := gd_s e
    obtain ⟨c8, e⟩ := gd_s e
    obtain ⟨x9, ex9, e⟩ := nm_s e
    by_cases c : x6 = x9
    · rw [if_pos c] at e
      exact fX2_mergers_c117 h0 r k27 hk27 h v1 v2 hr q F e
    · rw [if_neg c] at e
      obtain ⟨x10, ex10, e⟩ := nm_s e
      exact fX2_mergers_b72 h0 r k27 hk27 FU h x10 v2 x6 x9 (0 : Int32) hr q F e
theorem fX2_mergers_b27 (h0 : Hp) (r : Nat) : ∀ (n : Nat) (h : Hp) (v1 : Int32) (v2 : Int32) (hr : ck r = 2) (q : (Int32 × Hp)), Fr (wX2_mergers r) zX2_mergers h0 h → sX2_mergers_b27 n h r v1 v2 = some q → Fr (wX2_mergers r) zX2_mergers h0 q.2
  | 0 => fun _ _ _ _ _ _ e => by cases e
  | n + 1 => fun h v1 v2 hr q F e => fX2_mergers_c27 h0 r (sX2_mergers_b27 n) (fX2_mergers_b27 h0 r n) h v1 v2 hr q F e
set_option maxRecDepth 10000 in
theorem fX2_mergers_c2 (h0 : Hp) (r : Nat) (k2 : Hp → Nat → Int32 → Option (Int32 × Hp)) (hk2 : ∀ (h : Hp) (v1 : Int32) (hr : ck r = 2) (q : (Int32 × Hp)), Fr (wX2_mergers r) zX2_mergers h0 h → k2 h r v1 = some q → Fr (wX2_mergers r) zX2_mergers h0 q.2) (h : Hp) (v1 : Int32) (hr : ck r = 2) (q : (Int32 × Hp)) (F : Fr (wX2_mergers r) zX2_mergers h0 h) (e : sX2_mergers_c2 k2 h r v1 = some q) : Fr (wX2_mergers r) zX2_mergers h0 q.2 := by
  unfold sX2_mergers_c2 at e
  by_cases c : (h.1 r 2) ≤ v1
  · rw [if_pos c] at e
    exact fX2_mergers_b27 h0 r FU h (0 : Int32) (0 : Int32) hr q F e
  · rw [if_neg c] at e
    obtain ⟨c1, e⟩ := gd_s e
    obtain ⟨h2, eh2, e⟩ := nm_s e
    have F := Fr.w1 F eh2 (Or.inl (by simp))
    obtain ⟨x3, ex3, e⟩ := nm_s e
    exact hk2 h2 x3 hr q F e
theorem fX2_mergers_b2 (h0 : Hp) (r : Nat) : ∀ (n : Nat) (h : Hp) (v1 : Int32) (hr : ck r = 2) (q : (Int32 × Hp)), Fr (wX2_mergers r) zX2_mergers h0 h → sX2_mergers_b2 n h r v1 = some q → Fr (wX2_mergers r) zX2_mergers h0 q.2
  | 0 => fun _ _ _ _ _ e => by cases e
  | n + 1 => fun h v1 hr q F e => fX2_mergers_c2 h0 r (sX2_mergers_b2 n) (fX2_mergers_b2 h0 r n) h v1 hr q F e
set_option maxRecDepth 10000 in
theorem fX2_mergers (h : Hp) (r : Nat) (q : (Int32 × Hp)) (e : sX2_mergers h r = some q) : Fr (wX2_mergers r) zX2_mergers h q.2 := by
  unfold sX2_mergers at e
  obtain ⟨hr, e⟩ := gd_s e
  have hr := isC_t hr
  have F : Fr (wX2_mergers r) zX2_mergers h h := Fr.rf
  exact fX2_mergers_b2 h r FU h (0 : Int32) hr q F e

-- X2_markNext
abbrev wX2_markNext (r : Nat) : List (Nat × Option Nat) := [(r + 13, none)]
abbrev zX2_markNext : List Nat := []
set_option maxRecDepth 10000 in
theorem fX2_markNext_c29 (h0 : Hp) (r : Nat) (h : Hp) (q : Hp) (F : Fr (wX2_markNext r) zX2_markNext h0 h) (e : sX2_markNext_c29 h = some q) : Fr (wX2_markNext r) zX2_markNext h0 q := by
  unfold sX2_markNext_c29 at e
  exact Fr.e0 F e
set_option maxRecDepth 10000 in
theorem fX2_markNext (h : Hp) (r : Nat) (a1 : Int32) (a2 : Int32) (a3 : Int32) (q : Hp) (e : sX2_markNext h r a1 a2 a3 = some q) : Fr (wX2_markNext r) zX2_markNext h q := by
  unfold sX2_markNext at e
  obtain ⟨hr, e⟩ := gd_s e
  have hr := isC_t hr
  have F : Fr (wX2_markNext r) zX2_markNext h h := Fr.rf
  obtain ⟨c1, e⟩ := gd_s e
  by_cases c : (h.1 (r + 13) a1.toNatClampNeg) = (a3 - (1 : Int32))
  · rw [if_pos c] at e
    obtain ⟨c2, e⟩ := gd_s e
    by_cases c : (h.1 (r + 13) a2.toNatClampNeg) = (-1 : Int32)
    · rw [if_pos c] at e
      obtain ⟨c3, e⟩ := gd_s e
      obtain ⟨h4, eh4, e⟩ := nm_s e
      have F := Fr.w1 F eh4 (Or.inl (by simp))
      exact fX2_markNext_c29 h r h4 q F e
    · rw [if_neg c] at e
      exact fX2_markNext_c29 h r h q F e
  · rw [if_neg c] at e
    exact fX2_markNext_c29 h r h q F e

-- X2_otherEnd
abbrev wX2_otherEnd (r : Nat) : List (Nat × Option Nat) := []
abbrev zX2_otherEnd : List Nat := []
set_option maxRecDepth 10000 in
theorem fX2_otherEnd_c25 (h0 : Hp) (r : Nat) (h : Hp) (t0 : Int32) (q : (Int32 × Hp)) (F : Fr (wX2_otherEnd r) zX2_otherEnd h0 h) (e : sX2_otherEnd_c25 h t0 = some q) : Fr (wX2_otherEnd r) zX2_otherEnd h0 q.2 := by
  unfold sX2_otherEnd_c25 at e
  exact Fr.e1 F e
set_option maxRecDepth 10000 in
theorem fX2_otherEnd (h : Hp) (r : Nat) (a1 : Int32) (a2 : Int32) (q : (Int32 × Hp)) (e : sX2_otherEnd h r a1 a2 = some q) : Fr (wX2_otherEnd r) zX2_otherEnd h q.2 := by
  unfold sX2_otherEnd at e
  obtain ⟨hr, e⟩ := gd_s e
  have hr := isC_t hr
  have F : Fr (wX2_otherEnd r) zX2_otherEnd h h := Fr.rf
  obtain ⟨c1, e⟩ := gd_s e
  by_cases c : (h.1 (r + 8) a1.toNatClampNeg) = a2
  · rw [if_pos c] at e
    obtain ⟨c3, e⟩ := gd_s e
    exact fX2_otherEnd_c25 h r h (h.1 (r + 9) a1.toNatClampNeg) q F e
  · rw [if_neg c] at e
    obtain ⟨c2, e⟩ := gd_s e
    exact fX2_otherEnd_c25 h r h (h.1 (r + 8) a1.toNatClampNeg) q F e

-- X3_put
abbrev wX3_put : List (Nat × Option Nat) := [(3, none), (2, some 1)]
abbrev zX3_put : List Nat := []
set_option maxRecDepth 10000 in
theorem fX3_put_c16 (h0 : Hp) (k16 : Hp → Int32 → Int32 → Option (Int32 × Hp)) (hk16 : ∀ (h : Hp) (v1 : Int32) (v2 : Int32) (q : (Int32 × Hp)), Fr (wX3_put) zX3_put h0 h → k16 h v1 v2 = some q → Fr (wX3_put) zX3_put h0 q.2) (h : Hp) (v1 : Int32) (v2 : Int32) (q : (Int32 × Hp)) (F : Fr (wX3_put) zX3_put h0 h) (e : sX3_put_c16 k16 h v1 v2 = some q) : Fr (wX3_put) zX3_put h0 q.2 := by
  unfold sX3_put_c16 at e
  by_cases c : v2 < 0
  · rw [if_pos c] at e
    exact Fr.e1 F e
  · rw [if_neg c] at e
    obtain ⟨c1, e⟩ := gd_s e
    obtain ⟨h2, eh2, e⟩ := nm_s e
    have F := Fr.w1 F eh2 (Or.inl (by decide))
    obtain ⟨h3, eh3, e⟩ := nm_s e
    have F := Fr.w1 F eh3 (Or.inr (by decide))
    obtain ⟨x4, ex4, e⟩ := nm_s e
    exact hk16 h3 v1 x4 q F e
theorem fX3_put_b16 (h0 : Hp) : ∀ (n : Nat) (h : Hp) (v1 : Int32) (v2 : Int32) (q : (Int32 × Hp)), Fr (wX3_put) zX3_put h0 h → sX3_put_b16 n h v1 v2 = some q → Fr (wX3_put) zX3_put h0 q.2
  | 0 => fun _ _ _ _ _ e => by cases e
  | n + 1 => fun h v1 v2 q F e => fX3_put_c16 h0 (sX3_put_b16 n) (fX3_put_b16 h0 n) h v1 v2 q F e
set_option maxRecDepth 10000 in
theorem fX3_put (h : Hp) (a1 : Int32) (q : (Int32 × Hp)) (e : sX3_put h a1 = some q) : Fr (wX3_put) zX3_put h q.2 := by
  unfold sX3_put at e
  have F : Fr (wX3_put) zX3_put h h := Fr.rf
  by_cases c : ((h.1 2 1) + (4 : Int32)) ≤ (120 : Int32)
  · rw [if_pos c] at e
    exact fX3_put_b16 h FU h a1 (24 : Int32) q F e
  · rw [if_neg c] at e
    exact Fr.e1 F e

-- X3_cut
abbrev wX3_cut : List (Nat × Option Nat) := [(2, some 1)]
abbrev zX3_cut : List Nat := []
set_option maxRecDepth 10000 in
theorem fX3_cut_c12 (h0 : Hp) (h : Hp) (q : (Int32 × Hp)) (F : Fr (wX3_cut) zX3_cut h0 h) (e : sX3_cut_c12 h = some q) : Fr (wX3_cut) zX3_cut h0 q.2 := by
  unfold sX3_cut_c12 at e
  exact Fr.e1 F e
set_option maxRecDepth 10000 in
theorem fX3_cut (h : Hp) (a1 : Int32) (q : (Int32 × Hp)) (e : sX3_cut h a1 = some q) : Fr (wX3_cut) zX3_cut h q.2 := by
  unfold sX3_cut at e
  have F : Fr (wX3_cut) zX3_cut h h := Fr.rf
  by_cases c : a1 < 0
  · rw [if_pos c] at e
    exact fX3_cut_c12 h h q F e
  · rw [if_neg c] at e
    by_cases c : a1 ≤ (h.1 2 1)
    · rw [if_pos c] at e
      obtain ⟨h1, eh1, e⟩ := nm_s e
      have F := Fr.w1 F eh1 (Or.inr (by decide))
      exact Fr.e1 F e
    · rw [if_neg c] at e
      exact fX3_cut_c12 h h q F e

-- X3_readSign
abbrev wX3_readSign : List (Nat × Option Nat) := [(2, some 2)]
abbrev zX3_readSign : List Nat := []
set_option maxRecDepth 10000 in
theorem fX3_readSign_c24 (h0 : Hp) (h : Hp) (q : (Int32 × Hp)) (F : Fr (wX3_readSign) zX3_readSign h0 h) (e : sX3_readSign_c24 h = some q) : Fr (wX3_readSign) zX3_readSign h0 q.2 := by
  unfold sX3_readSign_c24 at e
  exact Fr.e1 F e
set_option maxRecDepth 10000 in
theorem fX3_readSign (h : Hp) (a1 : Int32) (q : (Int32 × Hp)) (e : sX3_readSign h a1 = some q) : Fr (wX3_readSign) zX3_readSign h q.2 := by
  unfold sX3_readSign at e
  have F : Fr (wX3_readSign) zX3_readSign h h := Fr.rf
  by_cases c : (h.1 2 1) ≤ (h.1 2 2)
  · rw [if_pos c] at e
    exact fX3_readSign_c24 h h q F e
  · rw [if_neg c] at e
    obtain ⟨c1, e⟩ := gd_s e
    by_cases c : (h.1 3 (h.1 2 2).toNatClampNeg) = a1
    · rw [if_pos c] at e
      obtain ⟨h2, eh2, e⟩ := nm_s e
      have F := Fr.w1 F eh2 (Or.inr (by decide))
      exact Fr.e1 F e
    · rw [if_neg c] at e
      exact fX3_readSign_c24 h h q F e

-- X3_isDigitHere
abbrev wX3_isDigitHere : List (Nat × Option Nat) := []
abbrev zX3_isDigitHere : List Nat := []
set_option maxRecDepth 10000 in
theorem fX3_isDigitHere_c44 (h0 : Hp) (h : Hp) (t0 : Int32) (q : (Int32 × Hp)) (F : Fr (wX3_isDigitHere) zX3_isDigitHere h0 h) (e : sX3_isDigitHere_c44 h t0 = some q) : Fr (wX3_isDigitHere) zX3_isDigitHere h0 q.2 := by
  unfold sX3_isDigitHere_c44 at e
  obtain ⟨c3, e⟩ := gd_s e
  exact Fr.e1 F e
set_option maxRecDepth 10000 in
theorem fX3_isDigitHere_c43 (h0 : Hp) (h : Hp) (q : (Int32 × Hp)) (F : Fr (wX3_isDigitHere) zX3_isDigitHere h0 h) (e : sX3_isDigitHere_c43 h = some q) : Fr (wX3_isDigitHere) zX3_isDigitHere h0 q.2 := by
  unfold sX3_isDigitHere_c43 at e
  exact fX3_isDigitHere_c44 h0 h (0 : Int32) q F e
set_option maxRecDepth 10000 in
theorem fX3_isDigitHere (h : Hp) (q : (Int32 × Hp)) (e : sX3_isDigitHere h = some q) : Fr (wX3_isDigitHere) zX3_isDigitHere h q.2 := by
  unfold sX3_isDigitHere at e
  have F : Fr (wX3_isDigitHere) zX3_isDigitHere h h := Fr.rf
  by_cases c : (h.1 2 1) ≤ (h.1 2 2)
  · rw [if_pos c] at e
    exact fX3_isDigitHere_c43 h h q F e
  · rw [if_neg c] at e
    obtain ⟨c1, e⟩ := gd_s e
    by_cases c : (h.1 3 (h.1 2 2).toNatClampNeg) < (48 : Int32)
    · rw [if_pos c] at e
      exact fX3_isDigitHere_c43 h h q F e
    · rw [if_neg c] at e
      obtain ⟨c2, e⟩ := gd_s e
      by_cases c : (57 : Int32) < (h.1 3 (h.1 2 2).toNatClampNeg)
      · rw [if_pos c] at e
        exact fX3_isDigitHere_c43 h h q F e
      · rw [if_neg c] at e
        exact fX3_isDigitHere_c44 h h (1 : Int32) q F e

-- X3_failAt
abbrev wX3_failAt : List (Nat × Option Nat) := [(2, some 4)]
abbrev zX3_failAt : List Nat := []
set_option maxRecDepth 10000 in
theorem fX3_failAt (h : Hp) (a1 : Int32) (q : (Int32 × Hp)) (e : sX3_failAt h a1 = some q) : Fr (wX3_failAt) zX3_failAt h q.2 := by
  unfold sX3_failAt at e
  have F : Fr (wX3_failAt) zX3_failAt h h := Fr.rf
  obtain ⟨h1, eh1, e⟩ := nm_s e
  have F := Fr.w1 F eh1 (Or.inr (by decide))
  exact Fr.e1 F e

-- X4_empty
abbrev wX4_empty : List (Nat × Option Nat) := [(4, some 1)]
abbrev zX4_empty : List Nat := []
set_option maxRecDepth 10000 in
theorem fX4_empty (h : Hp) (q : Hp) (e : sX4_empty h = some q) : Fr (wX4_empty) zX4_empty h q := by
  unfold sX4_empty at e
  have F : Fr (wX4_empty) zX4_empty h h := Fr.rf
  obtain ⟨h1, eh1, e⟩ := nm_s e
  have F := Fr.w1 F eh1 (Or.inr (by decide))
  exact Fr.e0 F e

-- X4_add
abbrev wX4_add : List (Nat × Option Nat) := [(4, some 1)]
abbrev zX4_add : List Nat := [5]
set_option maxRecDepth 10000 in
theorem fX4_add_c32 (h0 : Hp) (h : Hp) (q : Hp) (F : Fr (wX4_add) zX4_add h0 h) (e : sX4_add_c32 h = some q) : Fr (wX4_add) zX4_add h0 q := by
  unfold sX4_add_c32 at e
  exact Fr.e0 F e
set_option maxRecDepth 10000 in
theorem fX4_add (h : Hp) (a1 : Int64) (q : Hp) (e : sX4_add h a1 = some q) : Fr (wX4_add) zX4_add h q := by
  unfold sX4_add at e
  have F : Fr (wX4_add) zX4_add h h := Fr.rf
  by_cases c : (24 : Int32) ≤ (h.1 4 1)
  · rw [if_pos c] at e
    exact fX4_add_c32 h h q F e
  · rw [if_neg c] at e
    obtain ⟨c1, e⟩ := gd_s e
    obtain ⟨h2, eh2, e⟩ := nm_s e
    have F := Fr.w2 F eh2 (by decide)
    obtain ⟨h3, eh3, e⟩ := nm_s e
    have F := Fr.w1 F eh3 (Or.inr (by decide))
    exact fX4_add_c32 h h3 q F e

-- X5_isDegree
abbrev wX5_isDegree : List (Nat × Option Nat) := []
abbrev zX5_isDegree : List Nat := []
set_option maxRecDepth 10000 in
theorem fX5_isDegree_c16 (h0 : Hp) (h : Hp) (t0 : Int32) (q : (Int32 × Hp)) (F : Fr (wX5_isDegree) zX5_isDegree h0 h) (e : sX5_isDegree_c16 h t0 = some q) : Fr (wX5_isDegree) zX5_isDegree h0 q.2 := by
  unfold sX5_isDegree_c16 at e
  obtain ⟨c1, e⟩ := gd_s e
  exact Fr.e1 F e
set_option maxRecDepth 10000 in
theorem fX5_isDegree_c15 (h0 : Hp) (h : Hp) (q : (Int32 × Hp)) (F : Fr (wX5_isDegree) zX5_isDegree h0 h) (e : sX5_isDegree_c15 h = some q) : Fr (wX5_isDegree) zX5_isDegree h0 q.2 := by
  unfold sX5_isDegree_c15 at e
  exact fX5_isDegree_c16 h0 h (0 : Int32) q F e
set_option maxRecDepth 10000 in
theorem fX5_isDegree (h : Hp) (a0 : Int32) (q : (Int32 × Hp)) (e : sX5_isDegree h a0 = some q) : Fr (wX5_isDegree) zX5_isDegree h q.2 := by
  unfold sX5_isDegree at e
  have F : Fr (wX5_isDegree) zX5_isDegree h h := Fr.rf
  by_cases c : a0 < 0
  · rw [if_pos c] at e
    exact fX5_isDegree_c15 h h q F e
  · rw [if_neg c] at e
    by_cases c : (500 : Int32) < a0
    · rw [if_pos c] at e
      exact fX5_isDegree_c15 h h q F e
    · rw [if_neg c] at e
      exact fX5_isDegree_c16 h h (1 : Int32) q F e

-- X5_isGap
abbrev wX5_isGap : List (Nat × Option Nat) := []
abbrev zX5_isGap : List Nat := []
set_option maxRecDepth 10000 in
theorem fX5_isGap_c15 (h0 : Hp) (h : Hp) (t0 : Int32) (q : (Int32 × Hp)) (F : Fr (wX5_isGap) zX5_isGap h0 h) (e : sX5_isGap_c15 h t0 = some q) : Fr (wX5_isGap) zX5_isGap h0 q.2 := by
  unfold sX5_isGap_c15 at e
  obtain ⟨c1, e⟩ := gd_s e
  exact Fr.e1 F e
set_option maxRecDepth 10000 in
theorem fX5_isGap_c14 (h0 : Hp) (h : Hp) (q : (Int32 × Hp)) (F : Fr (wX5_isGap) zX5_isGap h0 h) (e : sX5_isGap_c14 h = some q) : Fr (wX5_isGap) zX5_isGap h0 q.2 := by
  unfold sX5_isGap_c14 at e
  exact fX5_isGap_c15 h0 h (0 : Int32) q F e
set_option maxRecDepth 10000 in
theorem fX5_isGap (h : Hp) (a0 : Int32) (q : (Int32 × Hp)) (e : sX5_isGap h a0 = some q) : Fr (wX5_isGap) zX5_isGap h q.2 := by
  unfold sX5_isGap at e
  have F : Fr (wX5_isGap) zX5_isGap h h := Fr.rf
  by_cases c : a0 < 0
  · rw [if_pos c] at e
    exact fX5_isGap_c14 h h q F e
  · rw [if_neg c] at e
    by_cases c : (60 : Int32) < a0
    · rw [if_pos c] at e
      exact fX5_isGap_c14 h h q F e
    · rw [if_neg c] at e
      exact fX5_isGap_c15 h h (1 : Int32) q F e

-- X5_isSide
abbrev wX5_isSide : List (Nat × Option Nat) := []
abbrev zX5_isSide : List Nat := []
set_option maxRecDepth 10000 in
theorem fX5_isSide_c14 (h0 : Hp) (h : Hp) (t0 : Int32) (q : (Int32 × Hp)) (F : Fr (wX5_isSide) zX5_isSide h0 h) (e : sX5_isSide_c14 h t0 = some q) : Fr (wX5_isSide) zX5_isSide h0 q.2 := by
  unfold sX5_isSide_c14 at e
  obtain ⟨c1, e⟩ := gd_s e
  exact Fr.e1 F e
set_option maxRecDepth 10000 in
theorem fX5_isSide_c9 (h0 : Hp) (h : Hp) (q : (Int32 × Hp)) (F : Fr (wX5_isSide) zX5_isSide h0 h) (e : sX5_isSide_c9 h = some q) : Fr (wX5_isSide) zX5_isSide h0 q.2 := by
  unfold sX5_isSide_c9 at e
  exact fX5_isSide_c14 h0 h (1 : Int32) q F e
set_option maxRecDepth 10000 in
theorem fX5_isSide (h : Hp) (a0 : Int32) (q : (Int32 × Hp)) (e : sX5_isSide h a0 = some q) : Fr (wX5_isSide) zX5_isSide h q.2 := by
  unfold sX5_isSide at e
  have F : Fr (wX5_isSide) zX5_isSide h h := Fr.rf
  by_cases c : a0 = 0
  · rw [if_pos c] at e
    exact fX5_isSide_c9 h h q F e
  · rw [if_neg c] at e
    by_cases c : a0 = (1 : Int32)
    · rw [if_pos c] at e
      exact fX5_isSide_c9 h h q F e
    · rw [if_neg c] at e
      exact fX5_isSide_c14 h h (0 : Int32) q F e

-- X5_sideOf
abbrev wX5_sideOf : List (Nat × Option Nat) := []
abbrev zX5_sideOf : List Nat := []
set_option maxRecDepth 10000 in
theorem fX5_sideOf_c15 (h0 : Hp) (h : Hp) (w0 : Nat) (hw0 : ck w0 = 2) (q : (Nat × Hp)) (F : Fr (wX5_sideOf) zX5_sideOf h0 h) (e : sX5_sideOf_c15 h w0 = some q) : Fr (wX5_sideOf) zX5_sideOf h0 q.2 := by
  unfold sX5_sideOf_c15 at e
  exact Fr.e1 F e
set_option maxRecDepth 10000 in
theorem fX5_sideOf (h : Hp) (a1 : Int32) (q : (Nat × Hp)) (e : sX5_sideOf h a1 = some q) : Fr (wX5_sideOf) zX5_sideOf h q.2 := by
  unfold sX5_sideOf at e
  have F : Fr (wX5_sideOf) zX5_sideOf h h := Fr.rf
  by_cases c : a1 = 0
  · rw [if_pos c] at e
    exact fX5_sideOf_c15 h h 26 rfl q F e
  · rw [if_neg c] at e
    exact fX5_sideOf_c15 h h 40 rfl q F e

-- X5_commonDivisor
abbrev wX5_commonDivisor : List (Nat × Option Nat) := []
abbrev zX5_commonDivisor : List Nat := []
set_option maxRecDepth 10000 in
theorem fX5_commonDivisor_c34 (h0 : Hp) (h : Hp) (v2 : Int32) (q : (Int32 × Hp)) (F : Fr (wX5_commonDivisor) zX5_commonDivisor h0 h) (e : sX5_commonDivisor_c34 h v2 = some q) : Fr (wX5_commonDivisor) zX5_commonDivisor h0 q.2 := by
  unfold sX5_commonDivisor_c34 at e
  exact Fr.e1 F e
set_option maxRecDepth 10000 in
theorem fX5_commonDivisor_c7 (h0 : Hp) (k7 : Hp → Int32 → Int32 → Int32 → Option (Int32 × Hp)) (hk7 : ∀ (h : Hp) (v2 : Int32) (v3 : Int32) (v4 : Int32) (q : (Int32 × Hp)), Fr (wX5_commonDivisor) zX5_commonDivisor h0 h → k7 h v2 v3 v4 = some q → Fr (wX5_commonDivisor) zX5_commonDivisor h0 q.2) (h : Hp) (v2 : Int32) (v3 : Int32) (v4 : Int32) (q : (Int32 × Hp)) (F : Fr (wX5_commonDivisor) zX5_commonDivisor h0 h) (e : sX5_commonDivisor_c7 k7 h v2 v3 v4 = some q) : Fr (wX5_commonDivisor) zX5_commonDivisor h0 q.2 := by
  unfold sX5_commonDivisor_c7 at e
  by_cases c : (50 : Int32) ≤ v4
  · rw [if_pos c] at e
    exact fX5_commonDivisor_c34 h0 h v2 q F e
  · rw [if_neg c] at e
    by_cases c : v3 = 0
    · rw [if_pos c] at e
      exact fX5_commonDivisor_c34 h0 h v2 q F e
    · rw [if_neg c] at e
      obtain ⟨c1, e⟩ := gd_s e
      obtain ⟨x2, ex2, e⟩ := nm_s e
      obtain ⟨x3, ex3, e⟩ := nm_s e
      exact hk7 h v3 x2 x3 q F e
theorem fX5_commonDivisor_b7 (h0 : Hp) : ∀ (n : Nat) (h : Hp) (v2 : Int32) (v3 : Int32) (v4 : Int32) (q : (Int32 × Hp)), Fr (wX5_commonDivisor) zX5_commonDivisor h0 h → sX5_commonDivisor_b7 n h v2 v3 v4 = some q → Fr (wX5_commonDivisor) zX5_commonDivisor h0 q.2
  | 0 => fun _ _ _ _ _ _ e => by cases e
  | n + 1 => fun h v2 v3 v4 q F e => fX5_commonDivisor_c7 h0 (sX5_commonDivisor_b7 n) (fX5_commonDivisor_b7 h0 n) h v2 v3 v4 q F e
set_option maxRecDepth 10000 in
theorem fX5_commonDivisor (h : Hp) (a0 : Int32) (a1 : Int32) (q : (Int32 × Hp)) (e : sX5_commonDivisor h a0 a1 = some q) : Fr (wX5_commonDivisor) zX5_commonDivisor h q.2 := by
  unfold sX5_commonDivisor at e
  have F : Fr (wX5_commonDivisor) zX5_commonDivisor h h := Fr.rf
  exact fX5_commonDivisor_b7 h FU h a0 a1 (0 : Int32) q F e

-- X6_thrown
abbrev wX6_thrown : List (Nat × Option Nat) := []
abbrev zX6_thrown : List Nat := []
set_option maxRecDepth 10000 in
theorem fX6_thrown (h : Hp) (q : (Int32 × Hp)) (e : sX6_thrown h = some q) : Fr (wX6_thrown) zX6_thrown h q.2 := by
  unfold sX6_thrown at e
  have F : Fr (wX6_thrown) zX6_thrown h h := Fr.rf
  exact Fr.e1 F e

-- X6_in
abbrev wX6_in : List (Nat × Option Nat) := []
abbrev zX6_in : List Nat := []
set_option maxRecDepth 10000 in
theorem fX6_in_c18 (h0 : Hp) (h : Hp) (t0 : Int32) (q : (Int32 × Hp)) (F : Fr (wX6_in) zX6_in h0 h) (e : sX6_in_c18 h t0 = some q) : Fr (wX6_in) zX6_in h0 q.2 := by
  unfold sX6_in_c18 at e
  obtain ⟨c1, e⟩ := gd_s e
  exact Fr.e1 F e
set_option maxRecDepth 10000 in
theorem fX6_in_c17 (h0 : Hp) (h : Hp) (q : (Int32 × Hp)) (F : Fr (wX6_in) zX6_in h0 h) (e : sX6_in_c17 h = some q) : Fr (wX6_in) zX6_in h0 q.2 := by
  unfold sX6_in_c17 at e
  exact fX6_in_c18 h0 h (0 : Int32) q F e
set_option maxRecDepth 10000 in
theorem fX6_in (h : Hp) (a0 : Int64) (a2 : Int64) (a4 : Int64) (q : (Int32 × Hp)) (e : sX6_in h a0 a2 a4 = some q) : Fr (wX6_in) zX6_in h q.2 := by
  unfold sX6_in at e
  have F : Fr (wX6_in) zX6_in h h := Fr.rf
  by_cases c : (lg_cmp a0 a2) < 0
  · rw [if_pos c] at e
    exact fX6_in_c17 h h q F e
  · rw [if_neg c] at e
    by_cases c : 0 < (lg_cmp a0 a4)
    · rw [if_pos c] at e
      exact fX6_in_c17 h h q F e
    · rw [if_neg c] at e
      exact fX6_in_c18 h h (1 : Int32) q F e

-- X6_flag
abbrev wX6_flag : List (Nat × Option Nat) := []
abbrev zX6_flag : List Nat := []
set_option maxRecDepth 10000 in
theorem fX6_flag_c9 (h0 : Hp) (h : Hp) (t0 : Int32) (q : (Int32 × Hp)) (F : Fr (wX6_flag) zX6_flag h0 h) (e : sX6_flag_c9 h t0 = some q) : Fr (wX6_flag) zX6_flag h0 q.2 := by
  unfold sX6_flag_c9 at e
  exact Fr.e1 F e
set_option maxRecDepth 10000 in
theorem fX6_flag (h : Hp) (a0 : Int32) (q : (Int32 × Hp)) (e : sX6_flag h a0 = some q) : Fr (wX6_flag) zX6_flag h q.2 := by
  unfold sX6_flag at e
  have F : Fr (wX6_flag) zX6_flag h h := Fr.rf
  by_cases c : a0 = 0
  · rw [if_pos c] at e
    exact fX6_flag_c9 h h (0 : Int32) q F e
  · rw [if_neg c] at e
    exact fX6_flag_c9 h h (1 : Int32) q F e

-- X6_enters
abbrev wX6_enters : List (Nat × Option Nat) := [(54, some 1)]
abbrev zX6_enters : List Nat := [55]
set_option maxRecDepth 10000 in
theorem fX6_enters (h : Hp) (a1 : Int64) (q : Hp) (e : sX6_enters h a1 = some q) : Fr (wX6_enters) zX6_enters h q := by
  unfold sX6_enters at e
  have F : Fr (wX6_enters) zX6_enters h h := Fr.rf
  obtain ⟨c1, e⟩ := gd_s e
  obtain ⟨h2, eh2, e⟩ := nm_s e
  have F := Fr.w2 F eh2 (by decide)
  obtain ⟨h3, eh3, e⟩ := nm_s e
  have F := Fr.w1 F eh3 (Or.inr (by decide))
  exact Fr.e0 F e

-- X6_common
abbrev wX6_common : List (Nat × Option Nat) := []
abbrev zX6_common : List Nat := []
set_option maxRecDepth 10000 in
theorem fX6_common_c17 (h0 : Hp) (k17 : Hp → Int64 → Int64 → Option (Int64 × Hp)) (hk17 : ∀ (h : Hp) (v4 : Int64) (v6 : Int64) (q : (Int64 × Hp)), Fr (wX6_common) zX6_common h0 h → k17 h v4 v6 = some q → Fr (wX6_common) zX6_common h0 q.2) (h : Hp) (v4 : Int64) (v6 : Int64) (q : (Int64 × Hp)) (F : Fr (wX6_common) zX6_common h0 h) (e : sX6_common_c17 k17 h v4 v6 = some q) : Fr (wX6_common) zX6_common h0 q.2 := by
  unfold sX6_common_c17 at e
  by_cases c : (lg_cmp v6 (0 : Int64)) = 0
  · rw [if_pos c] at e
    exact Fr.e1 F e
  · rw [if_neg c] at e
    obtain ⟨c1, e⟩ := gd_s e
    obtain ⟨x2, ex2, e⟩ := nm_s e
    exact hk17 h v6 x2 q F e
theorem fX6_common_b17 (h0 : Hp) : ∀ (n : Nat) (h : Hp) (v4 : Int64) (v6 : Int64) (q : (Int64 × Hp)), Fr (wX6_common) zX6_common h0 h → sX6_common_b17 n h v4 v6 = some q → Fr (wX6_common) zX6_common h0 q.2
  | 0 => fun _ _ _ _ _ e => by cases e
  | n + 1 => fun h v4 v6 q F e => fX6_common_c17 h0 (sX6_common_b17 n) (fX6_common_b17 h0 n) h v4 v6 q F e
set_option maxRecDepth 10000 in
theorem fX6_common_c12 (h0 : Hp) (h : Hp) (v2 : Int64) (t0 : Int64) (q : (Int64 × Hp)) (F : Fr (wX6_common) zX6_common h0 h) (e : sX6_common_c12 h v2 t0 = some q) : Fr (wX6_common) zX6_common h0 q.2 := by
  unfold sX6_common_c12 at e
  exact fX6_common_b17 h0 FU h t0 v2 q F e
set_option maxRecDepth 10000 in
theorem fX6_common (h : Hp) (a0 : Int64) (a2 : Int64) (q : (Int64 × Hp)) (e : sX6_common h a0 a2 = some q) : Fr (wX6_common) zX6_common h q.2 := by
  unfold sX6_common at e
  have F : Fr (wX6_common) zX6_common h h := Fr.rf
  by_cases c : 0 ≤ (lg_cmp a0 (0 : Int64))
  · rw [if_pos c] at e
    exact fX6_common_c12 h h a2 a0 q F e
  · rw [if_neg c] at e
    exact fX6_common_c12 h h a2 (-a0) q F e

-- X6_sign
abbrev wX6_sign : List (Nat × Option Nat) := [(54, some 0), (54, some 4), (56, none)]
abbrev zX6_sign : List Nat := []
set_option maxRecDepth 10000 in
theorem fX6_sign_c18 (h0 : Hp) (k18 : Hp → Int32 → Int32 → Option (Int32 × Hp)) (hk18 : ∀ (h : Hp) (v1 : Int32) (v2 : Int32) (q : (Int32 × Hp)), Fr (wX6_sign) zX6_sign h0 h → k18 h v1 v2 = some q → Fr (wX6_sign) zX6_sign h0 q.2) (h : Hp) (v1 : Int32) (v2 : Int32) (q : (Int32 × Hp)) (F : Fr (wX6_sign) zX6_sign h0 h) (e : sX6_sign_c18 k18 h v1 v2 = some q) : Fr (wX6_sign) zX6_sign h0 q.2 := by
  unfold sX6_sign_c18 at e
  by_cases c : (4 : Int32) ≤ v2
  · rw [if_pos c] at e
    obtain ⟨h2, eh2, e⟩ := nm_s e
    have F := Fr.w1 F eh2 (Or.inr (by decide))
    exact Fr.e1 F e
  · rw [if_neg c] at e
    obtain ⟨c3, e⟩ := gd_s e
    obtain ⟨h4, eh4, e⟩ := nm_s e
    have F := Fr.w1 F eh4 (Or.inl (by decide))
    obtain ⟨x5, ex5, e⟩ := nm_s e
    exact hk18 h4 v1 x5 q F e
theorem fX6_sign_b18 (h0 : Hp) : ∀ (n : Nat) (h : Hp) (v1 : Int32) (v2 : Int32) (q : (Int32 × Hp)), Fr (wX6_sign) zX6_sign h0 h → sX6_sign_b18 n h v1 v2 = some q → Fr (wX6_sign) zX6_sign h0 q.2
  | 0 => fun _ _ _ _ _ e => by cases e
  | n + 1 => fun h v1 v2 q F e => fX6_sign_c18 h0 (sX6_sign_b18 n) (fX6_sign_b18 h0 n) h v1 v2 q F e
set_option maxRecDepth 10000 in
theorem fX6_sign (h : Hp) (a1 : Int32) (q : (Int32 × Hp)) (e : sX6_sign h a1 = some q) : Fr (wX6_sign) zX6_sign h q.2 := by
  unfold sX6_sign at e
  have F : Fr (wX6_sign) zX6_sign h h := Fr.rf
  obtain ⟨h1, eh1, e⟩ := nm_s e
  have F := Fr.w1 F eh1 (Or.inr (by decide))
  by_cases c : (h1.1 54 4) ≤ (116 : Int32)
  · rw [if_pos c] at e
    exact fX6_sign_b18 h FU h1 a1 (0 : Int32) q F e
  · rw [if_neg c] at e
    exact Fr.e1 F e

-- X6_isHot
abbrev wX6_isHot : List (Nat × Option Nat) := []
abbrev zX6_isHot : List Nat := []
set_option maxRecDepth 10000 in
theorem fX6_isHot_c20 (h0 : Hp) (h : Hp) (t0 : Int32) (q : (Int32 × Hp)) (F : Fr (wX6_isHot) zX6_isHot h0 h) (e : sX6_isHot_c20 h t0 = some q) : Fr (wX6_isHot) zX6_isHot h0 q.2 := by
  unfold sX6_isHot_c20 at e
  obtain ⟨c3, e⟩ := gd_s e
  exact Fr.e1 F e
set_option maxRecDepth 10000 in
theorem fX6_isHot (h : Hp) (a1 : Int32) (q : (Int32 × Hp)) (e : sX6_isHot h a1 = some q) : Fr (wX6_isHot) zX6_isHot h q.2 := by
  unfold sX6_isHot at e
  have F : Fr (wX6_isHot) zX6_isHot h h := Fr.rf
  obtain ⟨c1, e⟩ := gd_s e
  obtain ⟨c2, e⟩ := gd_s e
  by_cases c : (h.1 57 a1.toNatClampNeg) ≤ (h.1 58 a1.toNatClampNeg)
  · rw [if_pos c] at e
    exact fX6_isHot_c20 h h (0 : Int32) q F e
  · rw [if_neg c] at e
    exact fX6_isHot_c20 h h (1 : Int32) q F e

-- X6_of
abbrev wX6_of : List (Nat × Option Nat) := []
abbrev zX6_of : List Nat := []
set_option maxRecDepth 10000 in
theorem fX6_of_c33 (h0 : Hp) (h : Hp) (t0 : Int32) (q : (Int32 × Hp)) (F : Fr (wX6_of) zX6_of h0 h) (e : sX6_of_c33 h t0 = some q) : Fr (wX6_of) zX6_of h0 q.2 := by
  unfold sX6_of_c33 at e
  exact Fr.e1 F e
set_option maxRecDepth 10000 in
theorem fX6_of (h : Hp) (a1 : Int32) (a2 : Int32) (q : (Int32 × Hp)) (e : sX6_of h a1 a2 = some q) : Fr (wX6_of) zX6_of h q.2 := by
  unfold sX6_of at e
  have F : Fr (wX6_of) zX6_of h h := Fr.rf
  by_cases c : a2 = 0
  · rw [if_pos c] at e
    obtain ⟨c3, e⟩ := gd_s e
    exact fX6_of_c33 h h (h.1 57 a1.toNatClampNeg) q F e
  · rw [if_neg c] at e
    by_cases c : a2 = (1 : Int32)
    · rw [if_pos c] at e
      obtain ⟨c2, e⟩ := gd_s e
      exact fX6_of_c33 h h (h.1 58 a1.toNatClampNeg) q F e
    · rw [if_neg c] at e
      obtain ⟨c1, e⟩ := gd_s e
      exact fX6_of_c33 h h (h.1 59 a1.toNatClampNeg) q F e

-- X6_becomes
abbrev wX6_becomes : List (Nat × Option Nat) := [(57, none), (58, none), (59, none)]
abbrev zX6_becomes : List Nat := []
set_option maxRecDepth 10000 in
theorem fX6_becomes_c61 (h0 : Hp) (h : Hp) (t0 : Int32) (t1 : Int32) (q : Hp) (F : Fr (wX6_becomes) zX6_becomes h0 h) (e : sX6_becomes_c61 h t0 t1 = some q) : Fr (wX6_becomes) zX6_becomes h0 q := by
  unfold sX6_becomes_c61 at e
  obtain ⟨c8, e⟩ := gd_s e
  obtain ⟨h9, eh9, e⟩ := nm_s e
  have F := Fr.w1 F eh9 (Or.inl (by decide))
  exact Fr.e0 F e
set_option maxRecDepth 10000 in
theorem fX6_becomes_c40 (h0 : Hp) (h : Hp) (v1 : Int32) (v2 : Int32) (v3 : Int32) (t0 : Int32) (t1 : Int32) (q : Hp) (F : Fr (wX6_becomes) zX6_becomes h0 h) (e : sX6_becomes_c40 h v1 v2 v3 t0 t1 = some q) : Fr (wX6_becomes) zX6_becomes h0 q := by
  unfold sX6_becomes_c40 at e
  obtain ⟨c5, e⟩ := gd_s e
  obtain ⟨h6, eh6, e⟩ := nm_s e
  have F := Fr.w1 F eh6 (Or.inl (by decide))
  by_cases c : v2 = (2 : Int32)
  · rw [if_pos c] at e
    exact fX6_becomes_c61 h0 h6 v3 v1 q F e
  · rw [if_neg c] at e
    obtain ⟨c7, e⟩ := gd_s e
    exact fX6_becomes_c61 h0 h6 (h6.1 59 v1.toNatClampNeg) v1 q F e
set_option maxRecDepth 10000 in
theorem fX6_becomes_c19 (h0 : Hp) (h : Hp) (v1 : Int32) (v2 : Int32) (v3 : Int32) (t0 : Int32) (t1 : Int32) (q : Hp) (F : Fr (wX6_becomes) zX6_becomes h0 h) (e : sX6_becomes_c19 h v1 v2 v3 t0 t1 = some q) : Fr (wX6_becomes) zX6_becomes h0 q := by
  unfold sX6_becomes_c19 at e
  obtain ⟨c2, e⟩ := gd_s e
  obtain ⟨h3, eh3, e⟩ := nm_s e
  have F := Fr.w1 F eh3 (Or.inl (by decide))
  by_cases c : v2 = (1 : Int32)
  · rw [if_pos c] at e
    exact fX6_becomes_c40 h0 h3 v1 v2 v3 v3 v1 q F e
  · rw [if_neg c] at e
    obtain ⟨c4, e⟩ := gd_s e
    exact fX6_becomes_c40 h0 h3 v1 v2 v3 (h3.1 58 v1.toNatClampNeg) v1 q F e
set_option maxRecDepth 10000 in
theorem fX6_becomes (h : Hp) (a1 : Int32) (a2 : Int32) (a3 : Int32) (q : Hp) (e : sX6_becomes h a1 a2 a3 = some q) : Fr (wX6_becomes) zX6_becomes h q := by
  unfold sX6_becomes at e
  have F : Fr (wX6_becomes) zX6_becomes h h := Fr.rf
  by_cases c : a2 = 0
  · rw [if_pos c] at e
    exact fX6_becomes_c19 h h a1 a2 a3 a3 a1 q F e
  · rw [if_neg c] at e
    obtain ⟨c1, e⟩ := gd_s e
    exact fX6_becomes_c19 h h a1 a2 a3 (h.1 57 a1.toNatClampNeg) a1 q F e

-- X6_takesOut
abbrev wX6_takesOut : List (Nat × Option Nat) := [(54, some 7), (57, none), (58, none), (59, none)]
abbrev zX6_takesOut : List Nat := []
set_option maxRecDepth 10000 in
theorem fX6_takesOut_c12 (h0 : Hp) (k12 : Hp → Int32 → Option Hp) (hk12 : ∀ (h : Hp) (v2 : Int32) (q : Hp), Fr (wX6_takesOut) zX6_takesOut h0 h → k12 h v2 = some q → Fr (wX6_takesOut) zX6_takesOut h0 q) (h : Hp) (v2 : Int32) (q : Hp) (F : Fr (wX6_takesOut) zX6_takesOut h0 h) (e : sX6_takesOut_c12 k12 h v2 = some q) : Fr (wX6_takesOut) zX6_takesOut h0 q := by
  unfold sX6_takesOut_c12 at e
  by_cases c : (h.1 54 7) ≤ v2
  · rw [if_pos c] at e
    exact Fr.e0 F e
  · rw [if_neg c] at e
    obtain ⟨c2, e⟩ := gd_s e
    obtain ⟨c3, e⟩ := gd_s e
    obtain ⟨h4, eh4, e⟩ := nm_s e
    have F := Fr.w1 F eh4 (Or.inl (by decide))
    obtain ⟨c5, e⟩ := gd_s e
    obtain ⟨c6, e⟩ := gd_s e
    obtain ⟨h7, eh7, e⟩ := nm_s e
    have F := Fr.w1 F eh7 (Or.inl (by decide))
    obtain ⟨c8, e⟩ := gd_s e
    obtain ⟨c9, e⟩ := gd_s e
    obtain ⟨h10, eh10, e⟩ := nm_s e
    have F := Fr.w1 F eh10 (Or.inl (by decide))
    obtain ⟨x11, ex11, e⟩ := nm_s e
    exact hk12 h10 x11 q F e
theorem fX6_takesOut_b12 (h0 : Hp) : ∀ (n : Nat) (h : Hp) (v2 : Int32) (q : Hp), Fr (wX6_takesOut) zX6_takesOut h0 h → sX6_takesOut_b12 n h v2 = some q → Fr (wX6_takesOut) zX6_takesOut h0 q
  | 0 => fun _ _ _ _ e => by cases e
  | n + 1 => fun h v2 q F e => fX6_takesOut_c12 h0 (sX6_takesOut_b12 n) (fX6_takesOut_b12 h0 n) h v2 q F e
set_option maxRecDepth 10000 in
theorem fX6_takesOut (h : Hp) (a1 : Int32) (q : Hp) (e : sX6_takesOut h a1 = some q) : Fr (wX6_takesOut) zX6_takesOut h q := by
  unfold sX6_takesOut at e
  have F : Fr (wX6_takesOut) zX6_takesOut h h := Fr.rf
  obtain ⟨h1, eh1, e⟩ := nm_s e
  have F := Fr.w1 F eh1 (Or.inr (by decide))
  exact fX6_takesOut_b12 h FU h1 a1 q F e

-- X6_addsBorder
abbrev wX6_addsBorder : List (Nat × Option Nat) := [(63, none), (54, some 17)]
abbrev zX6_addsBorder : List Nat := []
set_option maxRecDepth 10000 in
theorem fX6_addsBorder_c50 (h0 : Hp) (k50 : Hp → Int32 → Int32 → Int32 → Option Hp) (hk50 : ∀ (h : Hp) (v1 : Int32) (v2 : Int32) (v3 : Int32) (q : Hp), Fr (wX6_addsBorder) zX6_addsBorder h0 h → k50 h v1 v2 v3 = some q → Fr (wX6_addsBorder) zX6_addsBorder h0 q) (h : Hp) (v1 : Int32) (v2 : Int32) (v3 : Int32) (q : Hp) (F : Fr (wX6_addsBorder) zX6_addsBorder h0 h) (e : sX6_addsBorder_c50 k50 h v1 v2 v3 = some q) : Fr (wX6_addsBorder) zX6_addsBorder h0 q := by
  unfold sX6_addsBorder_c50 at e
  by_cases c : v3 ≤ v2
  · rw [if_pos c] at e
    obtain ⟨c5, e⟩ := gd_s e
    obtain ⟨h6, eh6, e⟩ := nm_s e
    have F := Fr.w1 F eh6 (Or.inl (by decide))
    obtain ⟨h7, eh7, e⟩ := nm_s e
    have F := Fr.w1 F eh7 (Or.inr (by decide))
    exact Fr.e0 F e
  · rw [if_neg c] at e
    obtain ⟨c8, e⟩ := gd_s e
    obtain ⟨c9, e⟩ := gd_s e
    obtain ⟨h10, eh10, e⟩ := nm_s e
    have F := Fr.w1 F eh10 (Or.inl (by decide))
    obtain ⟨x11, ex11, e⟩ := nm_s e
    exact hk50 h10 v1 v2 x11 q F e
theorem fX6_addsBorder_b50 (h0 : Hp) : ∀ (n : Nat) (h : Hp) (v1 : Int32) (v2 : Int32) (v3 : Int32) (q : Hp), Fr (wX6_addsBorder) zX6_addsBorder h0 h → sX6_addsBorder_b50 n h v1 v2 v3 = some q → Fr (wX6_addsBorder) zX6_addsBorder h0 q
  | 0 => fun _ _ _ _ _ _ e => by cases e
  | n + 1 => fun h v1 v2 v3 q F e => fX6_addsBorder_c50 h0 (sX6_addsBorder_b50 n) (fX6_addsBorder_b50 h0 n) h v1 v2 v3 q F e
set_option maxRecDepth 10000 in
theorem fX6_addsBorder_c45 (h0 : Hp) (h : Hp) (v1 : Int32) (v2 : Int32) (q : Hp) (F : Fr (wX6_addsBorder) zX6_addsBorder h0 h) (e : sX6_addsBorder_c45 h v1 v2 = some q) : Fr (wX6_addsBorder) zX6_addsBorder h0 q := by
  unfold sX6_addsBorder_c45 at e
  obtain ⟨x4, ex4, e⟩ := nm_s e
  exact fX6_addsBorder_b50 h0 FU h v1 v2 x4 q F e
set_option maxRecDepth 10000 in
theorem fX6_addsBorder_c26 (h0 : Hp) (h : Hp) (v1 : Int32) (v2 : Int32) (q : Hp) (F : Fr (wX6_addsBorder) zX6_addsBorder h0 h) (e : sX6_addsBorder_c26 h v1 v2 = some q) : Fr (wX6_addsBorder) zX6_addsBorder h0 q := by
  unfold sX6_addsBorder_c26 at e
  by_cases c : (h.1 54 17) ≤ v2
  · rw [if_pos c] at e
    exact fX6_addsBorder_c45 h0 h v1 v2 q F e
  · rw [if_neg c] at e
    obtain ⟨c3, e⟩ := gd_s e
    by_cases c : (h.1 63 v2.toNatClampNeg) = v1
    · rw [if_pos c] at e
      exact Fr.e0 F e
    · rw [if_neg c] at e
      exact fX6_addsBorder_c45 h0 h v1 v2 q F e
set_option maxRecDepth 10000 in
theorem fX6_addsBorder_c2 (h0 : Hp) (k2 : Hp → Int32 → Int32 → Option Hp) (hk2 : ∀ (h : Hp) (v1 : Int32) (v2 : Int32) (q : Hp), Fr (wX6_addsBorder) zX6_addsBorder h0 h → k2 h v1 v2 = some q → Fr (wX6_addsBorder) zX6_addsBorder h0 q) (h : Hp) (v1 : Int32) (v2 : Int32) (q : Hp) (F : Fr (wX6_addsBorder) zX6_addsBorder h0 h) (e : sX6_addsBorder_c2 k2 h v1 v2 = some q) : Fr (wX6_addsBorder) zX6_addsBorder h0 q := by
  unfold sX6_addsBorder_c2 at e
  by_cases c : (h.1 54 17) ≤ v2
  · rw [if_pos c] at e
    exact fX6_addsBorder_c26 h0 h v1 v2 q F e
  · rw [if_neg c] at e
    obtain ⟨c1, e⟩ := gd_s e
    by_cases c : (h.1 63 v2.toNatClampNeg) ≤ v1
    · rw [if_pos c] at e
      exact fX6_addsBorder_c26 h0 h v1 v2 q F e
    · rw [if_neg c] at e
      obtain ⟨x2, ex2, e⟩ := nm_s e
      exact hk2 h v1 x2 q F e
theorem fX6_addsBorder_b2 (h0 : Hp) : ∀ (n : Nat) (h : Hp) (v1 : Int32) (v2 : Int32) (q : Hp), Fr (wX6_addsBorder) zX6_addsBorder h0 h → sX6_addsBorder_b2 n h v1 v2 = some q → Fr (wX6_addsBorder) zX6_addsBorder h0 q
  | 0 => fun _ _ _ _ _ e => by cases e
  | n + 1 => fun h v1 v2 q F e => fX6_addsBorder_c2 h0 (sX6_addsBorder_b2 n) (fX6_addsBorder_b2 h0 n) h v1 v2 q F e
set_option maxRecDepth 10000 in
theorem fX6_addsBorder (h : Hp) (a1 : Int32) (q : Hp) (e : sX6_addsBorder h a1 = some q) : Fr (wX6_addsBorder) zX6_addsBorder h q := by
  unfold sX6_addsBorder at e
  have F : Fr (wX6_addsBorder) zX6_addsBorder h h := Fr.rf
  exact fX6_addsBorder_b2 h FU h a1 (0 : Int32) q F e

-- X6_pinchNow
abbrev wX6_pinchNow : List (Nat × Option Nat) := []
abbrev zX6_pinchNow : List Nat := []
set_option maxRecDepth 10000 in
theorem fX6_pinchNow_c2 (h0 : Hp) (k2 : Hp → Int32 → Option (Int32 × Hp)) (hk2 : ∀ (h : Hp) (v1 : Int32) (q : (Int32 × Hp)), Fr (wX6_pinchNow) zX6_pinchNow h0 h → k2 h v1 = some q → Fr (wX6_pinchNow) zX6_pinchNow h0 q.2) (h : Hp) (v1 : Int32) (q : (Int32 × Hp)) (F : Fr (wX6_pinchNow) zX6_pinchNow h0 h) (e : sX6_pinchNow_c2 k2 h v1 = some q) : Fr (wX6_pinchNow) zX6_pinchNow h0 q.2 := by
  unfold sX6_pinchNow_c2 at e
  obtain ⟨c1, e⟩ := gd_s e
  by_cases c : (h.1 64 v1.toNatClampNeg) ≤ 0
  · rw [if_pos c] at e
    obtain ⟨c2, e⟩ := gd_s e
    exact Fr.e1 F e
  · rw [if_neg c] at e
    obtain ⟨x3, ex3, e⟩ := nm_s e
    exact hk2 h x3 q F e
theorem fX6_pinchNow_b2 (h0 : Hp) : ∀ (n : Nat) (h : Hp) (v1 : Int32) (q : (Int32 × Hp)), Fr (wX6_pinchNow) zX6_pinchNow h0 h → sX6_pinchNow_b2 n h v1 = some q → Fr (wX6_pinchNow) zX6_pinchNow h0 q.2
  | 0 => fun _ _ _ _ e => by cases e
  | n + 1 => fun h v1 q F e => fX6_pinchNow_c2 h0 (sX6_pinchNow_b2 n) (fX6_pinchNow_b2 h0 n) h v1 q F e
set_option maxRecDepth 10000 in
theorem fX6_pinchNow (h : Hp) (q : (Int32 × Hp)) (e : sX6_pinchNow h = some q) : Fr (wX6_pinchNow) zX6_pinchNow h q.2 := by
  unfold sX6_pinchNow at e
  have F : Fr (wX6_pinchNow) zX6_pinchNow h h := Fr.rf
  exact fX6_pinchNow_b2 h FU h (0 : Int32) q F e

-- X6_allGo
abbrev wX6_allGo : List (Nat × Option Nat) := [(67, none)]
abbrev zX6_allGo : List Nat := []
set_option maxRecDepth 10000 in
theorem fX6_allGo (h : Hp) (q : Hp) (e : sX6_allGo h = some q) : Fr (wX6_allGo) zX6_allGo h q := by
  unfold sX6_allGo at e
  have F : Fr (wX6_allGo) zX6_allGo h h := Fr.rf
  obtain ⟨h1, eh1, e⟩ := nm_s e
  have F := Fr.w1 F eh1 (Or.inl (by decide))
  obtain ⟨h2, eh2, e⟩ := nm_s e
  have F := Fr.w1 F eh2 (Or.inl (by decide))
  exact Fr.e0 F e

-- X6_place
abbrev wX6_place : List (Nat × Option Nat) := []
abbrev zX6_place : List Nat := []
set_option maxRecDepth 10000 in
theorem fX6_place (h : Hp) (a0 : Int32) (a1 : Int32) (q : (Int32 × Hp)) (e : sX6_place h a0 a1 = some q) : Fr (wX6_place) zX6_place h q.2 := by
  unfold sX6_place at e
  have F : Fr (wX6_place) zX6_place h h := Fr.rf
  exact Fr.e1 F e

-- X6_under
abbrev wX6_under : List (Nat × Option Nat) := []
abbrev zX6_under : List Nat := []
set_option maxRecDepth 10000 in
theorem fX6_under (h : Hp) (a1 : Int32) (a2 : Int32) (q : (Int64 × Hp)) (e : sX6_under h a1 a2 = some q) : Fr (wX6_under) zX6_under h q.2 := by
  unfold sX6_under at e
  have F : Fr (wX6_under) zX6_under h h := Fr.rf
  obtain ⟨c1, e⟩ := gd_s e
  obtain ⟨c2, e⟩ := gd_s e
  exact Fr.e1 F e

-- X0_placeBorders
abbrev wX0_placeBorders (r : Nat) (a1 : Nat) : List (Nat × Option Nat) := [(r, some 4), (r + 1, none)]
abbrev zX0_placeBorders : List Nat := []
set_option maxRecDepth 10000 in
theorem fX0_placeBorders_c29 (h0 : Hp) (r : Nat) (a1 : Nat) (k7 : Hp → Nat → Nat → Int32 → Int32 → Option Hp) (hk7 : ∀ (h : Hp) (v2 : Int32) (v3 : Int32) (hr : ck r = 0) (ha1 : ck a1 = 1) (q : Hp), Fr (wX0_placeBorders r a1) zX0_placeBorders h0 h → k7 h r a1 v2 v3 = some q → Fr (wX0_placeBorders r a1) zX0_placeBorders h0 q) (h : Hp) (v2 : Int32) (v3 : Int32) (t0 : Int32) (hr : ck r = 0) (ha1 : ck a1 = 1) (q : Hp) (F : Fr (wX0_placeBorders r a1) zX0_placeBorders h0 h) (e : sX0_placeBorders_c29 k7 h r a1 v2 v3 t0 = some q) : Fr (wX0_placeBorders r a1) zX0_placeBorders h0 q := by
  unfold sX0_placeBorders_c29 at e
  obtain ⟨c3, e⟩ := gd_s e
  obtain ⟨q4, eq4, e⟩ := bd_s e
  have F := Fr.tr F (fX0_placeBorder h r ((h.1 (a1 + 2) v3.toNatClampNeg) - t0) q4 eq4) (by simp) (by decide)
  obtain ⟨c5, e⟩ := gd_s e
  obtain ⟨q6, eq6, e⟩ := bd_s e
  have F := Fr.tr F (fX0_placeBorder q4 r ((q4.1 (a1 + 3) v3.toNatClampNeg) - t0) q6 eq6) (by simp) (by decide)
  obtain ⟨x7, ex7, e⟩ := nm_s e
  exact hk7 q6 v2 x7 hr ha1 q F e
set_option maxRecDepth 10000 in
theorem fX0_placeBorders_c7 (h0 : Hp) (r : Nat) (a1 : Nat) (k7 : Hp → Nat → Nat → Int32 → Int32 → Option Hp) (hk7 : ∀ (h : Hp) (v2 : Int32) (v3 : Int32) (hr : ck r = 0) (ha1 : ck a1 = 1) (q : Hp), Fr (wX0_placeBorders r a1) zX0_placeBorders h0 h → k7 h r a1 v2 v3 = some q → Fr (wX0_placeBorders r a1) zX0_placeBorders h0 q) (h : Hp) (v2 : Int32) (v3 : Int32) (hr : ck r = 0) (ha1 : ck a1 = 1) (q : Hp) (F : Fr (wX0_placeBorders r a1) zX0_placeBorders h0 h) (e : sX0_placeBorders_c7 k7 h r a1 v2 v3 = some q) : Fr (wX0_placeBorders r a1) zX0_placeBorders h0 q := by
  unfold sX0_placeBorders_c7 at e
  by_cases c : (h.1 a1 4) ≤ v3
  · rw [if_pos c] at e
    exact Fr.e0 F e
  · rw [if_neg c] at e
    obtain ⟨c2, e⟩ := gd_s e
    by_cases c : (h.1 (a1 + 1) v3.toNatClampNeg) = 0
    · rw [if_pos c] at e
      exact fX0_placeBorders_c29 h0 r a1 k7 hk7 h v2 v3 (0 : Int32) hr ha1 q F e
    · rw [if_neg c] at e
      exact fX0_placeBorders_c29 h0 r a1 k7 hk7 h v2 v3 v2 hr ha1 q F e
theorem fX0_placeBorders_b7 (h0 : Hp) (r : Nat) (a1 : Nat) : ∀ (n : Nat) (h : Hp) (v2 : Int32) (v3 : Int32) (hr : ck r = 0) (ha1 : ck a1 = 1) (q : Hp), Fr (wX0_placeBorders r a1) zX0_placeBorders h0 h → sX0_placeBorders_b7 n h r a1 v2 v3 = some q → Fr (wX0_placeBorders r a1) zX0_placeBorders h0 q
  | 0 => fun _ _ _ _ _ _ _ e => by cases e
  | n + 1 => fun h v2 v3 hr ha1 q F e => fX0_placeBorders_c7 h0 r a1 (sX0_placeBorders_b7 n) (fX0_placeBorders_b7 h0 r a1 n) h v2 v3 hr ha1 q F e
set_option maxRecDepth 10000 in
theorem fX0_placeBorders (h : Hp) (r : Nat) (a1 : Nat) (a2 : Int32) (q : Hp) (e : sX0_placeBorders h r a1 a2 = some q) : Fr (wX0_placeBorders r a1) zX0_placeBorders h q := by
  unfold sX0_placeBorders at e
  obtain ⟨hr, e⟩ := gd_s e
  have hr := isC_t hr
  obtain ⟨ha1, e⟩ := gd_s e
  have ha1 := isC_t ha1
  have F : Fr (wX0_placeBorders r a1) zX0_placeBorders h h := Fr.rf
  obtain ⟨h1, eh1, e⟩ := nm_s e
  have F := Fr.w1 F eh1 (Or.inr (by simp))
  exact fX0_placeBorders_b7 h r a1 FU h1 a2 (0 : Int32) hr ha1 q F e

-- X1_copy
abbrev wX1_copy (r : Nat) (a1 : Nat) : List (Nat × Option Nat) := [(r, some 4), (r + 1, none), (r + 2, none), (r + 3, none), (r + 4, none)]
abbrev zX1_copy : List Nat := []
set_option maxRecDepth 10000 in
theorem fX1_copy_c7 (h0 : Hp) (r : Nat) (a1 : Nat) (k7 : Hp → Nat → Nat → Int32 → Option Hp) (hk7 : ∀ (h : Hp) (v2 : Int32) (hr : ck r = 1) (ha1 : ck a1 = 1) (q : Hp), Fr (wX1_copy r a1) zX1_copy h0 h → k7 h r a1 v2 = some q → Fr (wX1_copy r a1) zX1_copy h0 q) (h : Hp) (v2 : Int32) (hr : ck r = 1) (ha1 : ck a1 = 1) (q : Hp) (F : Fr (wX1_copy r a1) zX1_copy h0 h) (e : sX1_copy_c7 k7 h r a1 v2 = some q) : Fr (wX1_copy r a1) zX1_copy h0 q := by
  unfold sX1_copy_c7 at e
  by_cases c : (h.1 a1 4) ≤ v2
  · rw [if_pos c] at e
    exact Fr.e0 F e
  · rw [if_neg c] at e
    obtain ⟨c2, e⟩ := gd_s e
    obtain ⟨c3, e⟩ := gd_s e
    obtain ⟨c4, e⟩ := gd_s e
    obtain ⟨c5, e⟩ := gd_s e
    obtain ⟨q6, eq6, e⟩ := bd_s e
    have F := Fr.tr F (fX1_add h r (h.1 (a1 + 1) v2.toNatClampNeg) (h.1 (a1 + 2) v2.toNatClampNeg) (h.1 (a1 + 3) v2.toNatClampNeg) (h.1 (a1 + 4) v2.toNatClampNeg) q6 eq6) (by simp) (by decide)
    obtain ⟨x7, ex7, e⟩ := nm_s e
    exact hk7 q6 x7 hr ha1 q F e
theorem fX1_copy_b7 (h0 : Hp) (r : Nat) (a1 : Nat) : ∀ (n : Nat) (h : Hp) (v2 : Int32) (hr : ck r = 1) (ha1 : ck a1 = 1) (q : Hp), Fr (wX1_copy r a1) zX1_copy h0 h → sX1_copy_b7 n h r a1 v2 = some q → Fr (wX1_copy r a1) zX1_copy h0 q
  | 0 => fun _ _ _ _ _ _ e => by cases e
  | n + 1 => fun h v2 hr ha1 q F e => fX1_copy_c7 h0 r a1 (sX1_copy_b7 n) (fX1_copy_b7 h0 r a1 n) h v2 hr ha1 q F e
set_option maxRecDepth 10000 in
theorem fX1_copy (h : Hp) (r : Nat) (a1 : Nat) (q : Hp) (e : sX1_copy h r a1 = some q) : Fr (wX1_copy r a1) zX1_copy h q := by
  unfold sX1_copy at e
  obtain ⟨hr, e⟩ := gd_s e
  have hr := isC_t hr
  obtain ⟨ha1, e⟩ := gd_s e
  have ha1 := isC_t ha1
  have F : Fr (wX1_copy r a1) zX1_copy h h := Fr.rf
  obtain ⟨h1, eh1, e⟩ := nm_s e
  have F := Fr.w1 F eh1 (Or.inr (by simp))
  exact fX1_copy_b7 h r a1 FU h1 (0 : Int32) hr ha1 q F e

-- X1_low
abbrev wX1_low (r : Nat) : List (Nat × Option Nat) := []
abbrev zX1_low : List Nat := []
set_option maxRecDepth 10000 in
theorem fX1_low (h : Hp) (r : Nat) (a1 : Int32) (q : (Int32 × Hp)) (e : sX1_low h r a1 = some q) : Fr (wX1_low r) zX1_low h q.2 := by
  unfold sX1_low at e
  obtain ⟨hr, e⟩ := gd_s e
  have hr := isC_t hr
  have F : Fr (wX1_low r) zX1_low h h := Fr.rf
  obtain ⟨c1, e⟩ := gd_s e
  obtain ⟨c2, e⟩ := gd_s e
  exact Fr.e1 F e

-- X1_high
abbrev wX1_high (r : Nat) : List (Nat × Option Nat) := []
abbrev zX1_high : List Nat := []
set_option maxRecDepth 10000 in
theorem fX1_high (h : Hp) (r : Nat) (a1 : Int32) (q : (Int32 × Hp)) (e : sX1_high h r a1 = some q) : Fr (wX1_high r) zX1_high h q.2 := by
  unfold sX1_high at e
  obtain ⟨hr, e⟩ := gd_s e
  have hr := isC_t hr
  have F : Fr (wX1_high r) zX1_high h h := Fr.rf
  obtain ⟨c1, e⟩ := gd_s e
  obtain ⟨c2, e⟩ := gd_s e
  exact Fr.e1 F e

-- X1_endBelow
abbrev wX1_endBelow (r : Nat) : List (Nat × Option Nat) := []
abbrev zX1_endBelow : List Nat := []
set_option maxRecDepth 10000 in
theorem fX1_endBelow_c79 (h0 : Hp) (r : Nat) (k5 : Hp → Nat → Int32 → Int32 → Int32 → Int32 → Option (Int32 × Hp)) (hk5 : ∀ (h : Hp) (v1 : Int32) (v2 : Int32) (v3 : Int32) (v4 : Int32) (hr : ck r = 1) (q : (Int32 × Hp)), Fr (wX1_endBelow r) zX1_endBelow h0 h → k5 h r v1 v2 v3 v4 = some q → Fr (wX1_endBelow r) zX1_endBelow h0 q.2) (h : Hp) (v1 : Int32) (v2 : Int32) (v3 : Int32) (v4 : Int32) (hr : ck r = 1) (q : (Int32 × Hp)) (F : Fr (wX1_endBelow r) zX1_endBelow h0 h) (e : sX1_endBelow_c79 k5 h r v1 v2 v3 v4 = some q) : Fr (wX1_endBelow r) zX1_endBelow h0 q.2 := by
  unfold sX1_endBelow_c79 at e
  obtain ⟨x6, ex6, e⟩ := nm_s e
  exact hk5 h v1 v2 v3 x6 hr q F e
set_option maxRecDepth 10000 in
theorem fX1_endBelow_c78 (h0 : Hp) (r : Nat) (k5 : Hp → Nat → Int32 → Int32 → Int32 → Int32 → Option (Int32 × Hp)) (hk5 : ∀ (h : Hp) (v1 : Int32) (v2 : Int32) (v3 : Int32) (v4 : Int32) (hr : ck r = 1) (q : (Int32 × Hp)), Fr (wX1_endBelow r) zX1_endBelow h0 h → k5 h r v1 v2 v3 v4 = some q → Fr (wX1_endBelow r) zX1_endBelow h0 q.2) (h : Hp) (v1 : Int32) (v2 : Int32) (v4 : Int32) (t0 : Int32) (hr : ck r = 1) (q : (Int32 × Hp)) (F : Fr (wX1_endBelow r) zX1_endBelow h0 h) (e : sX1_endBelow_c78 k5 h r v1 v2 v4 t0 = some q) : Fr (wX1_endBelow r) zX1_endBelow h0 q.2 := by
  unfold sX1_endBelow_c78 at e
  exact fX1_endBelow_c79 h0 r k5 hk5 h v1 v2 t0 v4 hr q F e
set_option maxRecDepth 10000 in
theorem fX1_endBelow_c51 (h0 : Hp) (r : Nat) (k5 : Hp → Nat → Int32 → Int32 → Int32 → Int32 → Option (Int32 × Hp)) (hk5 : ∀ (h : Hp) (v1 : Int32) (v2 : Int32) (v3 : Int32) (v4 : Int32) (hr : ck r = 1) (q : (Int32 × Hp)), Fr (wX1_endBelow r) zX1_endBelow h0 h → k5 h r v1 v2 v3 v4 = some q → Fr (wX1_endBelow r) zX1_endBelow h0 q.2) (h : Hp) (v1 : Int32) (v2 : Int32) (v4 : Int32) (t0 : Int32) (hr : ck r = 1) (q : (Int32 × Hp)) (F : Fr (wX1_endBelow r) zX1_endBelow h0 h) (e : sX1_endBelow_c51 k5 h r v1 v2 v4 t0 = some q) : Fr (wX1_endBelow r) zX1_endBelow h0 q.2 := by
  unfold sX1_endBelow_c51 at e
  obtain ⟨c4, e⟩ := gd_s e
  by_cases c : v2 ≤ (h.1 (r + 3) v4.toNatClampNeg)
  · rw [if_pos c] at e
    exact fX1_endBelow_c78 h0 r k5 hk5 h v1 v2 v4 t0 hr q F e
  · rw [if_neg c] at e
    obtain ⟨c5, e⟩ := gd_s e
    exact fX1_endBelow_c78 h0 r k5 hk5 h v1 v2 v4 (imax t0 (h.1 (r + 3) v4.toNatClampNeg)) hr q F e
set_option maxRecDepth 10000 in
theorem fX1_endBelow_c5 (h0 : Hp) (r : Nat) (k5 : Hp → Nat → Int32 → Int32 → Int32 → Int32 → Option (Int32 × Hp)) (hk5 : ∀ (h : Hp) (v1 : Int32) (v2 : Int32) (v3 : Int32) (v4 : Int32) (hr : ck r = 1) (q : (Int32 × Hp)), Fr (wX1_endBelow r) zX1_endBelow h0 h → k5 h r v1 v2 v3 v4 = some q → Fr (wX1_endBelow r) zX1_endBelow h0 q.2) (h : Hp) (v1 : Int32) (v2 : Int32) (v3 : Int32) (v4 : Int32) (hr : ck r = 1) (q : (Int32 × Hp)) (F : Fr (wX1_endBelow r) zX1_endBelow h0 h) (e : sX1_endBelow_c5 k5 h r v1 v2 v3 v4 = some q) : Fr (wX1_endBelow r) zX1_endBelow h0 q.2 := by
  unfold sX1_endBelow_c5 at e
  by_cases c : (h.1 r 4) ≤ v4
  · rw [if_pos c] at e
    exact Fr.e1 F e
  · rw [if_neg c] at e
    obtain ⟨c1, e⟩ := gd_s e
    by_cases c : (h.1 (r + 1) v4.toNatClampNeg) = v1
    · rw [if_pos c] at e
      obtain ⟨c2, e⟩ := gd_s e
      by_cases c : v2 ≤ (h.1 (r + 2) v4.toNatClampNeg)
      · rw [if_pos c] at e
        exact fX1_endBelow_c51 h0 r k5 hk5 h v1 v2 v4 v3 hr q F e
      · rw [if_neg c] at e
        obtain ⟨c3, e⟩ := gd_s e
        exact fX1_endBelow_c51 h0 r k5 hk5 h v1 v2 v4 (imax v3 (h.1 (r + 2) v4.toNatClampNeg)) hr q F e
    · rw [if_neg c] at e
      exact fX1_endBelow_c79 h0 r k5 hk5 h v1 v2 v3 v4 hr q F e
theorem fX1_endBelow_b5 (h0 : Hp) (r : Nat) : ∀ (n : Nat) (h : Hp) (v1 : Int32) (v2 : Int32) (v3 : Int32) (v4 : Int32) (hr : ck r = 1) (q : (Int32 × Hp)), Fr (wX1_endBelow r) zX1_endBelow h0 h → sX1_endBelow_b5 n h r v1 v2 v3 v4 = some q → Fr (wX1_endBelow r) zX1_endBelow h0 q.2
  | 0 => fun _ _ _ _ _ _ _ _ e => by cases e
  | n + 1 => fun h v1 v2 v3 v4 hr q F e => fX1_endBelow_c5 h0 r (sX1_endBelow_b5 n) (fX1_endBelow_b5 h0 r n) h v1 v2 v3 v4 hr q F e
set_option maxRecDepth 10000 in
theorem fX1_endBelow (h : Hp) (r : Nat) (a1 : Int32) (a2 : Int32) (q : (Int32 × Hp)) (e : sX1_endBelow h r a1 a2 = some q) : Fr (wX1_endBelow r) zX1_endBelow h q.2 := by
  unfold sX1_endBelow at e
  obtain ⟨hr, e⟩ := gd_s e
  have hr := isC_t hr
  have F : Fr (wX1_endBelow r) zX1_endBelow h h := Fr.rf
  exact fX1_endBelow_b5 h r FU h a1 a2 (-1 : Int32) (0 : Int32) hr q F e

-- X2_restOfKind
abbrev wX2_restOfKind (r : Nat) : List (Nat × Option Nat) := []
abbrev zX2_restOfKind : List Nat := []
set_option maxRecDepth 10000 in
theorem fX2_restOfKind_c30 (h0 : Hp) (r : Nat) (k4 : Hp → Nat → Int32 → Int32 → Int32 → Option (Int32 × Hp)) (hk4 : ∀ (h : Hp) (v1 : Int32) (v2 : Int32) (v3 : Int32) (hr : ck r = 2) (q : (Int32 × Hp)), Fr (wX2_restOfKind r) zX2_restOfKind h0 h → k4 h r v1 v2 v3 = some q → Fr (wX2_restOfKind r) zX2_restOfKind h0 q.2) (h : Hp) (v1 : Int32) (v2 : Int32) (v3 : Int32) (hr : ck r = 2) (q : (Int32 × Hp)) (F : Fr (wX2_restOfKind r) zX2_restOfKind h0 h) (e : sX2_restOfKind_c30 k4 h r v1 v2 v3 = some q) : Fr (wX2_restOfKind r) zX2_restOfKind h0 q.2 := by
  unfold sX2_restOfKind_c30 at e
  obtain ⟨x4, ex4, e⟩ := nm_s e
  exact hk4 h v1 v2 x4 hr q F e
set_option maxRecDepth 10000 in
theorem fX2_restOfKind_c4 (h0 : Hp) (r : Nat) (k4 : Hp → Nat → Int32 → Int32 → Int32 → Option (Int32 × Hp)) (hk4 : ∀ (h : Hp) (v1 : Int32) (v2 : Int32) (v3 : Int32) (hr : ck r = 2) (q : (Int32 × Hp)), Fr (wX2_restOfKind r) zX2_restOfKind h0 h → k4 h r v1 v2 v3 = some q → Fr (wX2_restOfKind r) zX2_restOfKind h0 q.2) (h : Hp) (v1 : Int32) (v2 : Int32) (v3 : Int32) (hr : ck r = 2) (q : (Int32 × Hp)) (F : Fr (wX2_restOfKind r) zX2_restOfKind h0 h) (e : sX2_restOfKind_c4 k4 h r v1 v2 v3 = some q) : Fr (wX2_restOfKind r) zX2_restOfKind h0 q.2 := by
  unfold sX2_restOfKind_c4 at e
  by_cases c : (h.1 r 2) ≤ v3
  · rw [if_pos c] at e
    exact Fr.e1 F e
  · rw [if_neg c] at e
    obtain ⟨c1, e⟩ := gd_s e
    by_cases c : (h.1 (r + 1) v3.toNatClampNeg) = v1
    · rw [if_pos c] at e
      obtain ⟨q2, eq2, e⟩ := bd_s e
      have F := Fr.tr F (fX2_rest h r v3 q2 eq2) (fun _ hh => absurd hh List.not_mem_nil) (by decide)
      obtain ⟨x3, ex3, e⟩ := nm_s e
      exact fX2_restOfKind_c30 h0 r k4 hk4 q2.2 v1 x3 v3 hr q F e
    · rw [if_neg c] at e
      exact fX2_restOfKind_c30 h0 r k4 hk4 h v1 v2 v3 hr q F e
theorem fX2_restOfKind_b4 (h0 : Hp) (r : Nat) : ∀ (n : Nat) (h : Hp) (v1 : Int32) (v2 : Int32) (v3 : Int32) (hr : ck r = 2) (q : (Int32 × Hp)), Fr (wX2_restOfKind r) zX2_restOfKind h0 h → sX2_restOfKind_b4 n h r v1 v2 v3 = some q → Fr (wX2_restOfKind r) zX2_restOfKind h0 q.2
  | 0 => fun _ _ _ _ _ _ _ e => by cases e
  | n + 1 => fun h v1 v2 v3 hr q F e => fX2_restOfKind_c4 h0 r (sX2_restOfKind_b4 n) (fX2_restOfKind_b4 h0 r n) h v1 v2 v3 hr q F e
set_option maxRecDepth 10000 in
theorem fX2_restOfKind (h : Hp) (r : Nat) (a1 : Int32) (q : (Int32 × Hp)) (e : sX2_restOfKind h r a1 = some q) : Fr (wX2_restOfKind r) zX2_restOfKind h q.2 := by
  unfold sX2_restOfKind at e
  obtain ⟨hr, e⟩ := gd_s e
  have hr := isC_t hr
  have F : Fr (wX2_restOfKind r) zX2_restOfKind h h := Fr.rf
  exact fX2_restOfKind_b4 h r FU h a1 (0 : Int32) (0 : Int32) hr q F e

-- X2_allPaired
abbrev wX2_allPaired (r : Nat) : List (Nat × Option Nat) := []
abbrev zX2_allPaired : List Nat := []
set_option maxRecDepth 10000 in
theorem fX2_allPaired_c24 (h0 : Hp) (r : Nat) (k2 : Hp → Nat → Int32 → Int32 → Option (Int32 × Hp)) (hk2 : ∀ (h : Hp) (v1 : Int32) (v2 : Int32) (hr : ck r = 2) (q : (Int32 × Hp)), Fr (wX2_allPaired r) zX2_allPaired h0 h → k2 h r v1 v2 = some q → Fr (wX2_allPaired r) zX2_allPaired h0 q.2) (h : Hp) (v1 : Int32) (v2 : Int32) (t0 : Int32) (t2 : Int32) (hr : ck r = 2) (q : (Int32 × Hp)) (F : Fr (wX2_allPaired r) zX2_allPaired h0 h) (e : sX2_allPaired_c24 k2 h r v1 v2 t0 t2 = some q) : Fr (wX2_allPaired r) zX2_allPaired h0 q.2 := by
  unfold sX2_allPaired_c24 at e
  obtain ⟨q2, eq2, e⟩ := bd_s e
  have F := Fr.tr F (fX2_arriving h r t0 v2 q2 eq2) (fun _ hh => absurd hh List.not_mem_nil) (by decide)
  by_cases c : t2 ≤ q2.1
  · rw [if_pos c] at e
    obtain ⟨x3, ex3, e⟩ := nm_s e
    exact hk2 q2.2 v1 x3 hr q F e
  · rw [if_neg c] at e
    exact Fr.e1 F e
set_option maxRecDepth 10000 in
theorem fX2_allPaired_c2 (h0 : Hp) (r : Nat) (k2 : Hp → Nat → Int32 → Int32 → Option (Int32 × Hp)) (hk2 : ∀ (h : Hp) (v1 : Int32) (v2 : Int32) (hr : ck r = 2) (q : (Int32 × Hp)), Fr (wX2_allPaired r) zX2_allPaired h0 h → k2 h r v1 v2 = some q → Fr (wX2_allPaired r) zX2_allPaired h0 q.2) (h : Hp) (v1 : Int32) (v2 : Int32) (hr : ck r = 2) (q : (Int32 × Hp)) (F : Fr (wX2_allPaired r) zX2_allPaired h0 h) (e : sX2_allPaired_c2 k2 h r v1 v2 = some q) : Fr (wX2_allPaired r) zX2_allPaired h0 q.2 := by
  unfold sX2_allPaired_c2 at e
  by_cases c : (20 : Int32) < v2
  · rw [if_pos c] at e
    exact Fr.e1 F e
  · rw [if_neg c] at e
    obtain ⟨q1, eq1, e⟩ := bd_s e
    have F := Fr.tr F (fX2_arriving h r v1 v2 q1 eq1) (fun _ hh => absurd hh List.not_mem_nil) (by decide)
    by_cases c : v1 = 0
    · rw [if_pos c] at e
      exact fX2_allPaired_c24 h0 r k2 hk2 q1.2 v1 v2 (1 : Int32) q1.1 hr q F e
    · rw [if_neg c] at e
      exact fX2_allPaired_c24 h0 r k2 hk2 q1.2 v1 v2 (0 : Int32) q1.1 hr q F e
theorem fX2_allPaired_b2 (h0 : Hp) (r : Nat) : ∀ (n : Nat) (h : Hp) (v1 : Int32) (v2 : Int32) (hr : ck r = 2) (q : (Int32 × Hp)), Fr (wX2_allPaired r) zX2_allPaired h0 h → sX2_allPaired_b2 n h r v1 v2 = some q → Fr (wX2_allPaired r) zX2_allPaired h0 q.2
  | 0 => fun _ _ _ _ _ _ e => by cases e
  | n + 1 => fun h v1 v2 hr q F e => fX2_allPaired_c2 h0 r (sX2_allPaired_b2 n) (fX2_allPaired_b2 h0 r n) h v1 v2 hr q F e
set_option maxRecDepth 10000 in
theorem fX2_allPaired (h : Hp) (r : Nat) (a1 : Int32) (q : (Int32 × Hp)) (e : sX2_allPaired h r a1 = some q) : Fr (wX2_allPaired r) zX2_allPaired h q.2 := by
  unfold sX2_allPaired at e
  obtain ⟨hr, e⟩ := gd_s e
  have hr := isC_t hr
  have F : Fr (wX2_allPaired r) zX2_allPaired h h := Fr.rf
  exact fX2_allPaired_b2 h r FU h a1 (1 : Int32) hr q F e

-- X2_width
abbrev wX2_width (r : Nat) : List (Nat × Option Nat) := []
abbrev zX2_width : List Nat := []
set_option maxRecDepth 10000 in
theorem fX2_width (h : Hp) (r : Nat) (a1 : Int32) (a2 : Int32) (a3 : Int32) (a4 : Int32) (q : (Int32 × Hp)) (e : sX2_width h r a1 a2 a3 a4 = some q) : Fr (wX2_width r) zX2_width h q.2 := by
  unfold sX2_width at e
  obtain ⟨hr, e⟩ := gd_s e
  have hr := isC_t hr
  have F : Fr (wX2_width r) zX2_width h h := Fr.rf
  obtain ⟨c1, e⟩ := gd_s e
  obtain ⟨c2, e⟩ := gd_s e
  obtain ⟨q3, eq3, e⟩ := bd_s e
  have F := Fr.tr F (fX2_unit h r a1 a2 q3 eq3) (fun _ hh => absurd hh List.not_mem_nil) (by decide)
  obtain ⟨x4, ex4, e⟩ := nm_s e
  obtain ⟨c5, e⟩ := gd_s e
  obtain ⟨c6, e⟩ := gd_s e
  exact Fr.e1 F e

-- X2_takeWanted
abbrev wX2_takeWanted (r : Nat) : List (Nat × Option Nat) := [(r, some 14), (r + 7, none), (r + 8, none), (r + 9, none), (r + 10, none)]
abbrev zX2_takeWanted : List Nat := []
set_option maxRecDepth 10000 in
theorem fX2_takeWanted_c47 (h0 : Hp) (r : Nat) (k11 : Hp → Nat → Int32 → Int32 → Option Hp) (hk11 : ∀ (h : Hp) (v1 : Int32) (v2 : Int32) (hr : ck r = 2) (q : Hp), Fr (wX2_takeWanted r) zX2_takeWanted h0 h → k11 h r v1 v2 = some q → Fr (wX2_takeWanted r) zX2_takeWanted h0 q) (h : Hp) (v1 : Int32) (v2 : Int32) (hr : ck r = 2) (q : Hp) (F : Fr (wX2_takeWanted r) zX2_takeWanted h0 h) (e : sX2_takeWanted_c47 k11 h r v1 v2 = some q) : Fr (wX2_takeWanted r) zX2_takeWanted h0 q := by
  unfold sX2_takeWanted_c47 at e
  obtain ⟨x8, ex8, e⟩ := nm_s e
  exact hk11 h v1 x8 hr q F e
set_option maxRecDepth 10000 in
theorem fX2_takeWanted_c11 (h0 : Hp) (r : Nat) (k11 : Hp → Nat → Int32 → Int32 → Option Hp) (hk11 : ∀ (h : Hp) (v1 : Int32) (v2 : Int32) (hr : ck r = 2) (q : Hp), Fr (wX2_takeWanted r) zX2_takeWanted h0 h → k11 h r v1 v2 = some q → Fr (wX2_takeWanted r) zX2_takeWanted h0 q) (h : Hp) (v1 : Int32) (v2 : Int32) (hr : ck r = 2) (q : Hp) (F : Fr (wX2_takeWanted r) zX2_takeWanted h0 h) (e : sX2_takeWanted_c11 k11 h r v1 v2 = some q) : Fr (wX2_takeWanted r) zX2_takeWanted h0 q := by
  unfold sX2_takeWanted_c11 at e
  by_cases c : v1 ≤ v2
  · rw [if_pos c] at e
    exact Fr.e0 F e
  · rw [if_neg c] at e
    obtain ⟨c3, e⟩ := gd_s e
    by_cases c : (h.1 (r + 11) v2.toNatClampNeg) ≤ 0
    · rw [if_pos c] at e
      exact fX2_takeWanted_c47 h0 r k11 hk11 h v1 v2 hr q F e
    · rw [if_neg c] at e
      obtain ⟨c4, e⟩ := gd_s e
      obtain ⟨c5, e⟩ := gd_s e
      obtain ⟨c6, e⟩ := gd_s e
      obtain ⟨q7, eq7, e⟩ := bd_s e
      have F := Fr.tr F (fX2_add h r (h.1 (r + 8) v2.toNatClampNeg) (h.1 (r + 9) v2.toNatClampNeg) (h.1 (r + 11) v2.toNatClampNeg) q7 eq7) (by simp) (by decide)
      exact fX2_takeWanted_c47 h0 r k11 hk11 q7 v1 v2 hr q F e
theorem fX2_takeWanted_b11 (h0 : Hp) (r : Nat) : ∀ (n : Nat) (h : Hp) (v1 : Int32) (v2 : Int32) (hr : ck r = 2) (q : Hp), Fr (wX2_takeWanted r) zX2_takeWanted h0 h → sX2_takeWanted_b11 n h r v1 v2 = some q → Fr (wX2_takeWanted r) zX2_takeWanted h0 q
  | 0 => fun _ _ _ _ _ _ e => by cases e
  | n + 1 => fun h v1 v2 hr q F e => fX2_takeWanted_c11 h0 r (sX2_takeWanted_b11 n) (fX2_takeWanted_b11 h0 r n) h v1 v2 hr q F e
set_option maxRecDepth 10000 in
theorem fX2_takeWanted (h : Hp) (r : Nat) (q : Hp) (e : sX2_takeWanted h r = some q) : Fr (wX2_takeWanted r) zX2_takeWanted h q := by
  unfold sX2_takeWanted at e
  obtain ⟨hr, e⟩ := gd_s e
  have hr := isC_t hr
  have F : Fr (wX2_takeWanted r) zX2_takeWanted h h := Fr.rf
  obtain ⟨x1, ex1, e⟩ := nm_s e
  obtain ⟨q2, eq2, e⟩ := bd_s e
  have F := Fr.tr F (fX2_empty h r q2 eq2) (by simp) (by decide)
  exact fX2_takeWanted_b11 h r FU q2 x1 (0 : Int32) hr q F e

-- X2_markSteps
abbrev wX2_markSteps (r : Nat) : List (Nat × Option Nat) := [(r + 13, none)]
abbrev zX2_markSteps : List Nat := []
set_option maxRecDepth 10000 in
theorem fX2_markSteps_c76 (h0 : Hp) (r : Nat) (k19 : Hp → Nat → Int32 → Int32 → Option Hp) (hk19 : ∀ (h : Hp) (v1 : Int32) (v2 : Int32) (hr : ck r = 2) (q : Hp), Fr (wX2_markSteps r) zX2_markSteps h0 h → k19 h r v1 v2 = some q → Fr (wX2_markSteps r) zX2_markSteps h0 q) (k29 : Hp → Nat → Int32 → Int32 → Int32 → Option Hp) (hk29 : ∀ (h : Hp) (v1 : Int32) (v2 : Int32) (v3 : Int32) (hr : ck r = 2) (q : Hp), Fr (wX2_markSteps r) zX2_markSteps h0 h → k29 h r v1 v2 v3 = some q → Fr (wX2_markSteps r) zX2_markSteps h0 q) (h : Hp) (v1 : Int32) (v2 : Int32) (v3 : Int32) (hr : ck r = 2) (q : Hp) (F : Fr (wX2_markSteps r) zX2_markSteps h0 h) (e : sX2_markSteps_c76 k19 k29 h r v1 v2 v3 = some q) : Fr (wX2_markSteps r) zX2_markSteps h0 q := by
  unfold sX2_markSteps_c76 at e
  obtain ⟨x12, ex12, e⟩ := nm_s e
  exact hk29 h v1 v2 x12 hr q F e
set_option maxRecDepth 10000 in
theorem fX2_markSteps_c29 (h0 : Hp) (r : Nat) (k19 : Hp → Nat → Int32 → Int32 → Option Hp) (hk19 : ∀ (h : Hp) (v1 : Int32) (v2 : Int32) (hr : ck r = 2) (q : Hp), Fr (wX2_markSteps r) zX2_markSteps h0 h → k19 h r v1 v2 = some q → Fr (wX2_markSteps r) zX2_markSteps h0 q) (k29 : Hp → Nat → Int32 → Int32 → Int32 → Option Hp) (hk29 : ∀ (h : Hp) (v1 : Int32) (v2 : Int32) (v3 : Int32) (hr : ck r = 2) (q : Hp), Fr (wX2_markSteps r) zX2_markSteps h0 h → k29 h r v1 v2 v3 = some q → Fr (wX2_markSteps r) zX2_markSteps h0 q) (h : Hp) (v1 : Int32) (v2 : Int32) (v3 : Int32) (hr : ck r = 2) (q : Hp) (F : Fr (wX2_markSteps r) zX2_markSteps h0 h) (e : sX2_markSteps_c29 k19 k29 h r v1 v2 v3 = some q) : Fr (wX2_markSteps r) zX2_markSteps h0 q := by
  unfold sX2_markSteps_c29 at e
  by_cases c : (h.1 r 14) ≤ v3
  · rw [if_pos c] at e
    obtain ⟨x5, ex5, e⟩ := nm_s e
    exact hk19 h v1 x5 hr q F e
  · rw [if_neg c] at e
    by_cases c : v3 = v1
    · rw [if_pos c] at e
      exact fX2_markSteps_c76 h0 r k19 hk19 k29 hk29 h v1 v2 v3 hr q F e
    · rw [if_neg c] at e
      obtain ⟨c6, e⟩ := gd_s e
      obtain ⟨c7, e⟩ := gd_s e
      obtain ⟨q8, eq8, e⟩ := bd_s e
      have F := Fr.tr F (fX2_markNext h r (h.1 (r + 8) v3.toNatClampNeg) (h.1 (r + 9) v3.toNatClampNeg) v2 q8 eq8) (by simp) (by decide)
      obtain ⟨c9, e⟩ := gd_s e
      obtain ⟨c10, e⟩ := gd_s e
      obtain ⟨q11, eq11, e⟩ := bd_s e
      have F := Fr.tr F (fX2_markNext q8 r (q8.1 (r + 9) v3.toNatClampNeg) (q8.1 (r + 8) v3.toNatClampNeg) v2 q11 eq11) (by simp) (by decide)
      exact fX2_markSteps_c76 h0 r k19 hk19 k29 hk29 q11 v1 v2 v3 hr q F e
theorem fX2_markSteps_b29 (h0 : Hp) (r : Nat) (k19 : Hp → Nat → Int32 → Int32 → Option Hp) (hk19 : ∀ (h : Hp) (v1 : Int32) (v2 : Int32) (hr : ck r = 2) (q : Hp), Fr (wX2_markSteps r) zX2_markSteps h0 h → k19 h r v1 v2 = some q → Fr (wX2_markSteps r) zX2_markSteps h0 q) : ∀ (n : Nat) (h : Hp) (v1 : Int32) (v2 : Int32) (v3 : Int32) (hr : ck r = 2) (q : Hp), Fr (wX2_markSteps r) zX2_markSteps h0 h → sX2_markSteps_b29 k19 n h r v1 v2 v3 = some q → Fr (wX2_markSteps r) zX2_markSteps h0 q
  | 0 => fun _ _ _ _ _ _ _ e => by cases e
  | n + 1 => fun h v1 v2 v3 hr q F e => fX2_markSteps_c29 h0 r k19 hk19 (sX2_markSteps_b29 k19 n) (fX2_markSteps_b29 h0 r k19 hk19 n) h v1 v2 v3 hr q F e
set_option maxRecDepth 10000 in
theorem fX2_markSteps_c19 (h0 : Hp) (r : Nat) (k19 : Hp → Nat → Int32 → Int32 → Option Hp) (hk19 : ∀ (h : Hp) (v1 : Int32) (v2 : Int32) (hr : ck r = 2) (q : Hp), Fr (wX2_markSteps r) zX2_markSteps h0 h → k19 h r v1 v2 = some q → Fr (wX2_markSteps r) zX2_markSteps h0 q) (h : Hp) (v1 : Int32) (v2 : Int32) (hr : ck r = 2) (q : Hp) (F : Fr (wX2_markSteps r) zX2_markSteps h0 h) (e : sX2_markSteps_c19 k19 h r v1 v2 = some q) : Fr (wX2_markSteps r) zX2_markSteps h0 q := by
  unfold sX2_markSteps_c19 at e
  by_cases c : (h.1 r 2) ≤ v2
  · rw [if_pos c] at e
    exact Fr.e0 F e
  · rw [if_neg c] at e
    exact fX2_markSteps_b29 h0 r k19 hk19 FU h v1 v2 (0 : Int32) hr q F e
theorem fX2_markSteps_b19 (h0 : Hp) (r : Nat) : ∀ (n : Nat) (h : Hp) (v1 : Int32) (v2 : Int32) (hr : ck r = 2) (q : Hp), Fr (wX2_markSteps r) zX2_markSteps h0 h → sX2_markSteps_b19 n h r v1 v2 = some q → Fr (wX2_markSteps r) zX2_markSteps h0 q
  | 0 => fun _ _ _ _ _ _ e => by cases e
  | n + 1 => fun h v1 v2 hr q F e => fX2_markSteps_c19 h0 r (sX2_markSteps_b19 n) (fX2_markSteps_b19 h0 r n) h v1 v2 hr q F e
set_option maxRecDepth 10000 in
theorem fX2_markSteps (h : Hp) (r : Nat) (a1 : Int32) (q : Hp) (e : sX2_markSteps h r a1 = some q) : Fr (wX2_markSteps r) zX2_markSteps h q := by
  unfold sX2_markSteps at e
  obtain ⟨hr, e⟩ := gd_s e
  have hr := isC_t hr
  have F : Fr (wX2_markSteps r) zX2_markSteps h h := Fr.rf
  obtain ⟨q1, eq1, e⟩ := bd_s e
  have F := Fr.tr F (fX2_markAll h r (-1 : Int32) q1 eq1) (by simp) (by decide)
  obtain ⟨c2, e⟩ := gd_s e
  obtain ⟨c3, e⟩ := gd_s e
  obtain ⟨h4, eh4, e⟩ := nm_s e
  have F := Fr.w1 F eh4 (Or.inl (by simp))
  exact fX2_markSteps_b19 h r FU h4 a1 (1 : Int32) hr q F e

-- X2_firstTowards
abbrev wX2_firstTowards (r : Nat) : List (Nat × Option Nat) := []
abbrev zX2_firstTowards : List Nat := []
set_option maxRecDepth 10000 in
theorem fX2_firstTowards_c71 (h0 : Hp) (r : Nat) (k3 : Hp → Nat → Int32 → Int32 → Int32 → Int32 → Option (Int32 × Hp)) (hk3 : ∀ (h : Hp) (v1 : Int32) (v2 : Int32) (v3 : Int32) (v4 : Int32) (hr : ck r = 2) (q : (Int32 × Hp)), Fr (wX2_firstTowards r) zX2_firstTowards h0 h → k3 h r v1 v2 v3 v4 = some q → Fr (wX2_firstTowards r) zX2_firstTowards h0 q.2) (h : Hp) (v1 : Int32) (v2 : Int32) (v3 : Int32) (v4 : Int32) (hr : ck r = 2) (q : (Int32 × Hp)) (F : Fr (wX2_firstTowards r) zX2_firstTowards h0 h) (e : sX2_firstTowards_c71 k3 h r v1 v2 v3 v4 = some q) : Fr (wX2_firstTowards r) zX2_firstTowards h0 q.2 := by
  unfold sX2_firstTowards_c71 at e
  obtain ⟨x5, ex5, e⟩ := nm_s e
  exact hk3 h v1 v2 v3 x5 hr q F e
set_option maxRecDepth 10000 in
theorem fX2_firstTowards_c39 (h0 : Hp) (r : Nat) (k3 : Hp → Nat → Int32 → Int32 → Int32 → Int32 → Option (Int32 × Hp)) (hk3 : ∀ (h : Hp) (v1 : Int32) (v2 : Int32) (v3 : Int32) (v4 : Int32) (hr : ck r = 2) (q : (Int32 × Hp)), Fr (wX2_firstTowards r) zX2_firstTowards h0 h → k3 h r v1 v2 v3 v4 = some q → Fr (wX2_firstTowards r) zX2_firstTowards h0 q.2) (h : Hp) (v1 : Int32) (v2 : Int32) (v3 : Int32) (v4 : Int32) (t0 : Int32) (hr : ck r = 2) (q : (Int32 × Hp)) (F : Fr (wX2_firstTowards r) zX2_firstTowards h0 h) (e : sX2_firstTowards_c39 k3 h r v1 v2 v3 v4 t0 = some q) : Fr (wX2_firstTowards r) zX2_firstTowards h0 q.2 := by
  unfold sX2_firstTowards_c39 at e
  by_cases c : v4 = v1
  · rw [if_pos c] at e
    exact fX2_firstTowards_c71 h0 r k3 hk3 h v1 v2 v3 v4 hr q F e
  · rw [if_neg c] at e
    by_cases c : t0 = 0
    · rw [if_pos c] at e
      exact fX2_firstTowards_c71 h0 r k3 hk3 h v1 v2 v3 v4 hr q F e
    · rw [if_neg c] at e
      obtain ⟨q3, eq3, e⟩ := bd_s e
      have F := Fr.tr F (fX2_otherEnd h r v4 v2 q3 eq3) (fun _ hh => absurd hh List.not_mem_nil) (by decide)
      obtain ⟨c4, e⟩ := gd_s e
      by_cases c : (q3.2.1 (r + 13) q3.1.toNatClampNeg) = v3
      · rw [if_pos c] at e
        exact Fr.e1 F e
      · rw [if_neg c] at e
        exact fX2_firstTowards_c71 h0 r k3 hk3 q3.2 v1 v2 v3 v4 hr q F e
set_option maxRecDepth 10000 in
theorem fX2_firstTowards_c34 (h0 : Hp) (r : Nat) (k3 : Hp → Nat → Int32 → Int32 → Int32 → Int32 → Option (Int32 × Hp)) (hk3 : ∀ (h : Hp) (v1 : Int32) (v2 : Int32) (v3 : Int32) (v4 : Int32) (hr : ck r = 2) (q : (Int32 × Hp)), Fr (wX2_firstTowards r) zX2_firstTowards h0 h → k3 h r v1 v2 v3 v4 = some q → Fr (wX2_firstTowards r) zX2_firstTowards h0 q.2) (h : Hp) (v1 : Int32) (v2 : Int32) (v3 : Int32) (v4 : Int32) (hr : ck r = 2) (q : (Int32 × Hp)) (F : Fr (wX2_firstTowards r) zX2_firstTowards h0 h) (e : sX2_firstTowards_c34 k3 h r v1 v2 v3 v4 = some q) : Fr (wX2_firstTowards r) zX2_firstTowards h0 q.2 := by
  unfold sX2_firstTowards_c34 at e
  exact fX2_firstTowards_c39 h0 r k3 hk3 h v1 v2 v3 v4 (1 : Int32) hr q F e
set_option maxRecDepth 10000 in
theorem fX2_firstTowards_c3 (h0 : Hp) (r : Nat) (k3 : Hp → Nat → Int32 → Int32 → Int32 → Int32 → Option (Int32 × Hp)) (hk3 : ∀ (h : Hp) (v1 : Int32) (v2 : Int32) (v3 : Int32) (v4 : Int32) (hr : ck r = 2) (q : (Int32 × Hp)), Fr (wX2_firstTowards r) zX2_firstTowards h0 h → k3 h r v1 v2 v3 v4 = some q → Fr (wX2_firstTowards r) zX2_firstTowards h0 q.2) (h : Hp) (v1 : Int32) (v2 : Int32) (v3 : Int32) (v4 : Int32) (hr : ck r = 2) (q : (Int32 × Hp)) (F : Fr (wX2_firstTowards r) zX2_firstTowards h0 h) (e : sX2_firstTowards_c3 k3 h r v1 v2 v3 v4 = some q) : Fr (wX2_firstTowards r) zX2_firstTowards h0 q.2 := by
  unfold sX2_firstTowards_c3 at e
  by_cases c : (h.1 r 14) ≤ v4
  · rw [if_pos c] at e
    exact Fr.e1 F e
  · rw [if_neg c] at e
    obtain ⟨c1, e⟩ := gd_s e
    by_cases c : (h.1 (r + 8) v4.toNatClampNeg) = v2
    · rw [if_pos c] at e
      exact fX2_firstTowards_c34 h0 r k3 hk3 h v1 v2 v3 v4 hr q F e
    · rw [if_neg c] at e
      obtain ⟨c2, e⟩ := gd_s e
      by_cases c : (h.1 (r + 9) v4.toNatClampNeg) = v2
      · rw [if_pos c] at e
        exact fX2_firstTowards_c34 h0 r k3 hk3 h v1 v2 v3 v4 hr q F e
      · rw [if_neg c] at e
        exact fX2_firstTowards_c39 h0 r k3 hk3 h v1 v2 v3 v4 (0 : Int32) hr q F e
theorem fX2_firstTowards_b3 (h0 : Hp) (r : Nat) : ∀ (n : Nat) (h : Hp) (v1 : Int32) (v2 : Int32) (v3 : Int32) (v4 : Int32) (hr : ck r = 2) (q : (Int32 × Hp)), Fr (wX2_firstTowards r) zX2_firstTowards h0 h → sX2_firstTowards_b3 n h r v1 v2 v3 v4 = some q → Fr (wX2_firstTowards r) zX2_firstTowards h0 q.2
  | 0 => fun _ _ _ _ _ _ _ _ e => by cases e
  | n + 1 => fun h v1 v2 v3 v4 hr q F e => fX2_firstTowards_c3 h0 r (sX2_firstTowards_b3 n) (fX2_firstTowards_b3 h0 r n) h v1 v2 v3 v4 hr q F e
set_option maxRecDepth 10000 in
theorem fX2_firstTowards (h : Hp) (r : Nat) (a1 : Int32) (a2 : Int32) (a3 : Int32) (q : (Int32 × Hp)) (e : sX2_firstTowards h r a1 a2 a3 = some q) : Fr (wX2_firstTowards r) zX2_firstTowards h q.2 := by
  unfold sX2_firstTowards at e
  obtain ⟨hr, e⟩ := gd_s e
  have hr := isC_t hr
  have F : Fr (wX2_firstTowards r) zX2_firstTowards h h := Fr.rf
  exact fX2_firstTowards_b3 h r FU h a1 a2 a3 (0 : Int32) hr q F e

-- X2_wantRoundRing
abbrev wX2_wantRoundRing (r : Nat) : List (Nat × Option Nat) := [(r + 11, none)]
abbrev zX2_wantRoundRing : List Nat := []
set_option maxRecDepth 10000 in
theorem fX2_wantRoundRing_c65 (h0 : Hp) (r : Nat) (k30 : Hp → Nat → Int32 → Int32 → Option (Int32 × Hp)) (hk30 : ∀ (h : Hp) (v1 : Int32) (v2 : Int32) (hr : ck r = 2) (q : (Int32 × Hp)), Fr (wX2_wantRoundRing r) zX2_wantRoundRing h0 h → k30 h r v1 v2 = some q → Fr (wX2_wantRoundRing r) zX2_wantRoundRing h0 q.2) (h : Hp) (v1 : Int32) (v2 : Int32) (v3 : Int32) (t0 : Int32) (t1 : Int32) (t2 : Int32) (hr : ck r = 2) (q : (Int32 × Hp)) (F : Fr (wX2_wantRoundRing r) zX2_wantRoundRing h0 h) (e : sX2_wantRoundRing_c65 k30 h r v1 v2 v3 t0 t1 t2 = some q) : Fr (wX2_wantRoundRing r) zX2_wantRoundRing h0 q.2 := by
  unfold sX2_wantRoundRing_c65 at e
  obtain ⟨c9, e⟩ := gd_s e
  obtain ⟨h10, eh10, e⟩ := nm_s e
  have F := Fr.w1 F eh10 (Or.inl (by simp))
  obtain ⟨c11, e⟩ := gd_s e
  by_cases c : 0 ≤ (h10.1 (r + 11) v3.toNatClampNeg)
  · rw [if_pos c] at e
    obtain ⟨x12, ex12, e⟩ := nm_s e
    exact hk30 h10 v1 x12 hr q F e
  · rw [if_neg c] at e
    exact Fr.e1 F e
set_option maxRecDepth 10000 in
theorem fX2_wantRoundRing_c30 (h0 : Hp) (r : Nat) (k30 : Hp → Nat → Int32 → Int32 → Option (Int32 × Hp)) (hk30 : ∀ (h : Hp) (v1 : Int32) (v2 : Int32) (hr : ck r = 2) (q : (Int32 × Hp)), Fr (wX2_wantRoundRing r) zX2_wantRoundRing h0 h → k30 h r v1 v2 = some q → Fr (wX2_wantRoundRing r) zX2_wantRoundRing h0 q.2) (h : Hp) (v1 : Int32) (v2 : Int32) (hr : ck r = 2) (q : (Int32 × Hp)) (F : Fr (wX2_wantRoundRing r) zX2_wantRoundRing h0 h) (e : sX2_wantRoundRing_c30 k30 h r v1 v2 = some q) : Fr (wX2_wantRoundRing r) zX2_wantRoundRing h0 q.2 := by
  unfold sX2_wantRoundRing_c30 at e
  by_cases c : (h.1 r 16) ≤ v2
  · rw [if_pos c] at e
    exact Fr.e1 F e
  · rw [if_neg c] at e
    obtain ⟨c6, e⟩ := gd_s e
    obtain ⟨x7, ex7, e⟩ := nm_s e
    obtain ⟨c8, e⟩ := gd_s e
    by_cases c : (v2 - v2 / (2 : Int32) * (2 : Int32)) = (1 : Int32)
    · rw [if_pos c] at e
      exact fX2_wantRoundRing_c65 h0 r k30 hk30 h v1 v2 x7 v1 (h.1 (r + 11) x7.toNatClampNeg) x7 hr q F e
    · rw [if_neg c] at e
      exact fX2_wantRoundRing_c65 h0 r k30 hk30 h v1 v2 x7 (-v1) (h.1 (r + 11) x7.toNatClampNeg) x7 hr q F e
theorem fX2_wantRoundRing_b30 (h0 : Hp) (r : Nat) : ∀ (n : Nat) (h : Hp) (v1 : Int32) (v2 : Int32) (hr : ck r = 2) (q : (Int32 × Hp)), Fr (wX2_wantRoundRing r) zX2_wantRoundRing h0 h → sX2_wantRoundRing_b30 n h r v1 v2 = some q → Fr (wX2_wantRoundRing r) zX2_wantRoundRing h0 q.2
  | 0 => fun _ _ _ _ _ _ e => by cases e
  | n + 1 => fun h v1 v2 hr q F e => fX2_wantRoundRing_c30 h0 r (sX2_wantRoundRing_b30 n) (fX2_wantRoundRing_b30 h0 r n) h v1 v2 hr q F e
set_option maxRecDepth 10000 in
theorem fX2_wantRoundRing (h : Hp) (r : Nat) (q : (Int32 × Hp)) (e : sX2_wantRoundRing h r = some q) : Fr (wX2_wantRoundRing r) zX2_wantRoundRing h q.2 := by
  unfold sX2_wantRoundRing at e
  obtain ⟨hr, e⟩ := gd_s e
  have hr := isC_t hr
  have F : Fr (wX2_wantRoundRing r) zX2_wantRoundRing h h := Fr.rf
  obtain ⟨c1, e⟩ := gd_s e
  obtain ⟨x2, ex2, e⟩ := nm_s e
  obtain ⟨q3, eq3, e⟩ := bd_s e
  have F := Fr.tr F (fX2_wantAsIs h r q3 eq3) (by simp) (by decide)
  obtain ⟨c4, e⟩ := gd_s e
  obtain ⟨h5, eh5, e⟩ := nm_s e
  have F := Fr.w1 F eh5 (Or.inl (by simp))
  exact fX2_wantRoundRing_b30 h r FU h5 x2 (1 : Int32) hr q F e

-- X3_readNumber
abbrev wX3_readNumber : List (Nat × Option Nat) := [(2, some 3), (2, some 2), (2, some 4)]
abbrev zX3_readNumber : List Nat := []
set_option maxRecDepth 10000 in
theorem fX3_readNumber_c93 (h0 : Hp) (h : Hp) (q : (Int32 × Hp)) (F : Fr (wX3_readNumber) zX3_readNumber h0 h) (e : sX3_readNumber_c93 h = some q) : Fr (wX3_readNumber) zX3_readNumber h0 q.2 := by
  unfold sX3_readNumber_c93 at e
  obtain ⟨q10, eq10, e⟩ := bd_s e
  have F := Fr.tr F (fX3_failAt h (h.1 2 2) q10 eq10) (by decide) (by decide)
  obtain ⟨c11, e⟩ := gd_s e
  exact Fr.e1 F e
set_option maxRecDepth 10000 in
theorem fX3_readNumber_c136 (h0 : Hp) (h : Hp) (t0 : Int32) (q : (Int32 × Hp)) (F : Fr (wX3_readNumber) zX3_readNumber h0 h) (e : sX3_readNumber_c136 h t0 = some q) : Fr (wX3_readNumber) zX3_readNumber h0 q.2 := by
  unfold sX3_readNumber_c136 at e
  obtain ⟨c8, e⟩ := gd_s e
  exact Fr.e1 F e
set_option maxRecDepth 10000 in
theorem fX3_readNumber_c131 (h0 : Hp) (h : Hp) (q : (Int32 × Hp)) (F : Fr (wX3_readNumber) zX3_readNumber h0 h) (e : sX3_readNumber_c131 h = some q) : Fr (wX3_readNumber) zX3_readNumber h0 q.2 := by
  unfold sX3_readNumber_c131 at e
  exact fX3_readNumber_c136 h0 h (1 : Int32) q F e
set_option maxRecDepth 10000 in
theorem fX3_readNumber_c118 (h0 : Hp) (h : Hp) (q : (Int32 × Hp)) (F : Fr (wX3_readNumber) zX3_readNumber h0 h) (e : sX3_readNumber_c118 h = some q) : Fr (wX3_readNumber) zX3_readNumber h0 q.2 := by
  unfold sX3_readNumber_c118 at e
  obtain ⟨q9, eq9, e⟩ := bd_s e
  have F := Fr.tr F (fX3_failAt h ((h.1 2 2) - (1 : Int32)) q9 eq9) (by decide) (by decide)
  by_cases c : q9.1 = 0
  · rw [if_pos c] at e
    exact fX3_readNumber_c136 h0 q9.2 (0 : Int32) q F e
  · rw [if_neg c] at e
    exact fX3_readNumber_c131 h0 q9.2 q F e
set_option maxRecDepth 10000 in
theorem fX3_readNumber_c102 (h0 : Hp) (h : Hp) (v2 : Int32) (v3 : Int32) (q : (Int32 × Hp)) (F : Fr (wX3_readNumber) zX3_readNumber h0 h) (e : sX3_readNumber_c102 h v2 v3 = some q) : Fr (wX3_readNumber) zX3_readNumber h0 q.2 := by
  unfold sX3_readNumber_c102 at e
  by_cases c : (h.1 2 3) < v2
  · rw [if_pos c] at e
    exact fX3_readNumber_c118 h0 h q F e
  · rw [if_neg c] at e
    by_cases c : (h.1 2 3) ≤ v3
    · rw [if_pos c] at e
      exact fX3_readNumber_c131 h0 h q F e
    · rw [if_neg c] at e
      exact fX3_readNumber_c118 h0 h q F e
set_option maxRecDepth 10000 in
theorem fX3_readNumber_c66 (h0 : Hp) (h : Hp) (v1 : Int32) (v2 : Int32) (v3 : Int32) (v4 : Int32) (q : (Int32 × Hp)) (F : Fr (wX3_readNumber) zX3_readNumber h0 h) (e : sX3_readNumber_c66 h v1 v2 v3 v4 = some q) : Fr (wX3_readNumber) zX3_readNumber h0 q.2 := by
  unfold sX3_readNumber_c66 at e
  by_cases c : (h.1 2 2) = v4
  · rw [if_pos c] at e
    exact fX3_readNumber_c93 h0 h q F e
  · rw [if_neg c] at e
    by_cases c : ((h.1 2 2) - v4) = v1
    · rw [if_pos c] at e
      obtain ⟨q7, eq7, e⟩ := bd_s e
      have F := Fr.tr F (fX3_isDigitHere h q7 eq7) (fun _ hh => absurd hh List.not_mem_nil) (by decide)
      by_cases c : q7.1 = 0
      · rw [if_pos c] at e
        exact fX3_readNumber_c102 h0 q7.2 v2 v3 q F e
      · rw [if_neg c] at e
        exact fX3_readNumber_c93 h0 q7.2 q F e
    · rw [if_neg c] at e
      exact fX3_readNumber_c102 h0 h v2 v3 q F e
set_option maxRecDepth 10000 in
theorem fX3_readNumber_c11 (h0 : Hp) (k11 : Hp → Int32 → Int32 → Int32 → Int32 → Option (Int32 × Hp)) (hk11 : ∀ (h : Hp) (v1 : Int32) (v2 : Int32) (v3 : Int32) (v4 : Int32) (q : (Int32 × Hp)), Fr (wX3_readNumber) zX3_readNumber h0 h → k11 h v1 v2 v3 v4 = some q → Fr (wX3_readNumber) zX3_readNumber h0 q.2) (h : Hp) (v1 : Int32) (v2 : Int32) (v3 : Int32) (v4 : Int32) (q : (Int32 × Hp)) (F : Fr (wX3_readNumber) zX3_readNumber h0 h) (e : sX3_readNumber_c11 k11 h v1 v2 v3 v4 = some q) : Fr (wX3_readNumber) zX3_readNumber h0 q.2 := by
  unfold sX3_readNumber_c11 at e
  by_cases c : v1 ≤ ((h.1 2 2) - v4)
  · rw [if_pos c] at e
    exact fX3_readNumber_c66 h0 h v1 v2 v3 v4 q F e
  · rw [if_neg c] at e
    obtain ⟨q3, eq3, e⟩ := bd_s e
    have F := Fr.tr F (fX3_isDigitHere h q3 eq3) (fun _ hh => absurd hh List.not_mem_nil) (by decide)
    by_cases c : q3.1 = 0
    · rw [if_pos c] at e
      exact fX3_readNumber_c66 h0 q3.2 v1 v2 v3 v4 q F e
    · rw [if_neg c] at e
      obtain ⟨c4, e⟩ := gd_s e
      obtain ⟨h5, eh5, e⟩ := nm_s e
      have F := Fr.w1 F eh5 (Or.inr (by decide))
      obtain ⟨h6, eh6, e⟩ := nm_s e
      have F := Fr.w1 F eh6 (Or.inr (by decide))
      exact hk11 h6 v1 v2 v3 v4 q F e
theorem fX3_readNumber_b11 (h0 : Hp) : ∀ (n : Nat) (h : Hp) (v1 : Int32) (v2 : Int32) (v3 : Int32) (v4 : Int32) (q : (Int32 × Hp)), Fr (wX3_readNumber) zX3_readNumber h0 h → sX3_readNumber_b11 n h v1 v2 v3 v4 = some q → Fr (wX3_readNumber) zX3_readNumber h0 q.2
  | 0 => fun _ _ _ _ _ _ _ e => by cases e
  | n + 1 => fun h v1 v2 v3 v4 q F e => fX3_readNumber_c11 h0 (sX3_readNumber_b11 n) (fX3_readNumber_b11 h0 n) h v1 v2 v3 v4 q F e
set_option maxRecDepth 10000 in
theorem fX3_readNumber (h : Hp) (a1 : Int32) (a2 : Int32) (a3 : Int32) (q : (Int32 × Hp)) (e : sX3_readNumber h a1 a2 a3 = some q) : Fr (wX3_readNumber) zX3_readNumber h q.2 := by
  unfold sX3_readNumber at e
  have F : Fr (wX3_readNumber) zX3_readNumber h h := Fr.rf
  obtain ⟨x1, ex1, e⟩ := nm_s e
  obtain ⟨h2, eh2, e⟩ := nm_s e
  have F := Fr.w1 F eh2 (Or.inr (by decide))
  exact fX3_readNumber_b11 h FU h2 a1 a2 a3 x1 q F e

-- X4_addFraction
abbrev wX4_addFraction : List (Nat × Option Nat) := [(4, some 1)]
abbrev zX4_addFraction : List Nat := [5]
set_option maxRecDepth 10000 in
theorem fX4_addFraction_c39 (h0 : Hp) (h : Hp) (t0 : Int64) (q : Hp) (F : Fr (wX4_addFraction) zX4_addFraction h0 h) (e : sX4_addFraction_c39 h t0 = some q) : Fr (wX4_addFraction) zX4_addFraction h0 q := by
  unfold sX4_addFraction_c39 at e
  obtain ⟨q5, eq5, e⟩ := bd_s e
  have F := Fr.tr F (fX4_add h t0 q5 eq5) (by decide) (by decide)
  exact Fr.e0 F e
set_option maxRecDepth 10000 in
theorem fX4_addFraction_c21 (h0 : Hp) (h : Hp) (v2 : Int32) (v3 : Int32) (t0 : Int64) (q : Hp) (F : Fr (wX4_addFraction) zX4_addFraction h0 h) (e : sX4_addFraction_c21 h v2 v3 t0 = some q) : Fr (wX4_addFraction) zX4_addFraction h0 q := by
  unfold sX4_addFraction_c21 at e
  obtain ⟨q3, eq3, e⟩ := bd_s e
  have F := Fr.tr F (fX4_add h t0 q3 eq3) (by decide) (by decide)
  by_cases c : v3 ≤ (1 : Int32)
  · rw [if_pos c] at e
    exact fX4_addFraction_c39 h0 q3 v2.toInt64 q F e
  · rw [if_neg c] at e
    obtain ⟨c4, e⟩ := gd_s e
    exact fX4_addFraction_c39 h0 q3 ((v2 / v3).toInt64) q F e
set_option maxRecDepth 10000 in
theorem fX4_addFraction (h : Hp) (a1 : Int32) (a2 : Int32) (q : Hp) (e : sX4_addFraction h a1 a2 = some q) : Fr (wX4_addFraction) zX4_addFraction h q := by
  unfold sX4_addFraction at e
  have F : Fr (wX4_addFraction) zX4_addFraction h h := Fr.rf
  obtain ⟨q1, eq1, e⟩ := bd_s e
  have F := Fr.tr F (fX5_commonDivisor h a1 a2 q1 eq1) (fun _ hh => absurd hh List.not_mem_nil) (by decide)
  by_cases c : q1.1 ≤ (1 : Int32)
  · rw [if_pos c] at e
    exact fX4_addFraction_c21 h q1.2 a2 q1.1 a1.toInt64 q F e
  · rw [if_neg c] at e
    obtain ⟨c2, e⟩ := gd_s e
    exact fX4_addFraction_c21 h q1.2 a2 q1.1 ((a1 / q1.1).toInt64) q F e

-- X4_tell
abbrev wX4_tell : List (Nat × Option Nat) := [(4, some 1)]
abbrev zX4_tell : List Nat := [5]
set_option maxRecDepth 10000 in
theorem fX4_tell (h : Hp) (a1 : Int64) (q : Hp) (e : sX4_tell h a1 = some q) : Fr (wX4_tell) zX4_tell h q := by
  unfold sX4_tell at e
  have F : Fr (wX4_tell) zX4_tell h h := Fr.rf
  obtain ⟨q1, eq1, e⟩ := bd_s e
  have F := Fr.tr F (fX4_empty h q1 eq1) (by decide) (by decide)
  obtain ⟨q2, eq2, e⟩ := bd_s e
  have F := Fr.tr F (fX4_add q1 a1 q2 eq2) (by decide) (by decide)
  exact Fr.e0 F e

-- X5_sign
abbrev wX5_sign : List (Nat × Option Nat) := [(3, none), (2, some 1)]
abbrev zX5_sign : List Nat := []
set_option maxRecDepth 10000 in
theorem fX5_sign_c22 (h0 : Hp) (h : Hp) (t0 : Int32) (q : (Int32 × Hp)) (F : Fr (wX5_sign) zX5_sign h0 h) (e : sX5_sign_c22 h t0 = some q) : Fr (wX5_sign) zX5_sign h0 q.2 := by
  unfold sX5_sign_c22 at e
  exact Fr.e1 F e
set_option maxRecDepth 10000 in
theorem fX5_sign (h : Hp) (a1 : Int32) (q : (Int32 × Hp)) (e : sX5_sign h a1 = some q) : Fr (wX5_sign) zX5_sign h q.2 := by
  unfold sX5_sign at e
  have F : Fr (wX5_sign) zX5_sign h h := Fr.rf
  obtain ⟨q1, eq1, e⟩ := bd_s e
  have F := Fr.tr F (fX3_put h a1 q1 eq1) (by decide) (by decide)
  by_cases c : q1.1 = 0
  · rw [if_pos c] at e
    exact fX5_sign_c22 h q1.2 (-1 : Int32) q F e
  · rw [if_neg c] at e
    exact fX5_sign_c22 h q1.2 (q1.2.1 2 1) q F e

-- X5_end
abbrev wX5_end : List (Nat × Option Nat) := [(2, some 1)]
abbrev zX5_end : List Nat := []
set_option maxRecDepth 10000 in
theorem fX5_end (h : Hp) (a1 : Int32) (q : (Int32 × Hp)) (e : sX5_end h a1 = some q) : Fr (wX5_end) zX5_end h q.2 := by
  unfold sX5_end at e
  have F : Fr (wX5_end) zX5_end h h := Fr.rf
  obtain ⟨q1, eq1, e⟩ := bd_s e
  have F := Fr.tr F (fX3_cut h a1 q1 eq1) (by decide) (by decide)
  obtain ⟨c2, e⟩ := gd_s e
  exact Fr.e1 F e

-- X5_pinch
abbrev wX5_pinch : List (Nat × Option Nat) := [(4, some 1)]
abbrev zX5_pinch : List Nat := [5]
set_option maxRecDepth 10000 in
theorem fX5_pinch_c66 (h0 : Hp) (k22 : Hp → Int32 → Option (Int32 × Hp)) (hk22 : ∀ (h : Hp) (v1 : Int32) (q : (Int32 × Hp)), Fr (wX5_pinch) zX5_pinch h0 h → k22 h v1 = some q → Fr (wX5_pinch) zX5_pinch h0 q.2) (h : Hp) (v1 : Int32) (q : (Int32 × Hp)) (F : Fr (wX5_pinch) zX5_pinch h0 h) (e : sX5_pinch_c66 k22 h v1 = some q) : Fr (wX5_pinch) zX5_pinch h0 q.2 := by
  unfold sX5_pinch_c66 at e
  obtain ⟨x6, ex6, e⟩ := nm_s e
  exact hk22 h x6 q F e
set_option maxRecDepth 10000 in
theorem fX5_pinch_c22 (h0 : Hp) (k22 : Hp → Int32 → Option (Int32 × Hp)) (hk22 : ∀ (h : Hp) (v1 : Int32) (q : (Int32 × Hp)), Fr (wX5_pinch) zX5_pinch h0 h → k22 h v1 = some q → Fr (wX5_pinch) zX5_pinch h0 q.2) (h : Hp) (v1 : Int32) (q : (Int32 × Hp)) (F : Fr (wX5_pinch) zX5_pinch h0 h) (e : sX5_pinch_c22 k22 h v1 = some q) : Fr (wX5_pinch) zX5_pinch h0 q.2 := by
  unfold sX5_pinch_c22 at e
  by_cases c : (h.1 16 4) ≤ v1
  · rw [if_pos c] at e
    obtain ⟨q2, eq2, e⟩ := bd_s e
    have F := Fr.tr F (fX0_pinchAt h 16 q2 eq2) (fun _ hh => absurd hh List.not_mem_nil) (by decide)
    exact Fr.e1 F e
  · rw [if_neg c] at e
    obtain ⟨c3, e⟩ := gd_s e
    by_cases c : (h.1 18 v1.toNatClampNeg) = 0
    · rw [if_pos c] at e
      obtain ⟨c4, e⟩ := gd_s e
      obtain ⟨q5, eq5, e⟩ := bd_s e
      have F := Fr.tr F (fX4_add h (((1000 : Int32) + (h.1 17 v1.toNatClampNeg)).toInt64) q5 eq5) (by decide) (by decide)
      exact fX5_pinch_c66 h0 k22 hk22 q5 v1 q F e
    · rw [if_neg c] at e
      exact fX5_pinch_c66 h0 k22 hk22 h v1 q F e
theorem fX5_pinch_b22 (h0 : Hp) : ∀ (n : Nat) (h : Hp) (v1 : Int32) (q : (Int32 × Hp)), Fr (wX5_pinch) zX5_pinch h0 h → sX5_pinch_b22 n h v1 = some q → Fr (wX5_pinch) zX5_pinch h0 q.2
  | 0 => fun _ _ _ _ e => by cases e
  | n + 1 => fun h v1 q F e => fX5_pinch_c22 h0 (sX5_pinch_b22 n) (fX5_pinch_b22 h0 n) h v1 q F e
set_option maxRecDepth 10000 in
theorem fX5_pinch (h : Hp) (q : (Int32 × Hp)) (e : sX5_pinch h = some q) : Fr (wX5_pinch) zX5_pinch h q.2 := by
  unfold sX5_pinch at e
  have F : Fr (wX5_pinch) zX5_pinch h h := Fr.rf
  by_cases c : (h.1 6 4) = 0
  · rw [if_pos c] at e
    exact Fr.e1 F e
  · rw [if_neg c] at e
    obtain ⟨q1, eq1, e⟩ := bd_s e
    have F := Fr.tr F (fX4_empty h q1 eq1) (by decide) (by decide)
    exact fX5_pinch_b22 h FU q1 (0 : Int32) q F e

-- X5_clears
abbrev wX5_clears : List (Nat × Option Nat) := [(26, some 14), (40, some 14), (33, none), (47, none)]
abbrev zX5_clears : List Nat := []
set_option maxRecDepth 10000 in
theorem fX5_clears (h : Hp) (a1 : Int32) (q : (Int32 × Hp)) (e : sX5_clears h a1 = some q) : Fr (wX5_clears) zX5_clears h q.2 := by
  unfold sX5_clears at e
  have F : Fr (wX5_clears) zX5_clears h h := Fr.rf
  obtain ⟨q1, eq1, e⟩ := bd_s e
  have F := Fr.tr F (fX5_isSide h a1 q1 eq1) (fun _ hh => absurd hh List.not_mem_nil) (by decide)
  by_cases c : q1.1 = 0
  · rw [if_pos c] at e
    exact Fr.e1 F e
  · rw [if_neg c] at e
    obtain ⟨q2, eq2, e⟩ := bd_s e
    have F := Fr.tr F (fX5_sideOf q1.2 a1 q2 eq2) (fun _ hh => absurd hh List.not_mem_nil) (by decide)
    obtain ⟨c3, e⟩ := gd_s e
    obtain ⟨x4, ex4, e⟩ := nm_s e
    obtain ⟨q5, eq5, e⟩ := bd_s e
    have F := Fr.tr F (fX2_empty q2.2 q2.1 q5 eq5) (by rcases hsX2 (isC_t c3) with hh | hh <;> rw [hh] <;> decide) (by decide)
    exact Fr.e1 F e

-- X5_isValue
abbrev wX5_isValue : List (Nat × Option Nat) := []
abbrev zX5_isValue : List Nat := []
set_option maxRecDepth 10000 in
theorem fX5_isValue_c21 (h0 : Hp) (h : Hp) (t0 : Int32) (q : (Int32 × Hp)) (F : Fr (wX5_isValue) zX5_isValue h0 h) (e : sX5_isValue_c21 h t0 = some q) : Fr (wX5_isValue) zX5_isValue h0 q.2 := by
  unfold sX5_isValue_c21 at e
  obtain ⟨c1, e⟩ := gd_s e
  exact Fr.e1 F e
set_option maxRecDepth 10000 in
theorem fX5_isValue_c20 (h0 : Hp) (h : Hp) (q : (Int32 × Hp)) (F : Fr (wX5_isValue) zX5_isValue h0 h) (e : sX5_isValue_c20 h = some q) : Fr (wX5_isValue) zX5_isValue h0 q.2 := by
  unfold sX5_isValue_c20 at e
  exact fX5_isValue_c21 h0 h (0 : Int32) q F e
set_option maxRecDepth 10000 in
theorem fX5_isValue_c43 (h0 : Hp) (h : Hp) (t0 : Int32) (q : (Int32 × Hp)) (F : Fr (wX5_isValue) zX5_isValue h0 h) (e : sX5_isValue_c43 h t0 = some q) : Fr (wX5_isValue) zX5_isValue h0 q.2 := by
  unfold sX5_isValue_c43 at e
  obtain ⟨c2, e⟩ := gd_s e
  exact Fr.e1 F e
set_option maxRecDepth 10000 in
theorem fX5_isValue_c42 (h0 : Hp) (h : Hp) (q : (Int32 × Hp)) (F : Fr (wX5_isValue) zX5_isValue h0 h) (e : sX5_isValue_c42 h = some q) : Fr (wX5_isValue) zX5_isValue h0 q.2 := by
  unfold sX5_isValue_c42 at e
  exact fX5_isValue_c43 h0 h (0 : Int32) q F e
set_option maxRecDepth 10000 in
theorem fX5_isValue_c31 (h0 : Hp) (h : Hp) (v1 : Int32) (q : (Int32 × Hp)) (F : Fr (wX5_isValue) zX5_isValue h0 h) (e : sX5_isValue_c31 h v1 = some q) : Fr (wX5_isValue) zX5_isValue h0 q.2 := by
  unfold sX5_isValue_c31 at e
  obtain ⟨q3, eq3, e⟩ := bd_s e
  have F := Fr.tr F (fX5_isDegree h v1 q3 eq3) (fun _ hh => absurd hh List.not_mem_nil) (by decide)
  by_cases c : q3.1 = 0
  · rw [if_pos c] at e
    exact fX5_isValue_c42 h0 q3.2 q F e
  · rw [if_neg c] at e
    exact fX5_isValue_c43 h0 q3.2 (1 : Int32) q F e
set_option maxRecDepth 10000 in
theorem fX5_isValue (h : Hp) (a0 : Int32) (a1 : Int32) (q : (Int32 × Hp)) (e : sX5_isValue h a0 a1 = some q) : Fr (wX5_isValue) zX5_isValue h q.2 := by
  unfold sX5_isValue at e
  have F : Fr (wX5_isValue) zX5_isValue h h := Fr.rf
  by_cases c : a0 = (2 : Int32)
  · rw [if_pos c] at e
    by_cases c : a1 < (1 : Int32)
    · rw [if_pos c] at e
      exact fX5_isValue_c20 h h q F e
    · rw [if_neg c] at e
      by_cases c : (20 : Int32) < a1
      · rw [if_pos c] at e
        exact fX5_isValue_c20 h h q F e
      · rw [if_neg c] at e
        exact fX5_isValue_c21 h h (1 : Int32) q F e
  · rw [if_neg c] at e
    by_cases c : a0 = 0
    · rw [if_pos c] at e
      exact fX5_isValue_c31 h h a1 q F e
    · rw [if_neg c] at e
      by_cases c : a0 = (1 : Int32)
      · rw [if_pos c] at e
        exact fX5_isValue_c31 h h a1 q F e
      · rw [if_neg c] at e
        exact fX5_isValue_c42 h h q F e

-- X5_hasMatch
abbrev wX5_hasMatch : List (Nat × Option Nat) := []
abbrev zX5_hasMatch : List Nat := []
set_option maxRecDepth 10000 in
theorem fX5_hasMatch_c28 (h0 : Hp) (h : Hp) (t0 : Int32) (q : (Int32 × Hp)) (F : Fr (wX5_hasMatch) zX5_hasMatch h0 h) (e : sX5_hasMatch_c28 h t0 = some q) : Fr (wX5_hasMatch) zX5_hasMatch h0 q.2 := by
  unfold sX5_hasMatch_c28 at e
  obtain ⟨c4, e⟩ := gd_s e
  exact Fr.e1 F e
set_option maxRecDepth 10000 in
theorem fX5_hasMatch_c27 (h0 : Hp) (h : Hp) (q : (Int32 × Hp)) (F : Fr (wX5_hasMatch) zX5_hasMatch h0 h) (e : sX5_hasMatch_c27 h = some q) : Fr (wX5_hasMatch) zX5_hasMatch h0 q.2 := by
  unfold sX5_hasMatch_c27 at e
  exact fX5_hasMatch_c28 h0 h (0 : Int32) q F e
set_option maxRecDepth 10000 in
theorem fX5_hasMatch (h : Hp) (a1 : Int32) (a2 : Int32) (q : (Int32 × Hp)) (e : sX5_hasMatch h a1 a2 = some q) : Fr (wX5_hasMatch) zX5_hasMatch h q.2 := by
  unfold sX5_hasMatch at e
  have F : Fr (wX5_hasMatch) zX5_hasMatch h h := Fr.rf
  obtain ⟨q1, eq1, e⟩ := bd_s e
  have F := Fr.tr F (fX5_isSide h a1 q1 eq1) (fun _ hh => absurd hh List.not_mem_nil) (by decide)
  by_cases c : q1.1 = 0
  · rw [if_pos c] at e
    exact fX5_hasMatch_c27 h q1.2 q F e
  · rw [if_neg c] at e
    by_cases c : a2 < 0
    · rw [if_pos c] at e
      exact fX5_hasMatch_c27 h q1.2 q F e
    · rw [if_neg c] at e
      obtain ⟨q2, eq2, e⟩ := bd_s e
      have F := Fr.tr F (fX5_sideOf q1.2 a1 q2 eq2) (fun _ hh => absurd hh List.not_mem_nil) (by decide)
      obtain ⟨c3, e⟩ := gd_s e
      by_cases c : (q2.2.1 q2.1 14) ≤ a2
      · rw [if_pos c] at e
        exact fX5_hasMatch_c27 h q2.2 q F e
      · rw [if_neg c] at e
        exact fX5_hasMatch_c28 h q2.2 (1 : Int32) q F e

-- X5_canMeet
abbrev wX5_canMeet : List (Nat × Option Nat) := []
abbrev zX5_canMeet : List Nat := []
set_option maxRecDepth 10000 in
theorem fX5_canMeet_c38 (h0 : Hp) (h : Hp) (t0 : Int32) (q : (Int32 × Hp)) (F : Fr (wX5_canMeet) zX5_canMeet h0 h) (e : sX5_canMeet_c38 h t0 = some q) : Fr (wX5_canMeet) zX5_canMeet h0 q.2 := by
  unfold sX5_canMeet_c38 at e
  obtain ⟨c8, e⟩ := gd_s e
  exact Fr.e1 F e
set_option maxRecDepth 10000 in
theorem fX5_canMeet_c37 (h0 : Hp) (h : Hp) (q : (Int32 × Hp)) (F : Fr (wX5_canMeet) zX5_canMeet h0 h) (e : sX5_canMeet_c37 h = some q) : Fr (wX5_canMeet) zX5_canMeet h0 q.2 := by
  unfold sX5_canMeet_c37 at e
  exact fX5_canMeet_c38 h0 h (0 : Int32) q F e
set_option maxRecDepth 10000 in
theorem fX5_canMeet (h : Hp) (a1 : Int32) (a2 : Int32) (a3 : Int32) (q : (Int32 × Hp)) (e : sX5_canMeet h a1 a2 a3 = some q) : Fr (wX5_canMeet) zX5_canMeet h q.2 := by
  unfold sX5_canMeet at e
  have F : Fr (wX5_canMeet) zX5_canMeet h h := Fr.rf
  obtain ⟨q1, eq1, e⟩ := bd_s e
  have F := Fr.tr F (fX5_isSide h a1 q1 eq1) (fun _ hh => absurd hh List.not_mem_nil) (by decide)
  by_cases c : q1.1 = 0
  · rw [if_pos c] at e
    exact fX5_canMeet_c37 h q1.2 q F e
  · rw [if_neg c] at e
    obtain ⟨q2, eq2, e⟩ := bd_s e
    have F := Fr.tr F (fX5_sideOf q1.2 a1 q2 eq2) (fun _ hh => absurd hh List.not_mem_nil) (by decide)
    obtain ⟨c3, e⟩ := gd_s e
    obtain ⟨q4, eq4, e⟩ := bd_s e
    have F := Fr.tr F (fX2_hasHeat q2.2 q2.1 a2 (1 : Int32) q4 eq4) (fun _ hh => absurd hh List.not_mem_nil) (by decide)
    by_cases c : q4.1 = 0
    · rw [if_pos c] at e
      exact fX5_canMeet_c37 h q4.2 q F e
    · rw [if_neg c] at e
      obtain ⟨q5, eq5, e⟩ := bd_s e
      have F := Fr.tr F (fX5_sideOf q4.2 a1 q5 eq5) (fun _ hh => absurd hh List.not_mem_nil) (by decide)
      obtain ⟨c6, e⟩ := gd_s e
      obtain ⟨q7, eq7, e⟩ := bd_s e
      have F := Fr.tr F (fX2_hasHeat q5.2 q5.1 a3 (0 : Int32) q7 eq7) (fun _ hh => absurd hh List.not_mem_nil) (by decide)
      by_cases c : q7.1 = 0
      · rw [if_pos c] at e
        exact fX5_canMeet_c37 h q7.2 q F e
      · rw [if_neg c] at e
        exact fX5_canMeet_c38 h q7.2 (1 : Int32) q F e

-- X6_entersPart
abbrev wX6_entersPart : List (Nat × Option Nat) := [(54, some 1)]
abbrev zX6_entersPart : List Nat := [55]
set_option maxRecDepth 10000 in
theorem fX6_entersPart (h : Hp) (a1 : Int64) (a3 : Int64) (q : Hp) (e : sX6_entersPart h a1 a3 = some q) : Fr (wX6_entersPart) zX6_entersPart h q := by
  unfold sX6_entersPart at e
  have F : Fr (wX6_entersPart) zX6_entersPart h h := Fr.rf
  obtain ⟨q1, eq1, e⟩ := bd_s e
  have F := Fr.tr F (fX6_common h a1 a3 q1 eq1) (fun _ hh => absurd hh List.not_mem_nil) (by decide)
  obtain ⟨c2, e⟩ := gd_s e
  obtain ⟨q3, eq3, e⟩ := bd_s e
  have F := Fr.tr F (fX6_enters q1.2 (a1 / q1.1) q3 eq3) (by decide) (by decide)
  obtain ⟨c4, e⟩ := gd_s e
  obtain ⟨q5, eq5, e⟩ := bd_s e
  have F := Fr.tr F (fX6_enters q3 (a3 / q1.1) q5 eq5) (by decide) (by decide)
  exact Fr.e0 F e

-- X6_end
abbrev wX6_end : List (Nat × Option Nat) := [(54, some 0), (54, some 4)]
abbrev zX6_end : List Nat := []
set_option maxRecDepth 10000 in
theorem fX6_end (h : Hp) (a1 : Int32) (q : (Int32 × Hp)) (e : sX6_end h a1 = some q) : Fr (wX6_end) zX6_end h q.2 := by
  unfold sX6_end at e
  have F : Fr (wX6_end) zX6_end h h := Fr.rf
  obtain ⟨h1, eh1, e⟩ := nm_s e
  have F := Fr.w1 F eh1 (Or.inr (by decide))
  obtain ⟨q2, eq2, e⟩ := bd_s e
  have F := Fr.tr F (fX6_in h1 a1.toInt64 (0 : Int64) ((h1.1 54 4).toInt64) q2 eq2) (fun _ hh => absurd hh List.not_mem_nil) (by decide)
  by_cases c : q2.1 = 0
  · rw [if_pos c] at e
    exact Fr.e1 F e
  · rw [if_neg c] at e
    obtain ⟨h3, eh3, e⟩ := nm_s e
    have F := Fr.w1 F eh3 (Or.inr (by decide))
    exact Fr.e1 F e

-- X6_takes
abbrev wX6_takes : List (Nat × Option Nat) := [(54, some 5)]
abbrev zX6_takes : List Nat := []
set_option maxRecDepth 10000 in
theorem fX6_takes_c29 (h0 : Hp) (h : Hp) (t0 : Int32) (q : (Int32 × Hp)) (F : Fr (wX6_takes) zX6_takes h0 h) (e : sX6_takes_c29 h t0 = some q) : Fr (wX6_takes) zX6_takes h0 q.2 := by
  unfold sX6_takes_c29 at e
  obtain ⟨q2, eq2, e⟩ := bd_s e
  have F := Fr.tr F (fX6_flag h t0 q2 eq2) (fun _ hh => absurd hh List.not_mem_nil) (by decide)
  obtain ⟨h3, eh3, e⟩ := nm_s e
  have F := Fr.w1 F eh3 (Or.inr (by decide))
  obtain ⟨c4, e⟩ := gd_s e
  exact Fr.e1 F e
set_option maxRecDepth 10000 in
theorem fX6_takes_c28 (h0 : Hp) (h : Hp) (q : (Int32 × Hp)) (F : Fr (wX6_takes) zX6_takes h0 h) (e : sX6_takes_c28 h = some q) : Fr (wX6_takes) zX6_takes h0 q.2 := by
  unfold sX6_takes_c28 at e
  exact fX6_takes_c29 h0 h (0 : Int32) q F e
set_option maxRecDepth 10000 in
theorem fX6_takes (h : Hp) (a1 : Int32) (q : (Int32 × Hp)) (e : sX6_takes h a1 = some q) : Fr (wX6_takes) zX6_takes h q.2 := by
  unfold sX6_takes at e
  have F : Fr (wX6_takes) zX6_takes h h := Fr.rf
  by_cases c : (h.1 54 6) ≤ (h.1 54 5)
  · rw [if_pos c] at e
    exact fX6_takes_c28 h h q F e
  · rw [if_neg c] at e
    obtain ⟨c1, e⟩ := gd_s e
    by_cases c : (h.1 56 (h.1 54 5).toNatClampNeg) = a1
    · rw [if_pos c] at e
      exact fX6_takes_c29 h h (1 : Int32) q F e
    · rw [if_neg c] at e
      exact fX6_takes_c28 h h q F e

-- X6_isDigit
abbrev wX6_isDigit : List (Nat × Option Nat) := []
abbrev zX6_isDigit : List Nat := []
set_option maxRecDepth 10000 in
theorem fX6_isDigit_c38 (h0 : Hp) (h : Hp) (t0 : Int32) (q : (Int32 × Hp)) (F : Fr (wX6_isDigit) zX6_isDigit h0 h) (e : sX6_isDigit_c38 h t0 = some q) : Fr (wX6_isDigit) zX6_isDigit h0 q.2 := by
  unfold sX6_isDigit_c38 at e
  obtain ⟨c3, e⟩ := gd_s e
  exact Fr.e1 F e
set_option maxRecDepth 10000 in
theorem fX6_isDigit_c37 (h0 : Hp) (h : Hp) (q : (Int32 × Hp)) (F : Fr (wX6_isDigit) zX6_isDigit h0 h) (e : sX6_isDigit_c37 h = some q) : Fr (wX6_isDigit) zX6_isDigit h0 q.2 := by
  unfold sX6_isDigit_c37 at e
  exact fX6_isDigit_c38 h0 h (0 : Int32) q F e
set_option maxRecDepth 10000 in
theorem fX6_isDigit (h : Hp) (q : (Int32 × Hp)) (e : sX6_isDigit h = some q) : Fr (wX6_isDigit) zX6_isDigit h q.2 := by
  unfold sX6_isDigit at e
  have F : Fr (wX6_isDigit) zX6_isDigit h h := Fr.rf
  by_cases c : (h.1 54 6) ≤ (h.1 54 5)
  · rw [if_pos c] at e
    exact fX6_isDigit_c37 h h q F e
  · rw [if_neg c] at e
    obtain ⟨c1, e⟩ := gd_s e
    obtain ⟨q2, eq2, e⟩ := bd_s e
    have F := Fr.tr F (fX6_in h ((h.1 56 (h.1 54 5).toNatClampNeg).toInt64) (48 : Int64) (57 : Int64) q2 eq2) (fun _ hh => absurd hh List.not_mem_nil) (by decide)
    by_cases c : q2.1 = 0
    · rw [if_pos c] at e
      exact fX6_isDigit_c37 h q2.2 q F e
    · rw [if_neg c] at e
      exact fX6_isDigit_c38 h q2.2 (1 : Int32) q F e

-- X6_isFit
abbrev wX6_isFit : List (Nat × Option Nat) := [(54, some 5)]
abbrev zX6_isFit : List Nat := []
set_option maxRecDepth 10000 in
theorem fX6_isFit_c14 (h0 : Hp) (h : Hp) (v1 : Int32) (t0 : Int32) (t1 : Int32) (q : (Int32 × Hp)) (F : Fr (wX6_isFit) zX6_isFit h0 h) (e : sX6_isFit_c14 h v1 t0 t1 = some q) : Fr (wX6_isFit) zX6_isFit h0 q.2 := by
  unfold sX6_isFit_c14 at e
  obtain ⟨q1, eq1, e⟩ := bd_s e
  have F := Fr.tr F (fX6_flag h t0 q1 eq1) (fun _ hh => absurd hh List.not_mem_nil) (by decide)
  obtain ⟨h2, eh2, e⟩ := nm_s e
  have F := Fr.w1 F eh2 (Or.inr (by decide))
  obtain ⟨c3, e⟩ := gd_s e
  exact Fr.e1 F e
set_option maxRecDepth 10000 in
theorem fX6_isFit (h : Hp) (a1 : Int32) (q : (Int32 × Hp)) (e : sX6_isFit h a1 = some q) : Fr (wX6_isFit) zX6_isFit h q.2 := by
  unfold sX6_isFit at e
  have F : Fr (wX6_isFit) zX6_isFit h h := Fr.rf
  by_cases c : a1 = 0
  · rw [if_pos c] at e
    exact fX6_isFit_c14 h h a1 (1 : Int32) (h.1 54 5) q F e
  · rw [if_neg c] at e
    exact fX6_isFit_c14 h h a1 (0 : Int32) (h.1 54 5) q F e

-- X6_isStream
abbrev wX6_isStream : List (Nat × Option Nat) := []
abbrev zX6_isStream : List Nat := []
set_option maxRecDepth 10000 in
theorem fX6_isStream (h : Hp) (a1 : Int32) (q : (Int32 × Hp)) (e : sX6_isStream h a1 = some q) : Fr (wX6_isStream) zX6_isStream h q.2 := by
  unfold sX6_isStream at e
  have F : Fr (wX6_isStream) zX6_isStream h h := Fr.rf
  obtain ⟨q1, eq1, e⟩ := bd_s e
  have F := Fr.tr F (fX6_in h a1.toInt64 (0 : Int64) (((h.1 54 7) - (1 : Int32)).toInt64) q1 eq1) (fun _ hh => absurd hh List.not_mem_nil) (by decide)
  obtain ⟨c2, e⟩ := gd_s e
  exact Fr.e1 F e

-- X6_wouldTurn
abbrev wX6_wouldTurn : List (Nat × Option Nat) := []
abbrev zX6_wouldTurn : List Nat := []
set_option maxRecDepth 10000 in
theorem fX6_wouldTurn_c68 (h0 : Hp) (h : Hp) (t0 : Int32) (q : (Int32 × Hp)) (F : Fr (wX6_wouldTurn) zX6_wouldTurn h0 h) (e : sX6_wouldTurn_c68 h t0 = some q) : Fr (wX6_wouldTurn) zX6_wouldTurn h0 q.2 := by
  unfold sX6_wouldTurn_c68 at e
  obtain ⟨c4, e⟩ := gd_s e
  exact Fr.e1 F e
set_option maxRecDepth 10000 in
theorem fX6_wouldTurn_c31 (h0 : Hp) (h : Hp) (v1 : Int32) (v4 : Int32) (t0 : Int32) (q : (Int32 × Hp)) (F : Fr (wX6_wouldTurn) zX6_wouldTurn h0 h) (e : sX6_wouldTurn_c31 h v1 v4 t0 = some q) : Fr (wX6_wouldTurn) zX6_wouldTurn h0 q.2 := by
  unfold sX6_wouldTurn_c31 at e
  obtain ⟨q3, eq3, e⟩ := bd_s e
  have F := Fr.tr F (fX6_isHot h v1 q3 eq3) (fun _ hh => absurd hh List.not_mem_nil) (by decide)
  by_cases c : q3.1 = 0
  · rw [if_pos c] at e
    by_cases c : v4 < t0
    · rw [if_pos c] at e
      exact fX6_wouldTurn_c68 h0 q3.2 (0 : Int32) q F e
    · rw [if_neg c] at e
      exact fX6_wouldTurn_c68 h0 q3.2 (1 : Int32) q F e
  · rw [if_neg c] at e
    by_cases c : t0 < v4
    · rw [if_pos c] at e
      exact fX6_wouldTurn_c68 h0 q3.2 (0 : Int32) q F e
    · rw [if_neg c] at e
      exact fX6_wouldTurn_c68 h0 q3.2 (1 : Int32) q F e
set_option maxRecDepth 10000 in
theorem fX6_wouldTurn_c14 (h0 : Hp) (h : Hp) (v1 : Int32) (v2 : Int32) (v3 : Int32) (t0 : Int32) (q : (Int32 × Hp)) (F : Fr (wX6_wouldTurn) zX6_wouldTurn h0 h) (e : sX6_wouldTurn_c14 h v1 v2 v3 t0 = some q) : Fr (wX6_wouldTurn) zX6_wouldTurn h0 q.2 := by
  unfold sX6_wouldTurn_c14 at e
  by_cases c : v2 = (1 : Int32)
  · rw [if_pos c] at e
    exact fX6_wouldTurn_c31 h0 h v1 t0 v3 q F e
  · rw [if_neg c] at e
    obtain ⟨c2, e⟩ := gd_s e
    exact fX6_wouldTurn_c31 h0 h v1 t0 (h.1 58 v1.toNatClampNeg) q F e
set_option maxRecDepth 10000 in
theorem fX6_wouldTurn (h : Hp) (a1 : Int32) (a2 : Int32) (a3 : Int32) (q : (Int32 × Hp)) (e : sX6_wouldTurn h a1 a2 a3 = some q) : Fr (wX6_wouldTurn) zX6_wouldTurn h q.2 := by
  unfold sX6_wouldTurn at e
  have F : Fr (wX6_wouldTurn) zX6_wouldTurn h h := Fr.rf
  by_cases c : a2 = 0
  · rw [if_pos c] at e
    exact fX6_wouldTurn_c14 h h a1 a2 a3 a3 q F e
  · rw [if_neg c] at e
    obtain ⟨c1, e⟩ := gd_s e
    exact fX6_wouldTurn_c14 h h a1 a2 a3 (h.1 57 a1.toNatClampNeg) q F e

-- X6_gap
abbrev wX6_gap : List (Nat × Option Nat) := [(54, some 0), (54, some 11), (67, none)]
abbrev zX6_gap : List Nat := []
set_option maxRecDepth 10000 in
theorem fX6_gap (h : Hp) (a1 : Int32) (q : (Int32 × Hp)) (e : sX6_gap h a1 = some q) : Fr (wX6_gap) zX6_gap h q.2 := by
  unfold sX6_gap at e
  have F : Fr (wX6_gap) zX6_gap h h := Fr.rf
  obtain ⟨h1, eh1, e⟩ := nm_s e
  have F := Fr.w1 F eh1 (Or.inr (by decide))
  obtain ⟨q2, eq2, e⟩ := bd_s e
  have F := Fr.tr F (fX6_in h1 a1.toInt64 (0 : Int64) (60 : Int64) q2 eq2) (fun _ hh => absurd hh List.not_mem_nil) (by decide)
  by_cases c : q2.1 = 0
  · rw [if_pos c] at e
    exact Fr.e1 F e
  · rw [if_neg c] at e
    by_cases c : (q2.2.1 54 11) = a1
    · rw [if_pos c] at e
      exact Fr.e1 F e
    · rw [if_neg c] at e
      obtain ⟨x3, ex3, e⟩ := nm_s e
      obtain ⟨h4, eh4, e⟩ := nm_s e
      have F := Fr.w1 F eh4 (Or.inr (by decide))
      obtain ⟨q5, eq5, e⟩ := bd_s e
      have F := Fr.tr F (fX6_allGo h4 q5 eq5) (by decide) (by decide)
      exact Fr.e1 F e

-- X6_low
abbrev wX6_low : List (Nat × Option Nat) := []
abbrev zX6_low : List Nat := []
set_option maxRecDepth 10000 in
theorem fX6_low (h : Hp) (a1 : Int32) (q : (Int32 × Hp)) (e : sX6_low h a1 = some q) : Fr (wX6_low) zX6_low h q.2 := by
  unfold sX6_low at e
  have F : Fr (wX6_low) zX6_low h h := Fr.rf
  obtain ⟨c1, e⟩ := gd_s e
  obtain ⟨c2, e⟩ := gd_s e
  exact Fr.e1 F e

-- X6_high
abbrev wX6_high : List (Nat × Option Nat) := []
abbrev zX6_high : List Nat := []
set_option maxRecDepth 10000 in
theorem fX6_high (h : Hp) (a1 : Int32) (q : (Int32 × Hp)) (e : sX6_high h a1 = some q) : Fr (wX6_high) zX6_high h q.2 := by
  unfold sX6_high at e
  have F : Fr (wX6_high) zX6_high h h := Fr.rf
  obtain ⟨c1, e⟩ := gd_s e
  obtain ⟨c2, e⟩ := gd_s e
  exact Fr.e1 F e

-- X6_shift
abbrev wX6_shift : List (Nat × Option Nat) := []
abbrev zX6_shift : List Nat := []
set_option maxRecDepth 10000 in
theorem fX6_shift_c16 (h0 : Hp) (h : Hp) (t0 : Int32) (q : (Int32 × Hp)) (F : Fr (wX6_shift) zX6_shift h0 h) (e : sX6_shift_c16 h t0 = some q) : Fr (wX6_shift) zX6_shift h0 q.2 := by
  unfold sX6_shift_c16 at e
  exact Fr.e1 F e
set_option maxRecDepth 10000 in
theorem fX6_shift (h : Hp) (a1 : Int32) (q : (Int32 × Hp)) (e : sX6_shift h a1 = some q) : Fr (wX6_shift) zX6_shift h q.2 := by
  unfold sX6_shift at e
  have F : Fr (wX6_shift) zX6_shift h h := Fr.rf
  obtain ⟨q1, eq1, e⟩ := bd_s e
  have F := Fr.tr F (fX6_isHot h a1 q1 eq1) (fun _ hh => absurd hh List.not_mem_nil) (by decide)
  by_cases c : q1.1 = 0
  · rw [if_pos c] at e
    exact fX6_shift_c16 h q1.2 (0 : Int32) q F e
  · rw [if_neg c] at e
    exact fX6_shift_c16 h q1.2 (q1.2.1 54 11) q F e

-- X6_isSide
abbrev wX6_isSide : List (Nat × Option Nat) := []
abbrev zX6_isSide : List Nat := []
set_option maxRecDepth 10000 in
theorem fX6_isSide (h : Hp) (a0 : Int32) (q : (Int32 × Hp)) (e : sX6_isSide h a0 = some q) : Fr (wX6_isSide) zX6_isSide h q.2 := by
  unfold sX6_isSide at e
  have F : Fr (wX6_isSide) zX6_isSide h h := Fr.rf
  obtain ⟨q1, eq1, e⟩ := bd_s e
  have F := Fr.tr F (fX6_in h a0.toInt64 (0 : Int64) (1 : Int64) q1 eq1) (fun _ hh => absurd hh List.not_mem_nil) (by decide)
  obtain ⟨c2, e⟩ := gd_s e
  exact Fr.e1 F e

-- X6_used
abbrev wX6_used : List (Nat × Option Nat) := []
abbrev zX6_used : List Nat := []
set_option maxRecDepth 10000 in
theorem fX6_used_c55 (h0 : Hp) (k6 : Hp → Int32 → Int32 → Int32 → Int32 → Int32 → Option (Int32 × Hp)) (hk6 : ∀ (h : Hp) (v1 : Int32) (v2 : Int32) (v3 : Int32) (v4 : Int32) (v5 : Int32) (q : (Int32 × Hp)), Fr (wX6_used) zX6_used h0 h → k6 h v1 v2 v3 v4 v5 = some q → Fr (wX6_used) zX6_used h0 q.2) (h : Hp) (v1 : Int32) (v2 : Int32) (v3 : Int32) (v5 : Int32) (t0 : Int32) (t1 : Int32) (q : (Int32 × Hp)) (F : Fr (wX6_used) zX6_used h0 h) (e : sX6_used_c55 k6 h v1 v2 v3 v5 t0 t1 = some q) : Fr (wX6_used) zX6_used h0 q.2 := by
  unfold sX6_used_c55 at e
  obtain ⟨x4, ex4, e⟩ := nm_s e
  obtain ⟨x5, ex5, e⟩ := nm_s e
  exact hk6 h v1 v2 v3 x4 x5 q F e
set_option maxRecDepth 10000 in
theorem fX6_used_c44 (h0 : Hp) (k6 : Hp → Int32 → Int32 → Int32 → Int32 → Int32 → Option (Int32 × Hp)) (hk6 : ∀ (h : Hp) (v1 : Int32) (v2 : Int32) (v3 : Int32) (v4 : Int32) (v5 : Int32) (q : (Int32 × Hp)), Fr (wX6_used) zX6_used h0 h → k6 h v1 v2 v3 v4 v5 = some q → Fr (wX6_used) zX6_used h0 q.2) (h : Hp) (v1 : Int32) (v2 : Int32) (v3 : Int32) (v5 : Int32) (v6 : Int32) (t0 : Int32) (q : (Int32 × Hp)) (F : Fr (wX6_used) zX6_used h0 h) (e : sX6_used_c44 k6 h v1 v2 v3 v5 v6 t0 = some q) : Fr (wX6_used) zX6_used h0 q.2 := by
  unfold sX6_used_c44 at e
  obtain ⟨c6, e⟩ := gd_s e
  exact fX6_used_c55 h0 k6 hk6 h v1 v2 v3 v5 (h.1 70 v6.toNatClampNeg) t0 q F e
set_option maxRecDepth 10000 in
theorem fX6_used_c6 (h0 : Hp) (k6 : Hp → Int32 → Int32 → Int32 → Int32 → Int32 → Option (Int32 × Hp)) (hk6 : ∀ (h : Hp) (v1 : Int32) (v2 : Int32) (v3 : Int32) (v4 : Int32) (v5 : Int32) (q : (Int32 × Hp)), Fr (wX6_used) zX6_used h0 h → k6 h v1 v2 v3 v4 v5 = some q → Fr (wX6_used) zX6_used h0 q.2) (h : Hp) (v1 : Int32) (v2 : Int32) (v3 : Int32) (v4 : Int32) (v5 : Int32) (q : (Int32 × Hp)) (F : Fr (wX6_used) zX6_used h0 h) (e : sX6_used_c6 k6 h v1 v2 v3 v4 v5 = some q) : Fr (wX6_used) zX6_used h0 q.2 := by
  unfold sX6_used_c6 at e
  by_cases c : v3 ≤ v5
  · rw [if_pos c] at e
    exact Fr.e1 F e
  · rw [if_neg c] at e
    obtain ⟨q1, eq1, e⟩ := bd_s e
    have F := Fr.tr F (fX6_place h v1 v5 q1 eq1) (fun _ hh => absurd hh List.not_mem_nil) (by decide)
    obtain ⟨c2, e⟩ := gd_s e
    by_cases c : (q1.2.1 68 q1.1.toNatClampNeg) = v2
    · rw [if_pos c] at e
      exact fX6_used_c44 h0 k6 hk6 q1.2 v1 v2 v3 v5 q1.1 v4 q F e
    · rw [if_neg c] at e
      obtain ⟨c3, e⟩ := gd_s e
      by_cases c : (q1.2.1 69 q1.1.toNatClampNeg) = v2
      · rw [if_pos c] at e
        exact fX6_used_c44 h0 k6 hk6 q1.2 v1 v2 v3 v5 q1.1 v4 q F e
      · rw [if_neg c] at e
        exact fX6_used_c55 h0 k6 hk6 q1.2 v1 v2 v3 v5 (0 : Int32) v4 q F e
theorem fX6_used_b6 (h0 : Hp) : ∀ (n : Nat) (h : Hp) (v1 : Int32) (v2 : Int32) (v3 : Int32) (v4 : Int32) (v5 : Int32) (q : (Int32 × Hp)), Fr (wX6_used) zX6_used h0 h → sX6_used_b6 n h v1 v2 v3 v4 v5 = some q → Fr (wX6_used) zX6_used h0 q.2
  | 0 => fun _ _ _ _ _ _ _ _ e => by cases e
  | n + 1 => fun h v1 v2 v3 v4 v5 q F e => fX6_used_c6 h0 (sX6_used_b6 n) (fX6_used_b6 h0 n) h v1 v2 v3 v4 v5 q F e
set_option maxRecDepth 10000 in
theorem fX6_used (h : Hp) (a1 : Int32) (a2 : Int32) (a3 : Int32) (q : (Int32 × Hp)) (e : sX6_used h a1 a2 a3 = some q) : Fr (wX6_used) zX6_used h q.2 := by
  unfold sX6_used at e
  have F : Fr (wX6_used) zX6_used h h := Fr.rf
  exact fX6_used_b6 h FU h a1 a2 a3 (0 : Int32) (0 : Int32) q F e

-- X6_least
abbrev wX6_least : List (Nat × Option Nat) := []
abbrev zX6_least : List Nat := []
set_option maxRecDepth 10000 in
theorem fX6_least (h : Hp) (a1 : Int32) (a2 : Int32) (q : (Int64 × Hp)) (e : sX6_least h a1 a2 = some q) : Fr (wX6_least) zX6_least h q.2 := by
  unfold sX6_least at e
  have F : Fr (wX6_least) zX6_least h h := Fr.rf
  obtain ⟨q1, eq1, e⟩ := bd_s e
  have F := Fr.tr F (fX6_under h a1 a2 q1 eq1) (fun _ hh => absurd hh List.not_mem_nil) (by decide)
  exact Fr.e1 F e

-- X6_laysMatch
abbrev wX6_laysMatch : List (Nat × Option Nat) := [(68, none), (69, none), (70, none)]
abbrev zX6_laysMatch : List Nat := []
set_option maxRecDepth 10000 in
theorem fX6_laysMatch (h : Hp) (a1 : Int32) (a2 : Int32) (a3 : Int32) (a4 : Int32) (q : Hp) (e : sX6_laysMatch h a1 a2 a3 a4 = some q) : Fr (wX6_laysMatch) zX6_laysMatch h q := by
  unfold sX6_laysMatch at e
  have F : Fr (wX6_laysMatch) zX6_laysMatch h h := Fr.rf
  obtain ⟨c1, e⟩ := gd_s e
  obtain ⟨q2, eq2, e⟩ := bd_s e
  have F := Fr.tr F (fX6_place h a1 (h.1 67 a1.toNatClampNeg) q2 eq2) (fun _ hh => absurd hh List.not_mem_nil) (by decide)
  obtain ⟨c3, e⟩ := gd_s e
  obtain ⟨h4, eh4, e⟩ := nm_s e
  have F := Fr.w1 F eh4 (Or.inl (by decide))
  obtain ⟨c5, e⟩ := gd_s e
  obtain ⟨h6, eh6, e⟩ := nm_s e
  have F := Fr.w1 F eh6 (Or.inl (by decide))
  obtain ⟨c7, e⟩ := gd_s e
  obtain ⟨h8, eh8, e⟩ := nm_s e
  have F := Fr.w1 F eh8 (Or.inl (by decide))
  exact Fr.e0 F e

-- X6_saves
abbrev wX6_saves : List (Nat × Option Nat) := [(54, some 33), (71, none), (72, none), (73, none)]
abbrev zX6_saves : List Nat := []
set_option maxRecDepth 10000 in
theorem fX6_saves_c12 (h0 : Hp) (k12 : Hp → Int32 → Int32 → Option Hp) (hk12 : ∀ (h : Hp) (v1 : Int32) (v2 : Int32) (q : Hp), Fr (wX6_saves) zX6_saves h0 h → k12 h v1 v2 = some q → Fr (wX6_saves) zX6_saves h0 q) (h : Hp) (v1 : Int32) (v2 : Int32) (q : Hp) (F : Fr (wX6_saves) zX6_saves h0 h) (e : sX6_saves_c12 k12 h v1 v2 = some q) : Fr (wX6_saves) zX6_saves h0 q := by
  unfold sX6_saves_c12 at e
  by_cases c : (h.1 54 33) ≤ v2
  · rw [if_pos c] at e
    exact Fr.e0 F e
  · rw [if_neg c] at e
    obtain ⟨q3, eq3, e⟩ := bd_s e
    have F := Fr.tr F (fX6_place h v1 v2 q3 eq3) (fun _ hh => absurd hh List.not_mem_nil) (by decide)
    obtain ⟨c4, e⟩ := gd_s e
    obtain ⟨c5, e⟩ := gd_s e
    obtain ⟨h6, eh6, e⟩ := nm_s e
    have F := Fr.w1 F eh6 (Or.inl (by decide))
    obtain ⟨q7, eq7, e⟩ := bd_s e
    have F := Fr.tr F (fX6_place h6 v1 v2 q7 eq7) (fun _ hh => absurd hh List.not_mem_nil) (by decide)
    obtain ⟨c8, e⟩ := gd_s e
    obtain ⟨c9, e⟩ := gd_s e
    obtain ⟨h10, eh10, e⟩ := nm_s e
    have F := Fr.w1 F eh10 (Or.inl (by decide))
    obtain ⟨q11, eq11, e⟩ := bd_s e
    have F := Fr.tr F (fX6_place h10 v1 v2 q11 eq11) (fun _ hh => absurd hh List.not_mem_nil) (by decide)
    obtain ⟨c12, e⟩ := gd_s e
    obtain ⟨c13, e⟩ := gd_s e
    obtain ⟨h14, eh14, e⟩ := nm_s e
    have F := Fr.w1 F eh14 (Or.inl (by decide))
    obtain ⟨x15, ex15, e⟩ := nm_s e
    exact hk12 h14 v1 x15 q F e
theorem fX6_saves_b12 (h0 : Hp) : ∀ (n : Nat) (h : Hp) (v1 : Int32) (v2 : Int32) (q : Hp), Fr (wX6_saves) zX6_saves h0 h → sX6_saves_b12 n h v1 v2 = some q → Fr (wX6_saves) zX6_saves h0 q
  | 0 => fun _ _ _ _ _ e => by cases e
  | n + 1 => fun h v1 v2 q F e => fX6_saves_c12 h0 (sX6_saves_b12 n) (fX6_saves_b12 h0 n) h v1 v2 q F e
set_option maxRecDepth 10000 in
theorem fX6_saves (h : Hp) (a1 : Int32) (q : Hp) (e : sX6_saves h a1 = some q) : Fr (wX6_saves) zX6_saves h q := by
  unfold sX6_saves at e
  have F : Fr (wX6_saves) zX6_saves h h := Fr.rf
  obtain ⟨c1, e⟩ := gd_s e
  obtain ⟨h2, eh2, e⟩ := nm_s e
  have F := Fr.w1 F eh2 (Or.inr (by decide))
  exact fX6_saves_b12 h FU h2 a1 (0 : Int32) q F e

-- X6_comesBack
abbrev wX6_comesBack : List (Nat × Option Nat) := [(67, none), (68, none), (69, none), (70, none)]
abbrev zX6_comesBack : List Nat := []
set_option maxRecDepth 10000 in
theorem fX6_comesBack_c12 (h0 : Hp) (k12 : Hp → Int32 → Int32 → Option Hp) (hk12 : ∀ (h : Hp) (v1 : Int32) (v2 : Int32) (q : Hp), Fr (wX6_comesBack) zX6_comesBack h0 h → k12 h v1 v2 = some q → Fr (wX6_comesBack) zX6_comesBack h0 q) (h : Hp) (v1 : Int32) (v2 : Int32) (q : Hp) (F : Fr (wX6_comesBack) zX6_comesBack h0 h) (e : sX6_comesBack_c12 k12 h v1 v2 = some q) : Fr (wX6_comesBack) zX6_comesBack h0 q := by
  unfold sX6_comesBack_c12 at e
  by_cases c : (h.1 54 33) ≤ v2
  · rw [if_pos c] at e
    exact Fr.e0 F e
  · rw [if_neg c] at e
    obtain ⟨q3, eq3, e⟩ := bd_s e
    have F := Fr.tr F (fX6_place h v1 v2 q3 eq3) (fun _ hh => absurd hh List.not_mem_nil) (by decide)
    obtain ⟨c4, e⟩ := gd_s e
    obtain ⟨c5, e⟩ := gd_s e
    obtain ⟨h6, eh6, e⟩ := nm_s e
    have F := Fr.w1 F eh6 (Or.inl (by decide))
    obtain ⟨q7, eq7, e⟩ := bd_s e
    have F := Fr.tr F (fX6_place h6 v1 v2 q7 eq7) (fun _ hh => absurd hh List.not_mem_nil) (by decide)
    obtain ⟨c8, e⟩ := gd_s e
    obtain ⟨c9, e⟩ := gd_s e
    obtain ⟨h10, eh10, e⟩ := nm_s e
    have F := Fr.w1 F eh10 (Or.inl (by decide))
    obtain ⟨q11, eq11, e⟩ := bd_s e
    have F := Fr.tr F (fX6_place h10 v1 v2 q11 eq11) (fun _ hh => absurd hh List.not_mem_nil) (by decide)
    obtain ⟨c12, e⟩ := gd_s e
    obtain ⟨c13, e⟩ := gd_s e
    obtain ⟨h14, eh14, e⟩ := nm_s e
    have F := Fr.w1 F eh14 (Or.inl (by decide))
    obtain ⟨x15, ex15, e⟩ := nm_s e
    exact hk12 h14 v1 x15 q F e
theorem fX6_comesBack_b12 (h0 : Hp) : ∀ (n : Nat) (h : Hp) (v1 : Int32) (v2 : Int32) (q : Hp), Fr (wX6_comesBack) zX6_comesBack h0 h → sX6_comesBack_b12 n h v1 v2 = some q → Fr (wX6_comesBack) zX6_comesBack h0 q
  | 0 => fun _ _ _ _ _ e => by cases e
  | n + 1 => fun h v1 v2 q F e => fX6_comesBack_c12 h0 (sX6_comesBack_b12 n) (fX6_comesBack_b12 h0 n) h v1 v2 q F e
set_option maxRecDepth 10000 in
theorem fX6_comesBack (h : Hp) (a1 : Int32) (q : Hp) (e : sX6_comesBack h a1 = some q) : Fr (wX6_comesBack) zX6_comesBack h q := by
  unfold sX6_comesBack at e
  have F : Fr (wX6_comesBack) zX6_comesBack h h := Fr.rf
  obtain ⟨c1, e⟩ := gd_s e
  obtain ⟨h2, eh2, e⟩ := nm_s e
  have F := Fr.w1 F eh2 (Or.inl (by decide))
  exact fX6_comesBack_b12 h FU h2 a1 (0 : Int32) q F e

-- X6_closesUp
abbrev wX6_closesUp : List (Nat × Option Nat) := [(67, none), (68, none), (69, none), (70, none)]
abbrev zX6_closesUp : List Nat := []
set_option maxRecDepth 10000 in
theorem fX6_closesUp_c86 (h0 : Hp) (k4 : Hp → Int32 → Int32 → Int32 → Option Hp) (hk4 : ∀ (h : Hp) (v1 : Int32) (v2 : Int32) (v3 : Int32) (q : Hp), Fr (wX6_closesUp) zX6_closesUp h0 h → k4 h v1 v2 v3 = some q → Fr (wX6_closesUp) zX6_closesUp h0 q) (h : Hp) (v1 : Int32) (v2 : Int32) (v3 : Int32) (q : Hp) (F : Fr (wX6_closesUp) zX6_closesUp h0 h) (e : sX6_closesUp_c86 k4 h v1 v2 v3 = some q) : Fr (wX6_closesUp) zX6_closesUp h0 q := by
  unfold sX6_closesUp_c86 at e
  obtain ⟨x17, ex17, e⟩ := nm_s e
  exact hk4 h v1 v2 x17 q F e
set_option maxRecDepth 10000 in
theorem fX6_closesUp_c4 (h0 : Hp) (k4 : Hp → Int32 → Int32 → Int32 → Option Hp) (hk4 : ∀ (h : Hp) (v1 : Int32) (v2 : Int32) (v3 : Int32) (q : Hp), Fr (wX6_closesUp) zX6_closesUp h0 h → k4 h v1 v2 v3 = some q → Fr (wX6_closesUp) zX6_closesUp h0 q) (h : Hp) (v1 : Int32) (v2 : Int32) (v3 : Int32) (q : Hp) (F : Fr (wX6_closesUp) zX6_closesUp h0 h) (e : sX6_closesUp_c4 k4 h v1 v2 v3 = some q) : Fr (wX6_closesUp) zX6_closesUp h0 q := by
  unfold sX6_closesUp_c4 at e
  obtain ⟨c1, e⟩ := gd_s e
  by_cases c : (h.1 67 v1.toNatClampNeg) ≤ v3
  · rw [if_pos c] at e
    obtain ⟨c2, e⟩ := gd_s e
    obtain ⟨h3, eh3, e⟩ := nm_s e
    have F := Fr.w1 F eh3 (Or.inl (by decide))
    exact Fr.e0 F e
  · rw [if_neg c] at e
    obtain ⟨q4, eq4, e⟩ := bd_s e
    have F := Fr.tr F (fX6_place h v1 v3 q4 eq4) (fun _ hh => absurd hh List.not_mem_nil) (by decide)
    obtain ⟨c5, e⟩ := gd_s e
    by_cases c : (q4.2.1 70 q4.1.toNatClampNeg) = 0
    · rw [if_pos c] at e
      exact fX6_closesUp_c86 h0 k4 hk4 q4.2 v1 v2 v3 q F e
    · rw [if_neg c] at e
      obtain ⟨q6, eq6, e⟩ := bd_s e
      have F := Fr.tr F (fX6_place q4.2 v1 v2 q6 eq6) (fun _ hh => absurd hh List.not_mem_nil) (by decide)
      obtain ⟨c7, e⟩ := gd_s e
      obtain ⟨c8, e⟩ := gd_s e
      obtain ⟨h9, eh9, e⟩ := nm_s e
      have F := Fr.w1 F eh9 (Or.inl (by decide))
      obtain ⟨c10, e⟩ := gd_s e
      obtain ⟨c11, e⟩ := gd_s e
      obtain ⟨h12, eh12, e⟩ := nm_s e
      have F := Fr.w1 F eh12 (Or.inl (by decide))
      obtain ⟨c13, e⟩ := gd_s e
      obtain ⟨c14, e⟩ := gd_s e
      obtain ⟨h15, eh15, e⟩ := nm_s e
      have F := Fr.w1 F eh15 (Or.inl (by decide))
      obtain ⟨x16, ex16, e⟩ := nm_s e
      exact fX6_closesUp_c86 h0 k4 hk4 h15 v1 x16 v3 q F e
theorem fX6_closesUp_b4 (h0 : Hp) : ∀ (n : Nat) (h : Hp) (v1 : Int32) (v2 : Int32) (v3 : Int32) (q : Hp), Fr (wX6_closesUp) zX6_closesUp h0 h → sX6_closesUp_b4 n h v1 v2 v3 = some q → Fr (wX6_closesUp) zX6_closesUp h0 q
  | 0 => fun _ _ _ _ _ _ e => by cases e
  | n + 1 => fun h v1 v2 v3 q F e => fX6_closesUp_c4 h0 (sX6_closesUp_b4 n) (fX6_closesUp_b4 h0 n) h v1 v2 v3 q F e
set_option maxRecDepth 10000 in
theorem fX6_closesUp (h : Hp) (a1 : Int32) (q : Hp) (e : sX6_closesUp h a1 = some q) : Fr (wX6_closesUp) zX6_closesUp h q := by
  unfold sX6_closesUp at e
  have F : Fr (wX6_closesUp) zX6_closesUp h h := Fr.rf
  exact fX6_closesUp_b4 h FU h a1 (0 : Int32) (0 : Int32) q F e

-- X6_hangsWith
abbrev wX6_hangsWith : List (Nat × Option Nat) := []
abbrev zX6_hangsWith : List Nat := []
set_option maxRecDepth 10000 in
theorem fX6_hangsWith_c73 (h0 : Hp) (k7 : Hp → Int32 → Int32 → Int32 → Option (Int32 × Hp)) (hk7 : ∀ (h : Hp) (v1 : Int32) (v3 : Int32) (v4 : Int32) (q : (Int32 × Hp)), Fr (wX6_hangsWith) zX6_hangsWith h0 h → k7 h v1 v3 v4 = some q → Fr (wX6_hangsWith) zX6_hangsWith h0 q.2) (k19 : Hp → Int32 → Int32 → Int32 → Int32 → Option (Int32 × Hp)) (hk19 : ∀ (h : Hp) (v1 : Int32) (v3 : Int32) (v4 : Int32) (v5 : Int32) (q : (Int32 × Hp)), Fr (wX6_hangsWith) zX6_hangsWith h0 h → k19 h v1 v3 v4 v5 = some q → Fr (wX6_hangsWith) zX6_hangsWith h0 q.2) (h : Hp) (v1 : Int32) (v4 : Int32) (v5 : Int32) (t0 : Int32) (t1 : Int32) (q : (Int32 × Hp)) (F : Fr (wX6_hangsWith) zX6_hangsWith h0 h) (e : sX6_hangsWith_c73 k7 k19 h v1 v4 v5 t0 t1 = some q) : Fr (wX6_hangsWith) zX6_hangsWith h0 q.2 := by
  unfold sX6_hangsWith_c73 at e
  obtain ⟨x8, ex8, e⟩ := nm_s e
  obtain ⟨x9, ex9, e⟩ := nm_s e
  exact hk19 h v1 x8 v4 x9 q F e
set_option maxRecDepth 10000 in
theorem fX6_hangsWith_c19 (h0 : Hp) (k7 : Hp → Int32 → Int32 → Int32 → Option (Int32 × Hp)) (hk7 : ∀ (h : Hp) (v1 : Int32) (v3 : Int32) (v4 : Int32) (q : (Int32 × Hp)), Fr (wX6_hangsWith) zX6_hangsWith h0 h → k7 h v1 v3 v4 = some q → Fr (wX6_hangsWith) zX6_hangsWith h0 q.2) (k19 : Hp → Int32 → Int32 → Int32 → Int32 → Option (Int32 × Hp)) (hk19 : ∀ (h : Hp) (v1 : Int32) (v3 : Int32) (v4 : Int32) (v5 : Int32) (q : (Int32 × Hp)), Fr (wX6_hangsWith) zX6_hangsWith h0 h → k19 h v1 v3 v4 v5 = some q → Fr (wX6_hangsWith) zX6_hangsWith h0 q.2) (h : Hp) (v1 : Int32) (v3 : Int32) (v4 : Int32) (v5 : Int32) (q : (Int32 × Hp)) (F : Fr (wX6_hangsWith) zX6_hangsWith h0 h) (e : sX6_hangsWith_c19 k7 k19 h v1 v3 v4 v5 = some q) : Fr (wX6_hangsWith) zX6_hangsWith h0 q.2 := by
  unfold sX6_hangsWith_c19 at e
  obtain ⟨c2, e⟩ := gd_s e
  by_cases c : (h.1 67 v1.toNatClampNeg) ≤ v5
  · rw [if_pos c] at e
    exact hk7 h v1 v3 v4 q F e
  · rw [if_neg c] at e
    obtain ⟨q3, eq3, e⟩ := bd_s e
    have F := Fr.tr F (fX6_place h v1 v5 q3 eq3) (fun _ hh => absurd hh List.not_mem_nil) (by decide)
    obtain ⟨c4, e⟩ := gd_s e
    obtain ⟨q5, eq5, e⟩ := bd_s e
    have F := Fr.tr F (fX6_place q3.2 v1 v5 q5 eq5) (fun _ hh => absurd hh List.not_mem_nil) (by decide)
    obtain ⟨c6, e⟩ := gd_s e
    obtain ⟨x7, ex7, e⟩ := nm_s e
    by_cases c : (v3 &&& x7) = 0
    · rw [if_pos c] at e
      exact fX6_hangsWith_c73 h0 k7 hk7 k19 hk19 q5.2 v1 v4 v5 (0 : Int32) v3 q F e
    · rw [if_neg c] at e
      exact fX6_hangsWith_c73 h0 k7 hk7 k19 hk19 q5.2 v1 v4 v5 x7 v3 q F e
theorem fX6_hangsWith_b19 (h0 : Hp) (k7 : Hp → Int32 → Int32 → Int32 → Option (Int32 × Hp)) (hk7 : ∀ (h : Hp) (v1 : Int32) (v3 : Int32) (v4 : Int32) (q : (Int32 × Hp)), Fr (wX6_hangsWith) zX6_hangsWith h0 h → k7 h v1 v3 v4 = some q → Fr (wX6_hangsWith) zX6_hangsWith h0 q.2) : ∀ (n : Nat) (h : Hp) (v1 : Int32) (v3 : Int32) (v4 : Int32) (v5 : Int32) (q : (Int32 × Hp)), Fr (wX6_hangsWith) zX6_hangsWith h0 h → sX6_hangsWith_b19 k7 n h v1 v3 v4 v5 = some q → Fr (wX6_hangsWith) zX6_hangsWith h0 q.2
  | 0 => fun _ _ _ _ _ _ _ e => by cases e
  | n + 1 => fun h v1 v3 v4 v5 q F e => fX6_hangsWith_c19 h0 k7 hk7 (sX6_hangsWith_b19 k7 n) (fX6_hangsWith_b19 h0 k7 hk7 n) h v1 v3 v4 v5 q F e
set_option maxRecDepth 10000 in
theorem fX6_hangsWith_c7 (h0 : Hp) (k7 : Hp → Int32 → Int32 → Int32 → Option (Int32 × Hp)) (hk7 : ∀ (h : Hp) (v1 : Int32) (v3 : Int32) (v4 : Int32) (q : (Int32 × Hp)), Fr (wX6_hangsWith) zX6_hangsWith h0 h → k7 h v1 v3 v4 = some q → Fr (wX6_hangsWith) zX6_hangsWith h0 q.2) (h : Hp) (v1 : Int32) (v3 : Int32) (v4 : Int32) (q : (Int32 × Hp)) (F : Fr (wX6_hangsWith) zX6_hangsWith h0 h) (e : sX6_hangsWith_c7 k7 h v1 v3 v4 = some q) : Fr (wX6_hangsWith) zX6_hangsWith h0 q.2 := by
  unfold sX6_hangsWith_c7 at e
  by_cases c : v4 = v3
  · rw [if_pos c] at e
    exact Fr.e1 F e
  · rw [if_neg c] at e
    exact fX6_hangsWith_b19 h0 k7 hk7 FU h v1 v3 v3 (0 : Int32) q F e
theorem fX6_hangsWith_b7 (h0 : Hp) : ∀ (n : Nat) (h : Hp) (v1 : Int32) (v3 : Int32) (v4 : Int32) (q : (Int32 × Hp)), Fr (wX6_hangsWith) zX6_hangsWith h0 h → sX6_hangsWith_b7 n h v1 v3 v4 = some q → Fr (wX6_hangsWith) zX6_hangsWith h0 q.2
  | 0 => fun _ _ _ _ _ _ e => by cases e
  | n + 1 => fun h v1 v3 v4 q F e => fX6_hangsWith_c7 h0 (sX6_hangsWith_b7 n) (fX6_hangsWith_b7 h0 n) h v1 v3 v4 q F e
set_option maxRecDepth 10000 in
theorem fX6_hangsWith (h : Hp) (a1 : Int32) (a2 : Int32) (q : (Int32 × Hp)) (e : sX6_hangsWith h a1 a2 = some q) : Fr (wX6_hangsWith) zX6_hangsWith h q.2 := by
  unfold sX6_hangsWith at e
  have F : Fr (wX6_hangsWith) zX6_hangsWith h h := Fr.rf
  obtain ⟨x1, ex1, e⟩ := nm_s e
  exact fX6_hangsWith_b7 h FU h a1 x1 (0 : Int32) q F e

-- X6_goesRound
abbrev wX6_goesRound : List (Nat × Option Nat) := [(74, none)]
abbrev zX6_goesRound : List Nat := []
set_option maxRecDepth 10000 in
theorem fX6_goesRound_c261 (kr : Hp → Int32 → Int32 → Int32 → Int32 → Option (Int32 × Hp)) (hkr : ∀ (h : Hp) (a1 : Int32) (a2 : Int32) (a3 : Int32) (a4 : Int32) (q : (Int32 × Hp)), kr h a1 a2 a3 a4 = some q → Fr (wX6_goesRound) zX6_goesRound h q.2) (h0 : Hp) (k58 : Hp → Int32 → Int32 → Int32 → Int32 → Int32 → Int32 → Int32 → Int32 → Option (Int32 × Hp)) (hk58 : ∀ (h : Hp) (v1 : Int32) (v2 : Int32) (v3 : Int32) (v4 : Int32) (v5 : Int32) (v6 : Int32) (v7 : Int32) (v8 : Int32) (q : (Int32 × Hp)), Fr (wX6_goesRound) zX6_goesRound h0 h → k58 h v1 v2 v3 v4 v5 v6 v7 v8 = some q → Fr (wX6_goesRound) zX6_goesRound h0 q.2) (h : Hp) (v1 : Int32) (v2 : Int32) (v3 : Int32) (v4 : Int32) (v5 : Int32) (v6 : Int32) (v7 : Int32) (v8 : Int32) (q : (Int32 × Hp)) (F : Fr (wX6_goesRound) zX6_goesRound h0 h) (e : sX6_goesRound_c261 kr k58 h v1 v2 v3 v4 v5 v6 v7 v8 = some q) : Fr (wX6_goesRound) zX6_goesRound h0 q.2 := by
  unfold sX6_goesRound_c261 at e
  obtain ⟨x17, ex17, e⟩ := nm_s e
  exact hk58 h v1 v2 v3 v4 v5 v6 v7 x17 q F e
set_option maxRecDepth 10000 in
theorem fX6_goesRound_c201 (kr : Hp → Int32 → Int32 → Int32 → Int32 → Option (Int32 × Hp)) (hkr : ∀ (h : Hp) (a1 : Int32) (a2 : Int32) (a3 : Int32) (a4 : Int32) (q : (Int32 × Hp)), kr h a1 a2 a3 a4 = some q → Fr (wX6_goesRound) zX6_goesRound h q.2) (h0 : Hp) (k58 : Hp → Int32 → Int32 → Int32 → Int32 → Int32 → Int32 → Int32 → Int32 → Option (Int32 × Hp)) (hk58 : ∀ (h : Hp) (v1 : Int32) (v2 : Int32) (v3 : Int32) (v4 : Int32) (v5 : Int32) (v6 : Int32) (v7 : Int32) (v8 : Int32) (q : (Int32 × Hp)), Fr (wX6_goesRound) zX6_goesRound h0 h → k58 h v1 v2 v3 v4 v5 v6 v7 v8 = some q → Fr (wX6_goesRound) zX6_goesRound h0 q.2) (h : Hp) (v1 : Int32) (v2 : Int32) (v3 : Int32) (v4 : Int32) (v5 : Int32) (v6 : Int32) (v7 : Int32) (v8 : Int32) (v10 : Int32) (v11 : Int32) (t0 : Int32) (q : (Int32 × Hp)) (F : Fr (wX6_goesRound) zX6_goesRound h0 h) (e : sX6_goesRound_c201 kr k58 h v1 v2 v3 v4 v5 v6 v7 v8 v10 v11 t0 = some q) : Fr (wX6_goesRound) zX6_goesRound h0 q.2 := by
  unfold sX6_goesRound_c201 at e
  by_cases c : ((v4 >>> (v8 &&& 31)) &&& (1 : Int32)) = (1 : Int32)
  · rw [if_pos c] at e
    exact fX6_goesRound_c261 kr hkr h0 k58 hk58 h v1 v2 v3 v4 v5 v6 v7 v8 q F e
  · rw [if_neg c] at e
    by_cases c : v10 = 0
    · rw [if_pos c] at e
      exact fX6_goesRound_c261 kr hkr h0 k58 hk58 h v1 v2 v3 v4 v5 v6 v7 v8 q F e
    · rw [if_neg c] at e
      by_cases c : t0 = 0
      · rw [if_pos c] at e
        exact fX6_goesRound_c261 kr hkr h0 k58 hk58 h v1 v2 v3 v4 v5 v6 v7 v8 q F e
      · rw [if_neg c] at e
        obtain ⟨c14, e⟩ := gd_s e
        obtain ⟨h15, eh15, e⟩ := nm_s e
        have F := Fr.w1 F eh15 (Or.inl (by decide))
        obtain ⟨q16, eq16, e⟩ := bd_s e
        have F := Fr.tr F (hkr h15 v1 (v2 + (1 : Int32)) (v3 ||| ((1 : Int32) <<< (v11 &&& 31))) (v4 ||| ((1 : Int32) <<< (v8 &&& 31))) q16 eq16) (fun _ hh => hh) (fun _ hh => hh)
        by_cases c : q16.1 = 0
        · rw [if_pos c] at e
          exact fX6_goesRound_c261 kr hkr h0 k58 hk58 q16.2 v1 v2 v3 v4 v5 v6 v7 v8 q F e
        · rw [if_neg c] at e
          exact Fr.e1 F e
set_option maxRecDepth 10000 in
theorem fX6_goesRound_c200 (kr : Hp → Int32 → Int32 → Int32 → Int32 → Option (Int32 × Hp)) (hkr : ∀ (h : Hp) (a1 : Int32) (a2 : Int32) (a3 : Int32) (a4 : Int32) (q : (Int32 × Hp)), kr h a1 a2 a3 a4 = some q → Fr (wX6_goesRound) zX6_goesRound h q.2) (h0 : Hp) (k58 : Hp → Int32 → Int32 → Int32 → Int32 → Int32 → Int32 → Int32 → Int32 → Option (Int32 × Hp)) (hk58 : ∀ (h : Hp) (v1 : Int32) (v2 : Int32) (v3 : Int32) (v4 : Int32) (v5 : Int32) (v6 : Int32) (v7 : Int32) (v8 : Int32) (q : (Int32 × Hp)), Fr (wX6_goesRound) zX6_goesRound h0 h → k58 h v1 v2 v3 v4 v5 v6 v7 v8 = some q → Fr (wX6_goesRound) zX6_goesRound h0 q.2) (h : Hp) (v1 : Int32) (v2 : Int32) (v3 : Int32) (v4 : Int32) (v5 : Int32) (v6 : Int32) (v7 : Int32) (v8 : Int32) (v10 : Int32) (v11 : Int32) (q : (Int32 × Hp)) (F : Fr (wX6_goesRound) zX6_goesRound h0 h) (e : sX6_goesRound_c200 kr k58 h v1 v2 v3 v4 v5 v6 v7 v8 v10 v11 = some q) : Fr (wX6_goesRound) zX6_goesRound h0 q.2 := by
  unfold sX6_goesRound_c200 at e
  exact fX6_goesRound_c201 kr hkr h0 k58 hk58 h v1 v2 v3 v4 v5 v6 v7 v8 v10 v11 (0 : Int32) q F e
set_option maxRecDepth 10000 in
theorem fX6_goesRound_c153 (kr : Hp → Int32 → Int32 → Int32 → Int32 → Option (Int32 × Hp)) (hkr : ∀ (h : Hp) (a1 : Int32) (a2 : Int32) (a3 : Int32) (a4 : Int32) (q : (Int32 × Hp)), kr h a1 a2 a3 a4 = some q → Fr (wX6_goesRound) zX6_goesRound h q.2) (h0 : Hp) (k58 : Hp → Int32 → Int32 → Int32 → Int32 → Int32 → Int32 → Int32 → Int32 → Option (Int32 × Hp)) (hk58 : ∀ (h : Hp) (v1 : Int32) (v2 : Int32) (v3 : Int32) (v4 : Int32) (v5 : Int32) (v6 : Int32) (v7 : Int32) (v8 : Int32) (q : (Int32 × Hp)), Fr (wX6_goesRound) zX6_goesRound h0 h → k58 h v1 v2 v3 v4 v5 v6 v7 v8 = some q → Fr (wX6_goesRound) zX6_goesRound h0 q.2) (h : Hp) (v1 : Int32) (v2 : Int32) (v3 : Int32) (v4 : Int32) (v5 : Int32) (v6 : Int32) (v7 : Int32) (v8 : Int32) (v10 : Int32) (t0 : Int32) (q : (Int32 × Hp)) (F : Fr (wX6_goesRound) zX6_goesRound h0 h) (e : sX6_goesRound_c153 kr k58 h v1 v2 v3 v4 v5 v6 v7 v8 v10 t0 = some q) : Fr (wX6_goesRound) zX6_goesRound h0 q.2 := by
  unfold sX6_goesRound_c153 at e
  by_cases c : v2 = ((h.1 54 35) - (1 : Int32))
  · rw [if_pos c] at e
    by_cases c : t0 = v6
    · rw [if_pos c] at e
      exact fX6_goesRound_c201 kr hkr h0 k58 hk58 h v1 v2 v3 v4 v5 v6 v7 v8 v10 t0 (1 : Int32) q F e
    · rw [if_neg c] at e
      exact fX6_goesRound_c201 kr hkr h0 k58 hk58 h v1 v2 v3 v4 v5 v6 v7 v8 v10 t0 (0 : Int32) q F e
  · rw [if_neg c] at e
    by_cases c : t0 = v6
    · rw [if_pos c] at e
      exact fX6_goesRound_c200 kr hkr h0 k58 hk58 h v1 v2 v3 v4 v5 v6 v7 v8 v10 t0 q F e
    · rw [if_neg c] at e
      by_cases c : ((v3 >>> (t0 &&& 31)) &&& (1 : Int32)) = 0
      · rw [if_pos c] at e
        exact fX6_goesRound_c201 kr hkr h0 k58 hk58 h v1 v2 v3 v4 v5 v6 v7 v8 v10 t0 (1 : Int32) q F e
      · rw [if_neg c] at e
        exact fX6_goesRound_c200 kr hkr h0 k58 hk58 h v1 v2 v3 v4 v5 v6 v7 v8 v10 t0 q F e
set_option maxRecDepth 10000 in
theorem fX6_goesRound_c129 (kr : Hp → Int32 → Int32 → Int32 → Int32 → Option (Int32 × Hp)) (hkr : ∀ (h : Hp) (a1 : Int32) (a2 : Int32) (a3 : Int32) (a4 : Int32) (q : (Int32 × Hp)), kr h a1 a2 a3 a4 = some q → Fr (wX6_goesRound) zX6_goesRound h q.2) (h0 : Hp) (k58 : Hp → Int32 → Int32 → Int32 → Int32 → Int32 → Int32 → Int32 → Int32 → Option (Int32 × Hp)) (hk58 : ∀ (h : Hp) (v1 : Int32) (v2 : Int32) (v3 : Int32) (v4 : Int32) (v5 : Int32) (v6 : Int32) (v7 : Int32) (v8 : Int32) (q : (Int32 × Hp)), Fr (wX6_goesRound) zX6_goesRound h0 h → k58 h v1 v2 v3 v4 v5 v6 v7 v8 = some q → Fr (wX6_goesRound) zX6_goesRound h0 q.2) (h : Hp) (v1 : Int32) (v2 : Int32) (v3 : Int32) (v4 : Int32) (v5 : Int32) (v6 : Int32) (v7 : Int32) (v8 : Int32) (v9 : Int32) (t0 : Int32) (q : (Int32 × Hp)) (F : Fr (wX6_goesRound) zX6_goesRound h0 h) (e : sX6_goesRound_c129 kr k58 h v1 v2 v3 v4 v5 v6 v7 v8 v9 t0 = some q) : Fr (wX6_goesRound) zX6_goesRound h0 q.2 := by
  unfold sX6_goesRound_c129 at e
  by_cases c : v7 = 0
  · rw [if_pos c] at e
    obtain ⟨c12, e⟩ := gd_s e
    exact fX6_goesRound_c153 kr hkr h0 k58 hk58 h v1 v2 v3 v4 v5 v6 v7 v8 t0 (h.1 69 v9.toNatClampNeg) q F e
  · rw [if_neg c] at e
    obtain ⟨c13, e⟩ := gd_s e
    exact fX6_goesRound_c153 kr hkr h0 k58 hk58 h v1 v2 v3 v4 v5 v6 v7 v8 t0 (h.1 68 v9.toNatClampNeg) q F e
set_option maxRecDepth 10000 in
theorem fX6_goesRound_c58 (kr : Hp → Int32 → Int32 → Int32 → Int32 → Option (Int32 × Hp)) (hkr : ∀ (h : Hp) (a1 : Int32) (a2 : Int32) (a3 : Int32) (a4 : Int32) (q : (Int32 × Hp)), kr h a1 a2 a3 a4 = some q → Fr (wX6_goesRound) zX6_goesRound h q.2) (h0 : Hp) (k58 : Hp → Int32 → Int32 → Int32 → Int32 → Int32 → Int32 → Int32 → Int32 → Option (Int32 × Hp)) (hk58 : ∀ (h : Hp) (v1 : Int32) (v2 : Int32) (v3 : Int32) (v4 : Int32) (v5 : Int32) (v6 : Int32) (v7 : Int32) (v8 : Int32) (q : (Int32 × Hp)), Fr (wX6_goesRound) zX6_goesRound h0 h → k58 h v1 v2 v3 v4 v5 v6 v7 v8 = some q → Fr (wX6_goesRound) zX6_goesRound h0 q.2) (h : Hp) (v1 : Int32) (v2 : Int32) (v3 : Int32) (v4 : Int32) (v5 : Int32) (v6 : Int32) (v7 : Int32) (v8 : Int32) (q : (Int32 × Hp)) (F : Fr (wX6_goesRound) zX6_goesRound h0 h) (e : sX6_goesRound_c58 kr k58 h v1 v2 v3 v4 v5 v6 v7 v8 = some q) : Fr (wX6_goesRound) zX6_goesRound h0 q.2 := by
  unfold sX6_goesRound_c58 at e
  obtain ⟨c6, e⟩ := gd_s e
  by_cases c : (h.1 67 v1.toNatClampNeg) ≤ v8
  · rw [if_pos c] at e
    exact Fr.e1 F e
  · rw [if_neg c] at e
    obtain ⟨q7, eq7, e⟩ := bd_s e
    have F := Fr.tr F (fX6_place h v1 v8 q7 eq7) (fun _ hh => absurd hh List.not_mem_nil) (by decide)
    by_cases c : v7 = 0
    · rw [if_pos c] at e
      obtain ⟨c8, e⟩ := gd_s e
      obtain ⟨c9, e⟩ := gd_s e
      by_cases c : (q7.2.1 68 q7.1.toNatClampNeg) = (q7.2.1 68 v5.toNatClampNeg)
      · rw [if_pos c] at e
        exact fX6_goesRound_c129 kr hkr h0 k58 hk58 q7.2 v1 v2 v3 v4 v5 v6 v7 v8 q7.1 (1 : Int32) q F e
      · rw [if_neg c] at e
        exact fX6_goesRound_c129 kr hkr h0 k58 hk58 q7.2 v1 v2 v3 v4 v5 v6 v7 v8 q7.1 (0 : Int32) q F e
    · rw [if_neg c] at e
      obtain ⟨c10, e⟩ := gd_s e
      obtain ⟨c11, e⟩ := gd_s e
      by_cases c : (q7.2.1 69 q7.1.toNatClampNeg) = (q7.2.1 69 v5.toNatClampNeg)
      · rw [if_pos c] at e
        exact fX6_goesRound_c129 kr hkr h0 k58 hk58 q7.2 v1 v2 v3 v4 v5 v6 v7 v8 q7.1 (1 : Int32) q F e
      · rw [if_neg c] at e
        exact fX6_goesRound_c129 kr hkr h0 k58 hk58 q7.2 v1 v2 v3 v4 v5 v6 v7 v8 q7.1 (0 : Int32) q F e
theorem fX6_goesRound_b58 (kr : Hp → Int32 → Int32 → Int32 → Int32 → Option (Int32 × Hp)) (hkr : ∀ (h : Hp) (a1 : Int32) (a2 : Int32) (a3 : Int32) (a4 : Int32) (q : (Int32 × Hp)), kr h a1 a2 a3 a4 = some q → Fr (wX6_goesRound) zX6_goesRound h q.2) (h0 : Hp) : ∀ (n : Nat) (h : Hp) (v1 : Int32) (v2 : Int32) (v3 : Int32) (v4 : Int32) (v5 : Int32) (v6 : Int32) (v7 : Int32) (v8 : Int32) (q : (Int32 × Hp)), Fr (wX6_goesRound) zX6_goesRound h0 h → sX6_goesRound_b58 kr n h v1 v2 v3 v4 v5 v6 v7 v8 = some q → Fr (wX6_goesRound) zX6_goesRound h0 q.2
  | 0 => fun _ _ _ _ _ _ _ _ _ _ _ e => by cases e
  | n + 1 => fun h v1 v2 v3 v4 v5 v6 v7 v8 q F e => fX6_goesRound_c58 kr hkr h0 (sX6_goesRound_b58 kr n) (fX6_goesRound_b58 kr hkr h0 n) h v1 v2 v3 v4 v5 v6 v7 v8 q F e
set_option maxRecDepth 10000 in
theorem fX6_goesRound_c53 (kr : Hp → Int32 → Int32 → Int32 → Int32 → Option (Int32 × Hp)) (hkr : ∀ (h : Hp) (a1 : Int32) (a2 : Int32) (a3 : Int32) (a4 : Int32) (q : (Int32 × Hp)), kr h a1 a2 a3 a4 = some q → Fr (wX6_goesRound) zX6_goesRound h q.2) (h0 : Hp) (h : Hp) (v1 : Int32) (v2 : Int32) (v3 : Int32) (v4 : Int32) (v5 : Int32) (v6 : Int32) (t0 : Int32) (q : (Int32 × Hp)) (F : Fr (wX6_goesRound) zX6_goesRound h0 h) (e : sX6_goesRound_c53 kr h v1 v2 v3 v4 v5 v6 t0 = some q) : Fr (wX6_goesRound) zX6_goesRound h0 q.2 := by
  unfold sX6_goesRound_c53 at e
  exact fX6_goesRound_b58 kr hkr h0 FU h v1 v2 v3 v4 v5 v6 t0 (0 : Int32) q F e
set_option maxRecDepth 10000 in
theorem fX6_goesRound_e (kr : Hp → Int32 → Int32 → Int32 → Int32 → Option (Int32 × Hp)) (hkr : ∀ (h : Hp) (a1 : Int32) (a2 : Int32) (a3 : Int32) (a4 : Int32) (q : (Int32 × Hp)), kr h a1 a2 a3 a4 = some q → Fr (wX6_goesRound) zX6_goesRound h q.2) (h : Hp) (a1 : Int32) (a2 : Int32) (a3 : Int32) (a4 : Int32) (q : (Int32 × Hp)) (e : sX6_goesRound_e kr h a1 a2 a3 a4 = some q) : Fr (wX6_goesRound) zX6_goesRound h q.2 := by
  unfold sX6_goesRound_e at e
  have F : Fr (wX6_goesRound) zX6_goesRound h h := Fr.rf
  by_cases c : a2 = (h.1 54 35)
  · rw [if_pos c] at e
    exact Fr.e1 F e
  · rw [if_neg c] at e
    obtain ⟨c1, e⟩ := gd_s e
    obtain ⟨q2, eq2, e⟩ := bd_s e
    have F := Fr.tr F (fX6_place h a1 (h.1 74 (a2 - (1 : Int32)).toNatClampNeg) q2 eq2) (fun _ hh => absurd hh List.not_mem_nil) (by decide)
    obtain ⟨q3, eq3, e⟩ := bd_s e
    have F := Fr.tr F (fX6_place q2.2 a1 (q2.2.1 74 (0 : Int32).toNatClampNeg) q3 eq3) (fun _ hh => absurd hh List.not_mem_nil) (by decide)
    obtain ⟨c4, e⟩ := gd_s e
    obtain ⟨x5, ex5, e⟩ := nm_s e
    by_cases c : (a2 - a2 / (2 : Int32) * (2 : Int32)) = (1 : Int32)
    · rw [if_pos c] at e
      exact fX6_goesRound_c53 kr hkr h q3.2 a1 a2 a3 a4 q2.1 x5 (1 : Int32) q F e
    · rw [if_neg c] at e
      exact fX6_goesRound_c53 kr hkr h q3.2 a1 a2 a3 a4 q2.1 x5 (0 : Int32) q F e
theorem fX6_goesRound : ∀ (n : Nat) (h : Hp) (a1 : Int32) (a2 : Int32) (a3 : Int32) (a4 : Int32) (q : (Int32 × Hp)), sX6_goesRound n h a1 a2 a3 a4 = some q → Fr (wX6_goesRound) zX6_goesRound h q.2
  | 0 => fun _ _ _ _ _ _ e => by cases e
  | n + 1 => fun h a1 a2 a3 a4 q e => fX6_goesRound_e (sX6_goesRound n) (fX6_goesRound n) h a1 a2 a3 a4 q e

-- X6_row
abbrev wX6_row : List (Nat × Option Nat) := [(54, some 0)]
abbrev zX6_row : List Nat := []
set_option maxRecDepth 10000 in
theorem fX6_row_c46 (h0 : Hp) (h : Hp) (t0 : Int64) (q : (Int64 × Hp)) (F : Fr (wX6_row) zX6_row h0 h) (e : sX6_row_c46 h t0 = some q) : Fr (wX6_row) zX6_row h0 q.2 := by
  unfold sX6_row_c46 at e
  exact Fr.e1 F e
set_option maxRecDepth 10000 in
theorem fX6_row_c22 (h0 : Hp) (h : Hp) (v1 : Int32) (t0 : Int32) (q : (Int64 × Hp)) (F : Fr (wX6_row) zX6_row h0 h) (e : sX6_row_c22 h v1 t0 = some q) : Fr (wX6_row) zX6_row h0 q.2 := by
  unfold sX6_row_c22 at e
  obtain ⟨q2, eq2, e⟩ := bd_s e
  have F := Fr.tr F (fX6_flag h t0 q2 eq2) (fun _ hh => absurd hh List.not_mem_nil) (by decide)
  obtain ⟨h3, eh3, e⟩ := nm_s e
  have F := Fr.w1 F eh3 (Or.inr (by decide))
  by_cases c : (h3.1 54 0) = (1 : Int32)
  · rw [if_pos c] at e
    exact fX6_row_c46 h0 h3 (0 : Int64) q F e
  · rw [if_neg c] at e
    obtain ⟨c4, e⟩ := gd_s e
    exact fX6_row_c46 h0 h3 (h3.2 55 v1.toNatClampNeg) q F e
set_option maxRecDepth 10000 in
theorem fX6_row (h : Hp) (a1 : Int32) (q : (Int64 × Hp)) (e : sX6_row h a1 = some q) : Fr (wX6_row) zX6_row h q.2 := by
  unfold sX6_row at e
  have F : Fr (wX6_row) zX6_row h h := Fr.rf
  obtain ⟨q1, eq1, e⟩ := bd_s e
  have F := Fr.tr F (fX6_in h a1.toInt64 (0 : Int64) (((h.1 54 1) - (1 : Int32)).toInt64) q1 eq1) (fun _ hh => absurd hh List.not_mem_nil) (by decide)
  by_cases c : q1.1 = 0
  · rw [if_pos c] at e
    exact fX6_row_c22 h q1.2 a1 (1 : Int32) q F e
  · rw [if_neg c] at e
    exact fX6_row_c22 h q1.2 a1 (0 : Int32) q F e

-- X1_heatOf
abbrev wX1_heatOf (r : Nat) : List (Nat × Option Nat) := []
abbrev zX1_heatOf : List Nat := []
set_option maxRecDepth 10000 in
theorem fX1_heatOf (h : Hp) (r : Nat) (a1 : Int32) (q : (Int32 × Hp)) (e : sX1_heatOf h r a1 = some q) : Fr (wX1_heatOf r) zX1_heatOf h q.2 := by
  unfold sX1_heatOf at e
  obtain ⟨hr, e⟩ := gd_s e
  have hr := isC_t hr
  have F : Fr (wX1_heatOf r) zX1_heatOf h h := Fr.rf
  obtain ⟨c1, e⟩ := gd_s e
  obtain ⟨q2, eq2, e⟩ := bd_s e
  have F := Fr.tr F (fX1_high h r a1 q2 eq2) (fun _ hh => absurd hh List.not_mem_nil) (by decide)
  obtain ⟨q3, eq3, e⟩ := bd_s e
  have F := Fr.tr F (fX1_low q2.2 r a1 q3 eq3) (fun _ hh => absurd hh List.not_mem_nil) (by decide)
  exact Fr.e1 F e

-- X1_heatAbove
abbrev wX1_heatAbove (r : Nat) : List (Nat × Option Nat) := []
abbrev zX1_heatAbove : List Nat := []
set_option maxRecDepth 10000 in
theorem fX1_heatAbove_c63 (h0 : Hp) (r : Nat) (k5 : Hp → Nat → Int32 → Int32 → Int32 → Int32 → Option (Int32 × Hp)) (hk5 : ∀ (h : Hp) (v1 : Int32) (v2 : Int32) (v3 : Int32) (v4 : Int32) (hr : ck r = 1) (q : (Int32 × Hp)), Fr (wX1_heatAbove r) zX1_heatAbove h0 h → k5 h r v1 v2 v3 v4 = some q → Fr (wX1_heatAbove r) zX1_heatAbove h0 q.2) (h : Hp) (v1 : Int32) (v2 : Int32) (v3 : Int32) (v4 : Int32) (hr : ck r = 1) (q : (Int32 × Hp)) (F : Fr (wX1_heatAbove r) zX1_heatAbove h0 h) (e : sX1_heatAbove_c63 k5 h r v1 v2 v3 v4 = some q) : Fr (wX1_heatAbove r) zX1_heatAbove h0 q.2 := by
  unfold sX1_heatAbove_c63 at e
  obtain ⟨x7, ex7, e⟩ := nm_s e
  exact hk5 h v1 v2 v3 x7 hr q F e
set_option maxRecDepth 10000 in
theorem fX1_heatAbove_c5 (h0 : Hp) (r : Nat) (k5 : Hp → Nat → Int32 → Int32 → Int32 → Int32 → Option (Int32 × Hp)) (hk5 : ∀ (h : Hp) (v1 : Int32) (v2 : Int32) (v3 : Int32) (v4 : Int32) (hr : ck r = 1) (q : (Int32 × Hp)), Fr (wX1_heatAbove r) zX1_heatAbove h0 h → k5 h r v1 v2 v3 v4 = some q → Fr (wX1_heatAbove r) zX1_heatAbove h0 q.2) (h : Hp) (v1 : Int32) (v2 : Int32) (v3 : Int32) (v4 : Int32) (hr : ck r = 1) (q : (Int32 × Hp)) (F : Fr (wX1_heatAbove r) zX1_heatAbove h0 h) (e : sX1_heatAbove_c5 k5 h r v1 v2 v3 v4 = some q) : Fr (wX1_heatAbove r) zX1_heatAbove h0 q.2 := by
  unfold sX1_heatAbove_c5 at e
  by_cases c : (h.1 r 4) ≤ v4
  · rw [if_pos c] at e
    exact Fr.e1 F e
  · rw [if_neg c] at e
    obtain ⟨c1, e⟩ := gd_s e
    by_cases c : (h.1 (r + 1) v4.toNatClampNeg) = v1
    · rw [if_pos c] at e
      obtain ⟨q2, eq2, e⟩ := bd_s e
      have F := Fr.tr F (fX1_high h r v4 q2 eq2) (fun _ hh => absurd hh List.not_mem_nil) (by decide)
      by_cases c : q2.1 ≤ v2
      · rw [if_pos c] at e
        exact fX1_heatAbove_c63 h0 r k5 hk5 q2.2 v1 v2 v3 v4 hr q F e
      · rw [if_neg c] at e
        obtain ⟨c3, e⟩ := gd_s e
        obtain ⟨q4, eq4, e⟩ := bd_s e
        have F := Fr.tr F (fX1_high q2.2 r v4 q4 eq4) (fun _ hh => absurd hh List.not_mem_nil) (by decide)
        obtain ⟨q5, eq5, e⟩ := bd_s e
        have F := Fr.tr F (fX1_low q4.2 r v4 q5 eq5) (fun _ hh => absurd hh List.not_mem_nil) (by decide)
        obtain ⟨x6, ex6, e⟩ := nm_s e
        exact fX1_heatAbove_c63 h0 r k5 hk5 q5.2 v1 v2 x6 v4 hr q F e
    · rw [if_neg c] at e
      exact fX1_heatAbove_c63 h0 r k5 hk5 h v1 v2 v3 v4 hr q F e
theorem fX1_heatAbove_b5 (h0 : Hp) (r : Nat) : ∀ (n : Nat) (h : Hp) (v1 : Int32) (v2 : Int32) (v3 : Int32) (v4 : Int32) (hr : ck r = 1) (q : (Int32 × Hp)), Fr (wX1_heatAbove r) zX1_heatAbove h0 h → sX1_heatAbove_b5 n h r v1 v2 v3 v4 = some q → Fr (wX1_heatAbove r) zX1_heatAbove h0 q.2
  | 0 => fun _ _ _ _ _ _ _ _ e => by cases e
  | n + 1 => fun h v1 v2 v3 v4 hr q F e => fX1_heatAbove_c5 h0 r (sX1_heatAbove_b5 n) (fX1_heatAbove_b5 h0 r n) h v1 v2 v3 v4 hr q F e
set_option maxRecDepth 10000 in
theorem fX1_heatAbove (h : Hp) (r : Nat) (a1 : Int32) (a2 : Int32) (q : (Int32 × Hp)) (e : sX1_heatAbove h r a1 a2 = some q) : Fr (wX1_heatAbove r) zX1_heatAbove h q.2 := by
  unfold sX1_heatAbove at e
  obtain ⟨hr, e⟩ := gd_s e
  have hr := isC_t hr
  have F : Fr (wX1_heatAbove r) zX1_heatAbove h h := Fr.rf
  exact fX1_heatAbove_b5 h r FU h a1 a2 (0 : Int32) (0 : Int32) hr q F e

-- X1_howManyAt
abbrev wX1_howManyAt (r : Nat) : List (Nat × Option Nat) := []
abbrev zX1_howManyAt : List Nat := []
set_option maxRecDepth 10000 in
theorem fX1_howManyAt_c48 (h0 : Hp) (r : Nat) (k5 : Hp → Nat → Int32 → Int32 → Int32 → Int32 → Option (Int32 × Hp)) (hk5 : ∀ (h : Hp) (v1 : Int32) (v2 : Int32) (v3 : Int32) (v4 : Int32) (hr : ck r = 1) (q : (Int32 × Hp)), Fr (wX1_howManyAt r) zX1_howManyAt h0 h → k5 h r v1 v2 v3 v4 = some q → Fr (wX1_howManyAt r) zX1_howManyAt h0 q.2) (h : Hp) (v1 : Int32) (v2 : Int32) (v3 : Int32) (v4 : Int32) (hr : ck r = 1) (q : (Int32 × Hp)) (F : Fr (wX1_howManyAt r) zX1_howManyAt h0 h) (e : sX1_howManyAt_c48 k5 h r v1 v2 v3 v4 = some q) : Fr (wX1_howManyAt r) zX1_howManyAt h0 q.2 := by
  unfold sX1_howManyAt_c48 at e
  obtain ⟨x5, ex5, e⟩ := nm_s e
  exact hk5 h v1 v2 v3 x5 hr q F e
set_option maxRecDepth 10000 in
theorem fX1_howManyAt_c5 (h0 : Hp) (r : Nat) (k5 : Hp → Nat → Int32 → Int32 → Int32 → Int32 → Option (Int32 × Hp)) (hk5 : ∀ (h : Hp) (v1 : Int32) (v2 : Int32) (v3 : Int32) (v4 : Int32) (hr : ck r = 1) (q : (Int32 × Hp)), Fr (wX1_howManyAt r) zX1_howManyAt h0 h → k5 h r v1 v2 v3 v4 = some q → Fr (wX1_howManyAt r) zX1_howManyAt h0 q.2) (h : Hp) (v1 : Int32) (v2 : Int32) (v3 : Int32) (v4 : Int32) (hr : ck r = 1) (q : (Int32 × Hp)) (F : Fr (wX1_howManyAt r) zX1_howManyAt h0 h) (e : sX1_howManyAt_c5 k5 h r v1 v2 v3 v4 = some q) : Fr (wX1_howManyAt r) zX1_howManyAt h0 q.2 := by
  unfold sX1_howManyAt_c5 at e
  by_cases c : (h.1 r 4) ≤ v4
  · rw [if_pos c] at e
    exact Fr.e1 F e
  · rw [if_neg c] at e
    obtain ⟨c1, e⟩ := gd_s e
    by_cases c : (h.1 (r + 1) v4.toNatClampNeg) = v1
    · rw [if_pos c] at e
      obtain ⟨q2, eq2, e⟩ := bd_s e
      have F := Fr.tr F (fX1_low h r v4 q2 eq2) (fun _ hh => absurd hh List.not_mem_nil) (by decide)
      by_cases c : v2 < q2.1
      · rw [if_pos c] at e
        exact fX1_howManyAt_c48 h0 r k5 hk5 q2.2 v1 v2 v3 v4 hr q F e
      · rw [if_neg c] at e
        obtain ⟨q3, eq3, e⟩ := bd_s e
        have F := Fr.tr F (fX1_high q2.2 r v4 q3 eq3) (fun _ hh => absurd hh List.not_mem_nil) (by decide)
        by_cases c : q3.1 < v2
        · rw [if_pos c] at e
          exact fX1_howManyAt_c48 h0 r k5 hk5 q3.2 v1 v2 v3 v4 hr q F e
        · rw [if_neg c] at e
          obtain ⟨x4, ex4, e⟩ := nm_s e
          exact fX1_howManyAt_c48 h0 r k5 hk5 q3.2 v1 v2 x4 v4 hr q F e
    · rw [if_neg c] at e
      exact fX1_howManyAt_c48 h0 r k5 hk5 h v1 v2 v3 v4 hr q F e
theorem fX1_howManyAt_b5 (h0 : Hp) (r : Nat) : ∀ (n : Nat) (h : Hp) (v1 : Int32) (v2 : Int32) (v3 : Int32) (v4 : Int32) (hr : ck r = 1) (q : (Int32 × Hp)), Fr (wX1_howManyAt r) zX1_howManyAt h0 h → sX1_howManyAt_b5 n h r v1 v2 v3 v4 = some q → Fr (wX1_howManyAt r) zX1_howManyAt h0 q.2
  | 0 => fun _ _ _ _ _ _ _ _ e => by cases e
  | n + 1 => fun h v1 v2 v3 v4 hr q F e => fX1_howManyAt_c5 h0 r (sX1_howManyAt_b5 n) (fX1_howManyAt_b5 h0 r n) h v1 v2 v3 v4 hr q F e
set_option maxRecDepth 10000 in
theorem fX1_howManyAt (h : Hp) (r : Nat) (a1 : Int32) (a2 : Int32) (q : (Int32 × Hp)) (e : sX1_howManyAt h r a1 a2 = some q) : Fr (wX1_howManyAt r) zX1_howManyAt h q.2 := by
  unfold sX1_howManyAt at e
  obtain ⟨hr, e⟩ := gd_s e
  have hr := isC_t hr
  have F : Fr (wX1_howManyAt r) zX1_howManyAt h h := Fr.rf
  exact fX1_howManyAt_b5 h r FU h a1 a2 (0 : Int32) (0 : Int32) hr q F e

-- X1_capThrough
abbrev wX1_capThrough (r : Nat) : List (Nat × Option Nat) := []
abbrev zX1_capThrough : List Nat := []
set_option maxRecDepth 10000 in
theorem fX1_capThrough_c58 (h0 : Hp) (r : Nat) (k6 : Hp → Nat → Int32 → Int32 → Int32 → Int32 → Int32 → Option (Int32 × Hp)) (hk6 : ∀ (h : Hp) (v1 : Int32) (v2 : Int32) (v3 : Int32) (v4 : Int32) (v5 : Int32) (hr : ck r = 1) (q : (Int32 × Hp)), Fr (wX1_capThrough r) zX1_capThrough h0 h → k6 h r v1 v2 v3 v4 v5 = some q → Fr (wX1_capThrough r) zX1_capThrough h0 q.2) (h : Hp) (v1 : Int32) (v2 : Int32) (v3 : Int32) (v4 : Int32) (v5 : Int32) (hr : ck r = 1) (q : (Int32 × Hp)) (F : Fr (wX1_capThrough r) zX1_capThrough h0 h) (e : sX1_capThrough_c58 k6 h r v1 v2 v3 v4 v5 = some q) : Fr (wX1_capThrough r) zX1_capThrough h0 q.2 := by
  unfold sX1_capThrough_c58 at e
  obtain ⟨x6, ex6, e⟩ := nm_s e
  exact hk6 h v1 v2 v3 v4 x6 hr q F e
set_option maxRecDepth 10000 in
theorem fX1_capThrough_c6 (h0 : Hp) (r : Nat) (k6 : Hp → Nat → Int32 → Int32 → Int32 → Int32 → Int32 → Option (Int32 × Hp)) (hk6 : ∀ (h : Hp) (v1 : Int32) (v2 : Int32) (v3 : Int32) (v4 : Int32) (v5 : Int32) (hr : ck r = 1) (q : (Int32 × Hp)), Fr (wX1_capThrough r) zX1_capThrough h0 h → k6 h r v1 v2 v3 v4 v5 = some q → Fr (wX1_capThrough r) zX1_capThrough h0 q.2) (h : Hp) (v1 : Int32) (v2 : Int32) (v3 : Int32) (v4 : Int32) (v5 : Int32) (hr : ck r = 1) (q : (Int32 × Hp)) (F : Fr (wX1_capThrough r) zX1_capThrough h0 h) (e : sX1_capThrough_c6 k6 h r v1 v2 v3 v4 v5 = some q) : Fr (wX1_capThrough r) zX1_capThrough h0 q.2 := by
  unfold sX1_capThrough_c6 at e
  by_cases c : (h.1 r 4) ≤ v5
  · rw [if_pos c] at e
    exact Fr.e1 F e
  · rw [if_neg c] at e
    obtain ⟨c1, e⟩ := gd_s e
    by_cases c : (h.1 (r + 1) v5.toNatClampNeg) = v1
    · rw [if_pos c] at e
      obtain ⟨q2, eq2, e⟩ := bd_s e
      have F := Fr.tr F (fX1_low h r v5 q2 eq2) (fun _ hh => absurd hh List.not_mem_nil) (by decide)
      by_cases c : v2 < q2.1
      · rw [if_pos c] at e
        exact fX1_capThrough_c58 h0 r k6 hk6 q2.2 v1 v2 v3 v4 v5 hr q F e
      · rw [if_neg c] at e
        obtain ⟨q3, eq3, e⟩ := bd_s e
        have F := Fr.tr F (fX1_high q2.2 r v5 q3 eq3) (fun _ hh => absurd hh List.not_mem_nil) (by decide)
        by_cases c : q3.1 < v3
        · rw [if_pos c] at e
          exact fX1_capThrough_c58 h0 r k6 hk6 q3.2 v1 v2 v3 v4 v5 hr q F e
        · rw [if_neg c] at e
          obtain ⟨c4, e⟩ := gd_s e
          obtain ⟨x5, ex5, e⟩ := nm_s e
          exact fX1_capThrough_c58 h0 r k6 hk6 q3.2 v1 v2 v3 x5 v5 hr q F e
    · rw [if_neg c] at e
      exact fX1_capThrough_c58 h0 r k6 hk6 h v1 v2 v3 v4 v5 hr q F e
theorem fX1_capThrough_b6 (h0 : Hp) (r : Nat) : ∀ (n : Nat) (h : Hp) (v1 : Int32) (v2 : Int32) (v3 : Int32) (v4 : Int32) (v5 : Int32) (hr : ck r = 1) (q : (Int32 × Hp)), Fr (wX1_capThrough r) zX1_capThrough h0 h → sX1_capThrough_b6 n h r v1 v2 v3 v4 v5 = some q → Fr (wX1_capThrough r) zX1_capThrough h0 q.2
  | 0 => fun _ _ _ _ _ _ _ _ _ e => by cases e
  | n + 1 => fun h v1 v2 v3 v4 v5 hr q F e => fX1_capThrough_c6 h0 r (sX1_capThrough_b6 n) (fX1_capThrough_b6 h0 r n) h v1 v2 v3 v4 v5 hr q F e
set_option maxRecDepth 10000 in
theorem fX1_capThrough (h : Hp) (r : Nat) (a1 : Int32) (a2 : Int32) (a3 : Int32) (q : (Int32 × Hp)) (e : sX1_capThrough h r a1 a2 a3 = some q) : Fr (wX1_capThrough r) zX1_capThrough h q.2 := by
  unfold sX1_capThrough at e
  obtain ⟨hr, e⟩ := gd_s e
  have hr := isC_t hr
  have F : Fr (wX1_capThrough r) zX1_capThrough h h := Fr.rf
  exact fX1_capThrough_b6 h r FU h a1 a2 a3 (0 : Int32) (0 : Int32) hr q F e

-- X2_lay
abbrev wX2_lay (r : Nat) (a1 : Nat) : List (Nat × Option Nat) := [(r, some 1), (r, some 2), (r, some 14), (r + 7, none), (r + 1, none), (r + 3, none), (r + 4, none), (r + 5, none), (r + 6, none), (r + 2, none)]
abbrev zX2_lay : List Nat := []
set_option maxRecDepth 10000 in
theorem fX2_lay_c243 (h0 : Hp) (r : Nat) (a1 : Nat) (k16 : Hp → Nat → Nat → Int32 → Int32 → Int32 → Option Hp) (hk16 : ∀ (h : Hp) (v2 : Int32) (v3 : Int32) (v4 : Int32) (hr : ck r = 2) (ha1 : ck a1 = 1) (q : Hp), Fr (wX2_lay r a1) zX2_lay h0 h → k16 h r a1 v2 v3 v4 = some q → Fr (wX2_lay r a1) zX2_lay h0 q) (h : Hp) (v2 : Int32) (v3 : Int32) (v4 : Int32) (t0 : Int32) (t1 : Int32) (hr : ck r = 2) (ha1 : ck a1 = 1) (q : Hp) (F : Fr (wX2_lay r a1) zX2_lay h0 h) (e : sX2_lay_c243 k16 h r a1 v2 v3 v4 t0 t1 = some q) : Fr (wX2_lay r a1) zX2_lay h0 q := by
  unfold sX2_lay_c243 at e
  obtain ⟨c22, e⟩ := gd_s e
  obtain ⟨h23, eh23, e⟩ := nm_s e
  have F := Fr.w1 F eh23 (Or.inl (by simp))
  obtain ⟨x24, ex24, e⟩ := nm_s e
  exact hk16 h23 v2 v3 x24 hr ha1 q F e
set_option maxRecDepth 10000 in
theorem fX2_lay_c242 (h0 : Hp) (r : Nat) (a1 : Nat) (k16 : Hp → Nat → Nat → Int32 → Int32 → Int32 → Option Hp) (hk16 : ∀ (h : Hp) (v2 : Int32) (v3 : Int32) (v4 : Int32) (hr : ck r = 2) (ha1 : ck a1 = 1) (q : Hp), Fr (wX2_lay r a1) zX2_lay h0 h → k16 h r a1 v2 v3 v4 = some q → Fr (wX2_lay r a1) zX2_lay h0 q) (h : Hp) (v2 : Int32) (v3 : Int32) (v4 : Int32) (t0 : Int32) (hr : ck r = 2) (ha1 : ck a1 = 1) (q : Hp) (F : Fr (wX2_lay r a1) zX2_lay h0 h) (e : sX2_lay_c242 k16 h r a1 v2 v3 v4 t0 = some q) : Fr (wX2_lay r a1) zX2_lay h0 q := by
  unfold sX2_lay_c242 at e
  exact fX2_lay_c243 h0 r a1 k16 hk16 h v2 v3 v4 (0 : Int32) t0 hr ha1 q F e
set_option maxRecDepth 10000 in
theorem fX2_lay_c219 (h0 : Hp) (r : Nat) (a1 : Nat) (k16 : Hp → Nat → Nat → Int32 → Int32 → Int32 → Option Hp) (hk16 : ∀ (h : Hp) (v2 : Int32) (v3 : Int32) (v4 : Int32) (hr : ck r = 2) (ha1 : ck a1 = 1) (q : Hp), Fr (wX2_lay r a1) zX2_lay h0 h → k16 h r a1 v2 v3 v4 = some q → Fr (wX2_lay r a1) zX2_lay h0 q) (h : Hp) (v2 : Int32) (v3 : Int32) (v4 : Int32) (v5 : Int32) (v6 : Int32) (v8 : Int32) (t0 : Int32) (t1 : Int32) (hr : ck r = 2) (ha1 : ck a1 = 1) (q : Hp) (F : Fr (wX2_lay r a1) zX2_lay h0 h) (e : sX2_lay_c219 k16 h r a1 v2 v3 v4 v5 v6 v8 t0 t1 = some q) : Fr (wX2_lay r a1) zX2_lay h0 q := by
  unfold sX2_lay_c219 at e
  obtain ⟨c20, e⟩ := gd_s e
  obtain ⟨h21, eh21, e⟩ := nm_s e
  have F := Fr.w1 F eh21 (Or.inl (by simp))
  by_cases c : v8 = 0
  · rw [if_pos c] at e
    exact fX2_lay_c242 h0 r a1 k16 hk16 h21 v2 v3 v4 v4 hr ha1 q F e
  · rw [if_neg c] at e
    by_cases c : v6 = v5
    · rw [if_pos c] at e
      exact fX2_lay_c243 h0 r a1 k16 hk16 h21 v2 v3 v4 (1 : Int32) v4 hr ha1 q F e
    · rw [if_neg c] at e
      exact fX2_lay_c242 h0 r a1 k16 hk16 h21 v2 v3 v4 v4 hr ha1 q F e
set_option maxRecDepth 10000 in
theorem fX2_lay_c185 (h0 : Hp) (r : Nat) (a1 : Nat) (k16 : Hp → Nat → Nat → Int32 → Int32 → Int32 → Option Hp) (hk16 : ∀ (h : Hp) (v2 : Int32) (v3 : Int32) (v4 : Int32) (hr : ck r = 2) (ha1 : ck a1 = 1) (q : Hp), Fr (wX2_lay r a1) zX2_lay h0 h → k16 h r a1 v2 v3 v4 = some q → Fr (wX2_lay r a1) zX2_lay h0 q) (h : Hp) (v2 : Int32) (v3 : Int32) (v4 : Int32) (v5 : Int32) (v6 : Int32) (v7 : Int32) (v8 : Int32) (t0 : Int32) (t1 : Int32) (hr : ck r = 2) (ha1 : ck a1 = 1) (q : Hp) (F : Fr (wX2_lay r a1) zX2_lay h0 h) (e : sX2_lay_c185 k16 h r a1 v2 v3 v4 v5 v6 v7 v8 t0 t1 = some q) : Fr (wX2_lay r a1) zX2_lay h0 q := by
  unfold sX2_lay_c185 at e
  obtain ⟨c17, e⟩ := gd_s e
  obtain ⟨h18, eh18, e⟩ := nm_s e
  have F := Fr.w1 F eh18 (Or.inl (by simp))
  by_cases c : v8 = 0
  · rw [if_pos c] at e
    exact fX2_lay_c219 h0 r a1 k16 hk16 h18 v2 v3 v4 v5 v6 v8 (0 : Int32) v4 hr ha1 q F e
  · rw [if_neg c] at e
    obtain ⟨c19, e⟩ := gd_s e
    exact fX2_lay_c219 h0 r a1 k16 hk16 h18 v2 v3 v4 v5 v6 v8 (((h18.1 (r + 3) v4.toNatClampNeg) * (h18.1 r 0)) * (v7 - v6)) v4 hr ha1 q F e
set_option maxRecDepth 10000 in
theorem fX2_lay_c167 (h0 : Hp) (r : Nat) (a1 : Nat) (k16 : Hp → Nat → Nat → Int32 → Int32 → Int32 → Option Hp) (hk16 : ∀ (h : Hp) (v2 : Int32) (v3 : Int32) (v4 : Int32) (hr : ck r = 2) (ha1 : ck a1 = 1) (q : Hp), Fr (wX2_lay r a1) zX2_lay h0 h → k16 h r a1 v2 v3 v4 = some q → Fr (wX2_lay r a1) zX2_lay h0 q) (h : Hp) (v2 : Int32) (v3 : Int32) (v4 : Int32) (v5 : Int32) (v6 : Int32) (v7 : Int32) (v8 : Int32) (t0 : Int32) (t1 : Int32) (hr : ck r = 2) (ha1 : ck a1 = 1) (q : Hp) (F : Fr (wX2_lay r a1) zX2_lay h0 h) (e : sX2_lay_c167 k16 h r a1 v2 v3 v4 v5 v6 v7 v8 t0 t1 = some q) : Fr (wX2_lay r a1) zX2_lay h0 q := by
  unfold sX2_lay_c167 at e
  obtain ⟨c15, e⟩ := gd_s e
  obtain ⟨h16, eh16, e⟩ := nm_s e
  have F := Fr.w1 F eh16 (Or.inl (by simp))
  by_cases c : v8 = 0
  · rw [if_pos c] at e
    exact fX2_lay_c185 h0 r a1 k16 hk16 h16 v2 v3 v4 v5 v6 v7 v8 (0 : Int32) v4 hr ha1 q F e
  · rw [if_neg c] at e
    exact fX2_lay_c185 h0 r a1 k16 hk16 h16 v2 v3 v4 v5 v6 v7 v8 v7 v4 hr ha1 q F e
set_option maxRecDepth 10000 in
theorem fX2_lay_c148 (h0 : Hp) (r : Nat) (a1 : Nat) (k16 : Hp → Nat → Nat → Int32 → Int32 → Int32 → Option Hp) (hk16 : ∀ (h : Hp) (v2 : Int32) (v3 : Int32) (v4 : Int32) (hr : ck r = 2) (ha1 : ck a1 = 1) (q : Hp), Fr (wX2_lay r a1) zX2_lay h0 h → k16 h r a1 v2 v3 v4 = some q → Fr (wX2_lay r a1) zX2_lay h0 q) (h : Hp) (v2 : Int32) (v3 : Int32) (v4 : Int32) (v5 : Int32) (v6 : Int32) (v7 : Int32) (t0 : Int32) (hr : ck r = 2) (ha1 : ck a1 = 1) (q : Hp) (F : Fr (wX2_lay r a1) zX2_lay h0 h) (e : sX2_lay_c148 k16 h r a1 v2 v3 v4 v5 v6 v7 t0 = some q) : Fr (wX2_lay r a1) zX2_lay h0 q := by
  unfold sX2_lay_c148 at e
  by_cases c : t0 = 0
  · rw [if_pos c] at e
    exact fX2_lay_c167 h0 r a1 k16 hk16 h v2 v3 v4 v5 v6 v7 t0 (0 : Int32) v4 hr ha1 q F e
  · rw [if_neg c] at e
    exact fX2_lay_c167 h0 r a1 k16 hk16 h v2 v3 v4 v5 v6 v7 t0 v6 v4 hr ha1 q F e
set_option maxRecDepth 10000 in
theorem fX2_lay_c128 (h0 : Hp) (r : Nat) (a1 : Nat) (k16 : Hp → Nat → Nat → Int32 → Int32 → Int32 → Option Hp) (hk16 : ∀ (h : Hp) (v2 : Int32) (v3 : Int32) (v4 : Int32) (hr : ck r = 2) (ha1 : ck a1 = 1) (q : Hp), Fr (wX2_lay r a1) zX2_lay h0 h → k16 h r a1 v2 v3 v4 = some q → Fr (wX2_lay r a1) zX2_lay h0 q) (h : Hp) (v2 : Int32) (v3 : Int32) (v4 : Int32) (v5 : Int32) (v6 : Int32) (t0 : Int32) (hr : ck r = 2) (ha1 : ck a1 = 1) (q : Hp) (F : Fr (wX2_lay r a1) zX2_lay h0 h) (e : sX2_lay_c128 k16 h r a1 v2 v3 v4 v5 v6 t0 = some q) : Fr (wX2_lay r a1) zX2_lay h0 q := by
  unfold sX2_lay_c128 at e
  by_cases c : ((h.1 r 0) * (t0 - v6)) ≤ 0
  · rw [if_pos c] at e
    exact fX2_lay_c148 h0 r a1 k16 hk16 h v2 v3 v4 v5 v6 t0 (0 : Int32) hr ha1 q F e
  · rw [if_neg c] at e
    exact fX2_lay_c148 h0 r a1 k16 hk16 h v2 v3 v4 v5 v6 t0 (1 : Int32) hr ha1 q F e
set_option maxRecDepth 10000 in
theorem fX2_lay_c104 (h0 : Hp) (r : Nat) (a1 : Nat) (k16 : Hp → Nat → Nat → Int32 → Int32 → Int32 → Option Hp) (hk16 : ∀ (h : Hp) (v2 : Int32) (v3 : Int32) (v4 : Int32) (hr : ck r = 2) (ha1 : ck a1 = 1) (q : Hp), Fr (wX2_lay r a1) zX2_lay h0 h → k16 h r a1 v2 v3 v4 = some q → Fr (wX2_lay r a1) zX2_lay h0 q) (h : Hp) (v2 : Int32) (v3 : Int32) (v4 : Int32) (v5 : Int32) (t0 : Int32) (hr : ck r = 2) (ha1 : ck a1 = 1) (q : Hp) (F : Fr (wX2_lay r a1) zX2_lay h0 h) (e : sX2_lay_c104 k16 h r a1 v2 v3 v4 v5 t0 = some q) : Fr (wX2_lay r a1) zX2_lay h0 q := by
  unfold sX2_lay_c104 at e
  by_cases c : (h.1 r 0) ≤ 0
  · rw [if_pos c] at e
    obtain ⟨q13, eq13, e⟩ := bd_s e
    have F := Fr.tr F (fX1_low h a1 v4 q13 eq13) (fun _ hh => absurd hh List.not_mem_nil) (by decide)
    exact fX2_lay_c128 h0 r a1 k16 hk16 q13.2 v2 v3 v4 v5 t0 q13.1 hr ha1 q F e
  · rw [if_neg c] at e
    obtain ⟨q14, eq14, e⟩ := bd_s e
    have F := Fr.tr F (fX1_high h a1 v4 q14 eq14) (fun _ hh => absurd hh List.not_mem_nil) (by decide)
    exact fX2_lay_c128 h0 r a1 k16 hk16 q14.2 v2 v3 v4 v5 t0 q14.1 hr ha1 q F e
set_option maxRecDepth 10000 in
theorem fX2_lay_c70 (h0 : Hp) (r : Nat) (a1 : Nat) (k16 : Hp → Nat → Nat → Int32 → Int32 → Int32 → Option Hp) (hk16 : ∀ (h : Hp) (v2 : Int32) (v3 : Int32) (v4 : Int32) (hr : ck r = 2) (ha1 : ck a1 = 1) (q : Hp), Fr (wX2_lay r a1) zX2_lay h0 h → k16 h r a1 v2 v3 v4 = some q → Fr (wX2_lay r a1) zX2_lay h0 q) (h : Hp) (v2 : Int32) (v3 : Int32) (v4 : Int32) (t0 : Int32) (hr : ck r = 2) (ha1 : ck a1 = 1) (q : Hp) (F : Fr (wX2_lay r a1) zX2_lay h0 h) (e : sX2_lay_c70 k16 h r a1 v2 v3 v4 t0 = some q) : Fr (wX2_lay r a1) zX2_lay h0 q := by
  unfold sX2_lay_c70 at e
  by_cases c : (h.1 r 0) ≤ 0
  · rw [if_pos c] at e
    obtain ⟨q11, eq11, e⟩ := bd_s e
    have F := Fr.tr F (fX1_high h a1 v4 q11 eq11) (fun _ hh => absurd hh List.not_mem_nil) (by decide)
    exact fX2_lay_c104 h0 r a1 k16 hk16 q11.2 v2 v3 v4 t0 (imin q11.1 t0) hr ha1 q F e
  · rw [if_neg c] at e
    obtain ⟨q12, eq12, e⟩ := bd_s e
    have F := Fr.tr F (fX1_low h a1 v4 q12 eq12) (fun _ hh => absurd hh List.not_mem_nil) (by decide)
    exact fX2_lay_c104 h0 r a1 k16 hk16 q12.2 v2 v3 v4 t0 (imax q12.1 t0) hr ha1 q F e
set_option maxRecDepth 10000 in
theorem fX2_lay_c16 (h0 : Hp) (r : Nat) (a1 : Nat) (k16 : Hp → Nat → Nat → Int32 → Int32 → Int32 → Option Hp) (hk16 : ∀ (h : Hp) (v2 : Int32) (v3 : Int32) (v4 : Int32) (hr : ck r = 2) (ha1 : ck a1 = 1) (q : Hp), Fr (wX2_lay r a1) zX2_lay h0 h → k16 h r a1 v2 v3 v4 = some q → Fr (wX2_lay r a1) zX2_lay h0 q) (h : Hp) (v2 : Int32) (v3 : Int32) (v4 : Int32) (hr : ck r = 2) (ha1 : ck a1 = 1) (q : Hp) (F : Fr (wX2_lay r a1) zX2_lay h0 h) (e : sX2_lay_c16 k16 h r a1 v2 v3 v4 = some q) : Fr (wX2_lay r a1) zX2_lay h0 q := by
  unfold sX2_lay_c16 at e
  by_cases c : (h.1 r 2) ≤ v4
  · rw [if_pos c] at e
    obtain ⟨q3, eq3, e⟩ := bd_s e
    have F := Fr.tr F (fX2_empty h r q3 eq3) (by simp) (by decide)
    exact Fr.e0 F e
  · rw [if_neg c] at e
    obtain ⟨c4, e⟩ := gd_s e
    obtain ⟨c5, e⟩ := gd_s e
    obtain ⟨h6, eh6, e⟩ := nm_s e
    have F := Fr.w1 F eh6 (Or.inl (by simp))
    obtain ⟨c7, e⟩ := gd_s e
    obtain ⟨c8, e⟩ := gd_s e
    obtain ⟨h9, eh9, e⟩ := nm_s e
    have F := Fr.w1 F eh9 (Or.inl (by simp))
    obtain ⟨c10, e⟩ := gd_s e
    by_cases c : (h9.1 (a1 + 1) v4.toNatClampNeg) = 0
    · rw [if_pos c] at e
      exact fX2_lay_c70 h0 r a1 k16 hk16 h9 v2 v3 v4 v2 hr ha1 q F e
    · rw [if_neg c] at e
      exact fX2_lay_c70 h0 r a1 k16 hk16 h9 v2 v3 v4 (v2 + v3) hr ha1 q F e
theorem fX2_lay_b16 (h0 : Hp) (r : Nat) (a1 : Nat) : ∀ (n : Nat) (h : Hp) (v2 : Int32) (v3 : Int32) (v4 : Int32) (hr : ck r = 2) (ha1 : ck a1 = 1) (q : Hp), Fr (wX2_lay r a1) zX2_lay h0 h → sX2_lay_b16 n h r a1 v2 v3 v4 = some q → Fr (wX2_lay r a1) zX2_lay h0 q
  | 0 => fun _ _ _ _ _ _ _ _ e => by cases e
  | n + 1 => fun h v2 v3 v4 hr ha1 q F e => fX2_lay_c16 h0 r a1 (sX2_lay_b16 n) (fX2_lay_b16 h0 r a1 n) h v2 v3 v4 hr ha1 q F e
set_option maxRecDepth 10000 in
theorem fX2_lay (h : Hp) (r : Nat) (a1 : Nat) (a2 : Int32) (a3 : Int32) (q : Hp) (e : sX2_lay h r a1 a2 a3 = some q) : Fr (wX2_lay r a1) zX2_lay h q := by
  unfold sX2_lay at e
  obtain ⟨hr, e⟩ := gd_s e
  have hr := isC_t hr
  obtain ⟨ha1, e⟩ := gd_s e
  have ha1 := isC_t ha1
  have F : Fr (wX2_lay r a1) zX2_lay h h := Fr.rf
  obtain ⟨h1, eh1, e⟩ := nm_s e
  have F := Fr.w1 F eh1 (Or.inr (by simp))
  obtain ⟨h2, eh2, e⟩ := nm_s e
  have F := Fr.w1 F eh2 (Or.inr (by simp))
  exact fX2_lay_b16 h r a1 FU h2 a2 a3 (0 : Int32) hr ha1 q F e

-- X2_spare
abbrev wX2_spare (r : Nat) : List (Nat × Option Nat) := []
abbrev zX2_spare : List Nat := []
set_option maxRecDepth 10000 in
theorem fX2_spare (h : Hp) (r : Nat) (a1 : Int32) (a2 : Int32) (a3 : Int32) (a4 : Int32) (q : (Int32 × Hp)) (e : sX2_spare h r a1 a2 a3 a4 = some q) : Fr (wX2_spare r) zX2_spare h q.2 := by
  unfold sX2_spare at e
  obtain ⟨hr, e⟩ := gd_s e
  have hr := isC_t hr
  have F : Fr (wX2_spare r) zX2_spare h h := Fr.rf
  obtain ⟨q1, eq1, e⟩ := bd_s e
  have F := Fr.tr F (fX2_width h r a1 a2 a3 a4 q1 eq1) (fun _ hh => absurd hh List.not_mem_nil) (by decide)
  obtain ⟨q2, eq2, e⟩ := bd_s e
  have F := Fr.tr F (fX2_unit q1.2 r a1 a2 q2 eq2) (fun _ hh => absurd hh List.not_mem_nil) (by decide)
  exact Fr.e1 F e

-- X2_widthOf
abbrev wX2_widthOf (r : Nat) : List (Nat × Option Nat) := []
abbrev zX2_widthOf : List Nat := []
set_option maxRecDepth 10000 in
theorem fX2_widthOf_c14 (h0 : Hp) (r : Nat) (h : Hp) (v1 : Int32) (t0 : Int32) (hr : ck r = 2) (q : (Int32 × Hp)) (F : Fr (wX2_widthOf r) zX2_widthOf h0 h) (e : sX2_widthOf_c14 h r v1 t0 = some q) : Fr (wX2_widthOf r) zX2_widthOf h0 q.2 := by
  unfold sX2_widthOf_c14 at e
  obtain ⟨c2, e⟩ := gd_s e
  obtain ⟨x3, ex3, e⟩ := nm_s e
  obtain ⟨c4, e⟩ := gd_s e
  obtain ⟨x5, ex5, e⟩ := nm_s e
  obtain ⟨q6, eq6, e⟩ := bd_s e
  have F := Fr.tr F (fX2_sumAhead h r (r + 10) v1 x3 q6 eq6) (fun _ hh => absurd hh List.not_mem_nil) (by decide)
  obtain ⟨q7, eq7, e⟩ := bd_s e
  have F := Fr.tr F (fX2_sumAhead q6.2 r (r + 10) v1 x5 q7 eq7) (fun _ hh => absurd hh List.not_mem_nil) (by decide)
  obtain ⟨q8, eq8, e⟩ := bd_s e
  have F := Fr.tr F (fX2_width q7.2 r x3 x5 (q6.1 + t0) (q7.1 + t0) q8 eq8) (fun _ hh => absurd hh List.not_mem_nil) (by decide)
  exact Fr.e1 F e
set_option maxRecDepth 10000 in
theorem fX2_widthOf (h : Hp) (r : Nat) (a1 : Int32) (a2 : Int32) (q : (Int32 × Hp)) (e : sX2_widthOf h r a1 a2 = some q) : Fr (wX2_widthOf r) zX2_widthOf h q.2 := by
  unfold sX2_widthOf at e
  obtain ⟨hr, e⟩ := gd_s e
  have hr := isC_t hr
  have F : Fr (wX2_widthOf r) zX2_widthOf h h := Fr.rf
  by_cases c : a2 = 0
  · rw [if_pos c] at e
    exact fX2_widthOf_c14 h r h a1 (0 : Int32) hr q F e
  · rw [if_neg c] at e
    obtain ⟨c1, e⟩ := gd_s e
    exact fX2_widthOf_c14 h r h a1 (h.1 (r + 10) a1.toNatClampNeg) hr q F e

-- X2_findRing
abbrev wX2_findRing (r : Nat) : List (Nat × Option Nat) := [(r + 13, none), (r + 12, none), (r, some 16)]
abbrev zX2_findRing : List Nat := []
set_option maxRecDepth 10000 in
theorem fX2_findRing_c116 (h0 : Hp) (r : Nat) (h : Hp) (t0 : Int32) (q : (Int32 × Hp)) (F : Fr (wX2_findRing r) zX2_findRing h0 h) (e : sX2_findRing_c116 h t0 = some q) : Fr (wX2_findRing r) zX2_findRing h0 q.2 := by
  unfold sX2_findRing_c116 at e
  obtain ⟨c15, e⟩ := gd_s e
  exact Fr.e1 F e
set_option maxRecDepth 10000 in
theorem fX2_findRing_c101 (h0 : Hp) (r : Nat) (h : Hp) (v1 : Int32) (v2 : Int32) (hr : ck r = 2) (q : (Int32 × Hp)) (F : Fr (wX2_findRing r) zX2_findRing h0 h) (e : sX2_findRing_c101 h r v1 v2 = some q) : Fr (wX2_findRing r) zX2_findRing h0 q.2 := by
  unfold sX2_findRing_c101 at e
  obtain ⟨c14, e⟩ := gd_s e
  by_cases c : v2 = (h.1 (r + 8) v1.toNatClampNeg)
  · rw [if_pos c] at e
    exact fX2_findRing_c116 h0 r h (1 : Int32) q F e
  · rw [if_neg c] at e
    exact fX2_findRing_c116 h0 r h (0 : Int32) q F e
set_option maxRecDepth 10000 in
theorem fX2_findRing_c31 (h0 : Hp) (r : Nat) (k31 : Hp → Nat → Int32 → Int32 → Int32 → Option (Int32 × Hp)) (hk31 : ∀ (h : Hp) (v1 : Int32) (v2 : Int32) (v3 : Int32) (hr : ck r = 2) (q : (Int32 × Hp)), Fr (wX2_findRing r) zX2_findRing h0 h → k31 h r v1 v2 v3 = some q → Fr (wX2_findRing r) zX2_findRing h0 q.2) (h : Hp) (v1 : Int32) (v2 : Int32) (v3 : Int32) (hr : ck r = 2) (q : (Int32 × Hp)) (F : Fr (wX2_findRing r) zX2_findRing h0 h) (e : sX2_findRing_c31 k31 h r v1 v2 v3 = some q) : Fr (wX2_findRing r) zX2_findRing h0 q.2 := by
  unfold sX2_findRing_c31 at e
  by_cases c : v3 ≤ 0
  · rw [if_pos c] at e
    exact fX2_findRing_c101 h0 r h v1 v2 hr q F e
  · rw [if_neg c] at e
    by_cases c : (10 : Int32) ≤ (h.1 r 16)
    · rw [if_pos c] at e
      exact fX2_findRing_c101 h0 r h v1 v2 hr q F e
    · rw [if_neg c] at e
      obtain ⟨q8, eq8, e⟩ := bd_s e
      have F := Fr.tr F (fX2_firstTowards h r v1 v2 (v3 - (1 : Int32)) q8 eq8) (fun _ hh => absurd hh List.not_mem_nil) (by decide)
      by_cases c : q8.1 = (-1 : Int32)
      · rw [if_pos c] at e
        exact Fr.e1 F e
      · rw [if_neg c] at e
        obtain ⟨c9, e⟩ := gd_s e
        obtain ⟨h10, eh10, e⟩ := nm_s e
        have F := Fr.w1 F eh10 (Or.inl (by simp))
        obtain ⟨h11, eh11, e⟩ := nm_s e
        have F := Fr.w1 F eh11 (Or.inr (by simp))
        obtain ⟨q12, eq12, e⟩ := bd_s e
        have F := Fr.tr F (fX2_otherEnd h11 r q8.1 v2 q12 eq12) (fun _ hh => absurd hh List.not_mem_nil) (by decide)
        obtain ⟨x13, ex13, e⟩ := nm_s e
        exact hk31 q12.2 v1 q12.1 x13 hr q F e
theorem fX2_findRing_b31 (h0 : Hp) (r : Nat) : ∀ (n : Nat) (h : Hp) (v1 : Int32) (v2 : Int32) (v3 : Int32) (hr : ck r = 2) (q : (Int32 × Hp)), Fr (wX2_findRing r) zX2_findRing h0 h → sX2_findRing_b31 n h r v1 v2 v3 = some q → Fr (wX2_findRing r) zX2_findRing h0 q.2
  | 0 => fun _ _ _ _ _ _ _ e => by cases e
  | n + 1 => fun h v1 v2 v3 hr q F e => fX2_findRing_c31 h0 r (sX2_findRing_b31 n) (fX2_findRing_b31 h0 r n) h v1 v2 v3 hr q F e
set_option maxRecDepth 10000 in
theorem fX2_findRing (h : Hp) (r : Nat) (a1 : Int32) (q : (Int32 × Hp)) (e : sX2_findRing h r a1 = some q) : Fr (wX2_findRing r) zX2_findRing h q.2 := by
  unfold sX2_findRing at e
  obtain ⟨hr, e⟩ := gd_s e
  have hr := isC_t hr
  have F : Fr (wX2_findRing r) zX2_findRing h h := Fr.rf
  obtain ⟨q1, eq1, e⟩ := bd_s e
  have F := Fr.tr F (fX2_markSteps h r a1 q1 eq1) (by simp) (by decide)
  obtain ⟨c2, e⟩ := gd_s e
  obtain ⟨x3, ex3, e⟩ := nm_s e
  obtain ⟨h4, eh4, e⟩ := nm_s e
  have F := Fr.w1 F eh4 (Or.inl (by simp))
  obtain ⟨h5, eh5, e⟩ := nm_s e
  have F := Fr.w1 F eh5 (Or.inr (by simp))
  obtain ⟨c6, e⟩ := gd_s e
  obtain ⟨x7, ex7, e⟩ := nm_s e
  exact fX2_findRing_b31 h r FU h5 a1 x3 x7 hr q F e

-- X3_readStream
abbrev wX3_readStream (a1 : Nat) : List (Nat × Option Nat) := [(2, some 2), (2, some 4), (2, some 3), (a1 + 1, none), (a1 + 2, none), (a1 + 3, none), (a1 + 4, none), (a1, some 4)]
abbrev zX3_readStream : List Nat := []
set_option maxRecDepth 10000 in
theorem fX3_readStream_c92 (h0 : Hp) (a1 : Nat) (h : Hp) (v2 : Int32) (v3 : Int32) (v4 : Int32) (t0 : Int32) (ha1 : ck a1 = 1) (q : (Int32 × Hp)) (F : Fr (wX3_readStream a1) zX3_readStream h0 h) (e : sX3_readStream_c92 h a1 v2 v3 v4 t0 = some q) : Fr (wX3_readStream a1) zX3_readStream h0 q.2 := by
  unfold sX3_readStream_c92 at e
  obtain ⟨q10, eq10, e⟩ := bd_s e
  have F := Fr.tr F (fX3_readNumber h (3 : Int32) v4 t0 q10 eq10) (by simp) (by decide)
  by_cases c : q10.1 = 0
  · rw [if_pos c] at e
    exact Fr.e1 F e
  · rw [if_neg c] at e
    obtain ⟨x11, ex11, e⟩ := nm_s e
    obtain ⟨q12, eq12, e⟩ := bd_s e
    have F := Fr.tr F (fX3_readSign q10.2 (42 : Int32) q12 eq12) (by simp) (by decide)
    by_cases c : q12.1 = 0
    · rw [if_pos c] at e
      obtain ⟨q15, eq15, e⟩ := bd_s e
      have F := Fr.tr F (fX3_failAt q12.2 (q12.2.1 2 2) q15 eq15) (by simp) (by decide)
      obtain ⟨c16, e⟩ := gd_s e
      exact Fr.e1 F e
    · rw [if_neg c] at e
      obtain ⟨q13, eq13, e⟩ := bd_s e
      have F := Fr.tr F (fX3_readNumber q12.2 (2 : Int32) (1 : Int32) (20 : Int32) q13 eq13) (by simp) (by decide)
      by_cases c : q13.1 = 0
      · rw [if_pos c] at e
        exact Fr.e1 F e
      · rw [if_neg c] at e
        obtain ⟨q14, eq14, e⟩ := bd_s e
        have F := Fr.tr F (fX1_add q13.2 a1 v2 v3 x11 (q13.2.1 2 3) q14 eq14) (by simp) (by decide)
        exact Fr.e1 F e
set_option maxRecDepth 10000 in
theorem fX3_readStream_c77 (h0 : Hp) (a1 : Nat) (h : Hp) (v2 : Int32) (v3 : Int32) (t0 : Int32) (ha1 : ck a1 = 1) (q : (Int32 × Hp)) (F : Fr (wX3_readStream a1) zX3_readStream h0 h) (e : sX3_readStream_c77 h a1 v2 v3 t0 = some q) : Fr (wX3_readStream a1) zX3_readStream h0 q.2 := by
  unfold sX3_readStream_c77 at e
  by_cases c : v2 = 0
  · rw [if_pos c] at e
    exact fX3_readStream_c92 h0 a1 h v2 v3 t0 (500 : Int32) ha1 q F e
  · rw [if_neg c] at e
    exact fX3_readStream_c92 h0 a1 h v2 v3 t0 (v3 - (1 : Int32)) ha1 q F e
set_option maxRecDepth 10000 in
theorem fX3_readStream_c29 (h0 : Hp) (a1 : Nat) (h : Hp) (v2 : Int32) (ha1 : ck a1 = 1) (q : (Int32 × Hp)) (F : Fr (wX3_readStream a1) zX3_readStream h0 h) (e : sX3_readStream_c29 h a1 v2 = some q) : Fr (wX3_readStream a1) zX3_readStream h0 q.2 := by
  unfold sX3_readStream_c29 at e
  obtain ⟨q5, eq5, e⟩ := bd_s e
  have F := Fr.tr F (fX3_readNumber h (3 : Int32) (0 : Int32) (500 : Int32) q5 eq5) (by simp) (by decide)
  by_cases c : q5.1 = 0
  · rw [if_pos c] at e
    exact Fr.e1 F e
  · rw [if_neg c] at e
    obtain ⟨x6, ex6, e⟩ := nm_s e
    obtain ⟨q7, eq7, e⟩ := bd_s e
    have F := Fr.tr F (fX3_readSign q5.2 (45 : Int32) q7 eq7) (by simp) (by decide)
    by_cases c : q7.1 = 0
    · rw [if_pos c] at e
      obtain ⟨q8, eq8, e⟩ := bd_s e
      have F := Fr.tr F (fX3_failAt q7.2 (q7.2.1 2 2) q8 eq8) (by simp) (by decide)
      obtain ⟨c9, e⟩ := gd_s e
      exact Fr.e1 F e
    · rw [if_neg c] at e
      by_cases c : v2 = 0
      · rw [if_pos c] at e
        exact fX3_readStream_c77 h0 a1 q7.2 v2 x6 (x6 + (1 : Int32)) ha1 q F e
      · rw [if_neg c] at e
        exact fX3_readStream_c77 h0 a1 q7.2 v2 x6 (0 : Int32) ha1 q F e
set_option maxRecDepth 10000 in
theorem fX3_readStream (h : Hp) (a1 : Nat) (q : (Int32 × Hp)) (e : sX3_readStream h a1 = some q) : Fr (wX3_readStream a1) zX3_readStream h q.2 := by
  unfold sX3_readStream at e
  obtain ⟨ha1, e⟩ := gd_s e
  have ha1 := isC_t ha1
  have F : Fr (wX3_readStream a1) zX3_readStream h h := Fr.rf
  obtain ⟨q1, eq1, e⟩ := bd_s e
  have F := Fr.tr F (fX3_readSign h (104 : Int32) q1 eq1) (by simp) (by decide)
  by_cases c : q1.1 = 0
  · rw [if_pos c] at e
    obtain ⟨q2, eq2, e⟩ := bd_s e
    have F := Fr.tr F (fX3_readSign q1.2 (99 : Int32) q2 eq2) (by simp) (by decide)
    by_cases c : q2.1 = 0
    · rw [if_pos c] at e
      obtain ⟨q3, eq3, e⟩ := bd_s e
      have F := Fr.tr F (fX3_failAt q2.2 (q2.2.1 2 2) q3 eq3) (by simp) (by decide)
      obtain ⟨c4, e⟩ := gd_s e
      exact Fr.e1 F e
    · rw [if_neg c] at e
      exact fX3_readStream_c29 h a1 q2.2 q1.1 ha1 q F e
  · rw [if_neg c] at e
    exact fX3_readStream_c29 h a1 q1.2 q1.1 ha1 q F e

-- X4_tell_
abbrev wX4_tell_ : List (Nat × Option Nat) := [(4, some 1)]
abbrev zX4_tell_ : List Nat := [5]
set_option maxRecDepth 10000 in
theorem fX4_tell_ (h : Hp) (a1 : Int64) (a3 : Int64) (q : Hp) (e : sX4_tell_ h a1 a3 = some q) : Fr (wX4_tell_) zX4_tell_ h q := by
  unfold sX4_tell_ at e
  have F : Fr (wX4_tell_) zX4_tell_ h h := Fr.rf
  obtain ⟨q1, eq1, e⟩ := bd_s e
  have F := Fr.tr F (fX4_tell h a1 q1 eq1) (by decide) (by decide)
  obtain ⟨q2, eq2, e⟩ := bd_s e
  have F := Fr.tr F (fX4_add q1 a3 q2 eq2) (by decide) (by decide)
  exact Fr.e0 F e

-- X5_carry
abbrev wX5_carry : List (Nat × Option Nat) := [(4, some 1)]
abbrev zX5_carry : List Nat := [5]
set_option maxRecDepth 10000 in
theorem fX5_carry_c13 (h0 : Hp) (h : Hp) (q : (Int32 × Hp)) (F : Fr (wX5_carry) zX5_carry h0 h) (e : sX5_carry_c13 h = some q) : Fr (wX5_carry) zX5_carry h0 q.2 := by
  unfold sX5_carry_c13 at e
  exact Fr.e1 F e
set_option maxRecDepth 10000 in
theorem fX5_carry (h : Hp) (a1 : Int32) (q : (Int32 × Hp)) (e : sX5_carry h a1 = some q) : Fr (wX5_carry) zX5_carry h q.2 := by
  unfold sX5_carry at e
  have F : Fr (wX5_carry) zX5_carry h h := Fr.rf
  by_cases c : a1 < (-60 : Int32)
  · rw [if_pos c] at e
    exact fX5_carry_c13 h h q F e
  · rw [if_neg c] at e
    by_cases c : a1 ≤ (500 : Int32)
    · rw [if_pos c] at e
      obtain ⟨q1, eq1, e⟩ := bd_s e
      have F := Fr.tr F (fX0_spans h 16 a1 q1 eq1) (fun _ hh => absurd hh List.not_mem_nil) (by decide)
      by_cases c : q1.1 = 0
      · rw [if_pos c] at e
        exact Fr.e1 F e
      · rw [if_neg c] at e
        obtain ⟨q2, eq2, e⟩ := bd_s e
        have F := Fr.tr F (fX0_carryAt q1.2 16 a1 q2 eq2) (fun _ hh => absurd hh List.not_mem_nil) (by decide)
        obtain ⟨q3, eq3, e⟩ := bd_s e
        have F := Fr.tr F (fX4_tell q2.2 q2.1.toInt64 q3 eq3) (by decide) (by decide)
        exact Fr.e1 F e
    · rw [if_neg c] at e
      exact fX5_carry_c13 h h q F e

-- X6_number
abbrev wX6_number : List (Nat × Option Nat) := [(54, some 5)]
abbrev zX6_number : List Nat := []
set_option maxRecDepth 10000 in
theorem fX6_number_c13 (h0 : Hp) (k13 : Hp → Int32 → Int32 → Int32 → Option (Int32 × Hp)) (hk13 : ∀ (h : Hp) (v1 : Int32) (v2 : Int32) (v3 : Int32) (q : (Int32 × Hp)), Fr (wX6_number) zX6_number h0 h → k13 h v1 v2 v3 = some q → Fr (wX6_number) zX6_number h0 q.2) (h : Hp) (v1 : Int32) (v2 : Int32) (v3 : Int32) (q : (Int32 × Hp)) (F : Fr (wX6_number) zX6_number h0 h) (e : sX6_number_c13 k13 h v1 v2 v3 = some q) : Fr (wX6_number) zX6_number h0 q.2 := by
  unfold sX6_number_c13 at e
  obtain ⟨q2, eq2, e⟩ := bd_s e
  have F := Fr.tr F (fX6_isDigit h q2 eq2) (fun _ hh => absurd hh List.not_mem_nil) (by decide)
  by_cases c : q2.1 = 0
  · rw [if_pos c] at e
    exact Fr.e1 F e
  · rw [if_neg c] at e
    by_cases c : v3 = v1
    · rw [if_pos c] at e
      exact Fr.e1 F e
    · rw [if_neg c] at e
      obtain ⟨c3, e⟩ := gd_s e
      obtain ⟨x4, ex4, e⟩ := nm_s e
      obtain ⟨h5, eh5, e⟩ := nm_s e
      have F := Fr.w1 F eh5 (Or.inr (by decide))
      obtain ⟨x6, ex6, e⟩ := nm_s e
      exact hk13 h5 v1 x4 x6 q F e
theorem fX6_number_b13 (h0 : Hp) : ∀ (n : Nat) (h : Hp) (v1 : Int32) (v2 : Int32) (v3 : Int32) (q : (Int32 × Hp)), Fr (wX6_number) zX6_number h0 h → sX6_number_b13 n h v1 v2 v3 = some q → Fr (wX6_number) zX6_number h0 q.2
  | 0 => fun _ _ _ _ _ _ e => by cases e
  | n + 1 => fun h v1 v2 v3 q F e => fX6_number_c13 h0 (sX6_number_b13 n) (fX6_number_b13 h0 n) h v1 v2 v3 q F e
set_option maxRecDepth 10000 in
theorem fX6_number (h : Hp) (a1 : Int32) (q : (Int32 × Hp)) (e : sX6_number h a1 = some q) : Fr (wX6_number) zX6_number h q.2 := by
  unfold sX6_number at e
  have F : Fr (wX6_number) zX6_number h h := Fr.rf
  obtain ⟨q1, eq1, e⟩ := bd_s e
  have F := Fr.tr F (fX6_isDigit h q1 eq1) (fun _ hh => absurd hh List.not_mem_nil) (by decide)
  by_cases c : q1.1 = 0
  · rw [if_pos c] at e
    exact Fr.e1 F e
  · rw [if_neg c] at e
    exact fX6_number_b13 h FU q1.2 a1 (0 : Int32) (0 : Int32) q F e

-- X6_canSet
abbrev wX6_canSet : List (Nat × Option Nat) := []
abbrev zX6_canSet : List Nat := []
set_option maxRecDepth 10000 in
theorem fX6_canSet_c57 (h0 : Hp) (h : Hp) (t0 : Int32) (q : (Int32 × Hp)) (F : Fr (wX6_canSet) zX6_canSet h0 h) (e : sX6_canSet_c57 h t0 = some q) : Fr (wX6_canSet) zX6_canSet h0 q.2 := by
  unfold sX6_canSet_c57 at e
  obtain ⟨c5, e⟩ := gd_s e
  exact Fr.e1 F e
set_option maxRecDepth 10000 in
theorem fX6_canSet_c52 (h0 : Hp) (h : Hp) (q : (Int32 × Hp)) (F : Fr (wX6_canSet) zX6_canSet h0 h) (e : sX6_canSet_c52 h = some q) : Fr (wX6_canSet) zX6_canSet h0 q.2 := by
  unfold sX6_canSet_c52 at e
  exact fX6_canSet_c57 h0 h (1 : Int32) q F e
set_option maxRecDepth 10000 in
theorem fX6_canSet_c56 (h0 : Hp) (h : Hp) (q : (Int32 × Hp)) (F : Fr (wX6_canSet) zX6_canSet h0 h) (e : sX6_canSet_c56 h = some q) : Fr (wX6_canSet) zX6_canSet h0 q.2 := by
  unfold sX6_canSet_c56 at e
  exact fX6_canSet_c57 h0 h (0 : Int32) q F e
set_option maxRecDepth 10000 in
theorem fX6_canSet (h : Hp) (a1 : Int32) (a2 : Int32) (a3 : Int32) (q : (Int32 × Hp)) (e : sX6_canSet h a1 a2 a3 = some q) : Fr (wX6_canSet) zX6_canSet h q.2 := by
  unfold sX6_canSet at e
  have F : Fr (wX6_canSet) zX6_canSet h h := Fr.rf
  obtain ⟨q1, eq1, e⟩ := bd_s e
  have F := Fr.tr F (fX6_isStream h a1 q1 eq1) (fun _ hh => absurd hh List.not_mem_nil) (by decide)
  by_cases c : q1.1 = 0
  · rw [if_pos c] at e
    exact fX6_canSet_c56 h q1.2 q F e
  · rw [if_neg c] at e
    obtain ⟨q2, eq2, e⟩ := bd_s e
    have F := Fr.tr F (fX6_in q1.2 a2.toInt64 (0 : Int64) (2 : Int64) q2 eq2) (fun _ hh => absurd hh List.not_mem_nil) (by decide)
    by_cases c : q2.1 = 0
    · rw [if_pos c] at e
      exact fX6_canSet_c56 h q2.2 q F e
    · rw [if_neg c] at e
      by_cases c : a2 = (2 : Int32)
      · rw [if_pos c] at e
        obtain ⟨q4, eq4, e⟩ := bd_s e
        have F := Fr.tr F (fX6_in q2.2 a3.toInt64 (1 : Int64) (20 : Int64) q4 eq4) (fun _ hh => absurd hh List.not_mem_nil) (by decide)
        by_cases c : q4.1 = 0
        · rw [if_pos c] at e
          exact fX6_canSet_c56 h q4.2 q F e
        · rw [if_neg c] at e
          exact fX6_canSet_c52 h q4.2 q F e
      · rw [if_neg c] at e
        obtain ⟨q3, eq3, e⟩ := bd_s e
        have F := Fr.tr F (fX6_in q2.2 a3.toInt64 (0 : Int64) (500 : Int64) q3 eq3) (fun _ hh => absurd hh List.not_mem_nil) (by decide)
        by_cases c : q3.1 = 0
        · rw [if_pos c] at e
          exact fX6_canSet_c56 h q3.2 q F e
        · rw [if_neg c] at e
          exact fX6_canSet_c52 h q3.2 q F e

-- X6_splits
abbrev wX6_splits : List (Nat × Option Nat) := [(54, some 0), (57, none), (58, none), (59, none), (54, some 7), (67, none)]
abbrev zX6_splits : List Nat := []
set_option maxRecDepth 10000 in
theorem fX6_splits_c31 (h0 : Hp) (h : Hp) (q : (Int32 × Hp)) (F : Fr (wX6_splits) zX6_splits h0 h) (e : sX6_splits_c31 h = some q) : Fr (wX6_splits) zX6_splits h0 q.2 := by
  unfold sX6_splits_c31 at e
  exact Fr.e1 F e
set_option maxRecDepth 10000 in
theorem fX6_splits (h : Hp) (a1 : Int32) (a2 : Int32) (q : (Int32 × Hp)) (e : sX6_splits h a1 a2 = some q) : Fr (wX6_splits) zX6_splits h q.2 := by
  unfold sX6_splits at e
  have F : Fr (wX6_splits) zX6_splits h h := Fr.rf
  obtain ⟨h1, eh1, e⟩ := nm_s e
  have F := Fr.w1 F eh1 (Or.inr (by decide))
  obtain ⟨q2, eq2, e⟩ := bd_s e
  have F := Fr.tr F (fX6_isStream h1 a1 q2 eq2) (fun _ hh => absurd hh List.not_mem_nil) (by decide)
  by_cases c : q2.1 = 0
  · rw [if_pos c] at e
    exact fX6_splits_c31 h q2.2 q F e
  · rw [if_neg c] at e
    obtain ⟨c3, e⟩ := gd_s e
    obtain ⟨q4, eq4, e⟩ := bd_s e
    have F := Fr.tr F (fX6_in q2.2 a2.toInt64 (1 : Int64) (((q2.2.1 59 a1.toNatClampNeg) - (1 : Int32)).toInt64) q4 eq4) (fun _ hh => absurd hh List.not_mem_nil) (by decide)
    by_cases c : q4.1 = 0
    · rw [if_pos c] at e
      exact fX6_splits_c31 h q4.2 q F e
    · rw [if_neg c] at e
      by_cases c : (q4.2.1 54 7) = (10 : Int32)
      · rw [if_pos c] at e
        exact Fr.e1 F e
      · rw [if_neg c] at e
        obtain ⟨c5, e⟩ := gd_s e
        obtain ⟨c6, e⟩ := gd_s e
        obtain ⟨h7, eh7, e⟩ := nm_s e
        have F := Fr.w1 F eh7 (Or.inl (by decide))
        obtain ⟨c8, e⟩ := gd_s e
        obtain ⟨c9, e⟩ := gd_s e
        obtain ⟨h10, eh10, e⟩ := nm_s e
        have F := Fr.w1 F eh10 (Or.inl (by decide))
        obtain ⟨c11, e⟩ := gd_s e
        obtain ⟨h12, eh12, e⟩ := nm_s e
        have F := Fr.w1 F eh12 (Or.inl (by decide))
        obtain ⟨c13, e⟩ := gd_s e
        obtain ⟨c14, e⟩ := gd_s e
        obtain ⟨h15, eh15, e⟩ := nm_s e
        have F := Fr.w1 F eh15 (Or.inl (by decide))
        obtain ⟨h16, eh16, e⟩ := nm_s e
        have F := Fr.w1 F eh16 (Or.inr (by decide))
        obtain ⟨q17, eq17, e⟩ := bd_s e
        have F := Fr.tr F (fX6_allGo h16 q17 eq17) (by decide) (by decide)
        exact Fr.e1 F e

-- X6_drops
abbrev wX6_drops : List (Nat × Option Nat) := [(54, some 0), (54, some 7), (57, none), (58, none), (59, none), (67, none)]
abbrev zX6_drops : List Nat := []
set_option maxRecDepth 10000 in
theorem fX6_drops (h : Hp) (a1 : Int32) (q : (Int32 × Hp)) (e : sX6_drops h a1 = some q) : Fr (wX6_drops) zX6_drops h q.2 := by
  unfold sX6_drops at e
  have F : Fr (wX6_drops) zX6_drops h h := Fr.rf
  obtain ⟨h1, eh1, e⟩ := nm_s e
  have F := Fr.w1 F eh1 (Or.inr (by decide))
  obtain ⟨q2, eq2, e⟩ := bd_s e
  have F := Fr.tr F (fX6_isStream h1 a1 q2 eq2) (fun _ hh => absurd hh List.not_mem_nil) (by decide)
  by_cases c : q2.1 = 0
  · rw [if_pos c] at e
    exact Fr.e1 F e
  · rw [if_neg c] at e
    obtain ⟨q3, eq3, e⟩ := bd_s e
    have F := Fr.tr F (fX6_takesOut q2.2 a1 q3 eq3) (by decide) (by decide)
    obtain ⟨q4, eq4, e⟩ := bd_s e
    have F := Fr.tr F (fX6_allGo q3 q4 eq4) (by decide) (by decide)
    exact Fr.e1 F e

-- X6_heatOf
abbrev wX6_heatOf : List (Nat × Option Nat) := []
abbrev zX6_heatOf : List Nat := []
set_option maxRecDepth 10000 in
theorem fX6_heatOf (h : Hp) (a1 : Int32) (q : (Int32 × Hp)) (e : sX6_heatOf h a1 = some q) : Fr (wX6_heatOf) zX6_heatOf h q.2 := by
  unfold sX6_heatOf at e
  have F : Fr (wX6_heatOf) zX6_heatOf h h := Fr.rf
  obtain ⟨c1, e⟩ := gd_s e
  obtain ⟨q2, eq2, e⟩ := bd_s e
  have F := Fr.tr F (fX6_high h a1 q2 eq2) (fun _ hh => absurd hh List.not_mem_nil) (by decide)
  obtain ⟨q3, eq3, e⟩ := bd_s e
  have F := Fr.tr F (fX6_low q2.2 a1 q3 eq3) (fun _ hh => absurd hh List.not_mem_nil) (by decide)
  exact Fr.e1 F e

-- X6_through
abbrev wX6_through : List (Nat × Option Nat) := []
abbrev zX6_through : List Nat := []
set_option maxRecDepth 10000 in
theorem fX6_through_c84 (h0 : Hp) (k6 : Hp → Int32 → Int32 → Int32 → Int32 → Int32 → Option (Int32 × Hp)) (hk6 : ∀ (h : Hp) (v1 : Int32) (v2 : Int32) (v3 : Int32) (v4 : Int32) (v5 : Int32) (q : (Int32 × Hp)), Fr (wX6_through) zX6_through h0 h → k6 h v1 v2 v3 v4 v5 = some q → Fr (wX6_through) zX6_through h0 q.2) (h : Hp) (v1 : Int32) (v2 : Int32) (v3 : Int32) (v5 : Int32) (t0 : Int32) (t1 : Int32) (q : (Int32 × Hp)) (F : Fr (wX6_through) zX6_through h0 h) (e : sX6_through_c84 k6 h v1 v2 v3 v5 t0 t1 = some q) : Fr (wX6_through) zX6_through h0 q.2 := by
  unfold sX6_through_c84 at e
  obtain ⟨x7, ex7, e⟩ := nm_s e
  obtain ⟨x8, ex8, e⟩ := nm_s e
  exact hk6 h v1 v2 v3 x7 x8 q F e
set_option maxRecDepth 10000 in
theorem fX6_through_c64 (h0 : Hp) (k6 : Hp → Int32 → Int32 → Int32 → Int32 → Int32 → Option (Int32 × Hp)) (hk6 : ∀ (h : Hp) (v1 : Int32) (v2 : Int32) (v3 : Int32) (v4 : Int32) (v5 : Int32) (q : (Int32 × Hp)), Fr (wX6_through) zX6_through h0 h → k6 h v1 v2 v3 v4 v5 = some q → Fr (wX6_through) zX6_through h0 q.2) (h : Hp) (v1 : Int32) (v2 : Int32) (v3 : Int32) (v4 : Int32) (v5 : Int32) (t0 : Int32) (q : (Int32 × Hp)) (F : Fr (wX6_through) zX6_through h0 h) (e : sX6_through_c64 k6 h v1 v2 v3 v4 v5 t0 = some q) : Fr (wX6_through) zX6_through h0 q.2 := by
  unfold sX6_through_c64 at e
  by_cases c : t0 = 0
  · rw [if_pos c] at e
    exact fX6_through_c84 h0 k6 hk6 h v1 v2 v3 v5 (0 : Int32) v4 q F e
  · rw [if_neg c] at e
    obtain ⟨c6, e⟩ := gd_s e
    exact fX6_through_c84 h0 k6 hk6 h v1 v2 v3 v5 (h.1 59 v5.toNatClampNeg) v4 q F e
set_option maxRecDepth 10000 in
theorem fX6_through_c63 (h0 : Hp) (k6 : Hp → Int32 → Int32 → Int32 → Int32 → Int32 → Option (Int32 × Hp)) (hk6 : ∀ (h : Hp) (v1 : Int32) (v2 : Int32) (v3 : Int32) (v4 : Int32) (v5 : Int32) (q : (Int32 × Hp)), Fr (wX6_through) zX6_through h0 h → k6 h v1 v2 v3 v4 v5 = some q → Fr (wX6_through) zX6_through h0 q.2) (h : Hp) (v1 : Int32) (v2 : Int32) (v3 : Int32) (v4 : Int32) (v5 : Int32) (q : (Int32 × Hp)) (F : Fr (wX6_through) zX6_through h0 h) (e : sX6_through_c63 k6 h v1 v2 v3 v4 v5 = some q) : Fr (wX6_through) zX6_through h0 q.2 := by
  unfold sX6_through_c63 at e
  exact fX6_through_c64 h0 k6 hk6 h v1 v2 v3 v4 v5 (0 : Int32) q F e
set_option maxRecDepth 10000 in
theorem fX6_through_c6 (h0 : Hp) (k6 : Hp → Int32 → Int32 → Int32 → Int32 → Int32 → Option (Int32 × Hp)) (hk6 : ∀ (h : Hp) (v1 : Int32) (v2 : Int32) (v3 : Int32) (v4 : Int32) (v5 : Int32) (q : (Int32 × Hp)), Fr (wX6_through) zX6_through h0 h → k6 h v1 v2 v3 v4 v5 = some q → Fr (wX6_through) zX6_through h0 q.2) (h : Hp) (v1 : Int32) (v2 : Int32) (v3 : Int32) (v4 : Int32) (v5 : Int32) (q : (Int32 × Hp)) (F : Fr (wX6_through) zX6_through h0 h) (e : sX6_through_c6 k6 h v1 v2 v3 v4 v5 = some q) : Fr (wX6_through) zX6_through h0 q.2 := by
  unfold sX6_through_c6 at e
  by_cases c : (h.1 54 7) ≤ v5
  · rw [if_pos c] at e
    exact Fr.e1 F e
  · rw [if_neg c] at e
    obtain ⟨q1, eq1, e⟩ := bd_s e
    have F := Fr.tr F (fX6_isHot h v5 q1 eq1) (fun _ hh => absurd hh List.not_mem_nil) (by decide)
    by_cases c : q1.1 = v1
    · rw [if_pos c] at e
      obtain ⟨q2, eq2, e⟩ := bd_s e
      have F := Fr.tr F (fX6_low q1.2 v5 q2 eq2) (fun _ hh => absurd hh List.not_mem_nil) (by decide)
      obtain ⟨q3, eq3, e⟩ := bd_s e
      have F := Fr.tr F (fX6_shift q2.2 v5 q3 eq3) (fun _ hh => absurd hh List.not_mem_nil) (by decide)
      by_cases c : v3 < (q2.1 - q3.1)
      · rw [if_pos c] at e
        exact fX6_through_c63 h0 k6 hk6 q3.2 v1 v2 v3 v4 v5 q F e
      · rw [if_neg c] at e
        obtain ⟨q4, eq4, e⟩ := bd_s e
        have F := Fr.tr F (fX6_high q3.2 v5 q4 eq4) (fun _ hh => absurd hh List.not_mem_nil) (by decide)
        obtain ⟨q5, eq5, e⟩ := bd_s e
        have F := Fr.tr F (fX6_shift q4.2 v5 q5 eq5) (fun _ hh => absurd hh List.not_mem_nil) (by decide)
        by_cases c : (q4.1 - q5.1) < v2
        · rw [if_pos c] at e
          exact fX6_through_c63 h0 k6 hk6 q5.2 v1 v2 v3 v4 v5 q F e
        · rw [if_neg c] at e
          exact fX6_through_c64 h0 k6 hk6 q5.2 v1 v2 v3 v4 v5 (1 : Int32) q F e
    · rw [if_neg c] at e
      exact fX6_through_c63 h0 k6 hk6 q1.2 v1 v2 v3 v4 v5 q F e
theorem fX6_through_b6 (h0 : Hp) : ∀ (n : Nat) (h : Hp) (v1 : Int32) (v2 : Int32) (v3 : Int32) (v4 : Int32) (v5 : Int32) (q : (Int32 × Hp)), Fr (wX6_through) zX6_through h0 h → sX6_through_b6 n h v1 v2 v3 v4 v5 = some q → Fr (wX6_through) zX6_through h0 q.2
  | 0 => fun _ _ _ _ _ _ _ _ e => by cases e
  | n + 1 => fun h v1 v2 v3 v4 v5 q F e => fX6_through_c6 h0 (sX6_through_b6 n) (fX6_through_b6 h0 n) h v1 v2 v3 v4 v5 q F e
set_option maxRecDepth 10000 in
theorem fX6_through (h : Hp) (a1 : Int32) (a2 : Int32) (a3 : Int32) (q : (Int32 × Hp)) (e : sX6_through h a1 a2 a3 = some q) : Fr (wX6_through) zX6_through h q.2 := by
  unfold sX6_through at e
  have F : Fr (wX6_through) zX6_through h h := Fr.rf
  exact fX6_through_b6 h FU h a1 a2 a3 (0 : Int32) (0 : Int32) q F e

-- X6_aboveOf
abbrev wX6_aboveOf : List (Nat × Option Nat) := []
abbrev zX6_aboveOf : List Nat := []
set_option maxRecDepth 10000 in
theorem fX6_aboveOf_c64 (h0 : Hp) (k5 : Hp → Int32 → Int32 → Int32 → Int32 → Option (Int32 × Hp)) (hk5 : ∀ (h : Hp) (v1 : Int32) (v2 : Int32) (v3 : Int32) (v4 : Int32) (q : (Int32 × Hp)), Fr (wX6_aboveOf) zX6_aboveOf h0 h → k5 h v1 v2 v3 v4 = some q → Fr (wX6_aboveOf) zX6_aboveOf h0 q.2) (h : Hp) (v1 : Int32) (v2 : Int32) (v4 : Int32) (t0 : Int32) (t1 : Int32) (q : (Int32 × Hp)) (F : Fr (wX6_aboveOf) zX6_aboveOf h0 h) (e : sX6_aboveOf_c64 k5 h v1 v2 v4 t0 t1 = some q) : Fr (wX6_aboveOf) zX6_aboveOf h0 q.2 := by
  unfold sX6_aboveOf_c64 at e
  obtain ⟨x6, ex6, e⟩ := nm_s e
  obtain ⟨x7, ex7, e⟩ := nm_s e
  exact hk5 h v1 v2 x6 x7 q F e
set_option maxRecDepth 10000 in
theorem fX6_aboveOf_c63 (h0 : Hp) (k5 : Hp → Int32 → Int32 → Int32 → Int32 → Option (Int32 × Hp)) (hk5 : ∀ (h : Hp) (v1 : Int32) (v2 : Int32) (v3 : Int32) (v4 : Int32) (q : (Int32 × Hp)), Fr (wX6_aboveOf) zX6_aboveOf h0 h → k5 h v1 v2 v3 v4 = some q → Fr (wX6_aboveOf) zX6_aboveOf h0 q.2) (h : Hp) (v1 : Int32) (v2 : Int32) (v4 : Int32) (t0 : Int32) (q : (Int32 × Hp)) (F : Fr (wX6_aboveOf) zX6_aboveOf h0 h) (e : sX6_aboveOf_c63 k5 h v1 v2 v4 t0 = some q) : Fr (wX6_aboveOf) zX6_aboveOf h0 q.2 := by
  unfold sX6_aboveOf_c63 at e
  exact fX6_aboveOf_c64 h0 k5 hk5 h v1 v2 v4 (0 : Int32) t0 q F e
set_option maxRecDepth 10000 in
theorem fX6_aboveOf_c5 (h0 : Hp) (k5 : Hp → Int32 → Int32 → Int32 → Int32 → Option (Int32 × Hp)) (hk5 : ∀ (h : Hp) (v1 : Int32) (v2 : Int32) (v3 : Int32) (v4 : Int32) (q : (Int32 × Hp)), Fr (wX6_aboveOf) zX6_aboveOf h0 h → k5 h v1 v2 v3 v4 = some q → Fr (wX6_aboveOf) zX6_aboveOf h0 q.2) (h : Hp) (v1 : Int32) (v2 : Int32) (v3 : Int32) (v4 : Int32) (q : (Int32 × Hp)) (F : Fr (wX6_aboveOf) zX6_aboveOf h0 h) (e : sX6_aboveOf_c5 k5 h v1 v2 v3 v4 = some q) : Fr (wX6_aboveOf) zX6_aboveOf h0 q.2 := by
  unfold sX6_aboveOf_c5 at e
  by_cases c : (h.1 54 7) ≤ v4
  · rw [if_pos c] at e
    exact Fr.e1 F e
  · rw [if_neg c] at e
    obtain ⟨q1, eq1, e⟩ := bd_s e
    have F := Fr.tr F (fX6_isHot h v4 q1 eq1) (fun _ hh => absurd hh List.not_mem_nil) (by decide)
    by_cases c : q1.1 = v1
    · rw [if_pos c] at e
      obtain ⟨q2, eq2, e⟩ := bd_s e
      have F := Fr.tr F (fX6_high q1.2 v4 q2 eq2) (fun _ hh => absurd hh List.not_mem_nil) (by decide)
      by_cases c : q2.1 ≤ v2
      · rw [if_pos c] at e
        exact fX6_aboveOf_c63 h0 k5 hk5 q2.2 v1 v2 v4 v3 q F e
      · rw [if_neg c] at e
        obtain ⟨c3, e⟩ := gd_s e
        obtain ⟨q4, eq4, e⟩ := bd_s e
        have F := Fr.tr F (fX6_high q2.2 v4 q4 eq4) (fun _ hh => absurd hh List.not_mem_nil) (by decide)
        obtain ⟨q5, eq5, e⟩ := bd_s e
        have F := Fr.tr F (fX6_low q4.2 v4 q5 eq5) (fun _ hh => absurd hh List.not_mem_nil) (by decide)
        exact fX6_aboveOf_c64 h0 k5 hk5 q5.2 v1 v2 v4 ((q2.2.1 59 v4.toNatClampNeg) * (q4.1 - (imax v2 q5.1))) v3 q F e
    · rw [if_neg c] at e
      exact fX6_aboveOf_c63 h0 k5 hk5 q1.2 v1 v2 v4 v3 q F e
theorem fX6_aboveOf_b5 (h0 : Hp) : ∀ (n : Nat) (h : Hp) (v1 : Int32) (v2 : Int32) (v3 : Int32) (v4 : Int32) (q : (Int32 × Hp)), Fr (wX6_aboveOf) zX6_aboveOf h0 h → sX6_aboveOf_b5 n h v1 v2 v3 v4 = some q → Fr (wX6_aboveOf) zX6_aboveOf h0 q.2
  | 0 => fun _ _ _ _ _ _ _ e => by cases e
  | n + 1 => fun h v1 v2 v3 v4 q F e => fX6_aboveOf_c5 h0 (sX6_aboveOf_b5 n) (fX6_aboveOf_b5 h0 n) h v1 v2 v3 v4 q F e
set_option maxRecDepth 10000 in
theorem fX6_aboveOf (h : Hp) (a1 : Int32) (a2 : Int32) (q : (Int32 × Hp)) (e : sX6_aboveOf h a1 a2 = some q) : Fr (wX6_aboveOf) zX6_aboveOf h q.2 := by
  unfold sX6_aboveOf at e
  have F : Fr (wX6_aboveOf) zX6_aboveOf h h := Fr.rf
  exact fX6_aboveOf_b5 h FU h a1 a2 (0 : Int32) (0 : Int32) q F e

-- X6_goingOn
abbrev wX6_goingOn : List (Nat × Option Nat) := []
abbrev zX6_goingOn : List Nat := []
set_option maxRecDepth 10000 in
theorem fX6_goingOn_c56 (h0 : Hp) (k5 : Hp → Int32 → Int32 → Int32 → Int32 → Option (Int32 × Hp)) (hk5 : ∀ (h : Hp) (v1 : Int32) (v2 : Int32) (v3 : Int32) (v4 : Int32) (q : (Int32 × Hp)), Fr (wX6_goingOn) zX6_goingOn h0 h → k5 h v1 v2 v3 v4 = some q → Fr (wX6_goingOn) zX6_goingOn h0 q.2) (h : Hp) (v1 : Int32) (v2 : Int32) (v4 : Int32) (t0 : Int32) (t1 : Int32) (q : (Int32 × Hp)) (F : Fr (wX6_goingOn) zX6_goingOn h0 h) (e : sX6_goingOn_c56 k5 h v1 v2 v4 t0 t1 = some q) : Fr (wX6_goingOn) zX6_goingOn h0 q.2 := by
  unfold sX6_goingOn_c56 at e
  obtain ⟨x5, ex5, e⟩ := nm_s e
  obtain ⟨x6, ex6, e⟩ := nm_s e
  exact hk5 h v1 v2 x5 x6 q F e
set_option maxRecDepth 10000 in
theorem fX6_goingOn_c55 (h0 : Hp) (k5 : Hp → Int32 → Int32 → Int32 → Int32 → Option (Int32 × Hp)) (hk5 : ∀ (h : Hp) (v1 : Int32) (v2 : Int32) (v3 : Int32) (v4 : Int32) (q : (Int32 × Hp)), Fr (wX6_goingOn) zX6_goingOn h0 h → k5 h v1 v2 v3 v4 = some q → Fr (wX6_goingOn) zX6_goingOn h0 q.2) (h : Hp) (v1 : Int32) (v2 : Int32) (v4 : Int32) (t0 : Int32) (q : (Int32 × Hp)) (F : Fr (wX6_goingOn) zX6_goingOn h0 h) (e : sX6_goingOn_c55 k5 h v1 v2 v4 t0 = some q) : Fr (wX6_goingOn) zX6_goingOn h0 q.2 := by
  unfold sX6_goingOn_c55 at e
  exact fX6_goingOn_c56 h0 k5 hk5 h v1 v2 v4 (0 : Int32) t0 q F e
set_option maxRecDepth 10000 in
theorem fX6_goingOn_c5 (h0 : Hp) (k5 : Hp → Int32 → Int32 → Int32 → Int32 → Option (Int32 × Hp)) (hk5 : ∀ (h : Hp) (v1 : Int32) (v2 : Int32) (v3 : Int32) (v4 : Int32) (q : (Int32 × Hp)), Fr (wX6_goingOn) zX6_goingOn h0 h → k5 h v1 v2 v3 v4 = some q → Fr (wX6_goingOn) zX6_goingOn h0 q.2) (h : Hp) (v1 : Int32) (v2 : Int32) (v3 : Int32) (v4 : Int32) (q : (Int32 × Hp)) (F : Fr (wX6_goingOn) zX6_goingOn h0 h) (e : sX6_goingOn_c5 k5 h v1 v2 v3 v4 = some q) : Fr (wX6_goingOn) zX6_goingOn h0 q.2 := by
  unfold sX6_goingOn_c5 at e
  by_cases c : (h.1 54 7) ≤ v4
  · rw [if_pos c] at e
    exact Fr.e1 F e
  · rw [if_neg c] at e
    obtain ⟨q1, eq1, e⟩ := bd_s e
    have F := Fr.tr F (fX6_isHot h v4 q1 eq1) (fun _ hh => absurd hh List.not_mem_nil) (by decide)
    by_cases c : q1.1 = v1
    · rw [if_pos c] at e
      obtain ⟨q2, eq2, e⟩ := bd_s e
      have F := Fr.tr F (fX6_high q1.2 v4 q2 eq2) (fun _ hh => absurd hh List.not_mem_nil) (by decide)
      by_cases c : q2.1 < v2
      · rw [if_pos c] at e
        exact fX6_goingOn_c55 h0 k5 hk5 q2.2 v1 v2 v4 v3 q F e
      · rw [if_neg c] at e
        obtain ⟨q3, eq3, e⟩ := bd_s e
        have F := Fr.tr F (fX6_low q2.2 v4 q3 eq3) (fun _ hh => absurd hh List.not_mem_nil) (by decide)
        by_cases c : v2 ≤ q3.1
        · rw [if_pos c] at e
          exact fX6_goingOn_c55 h0 k5 hk5 q3.2 v1 v2 v4 v3 q F e
        · rw [if_neg c] at e
          obtain ⟨c4, e⟩ := gd_s e
          exact fX6_goingOn_c56 h0 k5 hk5 q3.2 v1 v2 v4 (q3.2.1 59 v4.toNatClampNeg) v3 q F e
    · rw [if_neg c] at e
      exact fX6_goingOn_c55 h0 k5 hk5 q1.2 v1 v2 v4 v3 q F e
theorem fX6_goingOn_b5 (h0 : Hp) : ∀ (n : Nat) (h : Hp) (v1 : Int32) (v2 : Int32) (v3 : Int32) (v4 : Int32) (q : (Int32 × Hp)), Fr (wX6_goingOn) zX6_goingOn h0 h → sX6_goingOn_b5 n h v1 v2 v3 v4 = some q → Fr (wX6_goingOn) zX6_goingOn h0 q.2
  | 0 => fun _ _ _ _ _ _ _ e => by cases e
  | n + 1 => fun h v1 v2 v3 v4 q F e => fX6_goingOn_c5 h0 (sX6_goingOn_b5 n) (fX6_goingOn_b5 h0 n) h v1 v2 v3 v4 q F e
set_option maxRecDepth 10000 in
theorem fX6_goingOn (h : Hp) (a1 : Int32) (a2 : Int32) (q : (Int32 × Hp)) (e : sX6_goingOn h a1 a2 = some q) : Fr (wX6_goingOn) zX6_goingOn h q.2 := by
  unfold sX6_goingOn at e
  have F : Fr (wX6_goingOn) zX6_goingOn h h := Fr.rf
  exact fX6_goingOn_b5 h FU h a1 a2 (0 : Int32) (0 : Int32) q F e

-- X6_pinchOf
abbrev wX6_pinchOf : List (Nat × Option Nat) := []
abbrev zX6_pinchOf : List Nat := []
set_option maxRecDepth 10000 in
theorem fX6_pinchOf (h : Hp) (a1 : Int32) (q : (Int32 × Hp)) (e : sX6_pinchOf h a1 = some q) : Fr (wX6_pinchOf) zX6_pinchOf h q.2 := by
  unfold sX6_pinchOf at e
  have F : Fr (wX6_pinchOf) zX6_pinchOf h h := Fr.rf
  obtain ⟨q1, eq1, e⟩ := bd_s e
  have F := Fr.tr F (fX6_shift h a1 q1 eq1) (fun _ hh => absurd hh List.not_mem_nil) (by decide)
  exact Fr.e1 F e

-- X6_far
abbrev wX6_far : List (Nat × Option Nat) := []
abbrev zX6_far : List Nat := []
set_option maxRecDepth 10000 in
theorem fX6_far_c17 (h0 : Hp) (h : Hp) (t0 : Int32) (q : (Int32 × Hp)) (F : Fr (wX6_far) zX6_far h0 h) (e : sX6_far_c17 h t0 = some q) : Fr (wX6_far) zX6_far h0 q.2 := by
  unfold sX6_far_c17 at e
  exact Fr.e1 F e
set_option maxRecDepth 10000 in
theorem fX6_far (h : Hp) (a1 : Int32) (a2 : Int32) (q : (Int32 × Hp)) (e : sX6_far h a1 a2 = some q) : Fr (wX6_far) zX6_far h q.2 := by
  unfold sX6_far at e
  have F : Fr (wX6_far) zX6_far h h := Fr.rf
  by_cases c : a1 = 0
  · rw [if_pos c] at e
    obtain ⟨q2, eq2, e⟩ := bd_s e
    have F := Fr.tr F (fX6_high h a2 q2 eq2) (fun _ hh => absurd hh List.not_mem_nil) (by decide)
    exact fX6_far_c17 h q2.2 q2.1 q F e
  · rw [if_neg c] at e
    obtain ⟨q1, eq1, e⟩ := bd_s e
    have F := Fr.tr F (fX6_low h a2 q1 eq1) (fun _ hh => absurd hh List.not_mem_nil) (by decide)
    exact fX6_far_c17 h q1.2 q1.1 q F e

-- X6_isMatch
abbrev wX6_isMatch : List (Nat × Option Nat) := []
abbrev zX6_isMatch : List Nat := []
set_option maxRecDepth 10000 in
theorem fX6_isMatch_c30 (h0 : Hp) (h : Hp) (t0 : Int32) (q : (Int32 × Hp)) (F : Fr (wX6_isMatch) zX6_isMatch h0 h) (e : sX6_isMatch_c30 h t0 = some q) : Fr (wX6_isMatch) zX6_isMatch h0 q.2 := by
  unfold sX6_isMatch_c30 at e
  obtain ⟨c4, e⟩ := gd_s e
  exact Fr.e1 F e
set_option maxRecDepth 10000 in
theorem fX6_isMatch_c29 (h0 : Hp) (h : Hp) (q : (Int32 × Hp)) (F : Fr (wX6_isMatch) zX6_isMatch h0 h) (e : sX6_isMatch_c29 h = some q) : Fr (wX6_isMatch) zX6_isMatch h0 q.2 := by
  unfold sX6_isMatch_c29 at e
  exact fX6_isMatch_c30 h0 h (0 : Int32) q F e
set_option maxRecDepth 10000 in
theorem fX6_isMatch (h : Hp) (a1 : Int32) (a2 : Int32) (q : (Int32 × Hp)) (e : sX6_isMatch h a1 a2 = some q) : Fr (wX6_isMatch) zX6_isMatch h q.2 := by
  unfold sX6_isMatch at e
  have F : Fr (wX6_isMatch) zX6_isMatch h h := Fr.rf
  obtain ⟨q1, eq1, e⟩ := bd_s e
  have F := Fr.tr F (fX6_isSide h a1 q1 eq1) (fun _ hh => absurd hh List.not_mem_nil) (by decide)
  by_cases c : q1.1 = 0
  · rw [if_pos c] at e
    exact fX6_isMatch_c29 h q1.2 q F e
  · rw [if_neg c] at e
    obtain ⟨c2, e⟩ := gd_s e
    obtain ⟨q3, eq3, e⟩ := bd_s e
    have F := Fr.tr F (fX6_in q1.2 a2.toInt64 (0 : Int64) (((q1.2.1 67 a1.toNatClampNeg) - (1 : Int32)).toInt64) q3 eq3) (fun _ hh => absurd hh List.not_mem_nil) (by decide)
    by_cases c : q3.1 = 0
    · rw [if_pos c] at e
      exact fX6_isMatch_c29 h q3.2 q F e
    · rw [if_neg c] at e
      exact fX6_isMatch_c30 h q3.2 (1 : Int32) q F e

-- X6_clears
abbrev wX6_clears : List (Nat × Option Nat) := [(54, some 0), (67, none)]
abbrev zX6_clears : List Nat := []
set_option maxRecDepth 10000 in
theorem fX6_clears (h : Hp) (a1 : Int32) (q : (Int32 × Hp)) (e : sX6_clears h a1 = some q) : Fr (wX6_clears) zX6_clears h q.2 := by
  unfold sX6_clears at e
  have F : Fr (wX6_clears) zX6_clears h h := Fr.rf
  obtain ⟨h1, eh1, e⟩ := nm_s e
  have F := Fr.w1 F eh1 (Or.inr (by decide))
  obtain ⟨q2, eq2, e⟩ := bd_s e
  have F := Fr.tr F (fX6_isSide h1 a1 q2 eq2) (fun _ hh => absurd hh List.not_mem_nil) (by decide)
  by_cases c : q2.1 = 0
  · rw [if_pos c] at e
    exact Fr.e1 F e
  · rw [if_neg c] at e
    obtain ⟨c3, e⟩ := gd_s e
    obtain ⟨x4, ex4, e⟩ := nm_s e
    obtain ⟨c5, e⟩ := gd_s e
    obtain ⟨h6, eh6, e⟩ := nm_s e
    have F := Fr.w1 F eh6 (Or.inl (by decide))
    exact Fr.e1 F e

-- X6_loops
abbrev wX6_loops : List (Nat × Option Nat) := [(54, some 0), (54, some 1)]
abbrev zX6_loops : List Nat := [55]
set_option maxRecDepth 10000 in
theorem fX6_loops_c133 (h0 : Hp) (k79 : Hp → Int32 → Int32 → Int32 → Int32 → Int32 → Int32 → Option (Int32 × Hp)) (hk79 : ∀ (h : Hp) (v1 : Int32) (v2 : Int32) (v3 : Int32) (v4 : Int32) (v5 : Int32) (v6 : Int32) (q : (Int32 × Hp)), Fr (wX6_loops) zX6_loops h0 h → k79 h v1 v2 v3 v4 v5 v6 = some q → Fr (wX6_loops) zX6_loops h0 q.2) (h : Hp) (v1 : Int32) (v2 : Int32) (v3 : Int32) (v4 : Int32) (v5 : Int32) (v6 : Int32) (q : (Int32 × Hp)) (F : Fr (wX6_loops) zX6_loops h0 h) (e : sX6_loops_c133 k79 h v1 v2 v3 v4 v5 v6 = some q) : Fr (wX6_loops) zX6_loops h0 q.2 := by
  unfold sX6_loops_c133 at e
  obtain ⟨x20, ex20, e⟩ := nm_s e
  exact hk79 h v1 v2 v3 v4 v5 x20 q F e
set_option maxRecDepth 10000 in
theorem fX6_loops_c79 (h0 : Hp) (k79 : Hp → Int32 → Int32 → Int32 → Int32 → Int32 → Int32 → Option (Int32 × Hp)) (hk79 : ∀ (h : Hp) (v1 : Int32) (v2 : Int32) (v3 : Int32) (v4 : Int32) (v5 : Int32) (v6 : Int32) (q : (Int32 × Hp)), Fr (wX6_loops) zX6_loops h0 h → k79 h v1 v2 v3 v4 v5 v6 = some q → Fr (wX6_loops) zX6_loops h0 q.2) (h : Hp) (v1 : Int32) (v2 : Int32) (v3 : Int32) (v4 : Int32) (v5 : Int32) (v6 : Int32) (q : (Int32 × Hp)) (F : Fr (wX6_loops) zX6_loops h0 h) (e : sX6_loops_c79 k79 h v1 v2 v3 v4 v5 v6 = some q) : Fr (wX6_loops) zX6_loops h0 q.2 := by
  unfold sX6_loops_c79 at e
  by_cases c : (h.1 54 7) ≤ v6
  · rw [if_pos c] at e
    obtain ⟨h10, eh10, e⟩ := nm_s e
    have F := Fr.w1 F eh10 (Or.inr (by decide))
    obtain ⟨c11, e⟩ := gd_s e
    obtain ⟨q12, eq12, e⟩ := bd_s e
    have F := Fr.tr F (fX6_enters h10 ((h10.1 67 v1.toNatClampNeg).toInt64) q12 eq12) (by decide) (by decide)
    obtain ⟨q13, eq13, e⟩ := bd_s e
    have F := Fr.tr F (fX6_enters q12 v5.toInt64 q13 eq13) (by decide) (by decide)
    obtain ⟨q14, eq14, e⟩ := bd_s e
    have F := Fr.tr F (fX6_enters q13 v3.toInt64 q14 eq14) (by decide) (by decide)
    obtain ⟨c15, e⟩ := gd_s e
    exact Fr.e1 F e
  · rw [if_neg c] at e
    obtain ⟨x16, ex16, e⟩ := nm_s e
    by_cases c : ((v4 >>> (v6 &&& 31)) &&& (1 : Int32)) = (1 : Int32)
    · rw [if_pos c] at e
      by_cases c : ((v2 >>> (v6 &&& 31)) &&& (1 : Int32)) = 0
      · rw [if_pos c] at e
        obtain ⟨x17, ex17, e⟩ := nm_s e
        obtain ⟨q18, eq18, e⟩ := bd_s e
        have F := Fr.tr F (fX6_hangsWith h v1 v6 q18 eq18) (fun _ hh => absurd hh List.not_mem_nil) (by decide)
        obtain ⟨x19, ex19, e⟩ := nm_s e
        exact fX6_loops_c133 h0 k79 hk79 q18.2 v1 x19 x17 v4 x16 v6 q F e
      · rw [if_neg c] at e
        exact fX6_loops_c133 h0 k79 hk79 h v1 v2 v3 v4 x16 v6 q F e
    · rw [if_neg c] at e
      exact fX6_loops_c133 h0 k79 hk79 h v1 v2 v3 v4 x16 v6 q F e
theorem fX6_loops_b79 (h0 : Hp) : ∀ (n : Nat) (h : Hp) (v1 : Int32) (v2 : Int32) (v3 : Int32) (v4 : Int32) (v5 : Int32) (v6 : Int32) (q : (Int32 × Hp)), Fr (wX6_loops) zX6_loops h0 h → sX6_loops_b79 n h v1 v2 v3 v4 v5 v6 = some q → Fr (wX6_loops) zX6_loops h0 q.2
  | 0 => fun _ _ _ _ _ _ _ _ _ e => by cases e
  | n + 1 => fun h v1 v2 v3 v4 v5 v6 q F e => fX6_loops_c79 h0 (sX6_loops_b79 n) (fX6_loops_b79 h0 n) h v1 v2 v3 v4 v5 v6 q F e
set_option maxRecDepth 10000 in
theorem fX6_loops_c24 (h0 : Hp) (k24 : Hp → Int32 → Int32 → Int32 → Int32 → Int32 → Option (Int32 × Hp)) (hk24 : ∀ (h : Hp) (v1 : Int32) (v2 : Int32) (v3 : Int32) (v4 : Int32) (v5 : Int32) (q : (Int32 × Hp)), Fr (wX6_loops) zX6_loops h0 h → k24 h v1 v2 v3 v4 v5 = some q → Fr (wX6_loops) zX6_loops h0 q.2) (h : Hp) (v1 : Int32) (v2 : Int32) (v3 : Int32) (v4 : Int32) (v5 : Int32) (q : (Int32 × Hp)) (F : Fr (wX6_loops) zX6_loops h0 h) (e : sX6_loops_c24 k24 h v1 v2 v3 v4 v5 = some q) : Fr (wX6_loops) zX6_loops h0 q.2 := by
  unfold sX6_loops_c24 at e
  obtain ⟨c3, e⟩ := gd_s e
  by_cases c : (h.1 67 v1.toNatClampNeg) ≤ v5
  · rw [if_pos c] at e
    exact fX6_loops_b79 h0 FU h v1 v2 v3 v4 (0 : Int32) (0 : Int32) q F e
  · rw [if_neg c] at e
    obtain ⟨q4, eq4, e⟩ := bd_s e
    have F := Fr.tr F (fX6_place h v1 v5 q4 eq4) (fun _ hh => absurd hh List.not_mem_nil) (by decide)
    obtain ⟨c5, e⟩ := gd_s e
    obtain ⟨q6, eq6, e⟩ := bd_s e
    have F := Fr.tr F (fX6_place q4.2 v1 v5 q6 eq6) (fun _ hh => absurd hh List.not_mem_nil) (by decide)
    obtain ⟨c7, e⟩ := gd_s e
    obtain ⟨x8, ex8, e⟩ := nm_s e
    obtain ⟨x9, ex9, e⟩ := nm_s e
    exact hk24 q6.2 v1 v2 v3 x8 x9 q F e
theorem fX6_loops_b24 (h0 : Hp) : ∀ (n : Nat) (h : Hp) (v1 : Int32) (v2 : Int32) (v3 : Int32) (v4 : Int32) (v5 : Int32) (q : (Int32 × Hp)), Fr (wX6_loops) zX6_loops h0 h → sX6_loops_b24 n h v1 v2 v3 v4 v5 = some q → Fr (wX6_loops) zX6_loops h0 q.2
  | 0 => fun _ _ _ _ _ _ _ _ e => by cases e
  | n + 1 => fun h v1 v2 v3 v4 v5 q F e => fX6_loops_c24 h0 (sX6_loops_b24 n) (fX6_loops_b24 h0 n) h v1 v2 v3 v4 v5 q F e
set_option maxRecDepth 10000 in
theorem fX6_loops (h : Hp) (a1 : Int32) (q : (Int32 × Hp)) (e : sX6_loops h a1 = some q) : Fr (wX6_loops) zX6_loops h q.2 := by
  unfold sX6_loops at e
  have F : Fr (wX6_loops) zX6_loops h h := Fr.rf
  obtain ⟨h1, eh1, e⟩ := nm_s e
  have F := Fr.w1 F eh1 (Or.inr (by decide))
  obtain ⟨q2, eq2, e⟩ := bd_s e
  have F := Fr.tr F (fX6_isSide h1 a1 q2 eq2) (fun _ hh => absurd hh List.not_mem_nil) (by decide)
  by_cases c : q2.1 = 0
  · rw [if_pos c] at e
    exact Fr.e1 F e
  · rw [if_neg c] at e
    exact fX6_loops_b24 h FU q2.2 a1 (0 : Int32) (0 : Int32) (0 : Int32) (0 : Int32) q F e

-- X0_work
abbrev wX0_work (r : Nat) (a1 : Nat) : List (Nat × Option Nat) := [(r, some 4), (r + 1, none), (r, some 5), (r + 3, none), (r + 4, none), (r + 2, none)]
abbrev zX0_work : List Nat := []
set_option maxRecDepth 10000 in
theorem fX0_work_c118 (h0 : Hp) (r : Nat) (a1 : Nat) (k14 : Hp → Nat → Nat → Int32 → Int32 → Int32 → Int32 → Option Hp) (hk14 : ∀ (h : Hp) (v2 : Int32) (v3 : Int32) (v4 : Int32) (v5 : Int32) (hr : ck r = 0) (ha1 : ck a1 = 1) (q : Hp), Fr (wX0_work r a1) zX0_work h0 h → k14 h r a1 v2 v3 v4 v5 = some q → Fr (wX0_work r a1) zX0_work h0 q) (h : Hp) (v2 : Int32) (v3 : Int32) (v4 : Int32) (v5 : Int32) (t0 : Int32) (t1 : Int32) (hr : ck r = 0) (ha1 : ck a1 = 1) (q : Hp) (F : Fr (wX0_work r a1) zX0_work h0 h) (e : sX0_work_c118 k14 h r a1 v2 v3 v4 v5 t0 t1 = some q) : Fr (wX0_work r a1) zX0_work h0 q := by
  unfold sX0_work_c118 at e
  obtain ⟨c11, e⟩ := gd_s e
  obtain ⟨h12, eh12, e⟩ := nm_s e
  have F := Fr.w1 F eh12 (Or.inl (by simp))
  obtain ⟨c13, e⟩ := gd_s e
  obtain ⟨h14, eh14, e⟩ := nm_s e
  have F := Fr.w1 F eh14 (Or.inl (by simp))
  obtain ⟨x15, ex15, e⟩ := nm_s e
  obtain ⟨q16, eq16, e⟩ := bd_s e
  have F := Fr.tr F (fX0_surplusOf h14 r v5 q16 eq16) (fun _ hh => absurd hh List.not_mem_nil) (by decide)
  obtain ⟨x17, ex17, e⟩ := nm_s e
  obtain ⟨x18, ex18, e⟩ := nm_s e
  exact hk14 q16.2 v2 x17 x15 x18 hr ha1 q F e
set_option maxRecDepth 10000 in
theorem fX0_work_c81 (h0 : Hp) (r : Nat) (a1 : Nat) (k14 : Hp → Nat → Nat → Int32 → Int32 → Int32 → Int32 → Option Hp) (hk14 : ∀ (h : Hp) (v2 : Int32) (v3 : Int32) (v4 : Int32) (v5 : Int32) (hr : ck r = 0) (ha1 : ck a1 = 1) (q : Hp), Fr (wX0_work r a1) zX0_work h0 h → k14 h r a1 v2 v3 v4 v5 = some q → Fr (wX0_work r a1) zX0_work h0 q) (h : Hp) (v2 : Int32) (v3 : Int32) (v4 : Int32) (v5 : Int32) (v6 : Int32) (t0 : Int32) (t1 : Int32) (hr : ck r = 0) (ha1 : ck a1 = 1) (q : Hp) (F : Fr (wX0_work r a1) zX0_work h0 h) (e : sX0_work_c81 k14 h r a1 v2 v3 v4 v5 v6 t0 t1 = some q) : Fr (wX0_work r a1) zX0_work h0 q := by
  unfold sX0_work_c81 at e
  obtain ⟨c6, e⟩ := gd_s e
  obtain ⟨h7, eh7, e⟩ := nm_s e
  have F := Fr.w1 F eh7 (Or.inl (by simp))
  by_cases c : v6 = 0
  · rw [if_pos c] at e
    obtain ⟨c8, e⟩ := gd_s e
    obtain ⟨c9, e⟩ := gd_s e
    obtain ⟨q10, eq10, e⟩ := bd_s e
    have F := Fr.tr F (fX1_capThrough h7 a1 (0 : Int32) (h7.1 (r + 1) (v5 + (1 : Int32)).toNatClampNeg) (h7.1 (r + 1) v5.toNatClampNeg) q10 eq10) (fun _ hh => absurd hh List.not_mem_nil) (by decide)
    exact fX0_work_c118 h0 r a1 k14 hk14 q10.2 v2 v3 v4 v5 q10.1 v5 hr ha1 q F e
  · rw [if_neg c] at e
    exact fX0_work_c118 h0 r a1 k14 hk14 h7 v2 v3 v4 v5 (0 : Int32) v5 hr ha1 q F e
set_option maxRecDepth 10000 in
theorem fX0_work_c39 (h0 : Hp) (r : Nat) (a1 : Nat) (k14 : Hp → Nat → Nat → Int32 → Int32 → Int32 → Int32 → Option Hp) (hk14 : ∀ (h : Hp) (v2 : Int32) (v3 : Int32) (v4 : Int32) (v5 : Int32) (hr : ck r = 0) (ha1 : ck a1 = 1) (q : Hp), Fr (wX0_work r a1) zX0_work h0 h → k14 h r a1 v2 v3 v4 v5 = some q → Fr (wX0_work r a1) zX0_work h0 q) (h : Hp) (v2 : Int32) (v3 : Int32) (v4 : Int32) (v5 : Int32) (t0 : Int32) (hr : ck r = 0) (ha1 : ck a1 = 1) (q : Hp) (F : Fr (wX0_work r a1) zX0_work h0 h) (e : sX0_work_c39 k14 h r a1 v2 v3 v4 v5 t0 = some q) : Fr (wX0_work r a1) zX0_work h0 q := by
  unfold sX0_work_c39 at e
  by_cases c : t0 = 0
  · rw [if_pos c] at e
    obtain ⟨c3, e⟩ := gd_s e
    obtain ⟨c4, e⟩ := gd_s e
    obtain ⟨q5, eq5, e⟩ := bd_s e
    have F := Fr.tr F (fX1_capThrough h a1 (1 : Int32) ((h.1 (r + 1) (v5 + (1 : Int32)).toNatClampNeg) + v2) ((h.1 (r + 1) v5.toNatClampNeg) + v2) q5 eq5) (fun _ hh => absurd hh List.not_mem_nil) (by decide)
    exact fX0_work_c81 h0 r a1 k14 hk14 q5.2 v2 v3 v4 v5 t0 q5.1 v5 hr ha1 q F e
  · rw [if_neg c] at e
    exact fX0_work_c81 h0 r a1 k14 hk14 h v2 v3 v4 v5 t0 (0 : Int32) v5 hr ha1 q F e
set_option maxRecDepth 10000 in
theorem fX0_work_c160 (h0 : Hp) (r : Nat) (a1 : Nat) (k160 : Hp → Nat → Int32 → Option Hp) (hk160 : ∀ (h : Hp) (v5 : Int32) (hr : ck r = 0) (q : Hp), Fr (wX0_work r a1) zX0_work h0 h → k160 h r v5 = some q → Fr (wX0_work r a1) zX0_work h0 q) (h : Hp) (v5 : Int32) (hr : ck r = 0) (q : Hp) (F : Fr (wX0_work r a1) zX0_work h0 h) (e : sX0_work_c160 k160 h r v5 = some q) : Fr (wX0_work r a1) zX0_work h0 q := by
  unfold sX0_work_c160 at e
  by_cases c : (h.1 r 4) ≤ v5
  · rw [if_pos c] at e
    exact Fr.e0 F e
  · rw [if_neg c] at e
    obtain ⟨c19, e⟩ := gd_s e
    obtain ⟨c20, e⟩ := gd_s e
    obtain ⟨h21, eh21, e⟩ := nm_s e
    have F := Fr.w1 F eh21 (Or.inl (by simp))
    obtain ⟨x22, ex22, e⟩ := nm_s e
    exact hk160 h21 x22 hr q F e
theorem fX0_work_b160 (h0 : Hp) (r : Nat) (a1 : Nat) : ∀ (n : Nat) (h : Hp) (v5 : Int32) (hr : ck r = 0) (q : Hp), Fr (wX0_work r a1) zX0_work h0 h → sX0_work_b160 n h r v5 = some q → Fr (wX0_work r a1) zX0_work h0 q
  | 0 => fun _ _ _ _ _ e => by cases e
  | n + 1 => fun h v5 hr q F e => fX0_work_c160 h0 r a1 (sX0_work_b160 n) (fX0_work_b160 h0 r a1 n) h v5 hr q F e
set_option maxRecDepth 10000 in
theorem fX0_work_c14 (h0 : Hp) (r : Nat) (a1 : Nat) (k14 : Hp → Nat → Nat → Int32 → Int32 → Int32 → Int32 → Option Hp) (hk14 : ∀ (h : Hp) (v2 : Int32) (v3 : Int32) (v4 : Int32) (v5 : Int32) (hr : ck r = 0) (ha1 : ck a1 = 1) (q : Hp), Fr (wX0_work r a1) zX0_work h0 h → k14 h r a1 v2 v3 v4 v5 = some q → Fr (wX0_work r a1) zX0_work h0 q) (h : Hp) (v2 : Int32) (v3 : Int32) (v4 : Int32) (v5 : Int32) (hr : ck r = 0) (ha1 : ck a1 = 1) (q : Hp) (F : Fr (wX0_work r a1) zX0_work h0 h) (e : sX0_work_c14 k14 h r a1 v2 v3 v4 v5 = some q) : Fr (wX0_work r a1) zX0_work h0 q := by
  unfold sX0_work_c14 at e
  by_cases c : (h.1 r 4) ≤ v5
  · rw [if_pos c] at e
    obtain ⟨h2, eh2, e⟩ := nm_s e
    have F := Fr.w1 F eh2 (Or.inr (by simp))
    exact fX0_work_b160 h0 r a1 FU h2 (0 : Int32) hr q F e
  · rw [if_neg c] at e
    by_cases c : v5 = ((h.1 r 4) - (1 : Int32))
    · rw [if_pos c] at e
      exact fX0_work_c39 h0 r a1 k14 hk14 h v2 v3 v4 v5 (1 : Int32) hr ha1 q F e
    · rw [if_neg c] at e
      exact fX0_work_c39 h0 r a1 k14 hk14 h v2 v3 v4 v5 (0 : Int32) hr ha1 q F e
theorem fX0_work_b14 (h0 : Hp) (r : Nat) (a1 : Nat) : ∀ (n : Nat) (h : Hp) (v2 : Int32) (v3 : Int32) (v4 : Int32) (v5 : Int32) (hr : ck r = 0) (ha1 : ck a1 = 1) (q : Hp), Fr (wX0_work r a1) zX0_work h0 h → sX0_work_b14 n h r a1 v2 v3 v4 v5 = some q → Fr (wX0_work r a1) zX0_work h0 q
  | 0 => fun _ _ _ _ _ _ _ _ _ e => by cases e
  | n + 1 => fun h v2 v3 v4 v5 hr ha1 q F e => fX0_work_c14 h0 r a1 (sX0_work_b14 n) (fX0_work_b14 h0 r a1 n) h v2 v3 v4 v5 hr ha1 q F e
set_option maxRecDepth 10000 in
theorem fX0_work (h : Hp) (r : Nat) (a1 : Nat) (a2 : Int32) (q : Hp) (e : sX0_work h r a1 a2 = some q) : Fr (wX0_work r a1) zX0_work h q := by
  unfold sX0_work at e
  obtain ⟨hr, e⟩ := gd_s e
  have hr := isC_t hr
  obtain ⟨ha1, e⟩ := gd_s e
  have ha1 := isC_t ha1
  have F : Fr (wX0_work r a1) zX0_work h h := Fr.rf
  obtain ⟨q1, eq1, e⟩ := bd_s e
  have F := Fr.tr F (fX0_placeBorders h r a1 a2 q1 eq1) (by simp) (by decide)
  exact fX0_work_b14 h r a1 FU q1 a2 (0 : Int32) (0 : Int32) (0 : Int32) hr ha1 q F e

-- X2_isWide
abbrev wX2_isWide (r : Nat) : List (Nat × Option Nat) := []
abbrev zX2_isWide : List Nat := []
set_option maxRecDepth 10000 in
theorem fX2_isWide_c17 (h0 : Hp) (r : Nat) (h : Hp) (t0 : Int32) (q : (Int32 × Hp)) (F : Fr (wX2_isWide r) zX2_isWide h0 h) (e : sX2_isWide_c17 h t0 = some q) : Fr (wX2_isWide r) zX2_isWide h0 q.2 := by
  unfold sX2_isWide_c17 at e
  obtain ⟨c2, e⟩ := gd_s e
  exact Fr.e1 F e
set_option maxRecDepth 10000 in
theorem fX2_isWide (h : Hp) (r : Nat) (a1 : Int32) (a2 : Int32) (a3 : Int32) (a4 : Int32) (q : (Int32 × Hp)) (e : sX2_isWide h r a1 a2 a3 a4 = some q) : Fr (wX2_isWide r) zX2_isWide h q.2 := by
  unfold sX2_isWide at e
  obtain ⟨hr, e⟩ := gd_s e
  have hr := isC_t hr
  have F : Fr (wX2_isWide r) zX2_isWide h h := Fr.rf
  obtain ⟨q1, eq1, e⟩ := bd_s e
  have F := Fr.tr F (fX2_spare h r a1 a2 a3 a4 q1 eq1) (fun _ hh => absurd hh List.not_mem_nil) (by decide)
  by_cases c : q1.1 < 0
  · rw [if_pos c] at e
    exact fX2_isWide_c17 h r q1.2 (0 : Int32) q F e
  · rw [if_neg c] at e
    exact fX2_isWide_c17 h r q1.2 (1 : Int32) q F e

-- X2_greatestLoad
abbrev wX2_greatestLoad (r : Nat) : List (Nat × Option Nat) := []
abbrev zX2_greatestLoad : List Nat := []
set_option maxRecDepth 10000 in
theorem fX2_greatestLoad_c79 (h0 : Hp) (r : Nat) (h : Hp) (t0 : Int32) (q : (Int32 × Hp)) (F : Fr (wX2_greatestLoad r) zX2_greatestLoad h0 h) (e : sX2_greatestLoad_c79 h t0 = some q) : Fr (wX2_greatestLoad r) zX2_greatestLoad h0 q.2 := by
  unfold sX2_greatestLoad_c79 at e
  exact Fr.e1 F e
set_option maxRecDepth 10000 in
theorem fX2_greatestLoad (h : Hp) (r : Nat) (a1 : Int32) (a2 : Int32) (q : (Int32 × Hp)) (e : sX2_greatestLoad h r a1 a2 = some q) : Fr (wX2_greatestLoad r) zX2_greatestLoad h q.2 := by
  unfold sX2_greatestLoad at e
  obtain ⟨hr, e⟩ := gd_s e
  have hr := isC_t hr
  have F : Fr (wX2_greatestLoad r) zX2_greatestLoad h h := Fr.rf
  obtain ⟨c1, e⟩ := gd_s e
  obtain ⟨c2, e⟩ := gd_s e
  obtain ⟨q3, eq3, e⟩ := bd_s e
  have F := Fr.tr F (fX2_spare h r a1 a2 (h.1 (r + 7) a1.toNatClampNeg) (h.1 (r + 7) a2.toNatClampNeg) q3 eq3) (fun _ hh => absurd hh List.not_mem_nil) (by decide)
  by_cases c : 0 ≤ q3.1
  · rw [if_pos c] at e
    obtain ⟨q4, eq4, e⟩ := bd_s e
    have F := Fr.tr F (fX2_rest q3.2 r a1 q4 eq4) (fun _ hh => absurd hh List.not_mem_nil) (by decide)
    obtain ⟨q5, eq5, e⟩ := bd_s e
    have F := Fr.tr F (fX2_rest q4.2 r a2 q5 eq5) (fun _ hh => absurd hh List.not_mem_nil) (by decide)
    obtain ⟨x6, ex6, e⟩ := nm_s e
    obtain ⟨c7, e⟩ := gd_s e
    obtain ⟨c8, e⟩ := gd_s e
    obtain ⟨x9, ex9, e⟩ := nm_s e
    by_cases c : x9 ≤ 0
    · rw [if_pos c] at e
      exact fX2_greatestLoad_c79 h r q5.2 x6 q F e
    · rw [if_neg c] at e
      obtain ⟨c10, e⟩ := gd_s e
      exact fX2_greatestLoad_c79 h r q5.2 (imin x6 (q3.1 / x9)) q F e
  · rw [if_neg c] at e
    exact Fr.e1 F e

-- X2_areaOf
abbrev wX2_areaOf (r : Nat) : List (Nat × Option Nat) := []
abbrev zX2_areaOf : List Nat := []
set_option maxRecDepth 10000 in
theorem fX2_areaOf (h : Hp) (r : Nat) (a1 : Int32) (q : (Int32 × Hp)) (e : sX2_areaOf h r a1 = some q) : Fr (wX2_areaOf r) zX2_areaOf h q.2 := by
  unfold sX2_areaOf at e
  obtain ⟨hr, e⟩ := gd_s e
  have hr := isC_t hr
  have F : Fr (wX2_areaOf r) zX2_areaOf h h := Fr.rf
  obtain ⟨q1, eq1, e⟩ := bd_s e
  have F := Fr.tr F (fX2_widthOf h r a1 (0 : Int32) q1 eq1) (fun _ hh => absurd hh List.not_mem_nil) (by decide)
  obtain ⟨q2, eq2, e⟩ := bd_s e
  have F := Fr.tr F (fX2_widthOf q1.2 r a1 (1 : Int32) q2 eq2) (fun _ hh => absurd hh List.not_mem_nil) (by decide)
  obtain ⟨x3, ex3, e⟩ := nm_s e
  by_cases c : 0 < x3
  · rw [if_pos c] at e
    obtain ⟨c4, e⟩ := gd_s e
    obtain ⟨c5, e⟩ := gd_s e
    obtain ⟨c6, e⟩ := gd_s e
    obtain ⟨q7, eq7, e⟩ := bd_s e
    have F := Fr.tr F (fX2_unit q2.2 r (q2.2.1 (r + 8) a1.toNatClampNeg) (q2.2.1 (r + 9) a1.toNatClampNeg) q7 eq7) (fun _ hh => absurd hh List.not_mem_nil) (by decide)
    obtain ⟨x8, ex8, e⟩ := nm_s e
    obtain ⟨c9, e⟩ := gd_s e
    exact Fr.e1 F e
  · rw [if_neg c] at e
    exact Fr.e1 F e

-- X3_readInto
abbrev wX3_readInto (a1 : Nat) : List (Nat × Option Nat) := [(a1, some 4), (2, some 2), (2, some 4), (2, some 3), (a1 + 1, none), (a1 + 2, none), (a1 + 3, none), (a1 + 4, none)]
abbrev zX3_readInto : List Nat := []
set_option maxRecDepth 10000 in
theorem fX3_readInto_c72 (h0 : Hp) (a1 : Nat) (h : Hp) (q : (Int32 × Hp)) (F : Fr (wX3_readInto a1) zX3_readInto h0 h) (e : sX3_readInto_c72 h = some q) : Fr (wX3_readInto a1) zX3_readInto h0 q.2 := by
  unfold sX3_readInto_c72 at e
  exact Fr.e1 F e
set_option maxRecDepth 10000 in
theorem fX3_readInto_c25 (h0 : Hp) (a1 : Nat) (k25 : Hp → Nat → Int32 → Option (Int32 × Hp)) (hk25 : ∀ (h : Hp) (v2 : Int32) (ha1 : ck a1 = 1) (q : (Int32 × Hp)), Fr (wX3_readInto a1) zX3_readInto h0 h → k25 h a1 v2 = some q → Fr (wX3_readInto a1) zX3_readInto h0 q.2) (h : Hp) (v2 : Int32) (ha1 : ck a1 = 1) (q : (Int32 × Hp)) (F : Fr (wX3_readInto a1) zX3_readInto h0 h) (e : sX3_readInto_c25 k25 h a1 v2 = some q) : Fr (wX3_readInto a1) zX3_readInto h0 q.2 := by
  unfold sX3_readInto_c25 at e
  by_cases c : (10 : Int32) < v2
  · rw [if_pos c] at e
    exact Fr.e1 F e
  · rw [if_neg c] at e
    obtain ⟨q4, eq4, e⟩ := bd_s e
    have F := Fr.tr F (fX3_readStream h a1 q4 eq4) (by simp) (by decide)
    by_cases c : q4.1 = 0
    · rw [if_pos c] at e
      exact Fr.e1 F e
    · rw [if_neg c] at e
      by_cases c : (q4.2.1 2 2) < (q4.2.1 2 1)
      · rw [if_pos c] at e
        by_cases c : v2 = (10 : Int32)
        · rw [if_pos c] at e
          exact fX3_readInto_c72 h0 a1 q4.2 q F e
        · rw [if_neg c] at e
          obtain ⟨q5, eq5, e⟩ := bd_s e
          have F := Fr.tr F (fX3_readSign q4.2 (44 : Int32) q5 eq5) (by simp) (by decide)
          by_cases c : q5.1 = 0
          · rw [if_pos c] at e
            exact fX3_readInto_c72 h0 a1 q5.2 q F e
          · rw [if_neg c] at e
            obtain ⟨x6, ex6, e⟩ := nm_s e
            exact hk25 q5.2 x6 ha1 q F e
      · rw [if_neg c] at e
        exact Fr.e1 F e
theorem fX3_readInto_b25 (h0 : Hp) (a1 : Nat) : ∀ (n : Nat) (h : Hp) (v2 : Int32) (ha1 : ck a1 = 1) (q : (Int32 × Hp)), Fr (wX3_readInto a1) zX3_readInto h0 h → sX3_readInto_b25 n h a1 v2 = some q → Fr (wX3_readInto a1) zX3_readInto h0 q.2
  | 0 => fun _ _ _ _ _ e => by cases e
  | n + 1 => fun h v2 ha1 q F e => fX3_readInto_c25 h0 a1 (sX3_readInto_b25 n) (fX3_readInto_b25 h0 a1 n) h v2 ha1 q F e
set_option maxRecDepth 10000 in
theorem fX3_readInto (h : Hp) (a1 : Nat) (q : (Int32 × Hp)) (e : sX3_readInto h a1 = some q) : Fr (wX3_readInto a1) zX3_readInto h q.2 := by
  unfold sX3_readInto at e
  obtain ⟨ha1, e⟩ := gd_s e
  have ha1 := isC_t ha1
  have F : Fr (wX3_readInto a1) zX3_readInto h h := Fr.rf
  obtain ⟨q1, eq1, e⟩ := bd_s e
  have F := Fr.tr F (fX1_empty h a1 q1 eq1) (by simp) (by decide)
  obtain ⟨h2, eh2, e⟩ := nm_s e
  have F := Fr.w1 F eh2 (Or.inr (by simp))
  obtain ⟨h3, eh3, e⟩ := nm_s e
  have F := Fr.w1 F eh3 (Or.inr (by simp))
  by_cases c : (h3.1 2 1) = 0
  · rw [if_pos c] at e
    exact Fr.e1 F e
  · rw [if_neg c] at e
    exact fX3_readInto_b25 h a1 FU h3 (1 : Int32) ha1 q F e

-- X4_tell__
abbrev wX4_tell__ : List (Nat × Option Nat) := [(4, some 1)]
abbrev zX4_tell__ : List Nat := [5]
set_option maxRecDepth 10000 in
theorem fX4_tell__ (h : Hp) (a1 : Int64) (a3 : Int64) (a5 : Int64) (q : Hp) (e : sX4_tell__ h a1 a3 a5 = some q) : Fr (wX4_tell__) zX4_tell__ h q := by
  unfold sX4_tell__ at e
  have F : Fr (wX4_tell__) zX4_tell__ h h := Fr.rf
  obtain ⟨q1, eq1, e⟩ := bd_s e
  have F := Fr.tr F (fX4_tell_ h a1 a3 q1 eq1) (by decide) (by decide)
  obtain ⟨q2, eq2, e⟩ := bd_s e
  have F := Fr.tr F (fX4_add q1 a5 q2 eq2) (by decide) (by decide)
  exact Fr.e0 F e

-- X5_fuel
abbrev wX5_fuel : List (Nat × Option Nat) := [(4, some 1)]
abbrev zX5_fuel : List Nat := [5]
set_option maxRecDepth 10000 in
theorem fX5_fuel (h : Hp) (q : (Int32 × Hp)) (e : sX5_fuel h = some q) : Fr (wX5_fuel) zX5_fuel h q.2 := by
  unfold sX5_fuel at e
  have F : Fr (wX5_fuel) zX5_fuel h h := Fr.rf
  obtain ⟨q1, eq1, e⟩ := bd_s e
  have F := Fr.tr F (fX0_cool h 16 q1 eq1) (fun _ hh => absurd hh List.not_mem_nil) (by decide)
  obtain ⟨q2, eq2, e⟩ := bd_s e
  have F := Fr.tr F (fX4_tell_ q1.2 q1.1.toInt64 ((q1.2.1 16 4).toInt64) q2 eq2) (by decide) (by decide)
  exact Fr.e1 F e

-- X5_above
abbrev wX5_above : List (Nat × Option Nat) := [(4, some 1)]
abbrev zX5_above : List Nat := [5]
set_option maxRecDepth 10000 in
theorem fX5_above (h : Hp) (a1 : Int32) (a2 : Int32) (q : (Int32 × Hp)) (e : sX5_above h a1 a2 = some q) : Fr (wX5_above) zX5_above h q.2 := by
  unfold sX5_above at e
  have F : Fr (wX5_above) zX5_above h h := Fr.rf
  obtain ⟨q1, eq1, e⟩ := bd_s e
  have F := Fr.tr F (fX5_isDegree h a2 q1 eq1) (fun _ hh => absurd hh List.not_mem_nil) (by decide)
  by_cases c : q1.1 = 0
  · rw [if_pos c] at e
    exact Fr.e1 F e
  · rw [if_neg c] at e
    obtain ⟨q2, eq2, e⟩ := bd_s e
    have F := Fr.tr F (fX1_howManyAt q1.2 6 a1 a2 q2 eq2) (fun _ hh => absurd hh List.not_mem_nil) (by decide)
    obtain ⟨q3, eq3, e⟩ := bd_s e
    have F := Fr.tr F (fX4_tell q2.2 q2.1.toInt64 q3 eq3) (by decide) (by decide)
    obtain ⟨q4, eq4, e⟩ := bd_s e
    have F := Fr.tr F (fX1_heatAbove q3 6 a1 a2 q4 eq4) (fun _ hh => absurd hh List.not_mem_nil) (by decide)
    exact Fr.e1 F e

-- X5_level
abbrev wX5_level : List (Nat × Option Nat) := [(4, some 1)]
abbrev zX5_level : List Nat := [5]
set_option maxRecDepth 10000 in
theorem fX5_level_c72 (h0 : Hp) (k25 : Hp → Int32 → Int32 → Int32 → Int32 → Option (Int32 × Hp)) (hk25 : ∀ (h : Hp) (v1 : Int32) (v3 : Int32) (v4 : Int32) (v5 : Int32) (q : (Int32 × Hp)), Fr (wX5_level) zX5_level h0 h → k25 h v1 v3 v4 v5 = some q → Fr (wX5_level) zX5_level h0 q.2) (h : Hp) (v1 : Int32) (v3 : Int32) (v4 : Int32) (v5 : Int32) (v6 : Int32) (t0 : Int32) (q : (Int32 × Hp)) (F : Fr (wX5_level) zX5_level h0 h) (e : sX5_level_c72 k25 h v1 v3 v4 v5 v6 t0 = some q) : Fr (wX5_level) zX5_level h0 q.2 := by
  unfold sX5_level_c72 at e
  obtain ⟨x4, ex4, e⟩ := nm_s e
  by_cases c : x4 < v3
  · rw [if_pos c] at e
    obtain ⟨x5, ex5, e⟩ := nm_s e
    obtain ⟨x6, ex6, e⟩ := nm_s e
    exact hk25 h v1 x5 v6 x6 q F e
  · rw [if_neg c] at e
    obtain ⟨q7, eq7, e⟩ := bd_s e
    have F := Fr.tr F (fX4_empty h q7 eq7) (by decide) (by decide)
    obtain ⟨q8, eq8, e⟩ := bd_s e
    have F := Fr.tr F (fX4_addFraction q7 ((v4 * t0) - v3) t0 q8 eq8) (by decide) (by decide)
    exact Fr.e1 F e
set_option maxRecDepth 10000 in
theorem fX5_level_c130 (h0 : Hp) (h : Hp) (q : (Int32 × Hp)) (F : Fr (wX5_level) zX5_level h0 h) (e : sX5_level_c130 h = some q) : Fr (wX5_level) zX5_level h0 q.2 := by
  unfold sX5_level_c130 at e
  exact Fr.e1 F e
set_option maxRecDepth 10000 in
theorem fX5_level_c25 (h0 : Hp) (k25 : Hp → Int32 → Int32 → Int32 → Int32 → Option (Int32 × Hp)) (hk25 : ∀ (h : Hp) (v1 : Int32) (v3 : Int32) (v4 : Int32) (v5 : Int32) (q : (Int32 × Hp)), Fr (wX5_level) zX5_level h0 h → k25 h v1 v3 v4 v5 = some q → Fr (wX5_level) zX5_level h0 q.2) (h : Hp) (v1 : Int32) (v3 : Int32) (v4 : Int32) (v5 : Int32) (q : (Int32 × Hp)) (F : Fr (wX5_level) zX5_level h0 h) (e : sX5_level_c25 k25 h v1 v3 v4 v5 = some q) : Fr (wX5_level) zX5_level h0 q.2 := by
  unfold sX5_level_c25 at e
  by_cases c : (20 : Int32) ≤ v5
  · rw [if_pos c] at e
    exact fX5_level_c130 h0 h q F e
  · rw [if_neg c] at e
    by_cases c : v4 = (-1 : Int32)
    · rw [if_pos c] at e
      exact fX5_level_c130 h0 h q F e
    · rw [if_neg c] at e
      obtain ⟨q2, eq2, e⟩ := bd_s e
      have F := Fr.tr F (fX1_endBelow h 6 v1 v4 q2 eq2) (fun _ hh => absurd hh List.not_mem_nil) (by decide)
      by_cases c : q2.1 = (-1 : Int32)
      · rw [if_pos c] at e
        exact fX5_level_c72 h0 k25 hk25 q2.2 v1 v3 v4 v5 q2.1 (0 : Int32) q F e
      · rw [if_neg c] at e
        obtain ⟨q3, eq3, e⟩ := bd_s e
        have F := Fr.tr F (fX1_capThrough q2.2 6 v1 q2.1 v4 q3 eq3) (fun _ hh => absurd hh List.not_mem_nil) (by decide)
        exact fX5_level_c72 h0 k25 hk25 q3.2 v1 v3 v4 v5 q2.1 q3.1 q F e
theorem fX5_level_b25 (h0 : Hp) : ∀ (n : Nat) (h : Hp) (v1 : Int32) (v3 : Int32) (v4 : Int32) (v5 : Int32) (q : (Int32 × Hp)), Fr (wX5_level) zX5_level h0 h → sX5_level_b25 n h v1 v3 v4 v5 = some q → Fr (wX5_level) zX5_level h0 q.2
  | 0 => fun _ _ _ _ _ _ _ e => by cases e
  | n + 1 => fun h v1 v3 v4 v5 q F e => fX5_level_c25 h0 (sX5_level_b25 n) (fX5_level_b25 h0 n) h v1 v3 v4 v5 q F e
set_option maxRecDepth 10000 in
theorem fX5_level (h : Hp) (a1 : Int32) (a2 : Int32) (q : (Int32 × Hp)) (e : sX5_level h a1 a2 = some q) : Fr (wX5_level) zX5_level h q.2 := by
  unfold sX5_level at e
  have F : Fr (wX5_level) zX5_level h h := Fr.rf
  by_cases c : (1 : Int32) ≤ a2
  · rw [if_pos c] at e
    obtain ⟨q1, eq1, e⟩ := bd_s e
    have F := Fr.tr F (fX1_endBelow h 6 a1 (501 : Int32) q1 eq1) (fun _ hh => absurd hh List.not_mem_nil) (by decide)
    exact fX5_level_b25 h FU q1.2 a1 a2 q1.1 (0 : Int32) q F e
  · rw [if_neg c] at e
    exact Fr.e1 F e

-- X5_left
abbrev wX5_left : List (Nat × Option Nat) := [(4, some 1)]
abbrev zX5_left : List Nat := [5]
set_option maxRecDepth 10000 in
theorem fX5_left (h : Hp) (q : (Int32 × Hp)) (e : sX5_left h = some q) : Fr (wX5_left) zX5_left h q.2 := by
  unfold sX5_left at e
  have F : Fr (wX5_left) zX5_left h h := Fr.rf
  obtain ⟨q1, eq1, e⟩ := bd_s e
  have F := Fr.tr F (fX2_restOfKind h 26 (0 : Int32) q1 eq1) (fun _ hh => absurd hh List.not_mem_nil) (by decide)
  obtain ⟨q2, eq2, e⟩ := bd_s e
  have F := Fr.tr F (fX2_restOfKind q1.2 40 (0 : Int32) q2 eq2) (fun _ hh => absurd hh List.not_mem_nil) (by decide)
  obtain ⟨x3, ex3, e⟩ := nm_s e
  obtain ⟨q4, eq4, e⟩ := bd_s e
  have F := Fr.tr F (fX2_restOfKind q2.2 26 (1 : Int32) q4 eq4) (fun _ hh => absurd hh List.not_mem_nil) (by decide)
  obtain ⟨q5, eq5, e⟩ := bd_s e
  have F := Fr.tr F (fX2_restOfKind q4.2 40 (1 : Int32) q5 eq5) (fun _ hh => absurd hh List.not_mem_nil) (by decide)
  obtain ⟨x6, ex6, e⟩ := nm_s e
  obtain ⟨q7, eq7, e⟩ := bd_s e
  have F := Fr.tr F (fX4_tell_ q5.2 x6.toInt64 ((x3 - (q5.2.1 16 5)).toInt64) q7 eq7) (by decide) (by decide)
  exact Fr.e1 F e

-- X5_loop
abbrev wX5_loop : List (Nat × Option Nat) := [(39, none), (53, none), (38, none), (52, none), (26, some 16), (40, some 16), (4, some 1)]
abbrev zX5_loop : List Nat := [5]
set_option maxRecDepth 10000 in
theorem fX5_loop_c38 (h0 : Hp) (k38 : Hp → Nat → Int32 → Option (Int32 × Hp)) (hk38 : ∀ (h : Hp) (v3 : Nat) (v4 : Int32) (hv3 : ck v3 = 2) (q : (Int32 × Hp)), Fr (wX5_loop) zX5_loop h0 h → k38 h v3 v4 = some q → Fr (wX5_loop) zX5_loop h0 q.2) (h : Hp) (v3 : Nat) (v4 : Int32) (hv3 : ck v3 = 2) (q : (Int32 × Hp)) (F : Fr (wX5_loop) zX5_loop h0 h) (e : sX5_loop_c38 k38 h v3 v4 = some q) : Fr (wX5_loop) zX5_loop h0 q.2 := by
  unfold sX5_loop_c38 at e
  by_cases c : (h.1 v3 16) ≤ v4
  · rw [if_pos c] at e
    exact Fr.e1 F e
  · rw [if_neg c] at e
    obtain ⟨c6, e⟩ := gd_s e
    obtain ⟨q7, eq7, e⟩ := bd_s e
    have F := Fr.tr F (fX4_add h ((h.1 (v3 + 12) v4.toNatClampNeg).toInt64) q7 eq7) (by decide) (by decide)
    obtain ⟨x8, ex8, e⟩ := nm_s e
    exact hk38 q7 v3 x8 hv3 q F e
theorem fX5_loop_b38 (h0 : Hp) : ∀ (n : Nat) (h : Hp) (v3 : Nat) (v4 : Int32) (hv3 : ck v3 = 2) (q : (Int32 × Hp)), Fr (wX5_loop) zX5_loop h0 h → sX5_loop_b38 n h v3 v4 = some q → Fr (wX5_loop) zX5_loop h0 q.2
  | 0 => fun _ _ _ _ _ _ e => by cases e
  | n + 1 => fun h v3 v4 hv3 q F e => fX5_loop_c38 h0 (sX5_loop_b38 n) (fX5_loop_b38 h0 n) h v3 v4 hv3 q F e
set_option maxRecDepth 10000 in
theorem fX5_loop (h : Hp) (a1 : Int32) (a2 : Int32) (q : (Int32 × Hp)) (e : sX5_loop h a1 a2 = some q) : Fr (wX5_loop) zX5_loop h q.2 := by
  unfold sX5_loop at e
  have F : Fr (wX5_loop) zX5_loop h h := Fr.rf
  obtain ⟨q1, eq1, e⟩ := bd_s e
  have F := Fr.tr F (fX5_hasMatch h a1 a2 q1 eq1) (fun _ hh => absurd hh List.not_mem_nil) (by decide)
  by_cases c : q1.1 = 0
  · rw [if_pos c] at e
    exact Fr.e1 F e
  · rw [if_neg c] at e
    obtain ⟨q2, eq2, e⟩ := bd_s e
    have F := Fr.tr F (fX5_sideOf q1.2 a1 q2 eq2) (fun _ hh => absurd hh List.not_mem_nil) (by decide)
    obtain ⟨c3, e⟩ := gd_s e
    obtain ⟨q4, eq4, e⟩ := bd_s e
    have F := Fr.tr F (fX2_findRing q2.2 q2.1 a2 q4 eq4) (by rcases hsX2 (isC_t c3) with hh | hh <;> rw [hh] <;> decide) (by decide)
    by_cases c : q4.1 = 0
    · rw [if_pos c] at e
      exact Fr.e1 F e
    · rw [if_neg c] at e
      obtain ⟨q5, eq5, e⟩ := bd_s e
      have F := Fr.tr F (fX4_empty q4.2 q5 eq5) (by decide) (by decide)
      exact fX5_loop_b38 h FU q5 q2.1 (0 : Int32) (isC_t c3) q F e

-- X5_count
abbrev wX5_count : List (Nat × Option Nat) := []
abbrev zX5_count : List Nat := []
set_option maxRecDepth 10000 in
theorem fX5_count (h : Hp) (a1 : Int32) (q : (Int32 × Hp)) (e : sX5_count h a1 = some q) : Fr (wX5_count) zX5_count h q.2 := by
  unfold sX5_count at e
  have F : Fr (wX5_count) zX5_count h h := Fr.rf
  by_cases c0 : a1 = 0
  · rw [if_pos c0] at e
    exact Fr.e1 F e
  rw [if_neg c0] at e
  by_cases c1 : a1 = 1
  · rw [if_pos c1] at e
    obtain ⟨q1, eq1, e⟩ := bd_s e
    have F := Fr.tr F (fX1_hotBits h 6 q1 eq1) (fun _ hh => absurd hh List.not_mem_nil) (by decide)
    exact Fr.e1 F e
  rw [if_neg c1] at e
  by_cases c2 : a1 = 2
  · rw [if_pos c2] at e
    exact Fr.e1 F e
  rw [if_neg c2] at e
  by_cases c3 : a1 = 3
  · rw [if_pos c3] at e
    exact Fr.e1 F e
  rw [if_neg c3] at e
  by_cases c4 : a1 = 4
  · rw [if_pos c4] at e
    exact Fr.e1 F e
  rw [if_neg c4] at e
  by_cases c5 : a1 = 5
  · rw [if_pos c5] at e
    obtain ⟨q2, eq2, e⟩ := bd_s e
    have F := Fr.tr F (fX1_heatAbove h 6 (1 : Int32) (0 : Int32) q2 eq2) (fun _ hh => absurd hh List.not_mem_nil) (by decide)
    exact Fr.e1 F e
  rw [if_neg c5] at e
  by_cases c6 : a1 = 6
  · rw [if_pos c6] at e
    obtain ⟨q3, eq3, e⟩ := bd_s e
    have F := Fr.tr F (fX1_heatAbove h 6 (0 : Int32) (0 : Int32) q3 eq3) (fun _ hh => absurd hh List.not_mem_nil) (by decide)
    exact Fr.e1 F e
  rw [if_neg c6] at e
  by_cases c7 : a1 = 7
  · rw [if_pos c7] at e
    exact Fr.e1 F e
  rw [if_neg c7] at e
  by_cases c8 : a1 = 8
  · rw [if_pos c8] at e
    exact Fr.e1 F e
  rw [if_neg c8] at e
  exact Fr.e1 F e

-- X6_readsStream
abbrev wX6_readsStream : List (Nat × Option Nat) := [(54, some 5), (60, none), (61, none), (62, none)]
abbrev zX6_readsStream : List Nat := []
set_option maxRecDepth 10000 in
theorem fX6_readsStream_c60 (h0 : Hp) (h : Hp) (q : (Int32 × Hp)) (F : Fr (wX6_readsStream) zX6_readsStream h0 h) (e : sX6_readsStream_c60 h = some q) : Fr (wX6_readsStream) zX6_readsStream h0 q.2 := by
  unfold sX6_readsStream_c60 at e
  exact Fr.e1 F e
set_option maxRecDepth 10000 in
theorem fX6_readsStream_c122 (h0 : Hp) (h : Hp) (q : (Int32 × Hp)) (F : Fr (wX6_readsStream) zX6_readsStream h0 h) (e : sX6_readsStream_c122 h = some q) : Fr (wX6_readsStream) zX6_readsStream h0 q.2 := by
  unfold sX6_readsStream_c122 at e
  exact Fr.e1 F e
set_option maxRecDepth 10000 in
theorem fX6_readsStream_c153 (h0 : Hp) (h : Hp) (q : (Int32 × Hp)) (F : Fr (wX6_readsStream) zX6_readsStream h0 h) (e : sX6_readsStream_c153 h = some q) : Fr (wX6_readsStream) zX6_readsStream h0 q.2 := by
  unfold sX6_readsStream_c153 at e
  exact Fr.e1 F e
set_option maxRecDepth 10000 in
theorem fX6_readsStream_c107 (h0 : Hp) (h : Hp) (v1 : Int32) (v3 : Int32) (v4 : Int32) (t0 : Int32) (q : (Int32 × Hp)) (F : Fr (wX6_readsStream) zX6_readsStream h0 h) (e : sX6_readsStream_c107 h v1 v3 v4 t0 = some q) : Fr (wX6_readsStream) zX6_readsStream h0 q.2 := by
  unfold sX6_readsStream_c107 at e
  obtain ⟨q7, eq7, e⟩ := bd_s e
  have F := Fr.tr F (fX6_isFit h t0 q7 eq7) (by decide) (by decide)
  by_cases c : q7.1 = 0
  · rw [if_pos c] at e
    exact fX6_readsStream_c122 h0 q7.2 q F e
  · rw [if_neg c] at e
    obtain ⟨q8, eq8, e⟩ := bd_s e
    have F := Fr.tr F (fX6_takes q7.2 (42 : Int32) q8 eq8) (by decide) (by decide)
    by_cases c : q8.1 = 0
    · rw [if_pos c] at e
      exact fX6_readsStream_c122 h0 q8.2 q F e
    · rw [if_neg c] at e
      obtain ⟨q9, eq9, e⟩ := bd_s e
      have F := Fr.tr F (fX6_number q8.2 (2 : Int32) q9 eq9) (by decide) (by decide)
      by_cases c : q9.1 < 0
      · rw [if_pos c] at e
        exact fX6_readsStream_c153 h0 q9.2 q F e
      · rw [if_neg c] at e
        obtain ⟨q10, eq10, e⟩ := bd_s e
        have F := Fr.tr F (fX6_in q9.2 q9.1.toInt64 (1 : Int64) (20 : Int64) q10 eq10) (fun _ hh => absurd hh List.not_mem_nil) (by decide)
        obtain ⟨q11, eq11, e⟩ := bd_s e
        have F := Fr.tr F (fX6_isFit q10.2 q10.1 q11 eq11) (by decide) (by decide)
        by_cases c : q11.1 = 0
        · rw [if_pos c] at e
          exact fX6_readsStream_c153 h0 q11.2 q F e
        · rw [if_neg c] at e
          obtain ⟨c12, e⟩ := gd_s e
          obtain ⟨h13, eh13, e⟩ := nm_s e
          have F := Fr.w1 F eh13 (Or.inl (by decide))
          obtain ⟨c14, e⟩ := gd_s e
          obtain ⟨h15, eh15, e⟩ := nm_s e
          have F := Fr.w1 F eh15 (Or.inl (by decide))
          obtain ⟨c16, e⟩ := gd_s e
          obtain ⟨h17, eh17, e⟩ := nm_s e
          have F := Fr.w1 F eh17 (Or.inl (by decide))
          exact Fr.e1 F e
set_option maxRecDepth 10000 in
theorem fX6_readsStream_c102 (h0 : Hp) (h : Hp) (v1 : Int32) (v3 : Int32) (v4 : Int32) (q : (Int32 × Hp)) (F : Fr (wX6_readsStream) zX6_readsStream h0 h) (e : sX6_readsStream_c102 h v1 v3 v4 = some q) : Fr (wX6_readsStream) zX6_readsStream h0 q.2 := by
  unfold sX6_readsStream_c102 at e
  exact fX6_readsStream_c107 h0 h v1 v3 v4 (1 : Int32) q F e
set_option maxRecDepth 10000 in
theorem fX6_readsStream_c106 (h0 : Hp) (h : Hp) (v1 : Int32) (v3 : Int32) (v4 : Int32) (q : (Int32 × Hp)) (F : Fr (wX6_readsStream) zX6_readsStream h0 h) (e : sX6_readsStream_c106 h v1 v3 v4 = some q) : Fr (wX6_readsStream) zX6_readsStream h0 q.2 := by
  unfold sX6_readsStream_c106 at e
  exact fX6_readsStream_c107 h0 h v1 v3 v4 (0 : Int32) q F e
set_option maxRecDepth 10000 in
theorem fX6_readsStream_c45 (h0 : Hp) (h : Hp) (v1 : Int32) (v2 : Int32) (v3 : Int32) (t0 : Int32) (q : (Int32 × Hp)) (F : Fr (wX6_readsStream) zX6_readsStream h0 h) (e : sX6_readsStream_c45 h v1 v2 v3 t0 = some q) : Fr (wX6_readsStream) zX6_readsStream h0 q.2 := by
  unfold sX6_readsStream_c45 at e
  obtain ⟨q4, eq4, e⟩ := bd_s e
  have F := Fr.tr F (fX6_isFit h t0 q4 eq4) (by decide) (by decide)
  by_cases c : q4.1 = 0
  · rw [if_pos c] at e
    exact fX6_readsStream_c60 h0 q4.2 q F e
  · rw [if_neg c] at e
    obtain ⟨q5, eq5, e⟩ := bd_s e
    have F := Fr.tr F (fX6_takes q4.2 (45 : Int32) q5 eq5) (by decide) (by decide)
    by_cases c : q5.1 = 0
    · rw [if_pos c] at e
      exact fX6_readsStream_c60 h0 q5.2 q F e
    · rw [if_neg c] at e
      obtain ⟨q6, eq6, e⟩ := bd_s e
      have F := Fr.tr F (fX6_number q5.2 (3 : Int32) q6 eq6) (by decide) (by decide)
      by_cases c : q6.1 < 0
      · rw [if_pos c] at e
        exact fX6_readsStream_c122 h0 q6.2 q F e
      · rw [if_neg c] at e
        by_cases c : (500 : Int32) < q6.1
        · rw [if_pos c] at e
          exact fX6_readsStream_c106 h0 q6.2 v1 v3 q6.1 q F e
        · rw [if_neg c] at e
          by_cases c : v2 = 0
          · rw [if_pos c] at e
            by_cases c : q6.1 ≤ v3
            · rw [if_pos c] at e
              exact fX6_readsStream_c106 h0 q6.2 v1 v3 q6.1 q F e
            · rw [if_neg c] at e
              exact fX6_readsStream_c102 h0 q6.2 v1 v3 q6.1 q F e
          · rw [if_neg c] at e
            by_cases c : v3 ≤ q6.1
            · rw [if_pos c] at e
              exact fX6_readsStream_c106 h0 q6.2 v1 v3 q6.1 q F e
            · rw [if_neg c] at e
              exact fX6_readsStream_c102 h0 q6.2 v1 v3 q6.1 q F e
set_option maxRecDepth 10000 in
theorem fX6_readsStream_c22 (h0 : Hp) (h : Hp) (v1 : Int32) (v2 : Int32) (q : (Int32 × Hp)) (F : Fr (wX6_readsStream) zX6_readsStream h0 h) (e : sX6_readsStream_c22 h v1 v2 = some q) : Fr (wX6_readsStream) zX6_readsStream h0 q.2 := by
  unfold sX6_readsStream_c22 at e
  obtain ⟨q3, eq3, e⟩ := bd_s e
  have F := Fr.tr F (fX6_number h (3 : Int32) q3 eq3) (by decide) (by decide)
  by_cases c : q3.1 < 0
  · rw [if_pos c] at e
    exact fX6_readsStream_c60 h0 q3.2 q F e
  · rw [if_neg c] at e
    by_cases c : (500 : Int32) < q3.1
    · rw [if_pos c] at e
      exact fX6_readsStream_c45 h0 q3.2 v1 v2 q3.1 (0 : Int32) q F e
    · rw [if_neg c] at e
      exact fX6_readsStream_c45 h0 q3.2 v1 v2 q3.1 (1 : Int32) q F e
set_option maxRecDepth 10000 in
theorem fX6_readsStream (h : Hp) (a1 : Int32) (q : (Int32 × Hp)) (e : sX6_readsStream h a1 = some q) : Fr (wX6_readsStream) zX6_readsStream h q.2 := by
  unfold sX6_readsStream at e
  have F : Fr (wX6_readsStream) zX6_readsStream h h := Fr.rf
  obtain ⟨q1, eq1, e⟩ := bd_s e
  have F := Fr.tr F (fX6_takes h (104 : Int32) q1 eq1) (by decide) (by decide)
  by_cases c : q1.1 = 0
  · rw [if_pos c] at e
    obtain ⟨q2, eq2, e⟩ := bd_s e
    have F := Fr.tr F (fX6_takes q1.2 (99 : Int32) q2 eq2) (by decide) (by decide)
    by_cases c : q2.1 = 0
    · rw [if_pos c] at e
      exact Fr.e1 F e
    · rw [if_neg c] at e
      exact fX6_readsStream_c22 h q2.2 a1 q1.1 q F e
  · rw [if_neg c] at e
    exact fX6_readsStream_c22 h q1.2 a1 q1.1 q F e

-- X6_sets
abbrev wX6_sets : List (Nat × Option Nat) := [(54, some 0), (57, none), (58, none), (59, none), (67, none)]
abbrev zX6_sets : List Nat := []
set_option maxRecDepth 10000 in
theorem fX6_sets (h : Hp) (a1 : Int32) (a2 : Int32) (a3 : Int32) (q : (Int32 × Hp)) (e : sX6_sets h a1 a2 a3 = some q) : Fr (wX6_sets) zX6_sets h q.2 := by
  unfold sX6_sets at e
  have F : Fr (wX6_sets) zX6_sets h h := Fr.rf
  obtain ⟨h1, eh1, e⟩ := nm_s e
  have F := Fr.w1 F eh1 (Or.inr (by decide))
  obtain ⟨q2, eq2, e⟩ := bd_s e
  have F := Fr.tr F (fX6_canSet h1 a1 a2 a3 q2 eq2) (fun _ hh => absurd hh List.not_mem_nil) (by decide)
  by_cases c : q2.1 = 0
  · rw [if_pos c] at e
    exact Fr.e1 F e
  · rw [if_neg c] at e
    obtain ⟨q3, eq3, e⟩ := bd_s e
    have F := Fr.tr F (fX6_of q2.2 a1 a2 q3 eq3) (fun _ hh => absurd hh List.not_mem_nil) (by decide)
    by_cases c : q3.1 = a3
    · rw [if_pos c] at e
      exact Fr.e1 F e
    · rw [if_neg c] at e
      obtain ⟨q4, eq4, e⟩ := bd_s e
      have F := Fr.tr F (fX6_wouldTurn q3.2 a1 a2 a3 q4 eq4) (fun _ hh => absurd hh List.not_mem_nil) (by decide)
      by_cases c : q4.1 = 0
      · rw [if_pos c] at e
        obtain ⟨q5, eq5, e⟩ := bd_s e
        have F := Fr.tr F (fX6_becomes q4.2 a1 a2 a3 q5 eq5) (by decide) (by decide)
        obtain ⟨q6, eq6, e⟩ := bd_s e
        have F := Fr.tr F (fX6_allGo q5 q6 eq6) (by decide) (by decide)
        exact Fr.e1 F e
      · rw [if_neg c] at e
        exact Fr.e1 F e

-- X6_stream
abbrev wX6_stream : List (Nat × Option Nat) := [(54, some 0)]
abbrev zX6_stream : List Nat := []
set_option maxRecDepth 10000 in
theorem fX6_stream_c78 (h0 : Hp) (h : Hp) (t0 : Int32) (q : (Int32 × Hp)) (F : Fr (wX6_stream) zX6_stream h0 h) (e : sX6_stream_c78 h t0 = some q) : Fr (wX6_stream) zX6_stream h0 q.2 := by
  unfold sX6_stream_c78 at e
  exact Fr.e1 F e
set_option maxRecDepth 10000 in
theorem fX6_stream_c26 (h0 : Hp) (h : Hp) (v1 : Int32) (v2 : Int32) (t0 : Int32) (q : (Int32 × Hp)) (F : Fr (wX6_stream) zX6_stream h0 h) (e : sX6_stream_c26 h v1 v2 t0 = some q) : Fr (wX6_stream) zX6_stream h0 q.2 := by
  unfold sX6_stream_c26 at e
  obtain ⟨q3, eq3, e⟩ := bd_s e
  have F := Fr.tr F (fX6_flag h t0 q3 eq3) (fun _ hh => absurd hh List.not_mem_nil) (by decide)
  obtain ⟨h4, eh4, e⟩ := nm_s e
  have F := Fr.w1 F eh4 (Or.inr (by decide))
  by_cases c : (h4.1 54 0) = (1 : Int32)
  · rw [if_pos c] at e
    exact Fr.e1 F e
  · rw [if_neg c] at e
    by_cases c : v2 = 0
    · rw [if_pos c] at e
      obtain ⟨q7, eq7, e⟩ := bd_s e
      have F := Fr.tr F (fX6_isHot h4 v1 q7 eq7) (fun _ hh => absurd hh List.not_mem_nil) (by decide)
      obtain ⟨q8, eq8, e⟩ := bd_s e
      have F := Fr.tr F (fX6_flag q7.2 q7.1 q8 eq8) (fun _ hh => absurd hh List.not_mem_nil) (by decide)
      exact fX6_stream_c78 h0 q8.2 q8.1 q F e
    · rw [if_neg c] at e
      by_cases c : v2 = (4 : Int32)
      · rw [if_pos c] at e
        obtain ⟨q6, eq6, e⟩ := bd_s e
        have F := Fr.tr F (fX6_heatOf h4 v1 q6 eq6) (fun _ hh => absurd hh List.not_mem_nil) (by decide)
        exact fX6_stream_c78 h0 q6.2 q6.1 q F e
      · rw [if_neg c] at e
        obtain ⟨q5, eq5, e⟩ := bd_s e
        have F := Fr.tr F (fX6_of h4 v1 (v2 - (1 : Int32)) q5 eq5) (fun _ hh => absurd hh List.not_mem_nil) (by decide)
        exact fX6_stream_c78 h0 q5.2 q5.1 q F e
set_option maxRecDepth 10000 in
theorem fX6_stream_c21 (h0 : Hp) (h : Hp) (v1 : Int32) (v2 : Int32) (q : (Int32 × Hp)) (F : Fr (wX6_stream) zX6_stream h0 h) (e : sX6_stream_c21 h v1 v2 = some q) : Fr (wX6_stream) zX6_stream h0 q.2 := by
  unfold sX6_stream_c21 at e
  exact fX6_stream_c26 h0 h v1 v2 (1 : Int32) q F e
set_option maxRecDepth 10000 in
theorem fX6_stream (h : Hp) (a1 : Int32) (a2 : Int32) (q : (Int32 × Hp)) (e : sX6_stream h a1 a2 = some q) : Fr (wX6_stream) zX6_stream h q.2 := by
  unfold sX6_stream at e
  have F : Fr (wX6_stream) zX6_stream h h := Fr.rf
  obtain ⟨q1, eq1, e⟩ := bd_s e
  have F := Fr.tr F (fX6_isStream h a1 q1 eq1) (fun _ hh => absurd hh List.not_mem_nil) (by decide)
  by_cases c : q1.1 = 0
  · rw [if_pos c] at e
    exact fX6_stream_c21 h q1.2 a1 a2 q F e
  · rw [if_neg c] at e
    obtain ⟨q2, eq2, e⟩ := bd_s e
    have F := Fr.tr F (fX6_in q1.2 a2.toInt64 (0 : Int64) (4 : Int64) q2 eq2) (fun _ hh => absurd hh List.not_mem_nil) (by decide)
    by_cases c : q2.1 = 0
    · rw [if_pos c] at e
      exact fX6_stream_c21 h q2.2 a1 a2 q F e
    · rw [if_neg c] at e
      exact fX6_stream_c26 h q2.2 a1 a2 (0 : Int32) q F e

-- X6_surplus
abbrev wX6_surplus : List (Nat × Option Nat) := []
abbrev zX6_surplus : List Nat := []
set_option maxRecDepth 10000 in
theorem fX6_surplus (h : Hp) (a1 : Int32) (q : (Int32 × Hp)) (e : sX6_surplus h a1 = some q) : Fr (wX6_surplus) zX6_surplus h q.2 := by
  unfold sX6_surplus at e
  have F : Fr (wX6_surplus) zX6_surplus h h := Fr.rf
  by_cases c : (a1 + (1 : Int32)) < (h.1 54 17)
  · rw [if_pos c] at e
    obtain ⟨c1, e⟩ := gd_s e
    obtain ⟨c2, e⟩ := gd_s e
    obtain ⟨c3, e⟩ := gd_s e
    obtain ⟨c4, e⟩ := gd_s e
    obtain ⟨q5, eq5, e⟩ := bd_s e
    have F := Fr.tr F (fX6_through h (1 : Int32) (h.1 63 a1.toNatClampNeg) (h.1 63 (a1 + (1 : Int32)).toNatClampNeg) q5 eq5) (fun _ hh => absurd hh List.not_mem_nil) (by decide)
    obtain ⟨c6, e⟩ := gd_s e
    obtain ⟨c7, e⟩ := gd_s e
    obtain ⟨q8, eq8, e⟩ := bd_s e
    have F := Fr.tr F (fX6_through q5.2 (0 : Int32) (q5.2.1 63 a1.toNatClampNeg) (q5.2.1 63 (a1 + (1 : Int32)).toNatClampNeg) q8 eq8) (fun _ hh => absurd hh List.not_mem_nil) (by decide)
    exact Fr.e1 F e
  · rw [if_neg c] at e
    exact Fr.e1 F e

-- X6_above
abbrev wX6_above : List (Nat × Option Nat) := [(54, some 0), (54, some 1)]
abbrev zX6_above : List Nat := [55]
set_option maxRecDepth 10000 in
theorem fX6_above_c71 (h0 : Hp) (k24 : Hp → Int32 → Int32 → Int32 → Int32 → Option (Int32 × Hp)) (hk24 : ∀ (h : Hp) (v1 : Int32) (v2 : Int32) (v3 : Int32) (v4 : Int32) (q : (Int32 × Hp)), Fr (wX6_above) zX6_above h0 h → k24 h v1 v2 v3 v4 = some q → Fr (wX6_above) zX6_above h0 q.2) (h : Hp) (v1 : Int32) (v2 : Int32) (v4 : Int32) (t0 : Int32) (t1 : Int32) (q : (Int32 × Hp)) (F : Fr (wX6_above) zX6_above h0 h) (e : sX6_above_c71 k24 h v1 v2 v4 t0 t1 = some q) : Fr (wX6_above) zX6_above h0 q.2 := by
  unfold sX6_above_c71 at e
  obtain ⟨q10, eq10, e⟩ := bd_s e
  have F := Fr.tr F (fX6_flag h t0 q10 eq10) (fun _ hh => absurd hh List.not_mem_nil) (by decide)
  obtain ⟨x11, ex11, e⟩ := nm_s e
  obtain ⟨x12, ex12, e⟩ := nm_s e
  exact hk24 q10.2 v1 v2 x11 x12 q F e
set_option maxRecDepth 10000 in
theorem fX6_above_c70 (h0 : Hp) (k24 : Hp → Int32 → Int32 → Int32 → Int32 → Option (Int32 × Hp)) (hk24 : ∀ (h : Hp) (v1 : Int32) (v2 : Int32) (v3 : Int32) (v4 : Int32) (q : (Int32 × Hp)), Fr (wX6_above) zX6_above h0 h → k24 h v1 v2 v3 v4 = some q → Fr (wX6_above) zX6_above h0 q.2) (h : Hp) (v1 : Int32) (v2 : Int32) (v4 : Int32) (t0 : Int32) (q : (Int32 × Hp)) (F : Fr (wX6_above) zX6_above h0 h) (e : sX6_above_c70 k24 h v1 v2 v4 t0 = some q) : Fr (wX6_above) zX6_above h0 q.2 := by
  unfold sX6_above_c70 at e
  exact fX6_above_c71 h0 k24 hk24 h v1 v2 v4 (0 : Int32) t0 q F e
set_option maxRecDepth 10000 in
theorem fX6_above_c24 (h0 : Hp) (k24 : Hp → Int32 → Int32 → Int32 → Int32 → Option (Int32 × Hp)) (hk24 : ∀ (h : Hp) (v1 : Int32) (v2 : Int32) (v3 : Int32) (v4 : Int32) (q : (Int32 × Hp)), Fr (wX6_above) zX6_above h0 h → k24 h v1 v2 v3 v4 = some q → Fr (wX6_above) zX6_above h0 q.2) (h : Hp) (v1 : Int32) (v2 : Int32) (v3 : Int32) (v4 : Int32) (q : (Int32 × Hp)) (F : Fr (wX6_above) zX6_above h0 h) (e : sX6_above_c24 k24 h v1 v2 v3 v4 = some q) : Fr (wX6_above) zX6_above h0 q.2 := by
  unfold sX6_above_c24 at e
  by_cases c : (h.1 54 7) ≤ v4
  · rw [if_pos c] at e
    obtain ⟨h3, eh3, e⟩ := nm_s e
    have F := Fr.w1 F eh3 (Or.inr (by decide))
    obtain ⟨q4, eq4, e⟩ := bd_s e
    have F := Fr.tr F (fX6_enters h3 v3.toInt64 q4 eq4) (by decide) (by decide)
    obtain ⟨q5, eq5, e⟩ := bd_s e
    have F := Fr.tr F (fX6_aboveOf q4 v1 v2 q5 eq5) (fun _ hh => absurd hh List.not_mem_nil) (by decide)
    exact Fr.e1 F e
  · rw [if_neg c] at e
    obtain ⟨q6, eq6, e⟩ := bd_s e
    have F := Fr.tr F (fX6_isHot h v4 q6 eq6) (fun _ hh => absurd hh List.not_mem_nil) (by decide)
    by_cases c : q6.1 = v1
    · rw [if_pos c] at e
      obtain ⟨q7, eq7, e⟩ := bd_s e
      have F := Fr.tr F (fX6_low q6.2 v4 q7 eq7) (fun _ hh => absurd hh List.not_mem_nil) (by decide)
      obtain ⟨q8, eq8, e⟩ := bd_s e
      have F := Fr.tr F (fX6_high q7.2 v4 q8 eq8) (fun _ hh => absurd hh List.not_mem_nil) (by decide)
      obtain ⟨q9, eq9, e⟩ := bd_s e
      have F := Fr.tr F (fX6_in q8.2 v2.toInt64 q7.1.toInt64 q8.1.toInt64 q9 eq9) (fun _ hh => absurd hh List.not_mem_nil) (by decide)
      by_cases c : q9.1 = 0
      · rw [if_pos c] at e
        exact fX6_above_c70 h0 k24 hk24 q9.2 v1 v2 v4 v3 q F e
      · rw [if_neg c] at e
        exact fX6_above_c71 h0 k24 hk24 q9.2 v1 v2 v4 (1 : Int32) v3 q F e
    · rw [if_neg c] at e
      exact fX6_above_c70 h0 k24 hk24 q6.2 v1 v2 v4 v3 q F e
theorem fX6_above_b24 (h0 : Hp) : ∀ (n : Nat) (h : Hp) (v1 : Int32) (v2 : Int32) (v3 : Int32) (v4 : Int32) (q : (Int32 × Hp)), Fr (wX6_above) zX6_above h0 h → sX6_above_b24 n h v1 v2 v3 v4 = some q → Fr (wX6_above) zX6_above h0 q.2
  | 0 => fun _ _ _ _ _ _ _ e => by cases e
  | n + 1 => fun h v1 v2 v3 v4 q F e => fX6_above_c24 h0 (sX6_above_b24 n) (fX6_above_b24 h0 n) h v1 v2 v3 v4 q F e
set_option maxRecDepth 10000 in
theorem fX6_above (h : Hp) (a1 : Int32) (a2 : Int32) (q : (Int32 × Hp)) (e : sX6_above h a1 a2 = some q) : Fr (wX6_above) zX6_above h q.2 := by
  unfold sX6_above at e
  have F : Fr (wX6_above) zX6_above h h := Fr.rf
  obtain ⟨h1, eh1, e⟩ := nm_s e
  have F := Fr.w1 F eh1 (Or.inr (by decide))
  obtain ⟨q2, eq2, e⟩ := bd_s e
  have F := Fr.tr F (fX6_in h1 a2.toInt64 (0 : Int64) (500 : Int64) q2 eq2) (fun _ hh => absurd hh List.not_mem_nil) (by decide)
  by_cases c : q2.1 = 0
  · rw [if_pos c] at e
    exact Fr.e1 F e
  · rw [if_neg c] at e
    exact fX6_above_b24 h FU q2.2 a1 a2 (0 : Int32) (0 : Int32) q F e

-- X6_level
abbrev wX6_level : List (Nat × Option Nat) := [(54, some 0), (54, some 1)]
abbrev zX6_level : List Nat := [55]
set_option maxRecDepth 10000 in
theorem fX6_level_c38 (h0 : Hp) (h : Hp) (v1 : Int32) (v2 : Int32) (v3 : Int32) (q : (Int32 × Hp)) (F : Fr (wX6_level) zX6_level h0 h) (e : sX6_level_c38 h v1 v2 v3 = some q) : Fr (wX6_level) zX6_level h0 q.2 := by
  unfold sX6_level_c38 at e
  by_cases c : v3 = 0
  · rw [if_pos c] at e
    exact Fr.e1 F e
  · rw [if_neg c] at e
    obtain ⟨q4, eq4, e⟩ := bd_s e
    have F := Fr.tr F (fX6_goingOn h v1 v3 q4 eq4) (fun _ hh => absurd hh List.not_mem_nil) (by decide)
    obtain ⟨h5, eh5, e⟩ := nm_s e
    have F := Fr.w1 F eh5 (Or.inr (by decide))
    obtain ⟨q6, eq6, e⟩ := bd_s e
    have F := Fr.tr F (fX6_aboveOf h5 v1 v3 q6 eq6) (fun _ hh => absurd hh List.not_mem_nil) (by decide)
    obtain ⟨q7, eq7, e⟩ := bd_s e
    have F := Fr.tr F (fX6_entersPart q6.2 ((v3.toInt64 * q4.1.toInt64) - (v2 - q6.1).toInt64) q4.1.toInt64 q7 eq7) (by decide) (by decide)
    exact Fr.e1 F e
set_option maxRecDepth 10000 in
theorem fX6_level_c16 (h0 : Hp) (k16 : Hp → Int32 → Int32 → Int32 → Option (Int32 × Hp)) (hk16 : ∀ (h : Hp) (v1 : Int32) (v2 : Int32) (v3 : Int32) (q : (Int32 × Hp)), Fr (wX6_level) zX6_level h0 h → k16 h v1 v2 v3 = some q → Fr (wX6_level) zX6_level h0 q.2) (h : Hp) (v1 : Int32) (v2 : Int32) (v3 : Int32) (q : (Int32 × Hp)) (F : Fr (wX6_level) zX6_level h0 h) (e : sX6_level_c16 k16 h v1 v2 v3 = some q) : Fr (wX6_level) zX6_level h0 q.2 := by
  unfold sX6_level_c16 at e
  by_cases c : v3 ≤ 0
  · rw [if_pos c] at e
    exact fX6_level_c38 h0 h v1 v2 v3 q F e
  · rw [if_neg c] at e
    obtain ⟨q2, eq2, e⟩ := bd_s e
    have F := Fr.tr F (fX6_aboveOf h v1 (v3 - (1 : Int32)) q2 eq2) (fun _ hh => absurd hh List.not_mem_nil) (by decide)
    by_cases c : v2 ≤ q2.1
    · rw [if_pos c] at e
      exact fX6_level_c38 h0 q2.2 v1 v2 v3 q F e
    · rw [if_neg c] at e
      obtain ⟨x3, ex3, e⟩ := nm_s e
      exact hk16 q2.2 v1 v2 x3 q F e
theorem fX6_level_b16 (h0 : Hp) : ∀ (n : Nat) (h : Hp) (v1 : Int32) (v2 : Int32) (v3 : Int32) (q : (Int32 × Hp)), Fr (wX6_level) zX6_level h0 h → sX6_level_b16 n h v1 v2 v3 = some q → Fr (wX6_level) zX6_level h0 q.2
  | 0 => fun _ _ _ _ _ _ e => by cases e
  | n + 1 => fun h v1 v2 v3 q F e => fX6_level_c16 h0 (sX6_level_b16 n) (fX6_level_b16 h0 n) h v1 v2 v3 q F e
set_option maxRecDepth 10000 in
theorem fX6_level (h : Hp) (a1 : Int32) (a2 : Int32) (q : (Int32 × Hp)) (e : sX6_level h a1 a2 = some q) : Fr (wX6_level) zX6_level h q.2 := by
  unfold sX6_level at e
  have F : Fr (wX6_level) zX6_level h h := Fr.rf
  obtain ⟨h1, eh1, e⟩ := nm_s e
  have F := Fr.w1 F eh1 (Or.inr (by decide))
  by_cases c : (1 : Int32) ≤ a2
  · rw [if_pos c] at e
    exact fX6_level_b16 h FU h1 a1 a2 (500 : Int32) q F e
  · rw [if_neg c] at e
    exact Fr.e1 F e

-- X6_near
abbrev wX6_near : List (Nat × Option Nat) := []
abbrev zX6_near : List Nat := []
set_option maxRecDepth 10000 in
theorem fX6_near_c33 (h0 : Hp) (h : Hp) (t0 : Int32) (q : (Int32 × Hp)) (F : Fr (wX6_near) zX6_near h0 h) (e : sX6_near_c33 h t0 = some q) : Fr (wX6_near) zX6_near h0 q.2 := by
  unfold sX6_near_c33 at e
  exact Fr.e1 F e
set_option maxRecDepth 10000 in
theorem fX6_near (h : Hp) (a1 : Int32) (a2 : Int32) (q : (Int32 × Hp)) (e : sX6_near h a1 a2 = some q) : Fr (wX6_near) zX6_near h q.2 := by
  unfold sX6_near at e
  have F : Fr (wX6_near) zX6_near h h := Fr.rf
  by_cases c : a1 = 0
  · rw [if_pos c] at e
    obtain ⟨q3, eq3, e⟩ := bd_s e
    have F := Fr.tr F (fX6_low h a2 q3 eq3) (fun _ hh => absurd hh List.not_mem_nil) (by decide)
    obtain ⟨q4, eq4, e⟩ := bd_s e
    have F := Fr.tr F (fX6_pinchOf q3.2 a2 q4 eq4) (fun _ hh => absurd hh List.not_mem_nil) (by decide)
    exact fX6_near_c33 h q4.2 (imax q3.1 q4.1) q F e
  · rw [if_neg c] at e
    obtain ⟨q1, eq1, e⟩ := bd_s e
    have F := Fr.tr F (fX6_high h a2 q1 eq1) (fun _ hh => absurd hh List.not_mem_nil) (by decide)
    obtain ⟨q2, eq2, e⟩ := bd_s e
    have F := Fr.tr F (fX6_pinchOf q1.2 a2 q2 eq2) (fun _ hh => absurd hh List.not_mem_nil) (by decide)
    exact fX6_near_c33 h q2.2 (imin q1.1 q2.1) q F e

-- X2_joinGreatest
abbrev wX2_joinGreatest (r : Nat) : List (Nat × Option Nat) := [(r + 8, none), (r + 9, none), (r + 10, none), (r, some 14), (r + 7, none)]
abbrev zX2_joinGreatest : List Nat := []
set_option maxRecDepth 10000 in
theorem fX2_joinGreatest_c79 (h0 : Hp) (r : Nat) (k9 : Hp → Nat → Int32 → Int32 → Int32 → Int32 → Option (Int32 × Hp)) (hk9 : ∀ (h : Hp) (v1 : Int32) (v2 : Int32) (v3 : Int32) (v4 : Int32) (hr : ck r = 2) (q : (Int32 × Hp)), Fr (wX2_joinGreatest r) zX2_joinGreatest h0 h → k9 h r v1 v2 v3 v4 = some q → Fr (wX2_joinGreatest r) zX2_joinGreatest h0 q.2) (k21 : Hp → Nat → Int32 → Int32 → Int32 → Int32 → Int32 → Option (Int32 × Hp)) (hk21 : ∀ (h : Hp) (v1 : Int32) (v2 : Int32) (v3 : Int32) (v4 : Int32) (v5 : Int32) (hr : ck r = 2) (q : (Int32 × Hp)), Fr (wX2_joinGreatest r) zX2_joinGreatest h0 h → k21 h r v1 v2 v3 v4 v5 = some q → Fr (wX2_joinGreatest r) zX2_joinGreatest h0 q.2) (h : Hp) (v1 : Int32) (v2 : Int32) (v3 : Int32) (v4 : Int32) (v5 : Int32) (hr : ck r = 2) (q : (Int32 × Hp)) (F : Fr (wX2_joinGreatest r) zX2_joinGreatest h0 h) (e : sX2_joinGreatest_c79 k9 k21 h r v1 v2 v3 v4 v5 = some q) : Fr (wX2_joinGreatest r) zX2_joinGreatest h0 q.2 := by
  unfold sX2_joinGreatest_c79 at e
  obtain ⟨x6, ex6, e⟩ := nm_s e
  exact hk21 h v1 v2 v3 v4 x6 hr q F e
set_option maxRecDepth 10000 in
theorem fX2_joinGreatest_c62 (h0 : Hp) (r : Nat) (k9 : Hp → Nat → Int32 → Int32 → Int32 → Int32 → Option (Int32 × Hp)) (hk9 : ∀ (h : Hp) (v1 : Int32) (v2 : Int32) (v3 : Int32) (v4 : Int32) (hr : ck r = 2) (q : (Int32 × Hp)), Fr (wX2_joinGreatest r) zX2_joinGreatest h0 h → k9 h r v1 v2 v3 v4 = some q → Fr (wX2_joinGreatest r) zX2_joinGreatest h0 q.2) (k21 : Hp → Nat → Int32 → Int32 → Int32 → Int32 → Int32 → Option (Int32 × Hp)) (hk21 : ∀ (h : Hp) (v1 : Int32) (v2 : Int32) (v3 : Int32) (v4 : Int32) (v5 : Int32) (hr : ck r = 2) (q : (Int32 × Hp)), Fr (wX2_joinGreatest r) zX2_joinGreatest h0 h → k21 h r v1 v2 v3 v4 v5 = some q → Fr (wX2_joinGreatest r) zX2_joinGreatest h0 q.2) (h : Hp) (v1 : Int32) (v2 : Int32) (v3 : Int32) (v4 : Int32) (v5 : Int32) (t0 : Int32) (hr : ck r = 2) (q : (Int32 × Hp)) (F : Fr (wX2_joinGreatest r) zX2_joinGreatest h0 h) (e : sX2_joinGreatest_c62 k9 k21 h r v1 v2 v3 v4 v5 t0 = some q) : Fr (wX2_joinGreatest r) zX2_joinGreatest h0 q.2 := by
  unfold sX2_joinGreatest_c62 at e
  by_cases c : t0 ≤ v1
  · rw [if_pos c] at e
    exact fX2_joinGreatest_c79 h0 r k9 hk9 k21 hk21 h v1 v2 v3 v4 v5 hr q F e
  · rw [if_neg c] at e
    exact fX2_joinGreatest_c79 h0 r k9 hk9 k21 hk21 h t0 v4 v5 v4 v5 hr q F e
set_option maxRecDepth 10000 in
theorem fX2_joinGreatest_c61 (h0 : Hp) (r : Nat) (k9 : Hp → Nat → Int32 → Int32 → Int32 → Int32 → Option (Int32 × Hp)) (hk9 : ∀ (h : Hp) (v1 : Int32) (v2 : Int32) (v3 : Int32) (v4 : Int32) (hr : ck r = 2) (q : (Int32 × Hp)), Fr (wX2_joinGreatest r) zX2_joinGreatest h0 h → k9 h r v1 v2 v3 v4 = some q → Fr (wX2_joinGreatest r) zX2_joinGreatest h0 q.2) (k21 : Hp → Nat → Int32 → Int32 → Int32 → Int32 → Int32 → Option (Int32 × Hp)) (hk21 : ∀ (h : Hp) (v1 : Int32) (v2 : Int32) (v3 : Int32) (v4 : Int32) (v5 : Int32) (hr : ck r = 2) (q : (Int32 × Hp)), Fr (wX2_joinGreatest r) zX2_joinGreatest h0 h → k21 h r v1 v2 v3 v4 v5 = some q → Fr (wX2_joinGreatest r) zX2_joinGreatest h0 q.2) (h : Hp) (v1 : Int32) (v2 : Int32) (v3 : Int32) (v4 : Int32) (v5 : Int32) (hr : ck r = 2) (q : (Int32 × Hp)) (F : Fr (wX2_joinGreatest r) zX2_joinGreatest h0 h) (e : sX2_joinGreatest_c61 k9 k21 h r v1 v2 v3 v4 v5 = some q) : Fr (wX2_joinGreatest r) zX2_joinGreatest h0 q.2 := by
  unfold sX2_joinGreatest_c61 at e
  exact fX2_joinGreatest_c62 h0 r k9 hk9 k21 hk21 h v1 v2 v3 v4 v5 (0 : Int32) hr q F e
set_option maxRecDepth 10000 in
theorem fX2_joinGreatest_c21 (h0 : Hp) (r : Nat) (k9 : Hp → Nat → Int32 → Int32 → Int32 → Int32 → Option (Int32 × Hp)) (hk9 : ∀ (h : Hp) (v1 : Int32) (v2 : Int32) (v3 : Int32) (v4 : Int32) (hr : ck r = 2) (q : (Int32 × Hp)), Fr (wX2_joinGreatest r) zX2_joinGreatest h0 h → k9 h r v1 v2 v3 v4 = some q → Fr (wX2_joinGreatest r) zX2_joinGreatest h0 q.2) (k21 : Hp → Nat → Int32 → Int32 → Int32 → Int32 → Int32 → Option (Int32 × Hp)) (hk21 : ∀ (h : Hp) (v1 : Int32) (v2 : Int32) (v3 : Int32) (v4 : Int32) (v5 : Int32) (hr : ck r = 2) (q : (Int32 × Hp)), Fr (wX2_joinGreatest r) zX2_joinGreatest h0 h → k21 h r v1 v2 v3 v4 v5 = some q → Fr (wX2_joinGreatest r) zX2_joinGreatest h0 q.2) (h : Hp) (v1 : Int32) (v2 : Int32) (v3 : Int32) (v4 : Int32) (v5 : Int32) (hr : ck r = 2) (q : (Int32 × Hp)) (F : Fr (wX2_joinGreatest r) zX2_joinGreatest h0 h) (e : sX2_joinGreatest_c21 k9 k21 h r v1 v2 v3 v4 v5 = some q) : Fr (wX2_joinGreatest r) zX2_joinGreatest h0 q.2 := by
  unfold sX2_joinGreatest_c21 at e
  by_cases c : (h.1 r 2) ≤ v5
  · rw [if_pos c] at e
    obtain ⟨x2, ex2, e⟩ := nm_s e
    exact hk9 h v1 v2 v3 x2 hr q F e
  · rw [if_neg c] at e
    obtain ⟨q3, eq3, e⟩ := bd_s e
    have F := Fr.tr F (fX2_hasHeat h r v4 (1 : Int32) q3 eq3) (fun _ hh => absurd hh List.not_mem_nil) (by decide)
    by_cases c : q3.1 = 0
    · rw [if_pos c] at e
      exact fX2_joinGreatest_c61 h0 r k9 hk9 k21 hk21 q3.2 v1 v2 v3 v4 v5 hr q F e
    · rw [if_neg c] at e
      obtain ⟨q4, eq4, e⟩ := bd_s e
      have F := Fr.tr F (fX2_hasHeat q3.2 r v5 (0 : Int32) q4 eq4) (fun _ hh => absurd hh List.not_mem_nil) (by decide)
      by_cases c : q4.1 = 0
      · rw [if_pos c] at e
        exact fX2_joinGreatest_c61 h0 r k9 hk9 k21 hk21 q4.2 v1 v2 v3 v4 v5 hr q F e
      · rw [if_neg c] at e
        obtain ⟨q5, eq5, e⟩ := bd_s e
        have F := Fr.tr F (fX2_greatestLoad q4.2 r v4 v5 q5 eq5) (fun _ hh => absurd hh List.not_mem_nil) (by decide)
        exact fX2_joinGreatest_c62 h0 r k9 hk9 k21 hk21 q5.2 v1 v2 v3 v4 v5 q5.1 hr q F e
theorem fX2_joinGreatest_b21 (h0 : Hp) (r : Nat) (k9 : Hp → Nat → Int32 → Int32 → Int32 → Int32 → Option (Int32 × Hp)) (hk9 : ∀ (h : Hp) (v1 : Int32) (v2 : Int32) (v3 : Int32) (v4 : Int32) (hr : ck r = 2) (q : (Int32 × Hp)), Fr (wX2_joinGreatest r) zX2_joinGreatest h0 h → k9 h r v1 v2 v3 v4 = some q → Fr (wX2_joinGreatest r) zX2_joinGreatest h0 q.2) : ∀ (n : Nat) (h : Hp) (v1 : Int32) (v2 : Int32) (v3 : Int32) (v4 : Int32) (v5 : Int32) (hr : ck r = 2) (q : (Int32 × Hp)), Fr (wX2_joinGreatest r) zX2_joinGreatest h0 h → sX2_joinGreatest_b21 k9 n h r v1 v2 v3 v4 v5 = some q → Fr (wX2_joinGreatest r) zX2_joinGreatest h0 q.2
  | 0 => fun _ _ _ _ _ _ _ _ _ e => by cases e
  | n + 1 => fun h v1 v2 v3 v4 v5 hr q F e => fX2_joinGreatest_c21 h0 r k9 hk9 (sX2_joinGreatest_b21 k9 n) (fX2_joinGreatest_b21 h0 r k9 hk9 n) h v1 v2 v3 v4 v5 hr q F e
set_option maxRecDepth 10000 in
theorem fX2_joinGreatest_c9 (h0 : Hp) (r : Nat) (k9 : Hp → Nat → Int32 → Int32 → Int32 → Int32 → Option (Int32 × Hp)) (hk9 : ∀ (h : Hp) (v1 : Int32) (v2 : Int32) (v3 : Int32) (v4 : Int32) (hr : ck r = 2) (q : (Int32 × Hp)), Fr (wX2_joinGreatest r) zX2_joinGreatest h0 h → k9 h r v1 v2 v3 v4 = some q → Fr (wX2_joinGreatest r) zX2_joinGreatest h0 q.2) (h : Hp) (v1 : Int32) (v2 : Int32) (v3 : Int32) (v4 : Int32) (hr : ck r = 2) (q : (Int32 × Hp)) (F : Fr (wX2_joinGreatest r) zX2_joinGreatest h0 h) (e : sX2_joinGreatest_c9 k9 h r v1 v2 v3 v4 = some q) : Fr (wX2_joinGreatest r) zX2_joinGreatest h0 q.2 := by
  unfold sX2_joinGreatest_c9 at e
  by_cases c : (h.1 r 2) ≤ v4
  · rw [if_pos c] at e
    by_cases c : v1 = 0
    · rw [if_pos c] at e
      exact Fr.e1 F e
    · rw [if_neg c] at e
      obtain ⟨q1, eq1, e⟩ := bd_s e
      have F := Fr.tr F (fX2_add h r v2 v3 v1 q1 eq1) (by simp) (by decide)
      exact Fr.e1 F e
  · rw [if_neg c] at e
    exact fX2_joinGreatest_b21 h0 r k9 hk9 FU h v1 v2 v3 v4 (0 : Int32) hr q F e
theorem fX2_joinGreatest_b9 (h0 : Hp) (r : Nat) : ∀ (n : Nat) (h : Hp) (v1 : Int32) (v2 : Int32) (v3 : Int32) (v4 : Int32) (hr : ck r = 2) (q : (Int32 × Hp)), Fr (wX2_joinGreatest r) zX2_joinGreatest h0 h → sX2_joinGreatest_b9 n h r v1 v2 v3 v4 = some q → Fr (wX2_joinGreatest r) zX2_joinGreatest h0 q.2
  | 0 => fun _ _ _ _ _ _ _ _ e => by cases e
  | n + 1 => fun h v1 v2 v3 v4 hr q F e => fX2_joinGreatest_c9 h0 r (sX2_joinGreatest_b9 n) (fX2_joinGreatest_b9 h0 r n) h v1 v2 v3 v4 hr q F e
set_option maxRecDepth 10000 in
theorem fX2_joinGreatest (h : Hp) (r : Nat) (q : (Int32 × Hp)) (e : sX2_joinGreatest h r = some q) : Fr (wX2_joinGreatest r) zX2_joinGreatest h q.2 := by
  unfold sX2_joinGreatest at e
  obtain ⟨hr, e⟩ := gd_s e
  have hr := isC_t hr
  have F : Fr (wX2_joinGreatest r) zX2_joinGreatest h h := Fr.rf
  exact fX2_joinGreatest_b9 h r FU h (0 : Int32) (-1 : Int32) (-1 : Int32) (0 : Int32) hr q F e
