-- X2_firstTooNarrow
abbrev wX2_firstTooNarrow (r : Nat) : List (Nat × Option Nat) := []
abbrev zX2_firstTooNarrow : List Nat := []
set_option maxRecDepth 10000 in
theorem fX2_firstTooNarrow_c106 (h0 : Hp) (r : Nat) (h : Hp) (v1 : Int32) (q : (Int32 × Hp)) (F : Fr (wX2_firstTooNarrow r) zX2_firstTooNarrow h0 h) (e : sX2_firstTooNarrow_c106 h v1 = some q) : Fr (wX2_firstTooNarrow r) zX2_firstTooNarrow h0 q.2 := by
  unfold sX2_firstTooNarrow_c106 at e
  exact Fr.e1 F e
set_option maxRecDepth 10000 in
theorem fX2_firstTooNarrow_c111 (h0 : Hp) (r : Nat) (k4 : Hp → Nat → Int32 → Int32 → Option (Int32 × Hp)) (hk4 : ∀ (h : Hp) (v1 : Int32) (v2 : Int32) (hr : ck r = 2) (q : (Int32 × Hp)), Fr (wX2_firstTooNarrow r) zX2_firstTooNarrow h0 h → k4 h r v1 v2 = some q → Fr (wX2_firstTooNarrow r) zX2_firstTooNarrow h0 q.2) (h : Hp) (v1 : Int32) (v2 : Int32) (hr : ck r = 2) (q : (Int32 × Hp)) (F : Fr (wX2_firstTooNarrow r) zX2_firstTooNarrow h0 h) (e : sX2_firstTooNarrow_c111 k4 h r v1 v2 = some q) : Fr (wX2_firstTooNarrow r) zX2_firstTooNarrow h0 q.2 := by
  unfold sX2_firstTooNarrow_c111 at e
  obtain ⟨x13, ex13, e⟩ := nm_s e
  exact hk4 h v1 x13 hr q F e
set_option maxRecDepth 10000 in
theorem fX2_firstTooNarrow_c4 (h0 : Hp) (r : Nat) (k4 : Hp → Nat → Int32 → Int32 → Option (Int32 × Hp)) (hk4 : ∀ (h : Hp) (v1 : Int32) (v2 : Int32) (hr : ck r = 2) (q : (Int32 × Hp)), Fr (wX2_firstTooNarrow r) zX2_firstTooNarrow h0 h → k4 h r v1 v2 = some q → Fr (wX2_firstTooNarrow r) zX2_firstTooNarrow h0 q.2) (h : Hp) (v1 : Int32) (v2 : Int32) (hr : ck r = 2) (q : (Int32 × Hp)) (F : Fr (wX2_firstTooNarrow r) zX2_firstTooNarrow h0 h) (e : sX2_firstTooNarrow_c4 k4 h r v1 v2 = some q) : Fr (wX2_firstTooNarrow r) zX2_firstTooNarrow h0 q.2 := by
  unfold sX2_firstTooNarrow_c4 at e
  by_cases c : (h.1 r 14) ≤ v2
  · rw [if_pos c] at e
    exact Fr.e1 F e
  · rw [if_neg c] at e
    obtain ⟨c1, e⟩ := gd_s e
    by_cases c : (h.1 (r + 11) v2.toNatClampNeg) = 0
    · rw [if_pos c] at e
      exact fX2_firstTooNarrow_c111 h0 r k4 hk4 h v1 v2 hr q F e
    · rw [if_neg c] at e
      obtain ⟨c2, e⟩ := gd_s e
      obtain ⟨x3, ex3, e⟩ := nm_s e
      obtain ⟨c4, e⟩ := gd_s e
      obtain ⟨x5, ex5, e⟩ := nm_s e
      obtain ⟨q6, eq6, e⟩ := bd_s e
      have F := Fr.tr F (fX2_sumAhead h r (r + 11) v2 x3 q6 eq6) (fun _ hh => absurd hh List.not_mem_nil) (by decide)
      obtain ⟨q7, eq7, e⟩ := bd_s e
      have F := Fr.tr F (fX2_sumAhead q6.2 r (r + 11) v2 x5 q7 eq7) (fun _ hh => absurd hh List.not_mem_nil) (by decide)
      obtain ⟨q8, eq8, e⟩ := bd_s e
      have F := Fr.tr F (fX2_isWide q7.2 r x3 x5 q6.1 q7.1 q8 eq8) (fun _ hh => absurd hh List.not_mem_nil) (by decide)
      by_cases c : q8.1 = 0
      · rw [if_pos c] at e
        exact fX2_firstTooNarrow_c106 h0 r q8.2 v1 q F e
      · rw [if_neg c] at e
        obtain ⟨c9, e⟩ := gd_s e
        obtain ⟨c10, e⟩ := gd_s e
        obtain ⟨q11, eq11, e⟩ := bd_s e
        have F := Fr.tr F (fX2_isWide q8.2 r x3 x5 (q6.1 + (q8.2.1 (r + 11) v2.toNatClampNeg)) (q7.1 + (q8.2.1 (r + 11) v2.toNatClampNeg)) q11 eq11) (fun _ hh => absurd hh List.not_mem_nil) (by decide)
        by_cases c : q11.1 = 0
        · rw [if_pos c] at e
          exact fX2_firstTooNarrow_c106 h0 r q11.2 v1 q F e
        · rw [if_neg c] at e
          obtain ⟨x12, ex12, e⟩ := nm_s e
          exact fX2_firstTooNarrow_c111 h0 r k4 hk4 q11.2 x12 v2 hr q F e
theorem fX2_firstTooNarrow_b4 (h0 : Hp) (r : Nat) : ∀ (n : Nat) (h : Hp) (v1 : Int32) (v2 : Int32) (hr : ck r = 2) (q : (Int32 × Hp)), Fr (wX2_firstTooNarrow r) zX2_firstTooNarrow h0 h → sX2_firstTooNarrow_b4 n h r v1 v2 = some q → Fr (wX2_firstTooNarrow r) zX2_firstTooNarrow h0 q.2
  | 0 => fun _ _ _ _ _ _ e => by cases e
  | n + 1 => fun h v1 v2 hr q F e => fX2_firstTooNarrow_c4 h0 r (sX2_firstTooNarrow_b4 n) (fX2_firstTooNarrow_b4 h0 r n) h v1 v2 hr q F e
set_option maxRecDepth 10000 in
theorem fX2_firstTooNarrow (h : Hp) (r : Nat) (q : (Int32 × Hp)) (e : sX2_firstTooNarrow h r = some q) : Fr (wX2_firstTooNarrow r) zX2_firstTooNarrow h q.2 := by
  unfold sX2_firstTooNarrow at e
  obtain ⟨hr, e⟩ := gd_s e
  have hr := isC_t hr
  have F : Fr (wX2_firstTooNarrow r) zX2_firstTooNarrow h h := Fr.rf
  exact fX2_firstTooNarrow_b4 h r FU h (0 : Int32) (0 : Int32) hr q F e

-- X4_tell___
abbrev wX4_tell___ : List (Nat × Option Nat) := [(4, some 1)]
abbrev zX4_tell___ : List Nat := [5]
set_option maxRecDepth 10000 in
theorem fX4_tell___ (h : Hp) (a1 : Int64) (a3 : Int64) (a5 : Int64) (a7 : Int64) (q : Hp) (e : sX4_tell___ h a1 a3 a5 a7 = some q) : Fr (wX4_tell___) zX4_tell___ h q := by
  unfold sX4_tell___ at e
  have F : Fr (wX4_tell___) zX4_tell___ h h := Fr.rf
  obtain ⟨q1, eq1, e⟩ := bd_s e
  have F := Fr.tr F (fX4_tell__ h a1 a3 a5 q1 eq1) (by decide) (by decide)
  obtain ⟨q2, eq2, e⟩ := bd_s e
  have F := Fr.tr F (fX4_add q1 a7 q2 eq2) (by decide) (by decide)
  exact Fr.e0 F e

-- X5_by
abbrev wX5_by : List (Nat × Option Nat) := [(21, some 4), (22, none), (21, some 5), (24, none), (25, none), (23, none), (4, some 1)]
abbrev zX5_by : List Nat := [5]
set_option maxRecDepth 10000 in
theorem fX5_by (h : Hp) (a1 : Int32) (q : (Int32 × Hp)) (e : sX5_by h a1 = some q) : Fr (wX5_by) zX5_by h q.2 := by
  unfold sX5_by at e
  have F : Fr (wX5_by) zX5_by h h := Fr.rf
  obtain ⟨q1, eq1, e⟩ := bd_s e
  have F := Fr.tr F (fX5_isGap h a1 q1 eq1) (fun _ hh => absurd hh List.not_mem_nil) (by decide)
  by_cases c : q1.1 = 0
  · rw [if_pos c] at e
    exact Fr.e1 F e
  · rw [if_neg c] at e
    by_cases c : (q1.2.1 6 4) = 0
    · rw [if_pos c] at e
      exact Fr.e1 F e
    · rw [if_neg c] at e
      obtain ⟨q2, eq2, e⟩ := bd_s e
      have F := Fr.tr F (fX0_work q1.2 21 6 a1 q2 eq2) (by decide) (by decide)
      obtain ⟨q3, eq3, e⟩ := bd_s e
      have F := Fr.tr F (fX0_cool q2 21 q3 eq3) (fun _ hh => absurd hh List.not_mem_nil) (by decide)
      obtain ⟨q4, eq4, e⟩ := bd_s e
      have F := Fr.tr F (fX0_pinchAt q3.2 21 q4 eq4) (fun _ hh => absurd hh List.not_mem_nil) (by decide)
      obtain ⟨q5, eq5, e⟩ := bd_s e
      have F := Fr.tr F (fX4_tell_ q4.2 q3.1.toInt64 (((1000 : Int32) + q4.1).toInt64) q5 eq5) (by decide) (by decide)
      exact Fr.e1 F e

-- X5_widest
abbrev wX5_widest : List (Nat × Option Nat) := [(21, some 4), (22, none), (21, some 5), (24, none), (25, none), (23, none), (4, some 1)]
abbrev zX5_widest : List Nat := [5]
set_option maxRecDepth 10000 in
theorem fX5_widest_c80 (h0 : Hp) (k17 : Hp → Int32 → Int32 → Int32 → Int32 → Int32 → Option (Int32 × Hp)) (hk17 : ∀ (h : Hp) (v1 : Int32) (v2 : Int32) (v3 : Int32) (v4 : Int32) (v5 : Int32) (q : (Int32 × Hp)), Fr (wX5_widest) zX5_widest h0 h → k17 h v1 v2 v3 v4 v5 = some q → Fr (wX5_widest) zX5_widest h0 q.2) (h : Hp) (v1 : Int32) (v2 : Int32) (v3 : Int32) (v4 : Int32) (v5 : Int32) (q : (Int32 × Hp)) (F : Fr (wX5_widest) zX5_widest h0 h) (e : sX5_widest_c80 k17 h v1 v2 v3 v4 v5 = some q) : Fr (wX5_widest) zX5_widest h0 q.2 := by
  unfold sX5_widest_c80 at e
  obtain ⟨x4, ex4, e⟩ := nm_s e
  exact hk17 h v1 v2 v3 v4 x4 q F e
set_option maxRecDepth 10000 in
theorem fX5_widest_c86 (h0 : Hp) (h : Hp) (v2 : Int32) (v4 : Int32) (q : (Int32 × Hp)) (F : Fr (wX5_widest) zX5_widest h0 h) (e : sX5_widest_c86 h v2 v4 = some q) : Fr (wX5_widest) zX5_widest h0 q.2 := by
  unfold sX5_widest_c86 at e
  by_cases c : v2 = (-1 : Int32)
  · rw [if_pos c] at e
    exact Fr.e1 F e
  · rw [if_neg c] at e
    obtain ⟨q5, eq5, e⟩ := bd_s e
    have F := Fr.tr F (fX4_tell h v4.toInt64 q5 eq5) (by decide) (by decide)
    exact Fr.e1 F e
set_option maxRecDepth 10000 in
theorem fX5_widest_c17 (h0 : Hp) (k17 : Hp → Int32 → Int32 → Int32 → Int32 → Int32 → Option (Int32 × Hp)) (hk17 : ∀ (h : Hp) (v1 : Int32) (v2 : Int32) (v3 : Int32) (v4 : Int32) (v5 : Int32) (q : (Int32 × Hp)), Fr (wX5_widest) zX5_widest h0 h → k17 h v1 v2 v3 v4 v5 = some q → Fr (wX5_widest) zX5_widest h0 q.2) (h : Hp) (v1 : Int32) (v2 : Int32) (v3 : Int32) (v4 : Int32) (v5 : Int32) (q : (Int32 × Hp)) (F : Fr (wX5_widest) zX5_widest h0 h) (e : sX5_widest_c17 k17 h v1 v2 v3 v4 v5 = some q) : Fr (wX5_widest) zX5_widest h0 q.2 := by
  unfold sX5_widest_c17 at e
  by_cases c : (60 : Int32) < v5
  · rw [if_pos c] at e
    exact fX5_widest_c86 h0 h v2 v4 q F e
  · rw [if_neg c] at e
    by_cases c : (v3 - v2) ≤ (1 : Int32)
    · rw [if_pos c] at e
      exact fX5_widest_c86 h0 h v2 v4 q F e
    · rw [if_neg c] at e
      obtain ⟨x1, ex1, e⟩ := nm_s e
      obtain ⟨q2, eq2, e⟩ := bd_s e
      have F := Fr.tr F (fX0_work h 21 6 x1 q2 eq2) (by decide) (by decide)
      by_cases c : v1 < (q2.1 21 5)
      · rw [if_pos c] at e
        exact fX5_widest_c80 h0 k17 hk17 q2 v1 v2 x1 v4 v5 q F e
      · rw [if_neg c] at e
        obtain ⟨x3, ex3, e⟩ := nm_s e
        exact fX5_widest_c80 h0 k17 hk17 q2 v1 x1 v3 x3 v5 q F e
theorem fX5_widest_b17 (h0 : Hp) : ∀ (n : Nat) (h : Hp) (v1 : Int32) (v2 : Int32) (v3 : Int32) (v4 : Int32) (v5 : Int32) (q : (Int32 × Hp)), Fr (wX5_widest) zX5_widest h0 h → sX5_widest_b17 n h v1 v2 v3 v4 v5 = some q → Fr (wX5_widest) zX5_widest h0 q.2
  | 0 => fun _ _ _ _ _ _ _ _ e => by cases e
  | n + 1 => fun h v1 v2 v3 v4 v5 q F e => fX5_widest_c17 h0 (sX5_widest_b17 n) (fX5_widest_b17 h0 n) h v1 v2 v3 v4 v5 q F e
set_option maxRecDepth 10000 in
theorem fX5_widest (h : Hp) (a1 : Int32) (q : (Int32 × Hp)) (e : sX5_widest h a1 = some q) : Fr (wX5_widest) zX5_widest h q.2 := by
  unfold sX5_widest at e
  have F : Fr (wX5_widest) zX5_widest h h := Fr.rf
  by_cases c : 0 ≤ a1
  · rw [if_pos c] at e
    exact fX5_widest_b17 h FU h a1 (-1 : Int32) (61 : Int32) (0 : Int32) (0 : Int32) q F e
  · rw [if_neg c] at e
    exact Fr.e1 F e

-- X5_dearest
abbrev wX5_dearest : List (Nat × Option Nat) := [(4, some 1), (11, some 4), (12, none), (13, none), (14, none), (15, none), (21, some 4), (22, none), (21, some 5), (24, none), (25, none), (23, none)]
abbrev zX5_dearest : List Nat := [5]
set_option maxRecDepth 10000 in
theorem fX5_dearest_c90 (h0 : Hp) (k19 : Hp → Int32 → Int32 → Int32 → Option (Int32 × Hp)) (hk19 : ∀ (h : Hp) (v1 : Int32) (v2 : Int32) (v3 : Int32) (q : (Int32 × Hp)), Fr (wX5_dearest) zX5_dearest h0 h → k19 h v1 v2 v3 = some q → Fr (wX5_dearest) zX5_dearest h0 q.2) (h : Hp) (v1 : Int32) (v2 : Int32) (v3 : Int32) (q : (Int32 × Hp)) (F : Fr (wX5_dearest) zX5_dearest h0 h) (e : sX5_dearest_c90 k19 h v1 v2 v3 = some q) : Fr (wX5_dearest) zX5_dearest h0 q.2 := by
  unfold sX5_dearest_c90 at e
  obtain ⟨x5, ex5, e⟩ := nm_s e
  exact hk19 h v1 v2 x5 q F e
set_option maxRecDepth 10000 in
theorem fX5_dearest_c80 (h0 : Hp) (k19 : Hp → Int32 → Int32 → Int32 → Option (Int32 × Hp)) (hk19 : ∀ (h : Hp) (v1 : Int32) (v2 : Int32) (v3 : Int32) (q : (Int32 × Hp)), Fr (wX5_dearest) zX5_dearest h0 h → k19 h v1 v2 v3 = some q → Fr (wX5_dearest) zX5_dearest h0 q.2) (h : Hp) (v3 : Int32) (q : (Int32 × Hp)) (F : Fr (wX5_dearest) zX5_dearest h0 h) (e : sX5_dearest_c80 k19 h v3 = some q) : Fr (wX5_dearest) zX5_dearest h0 q.2 := by
  unfold sX5_dearest_c80 at e
  obtain ⟨x6, ex6, e⟩ := nm_s e
  exact fX5_dearest_c90 h0 k19 hk19 h v3 x6 v3 q F e
set_option maxRecDepth 10000 in
theorem fX5_dearest_c19 (h0 : Hp) (k19 : Hp → Int32 → Int32 → Int32 → Option (Int32 × Hp)) (hk19 : ∀ (h : Hp) (v1 : Int32) (v2 : Int32) (v3 : Int32) (q : (Int32 × Hp)), Fr (wX5_dearest) zX5_dearest h0 h → k19 h v1 v2 v3 = some q → Fr (wX5_dearest) zX5_dearest h0 q.2) (h : Hp) (v1 : Int32) (v2 : Int32) (v3 : Int32) (q : (Int32 × Hp)) (F : Fr (wX5_dearest) zX5_dearest h0 h) (e : sX5_dearest_c19 k19 h v1 v2 v3 = some q) : Fr (wX5_dearest) zX5_dearest h0 q.2 := by
  unfold sX5_dearest_c19 at e
  by_cases c : (h.1 6 4) ≤ v3
  · rw [if_pos c] at e
    obtain ⟨q1, eq1, e⟩ := bd_s e
    have F := Fr.tr F (fX4_tell h v2.toInt64 q1 eq1) (by decide) (by decide)
    exact Fr.e1 F e
  · rw [if_neg c] at e
    obtain ⟨q2, eq2, e⟩ := bd_s e
    have F := Fr.tr F (fX1_copy h 11 6 q2 eq2) (by decide) (by decide)
    obtain ⟨q3, eq3, e⟩ := bd_s e
    have F := Fr.tr F (fX1_remove q2 11 v3 q3 eq3) (by decide) (by decide)
    obtain ⟨q4, eq4, e⟩ := bd_s e
    have F := Fr.tr F (fX0_work q3 21 11 (q3.1 1 8) q4 eq4) (by decide) (by decide)
    by_cases c : v1 = (-1 : Int32)
    · rw [if_pos c] at e
      exact fX5_dearest_c80 h0 k19 hk19 q4 v3 q F e
    · rw [if_neg c] at e
      by_cases c : v2 ≤ (q4.1 21 5)
      · rw [if_pos c] at e
        exact fX5_dearest_c90 h0 k19 hk19 q4 v1 v2 v3 q F e
      · rw [if_neg c] at e
        exact fX5_dearest_c80 h0 k19 hk19 q4 v3 q F e
theorem fX5_dearest_b19 (h0 : Hp) : ∀ (n : Nat) (h : Hp) (v1 : Int32) (v2 : Int32) (v3 : Int32) (q : (Int32 × Hp)), Fr (wX5_dearest) zX5_dearest h0 h → sX5_dearest_b19 n h v1 v2 v3 = some q → Fr (wX5_dearest) zX5_dearest h0 q.2
  | 0 => fun _ _ _ _ _ _ e => by cases e
  | n + 1 => fun h v1 v2 v3 q F e => fX5_dearest_c19 h0 (sX5_dearest_b19 n) (fX5_dearest_b19 h0 n) h v1 v2 v3 q F e
set_option maxRecDepth 10000 in
theorem fX5_dearest (h : Hp) (q : (Int32 × Hp)) (e : sX5_dearest h = some q) : Fr (wX5_dearest) zX5_dearest h q.2 := by
  unfold sX5_dearest at e
  have F : Fr (wX5_dearest) zX5_dearest h h := Fr.rf
  by_cases c : (h.1 6 4) = 0
  · rw [if_pos c] at e
    exact Fr.e1 F e
  · rw [if_neg c] at e
    exact fX5_dearest_b19 h FU h (-1 : Int32) (0 : Int32) (0 : Int32) q F e

-- X5_arrive
abbrev wX5_arrive : List (Nat × Option Nat) := [(4, some 1)]
abbrev zX5_arrive : List Nat := [5]
set_option maxRecDepth 10000 in
theorem fX5_arrive_c99 (h0 : Hp) (h : Hp) (v3 : Int32) (t0 : Int64) (t1 : Int64) (t2 : Int64) (q : (Int32 × Hp)) (F : Fr (wX5_arrive) zX5_arrive h0 h) (e : sX5_arrive_c99 h v3 t0 t1 t2 = some q) : Fr (wX5_arrive) zX5_arrive h0 q.2 := by
  unfold sX5_arrive_c99 at e
  obtain ⟨q7, eq7, e⟩ := bd_s e
  have F := Fr.tr F (fX4_tell__ h t2 t1 t0 q7 eq7) (by decide) (by decide)
  exact Fr.e1 F e
set_option maxRecDepth 10000 in
theorem fX5_arrive_c88 (h0 : Hp) (h : Hp) (v3 : Int32) (t0 : Int32) (w1 : Nat) (t2 : Int64) (t3 : Int64) (hw1 : ck w1 = 2) (q : (Int32 × Hp)) (F : Fr (wX5_arrive) zX5_arrive h0 h) (e : sX5_arrive_c88 h v3 t0 w1 t2 t3 = some q) : Fr (wX5_arrive) zX5_arrive h0 q.2 := by
  unfold sX5_arrive_c88 at e
  obtain ⟨q6, eq6, e⟩ := bd_s e
  have F := Fr.tr F (fX2_allPaired h w1 t0 q6 eq6) (fun _ hh => absurd hh List.not_mem_nil) (by decide)
  by_cases c : q6.1 = 0
  · rw [if_pos c] at e
    exact fX5_arrive_c99 h0 q6.2 v3 (0 : Int64) t2 t3 q F e
  · rw [if_neg c] at e
    exact fX5_arrive_c99 h0 q6.2 v3 (1 : Int64) t2 t3 q F e
set_option maxRecDepth 10000 in
theorem fX5_arrive_c78 (h0 : Hp) (h : Hp) (v1 : Int32) (v2 : Nat) (v3 : Int32) (t0 : Int64) (t1 : Int64) (hv2 : ck v2 = 2) (q : (Int32 × Hp)) (F : Fr (wX5_arrive) zX5_arrive h0 h) (e : sX5_arrive_c78 h v1 v2 v3 t0 t1 = some q) : Fr (wX5_arrive) zX5_arrive h0 q.2 := by
  unfold sX5_arrive_c78 at e
  by_cases c : v1 = 0
  · rw [if_pos c] at e
    exact fX5_arrive_c88 h0 h v3 (1 : Int32) v2 t0 t1 hv2 q F e
  · rw [if_neg c] at e
    exact fX5_arrive_c88 h0 h v3 (0 : Int32) v2 t0 t1 hv2 q F e
set_option maxRecDepth 10000 in
theorem fX5_arrive_c59 (h0 : Hp) (h : Hp) (v1 : Int32) (v2 : Nat) (v3 : Int32) (v4 : Int32) (t0 : Int32) (hv2 : ck v2 = 2) (q : (Int32 × Hp)) (F : Fr (wX5_arrive) zX5_arrive h0 h) (e : sX5_arrive_c59 h v1 v2 v3 v4 t0 = some q) : Fr (wX5_arrive) zX5_arrive h0 q.2 := by
  unfold sX5_arrive_c59 at e
  by_cases c : t0 = 0
  · rw [if_pos c] at e
    exact fX5_arrive_c78 h0 h v1 v2 v3 (0 : Int64) v4.toInt64 hv2 q F e
  · rw [if_neg c] at e
    exact fX5_arrive_c78 h0 h v1 v2 v3 (1 : Int64) v4.toInt64 hv2 q F e
set_option maxRecDepth 10000 in
theorem fX5_arrive (h : Hp) (a1 : Int32) (q : (Int32 × Hp)) (e : sX5_arrive h a1 = some q) : Fr (wX5_arrive) zX5_arrive h q.2 := by
  unfold sX5_arrive at e
  have F : Fr (wX5_arrive) zX5_arrive h h := Fr.rf
  obtain ⟨q1, eq1, e⟩ := bd_s e
  have F := Fr.tr F (fX5_isSide h a1 q1 eq1) (fun _ hh => absurd hh List.not_mem_nil) (by decide)
  by_cases c : q1.1 = 0
  · rw [if_pos c] at e
    exact Fr.e1 F e
  · rw [if_neg c] at e
    obtain ⟨q2, eq2, e⟩ := bd_s e
    have F := Fr.tr F (fX5_sideOf q1.2 a1 q2 eq2) (fun _ hh => absurd hh List.not_mem_nil) (by decide)
    obtain ⟨c3, e⟩ := gd_s e
    obtain ⟨q4, eq4, e⟩ := bd_s e
    have F := Fr.tr F (fX2_arriving q2.2 q2.1 (1 : Int32) (0 : Int32) q4 eq4) (fun _ hh => absurd hh List.not_mem_nil) (by decide)
    obtain ⟨q5, eq5, e⟩ := bd_s e
    have F := Fr.tr F (fX2_arriving q4.2 q2.1 (0 : Int32) (0 : Int32) q5 eq5) (fun _ hh => absurd hh List.not_mem_nil) (by decide)
    by_cases c : a1 = 0
    · rw [if_pos c] at e
      by_cases c : q5.1 < q4.1
      · rw [if_pos c] at e
        exact fX5_arrive_c59 h q5.2 a1 q2.1 q4.1 q5.1 (0 : Int32) (isC_t c3) q F e
      · rw [if_neg c] at e
        exact fX5_arrive_c59 h q5.2 a1 q2.1 q4.1 q5.1 (1 : Int32) (isC_t c3) q F e
    · rw [if_neg c] at e
      by_cases c : q4.1 < q5.1
      · rw [if_pos c] at e
        exact fX5_arrive_c59 h q5.2 a1 q2.1 q4.1 q5.1 (0 : Int32) (isC_t c3) q F e
      · rw [if_neg c] at e
        exact fX5_arrive_c59 h q5.2 a1 q2.1 q4.1 q5.1 (1 : Int32) (isC_t c3) q F e

-- X5_joins
abbrev wX5_joins : List (Nat × Option Nat) := [(34, none), (48, none), (35, none), (49, none), (36, none), (50, none), (26, some 14), (40, some 14), (33, none), (47, none), (4, some 1)]
abbrev zX5_joins : List Nat := [5]
set_option maxRecDepth 10000 in
theorem fX5_joins_c16 (h0 : Hp) (h : Hp) (q : (Int32 × Hp)) (F : Fr (wX5_joins) zX5_joins h0 h) (e : sX5_joins_c16 h = some q) : Fr (wX5_joins) zX5_joins h0 q.2 := by
  unfold sX5_joins_c16 at e
  exact Fr.e1 F e
set_option maxRecDepth 10000 in
theorem fX5_joins_c60 (h0 : Hp) (h : Hp) (q : (Int32 × Hp)) (F : Fr (wX5_joins) zX5_joins h0 h) (e : sX5_joins_c60 h = some q) : Fr (wX5_joins) zX5_joins h0 q.2 := by
  unfold sX5_joins_c60 at e
  exact Fr.e1 F e
set_option maxRecDepth 10000 in
theorem fX5_joins (h : Hp) (a1 : Int32) (a2 : Int32) (a3 : Int32) (a4 : Int32) (q : (Int32 × Hp)) (e : sX5_joins h a1 a2 a3 a4 = some q) : Fr (wX5_joins) zX5_joins h q.2 := by
  unfold sX5_joins at e
  have F : Fr (wX5_joins) zX5_joins h h := Fr.rf
  obtain ⟨q1, eq1, e⟩ := bd_s e
  have F := Fr.tr F (fX5_canMeet h a1 a2 a3 q1 eq1) (fun _ hh => absurd hh List.not_mem_nil) (by decide)
  by_cases c : q1.1 = 0
  · rw [if_pos c] at e
    exact fX5_joins_c16 h q1.2 q F e
  · rw [if_neg c] at e
    by_cases c : (1 : Int32) ≤ a4
    · rw [if_pos c] at e
      obtain ⟨q2, eq2, e⟩ := bd_s e
      have F := Fr.tr F (fX5_sideOf q1.2 a1 q2 eq2) (fun _ hh => absurd hh List.not_mem_nil) (by decide)
      obtain ⟨c3, e⟩ := gd_s e
      by_cases c : (q2.2.1 q2.1 14) < (24 : Int32)
      · rw [if_pos c] at e
        obtain ⟨q4, eq4, e⟩ := bd_s e
        have F := Fr.tr F (fX2_rest q2.2 q2.1 a2 q4 eq4) (fun _ hh => absurd hh List.not_mem_nil) (by decide)
        by_cases c : q4.1 < a4
        · rw [if_pos c] at e
          exact fX5_joins_c60 h q4.2 q F e
        · rw [if_neg c] at e
          obtain ⟨q5, eq5, e⟩ := bd_s e
          have F := Fr.tr F (fX2_rest q4.2 q2.1 a3 q5 eq5) (fun _ hh => absurd hh List.not_mem_nil) (by decide)
          by_cases c : a4 ≤ q5.1
          · rw [if_pos c] at e
            obtain ⟨c6, e⟩ := gd_s e
            obtain ⟨c7, e⟩ := gd_s e
            obtain ⟨q8, eq8, e⟩ := bd_s e
            have F := Fr.tr F (fX2_isWide q5.2 q2.1 a2 a3 (q5.2.1 (q2.1 + 7) a2.toNatClampNeg) (q5.2.1 (q2.1 + 7) a3.toNatClampNeg) q8 eq8) (fun _ hh => absurd hh List.not_mem_nil) (by decide)
            by_cases c : q8.1 = 0
            · rw [if_pos c] at e
              exact Fr.e1 F e
            · rw [if_neg c] at e
              obtain ⟨c9, e⟩ := gd_s e
              obtain ⟨c10, e⟩ := gd_s e
              obtain ⟨q11, eq11, e⟩ := bd_s e
              have F := Fr.tr F (fX2_isWide q8.2 q2.1 a2 a3 ((q8.2.1 (q2.1 + 7) a2.toNatClampNeg) + a4) ((q8.2.1 (q2.1 + 7) a3.toNatClampNeg) + a4) q11 eq11) (fun _ hh => absurd hh List.not_mem_nil) (by decide)
              by_cases c : q11.1 = 0
              · rw [if_pos c] at e
                exact Fr.e1 F e
              · rw [if_neg c] at e
                obtain ⟨q12, eq12, e⟩ := bd_s e
                have F := Fr.tr F (fX2_add q11.2 q2.1 a2 a3 a4 q12 eq12) (by rcases hsX2 (isC_t c3) with hh | hh <;> rw [hh] <;> decide) (by decide)
                obtain ⟨q13, eq13, e⟩ := bd_s e
                have F := Fr.tr F (fX2_rest q12 q2.1 a2 q13 eq13) (fun _ hh => absurd hh List.not_mem_nil) (by decide)
                obtain ⟨q14, eq14, e⟩ := bd_s e
                have F := Fr.tr F (fX2_rest q13.2 q2.1 a3 q14 eq14) (fun _ hh => absurd hh List.not_mem_nil) (by decide)
                obtain ⟨q15, eq15, e⟩ := bd_s e
                have F := Fr.tr F (fX4_tell_ q14.2 q13.1.toInt64 q14.1.toInt64 q15 eq15) (by decide) (by decide)
                exact Fr.e1 F e
          · rw [if_neg c] at e
            exact fX5_joins_c60 h q5.2 q F e
      · rw [if_neg c] at e
        exact Fr.e1 F e
    · rw [if_neg c] at e
      exact fX5_joins_c16 h q1.2 q F e

-- X5_most
abbrev wX5_most : List (Nat × Option Nat) := []
abbrev zX5_most : List Nat := []
set_option maxRecDepth 10000 in
theorem fX5_most_c24 (h0 : Hp) (h : Hp) (t0 : Int32) (q : (Int32 × Hp)) (F : Fr (wX5_most) zX5_most h0 h) (e : sX5_most_c24 h t0 = some q) : Fr (wX5_most) zX5_most h0 q.2 := by
  unfold sX5_most_c24 at e
  exact Fr.e1 F e
set_option maxRecDepth 10000 in
theorem fX5_most (h : Hp) (a1 : Int32) (a2 : Int32) (a3 : Int32) (q : (Int32 × Hp)) (e : sX5_most h a1 a2 a3 = some q) : Fr (wX5_most) zX5_most h q.2 := by
  unfold sX5_most at e
  have F : Fr (wX5_most) zX5_most h h := Fr.rf
  obtain ⟨q1, eq1, e⟩ := bd_s e
  have F := Fr.tr F (fX5_canMeet h a1 a2 a3 q1 eq1) (fun _ hh => absurd hh List.not_mem_nil) (by decide)
  by_cases c : q1.1 = 0
  · rw [if_pos c] at e
    exact fX5_most_c24 h q1.2 (-1 : Int32) q F e
  · rw [if_neg c] at e
    obtain ⟨q2, eq2, e⟩ := bd_s e
    have F := Fr.tr F (fX5_sideOf q1.2 a1 q2 eq2) (fun _ hh => absurd hh List.not_mem_nil) (by decide)
    obtain ⟨c3, e⟩ := gd_s e
    obtain ⟨q4, eq4, e⟩ := bd_s e
    have F := Fr.tr F (fX2_greatestLoad q2.2 q2.1 a2 a3 q4 eq4) (fun _ hh => absurd hh List.not_mem_nil) (by decide)
    exact fX5_most_c24 h q4.2 q4.1 q F e

-- X5_area
abbrev wX5_area : List (Nat × Option Nat) := []
abbrev zX5_area : List Nat := []
set_option maxRecDepth 10000 in
theorem fX5_area_c22 (h0 : Hp) (h : Hp) (t0 : Int32) (q : (Int32 × Hp)) (F : Fr (wX5_area) zX5_area h0 h) (e : sX5_area_c22 h t0 = some q) : Fr (wX5_area) zX5_area h0 q.2 := by
  unfold sX5_area_c22 at e
  exact Fr.e1 F e
set_option maxRecDepth 10000 in
theorem fX5_area (h : Hp) (a1 : Int32) (a2 : Int32) (q : (Int32 × Hp)) (e : sX5_area h a1 a2 = some q) : Fr (wX5_area) zX5_area h q.2 := by
  unfold sX5_area at e
  have F : Fr (wX5_area) zX5_area h h := Fr.rf
  obtain ⟨q1, eq1, e⟩ := bd_s e
  have F := Fr.tr F (fX5_hasMatch h a1 a2 q1 eq1) (fun _ hh => absurd hh List.not_mem_nil) (by decide)
  by_cases c : q1.1 = 0
  · rw [if_pos c] at e
    exact fX5_area_c22 h q1.2 (-1 : Int32) q F e
  · rw [if_neg c] at e
    obtain ⟨q2, eq2, e⟩ := bd_s e
    have F := Fr.tr F (fX5_sideOf q1.2 a1 q2 eq2) (fun _ hh => absurd hh List.not_mem_nil) (by decide)
    obtain ⟨c3, e⟩ := gd_s e
    obtain ⟨q4, eq4, e⟩ := bd_s e
    have F := Fr.tr F (fX2_areaOf q2.2 q2.1 a2 q4 eq4) (fun _ hh => absurd hh List.not_mem_nil) (by decide)
    exact fX5_area_c22 h q4.2 q4.1 q F e

-- X5_total
abbrev wX5_total : List (Nat × Option Nat) := [(4, some 1)]
abbrev zX5_total : List Nat := [5]
set_option maxRecDepth 10000 in
theorem fX5_total_c83 (h0 : Hp) (k12 : Hp → Int32 → Int32 → Int32 → Int32 → Int32 → Option (Int32 × Hp)) (hk12 : ∀ (h : Hp) (v1 : Int32) (v2 : Int32) (v3 : Int32) (v4 : Int32) (v5 : Int32) (q : (Int32 × Hp)), Fr (wX5_total) zX5_total h0 h → k12 h v1 v2 v3 v4 v5 = some q → Fr (wX5_total) zX5_total h0 q.2) (k29 : Hp → Int32 → Int32 → Int32 → Int32 → Int32 → Nat → Int32 → Option (Int32 × Hp)) (hk29 : ∀ (h : Hp) (v1 : Int32) (v2 : Int32) (v3 : Int32) (v4 : Int32) (v5 : Int32) (v6 : Nat) (v7 : Int32) (hv6 : ck v6 = 2) (q : (Int32 × Hp)), Fr (wX5_total) zX5_total h0 h → k29 h v1 v2 v3 v4 v5 v6 v7 = some q → Fr (wX5_total) zX5_total h0 q.2) (h : Hp) (v1 : Int32) (v2 : Int32) (v3 : Int32) (v4 : Int32) (v5 : Int32) (v6 : Nat) (v7 : Int32) (hv6 : ck v6 = 2) (q : (Int32 × Hp)) (F : Fr (wX5_total) zX5_total h0 h) (e : sX5_total_c83 k12 k29 h v1 v2 v3 v4 v5 v6 v7 = some q) : Fr (wX5_total) zX5_total h0 q.2 := by
  unfold sX5_total_c83 at e
  obtain ⟨x9, ex9, e⟩ := nm_s e
  exact hk29 h v1 v2 v3 v4 v5 v6 x9 hv6 q F e
set_option maxRecDepth 10000 in
theorem fX5_total_c29 (h0 : Hp) (k12 : Hp → Int32 → Int32 → Int32 → Int32 → Int32 → Option (Int32 × Hp)) (hk12 : ∀ (h : Hp) (v1 : Int32) (v2 : Int32) (v3 : Int32) (v4 : Int32) (v5 : Int32) (q : (Int32 × Hp)), Fr (wX5_total) zX5_total h0 h → k12 h v1 v2 v3 v4 v5 = some q → Fr (wX5_total) zX5_total h0 q.2) (k29 : Hp → Int32 → Int32 → Int32 → Int32 → Int32 → Nat → Int32 → Option (Int32 × Hp)) (hk29 : ∀ (h : Hp) (v1 : Int32) (v2 : Int32) (v3 : Int32) (v4 : Int32) (v5 : Int32) (v6 : Nat) (v7 : Int32) (hv6 : ck v6 = 2) (q : (Int32 × Hp)), Fr (wX5_total) zX5_total h0 h → k29 h v1 v2 v3 v4 v5 v6 v7 = some q → Fr (wX5_total) zX5_total h0 q.2) (h : Hp) (v1 : Int32) (v2 : Int32) (v3 : Int32) (v4 : Int32) (v5 : Int32) (v6 : Nat) (v7 : Int32) (hv6 : ck v6 = 2) (q : (Int32 × Hp)) (F : Fr (wX5_total) zX5_total h0 h) (e : sX5_total_c29 k12 k29 h v1 v2 v3 v4 v5 v6 v7 = some q) : Fr (wX5_total) zX5_total h0 q.2 := by
  unfold sX5_total_c29 at e
  by_cases c : (h.1 v6 14) ≤ v7
  · rw [if_pos c] at e
    obtain ⟨x4, ex4, e⟩ := nm_s e
    exact hk12 h v1 v2 v3 v4 x4 q F e
  · rw [if_neg c] at e
    obtain ⟨q5, eq5, e⟩ := bd_s e
    have F := Fr.tr F (fX2_areaOf h v6 v7 q5 eq5) (fun _ hh => absurd hh List.not_mem_nil) (by decide)
    by_cases c : 0 ≤ q5.1
    · rw [if_pos c] at e
      obtain ⟨x6, ex6, e⟩ := nm_s e
      by_cases c : q5.1 ≤ v3
      · rw [if_pos c] at e
        exact fX5_total_c83 h0 k12 hk12 k29 hk29 q5.2 x6 v2 v3 v4 v5 v6 v7 hv6 q F e
      · rw [if_neg c] at e
        obtain ⟨x7, ex7, e⟩ := nm_s e
        exact fX5_total_c83 h0 k12 hk12 k29 hk29 q5.2 x6 v2 q5.1 x7 v5 v6 v7 hv6 q F e
    · rw [if_neg c] at e
      obtain ⟨x8, ex8, e⟩ := nm_s e
      exact fX5_total_c83 h0 k12 hk12 k29 hk29 q5.2 v1 x8 v3 v4 v5 v6 v7 hv6 q F e
theorem fX5_total_b29 (h0 : Hp) (k12 : Hp → Int32 → Int32 → Int32 → Int32 → Int32 → Option (Int32 × Hp)) (hk12 : ∀ (h : Hp) (v1 : Int32) (v2 : Int32) (v3 : Int32) (v4 : Int32) (v5 : Int32) (q : (Int32 × Hp)), Fr (wX5_total) zX5_total h0 h → k12 h v1 v2 v3 v4 v5 = some q → Fr (wX5_total) zX5_total h0 q.2) : ∀ (n : Nat) (h : Hp) (v1 : Int32) (v2 : Int32) (v3 : Int32) (v4 : Int32) (v5 : Int32) (v6 : Nat) (v7 : Int32) (hv6 : ck v6 = 2) (q : (Int32 × Hp)), Fr (wX5_total) zX5_total h0 h → sX5_total_b29 k12 n h v1 v2 v3 v4 v5 v6 v7 = some q → Fr (wX5_total) zX5_total h0 q.2
  | 0 => fun _ _ _ _ _ _ _ _ _ _ _ e => by cases e
  | n + 1 => fun h v1 v2 v3 v4 v5 v6 v7 hv6 q F e => fX5_total_c29 h0 k12 hk12 (sX5_total_b29 k12 n) (fX5_total_b29 h0 k12 hk12 n) h v1 v2 v3 v4 v5 v6 v7 hv6 q F e
set_option maxRecDepth 10000 in
theorem fX5_total_c12 (h0 : Hp) (k12 : Hp → Int32 → Int32 → Int32 → Int32 → Int32 → Option (Int32 × Hp)) (hk12 : ∀ (h : Hp) (v1 : Int32) (v2 : Int32) (v3 : Int32) (v4 : Int32) (v5 : Int32) (q : (Int32 × Hp)), Fr (wX5_total) zX5_total h0 h → k12 h v1 v2 v3 v4 v5 = some q → Fr (wX5_total) zX5_total h0 q.2) (h : Hp) (v1 : Int32) (v2 : Int32) (v3 : Int32) (v4 : Int32) (v5 : Int32) (q : (Int32 × Hp)) (F : Fr (wX5_total) zX5_total h0 h) (e : sX5_total_c12 k12 h v1 v2 v3 v4 v5 = some q) : Fr (wX5_total) zX5_total h0 q.2 := by
  unfold sX5_total_c12 at e
  by_cases c : (2 : Int32) ≤ v5
  · rw [if_pos c] at e
    obtain ⟨q1, eq1, e⟩ := bd_s e
    have F := Fr.tr F (fX4_tell_ h v2.toInt64 v4.toInt64 q1 eq1) (by decide) (by decide)
    exact Fr.e1 F e
  · rw [if_neg c] at e
    obtain ⟨q2, eq2, e⟩ := bd_s e
    have F := Fr.tr F (fX5_sideOf h v5 q2 eq2) (fun _ hh => absurd hh List.not_mem_nil) (by decide)
    obtain ⟨c3, e⟩ := gd_s e
    exact fX5_total_b29 h0 k12 hk12 FU q2.2 v1 v2 v3 v4 v5 q2.1 (0 : Int32) (isC_t c3) q F e
theorem fX5_total_b12 (h0 : Hp) : ∀ (n : Nat) (h : Hp) (v1 : Int32) (v2 : Int32) (v3 : Int32) (v4 : Int32) (v5 : Int32) (q : (Int32 × Hp)), Fr (wX5_total) zX5_total h0 h → sX5_total_b12 n h v1 v2 v3 v4 v5 = some q → Fr (wX5_total) zX5_total h0 q.2
  | 0 => fun _ _ _ _ _ _ _ _ e => by cases e
  | n + 1 => fun h v1 v2 v3 v4 v5 q F e => fX5_total_c12 h0 (sX5_total_b12 n) (fX5_total_b12 h0 n) h v1 v2 v3 v4 v5 q F e
set_option maxRecDepth 10000 in
theorem fX5_total (h : Hp) (q : (Int32 × Hp)) (e : sX5_total h = some q) : Fr (wX5_total) zX5_total h q.2 := by
  unfold sX5_total at e
  have F : Fr (wX5_total) zX5_total h h := Fr.rf
  exact fX5_total_b12 h FU h (0 : Int32) (0 : Int32) (0 : Int32) (-1 : Int32) (0 : Int32) q F e

-- X5_loops
abbrev wX5_loops : List (Nat × Option Nat) := [(39, none), (53, none), (4, some 1)]
abbrev zX5_loops : List Nat := [5]
set_option maxRecDepth 10000 in
theorem fX5_loops (h : Hp) (a1 : Int32) (q : (Int32 × Hp)) (e : sX5_loops h a1 = some q) : Fr (wX5_loops) zX5_loops h q.2 := by
  unfold sX5_loops at e
  have F : Fr (wX5_loops) zX5_loops h h := Fr.rf
  obtain ⟨q1, eq1, e⟩ := bd_s e
  have F := Fr.tr F (fX5_isSide h a1 q1 eq1) (fun _ hh => absurd hh List.not_mem_nil) (by decide)
  by_cases c : q1.1 = 0
  · rw [if_pos c] at e
    exact Fr.e1 F e
  · rw [if_neg c] at e
    obtain ⟨q2, eq2, e⟩ := bd_s e
    have F := Fr.tr F (fX5_sideOf q1.2 a1 q2 eq2) (fun _ hh => absurd hh List.not_mem_nil) (by decide)
    obtain ⟨c3, e⟩ := gd_s e
    obtain ⟨q4, eq4, e⟩ := bd_s e
    have F := Fr.tr F (fX2_joinedStreams q2.2 q2.1 q4 eq4) (fun _ hh => absurd hh List.not_mem_nil) (by decide)
    obtain ⟨q5, eq5, e⟩ := bd_s e
    have F := Fr.tr F (fX2_mergers q4.2 q2.1 q5 eq5) (by rcases hsX2 (isC_t c3) with hh | hh <;> rw [hh] <;> decide) (by decide)
    obtain ⟨x6, ex6, e⟩ := nm_s e
    obtain ⟨q7, eq7, e⟩ := bd_s e
    have F := Fr.tr F (fX4_tell__ q5.2 ((q5.2.1 q2.1 14).toInt64) q4.1.toInt64 x6.toInt64 q7 eq7) (by decide) (by decide)
    exact Fr.e1 F e

-- X5_settle
abbrev wX5_settle : List (Nat × Option Nat) := [(16, some 4), (17, none), (16, some 5), (19, none), (20, none), (18, none), (26, some 1), (26, some 2), (26, some 14), (33, none), (27, none), (29, none), (30, none), (31, none), (32, none), (28, none), (40, some 1), (40, some 2), (40, some 14), (47, none), (41, none), (43, none), (44, none), (45, none), (46, none), (42, none)]
abbrev zX5_settle : List Nat := []
set_option maxRecDepth 10000 in
theorem fX5_settle (h : Hp) (q : Hp) (e : sX5_settle h = some q) : Fr (wX5_settle) zX5_settle h q := by
  unfold sX5_settle at e
  have F : Fr (wX5_settle) zX5_settle h h := Fr.rf
  obtain ⟨q1, eq1, e⟩ := bd_s e
  have F := Fr.tr F (fX0_work h 16 6 (h.1 1 8) q1 eq1) (by decide) (by decide)
  obtain ⟨q2, eq2, e⟩ := bd_s e
  have F := Fr.tr F (fX0_pinchAt q1 16 q2 eq2) (fun _ hh => absurd hh List.not_mem_nil) (by decide)
  obtain ⟨q3, eq3, e⟩ := bd_s e
  have F := Fr.tr F (fX2_lay q2.2 26 6 q2.1 (q2.2.1 1 8) q3 eq3) (by decide) (by decide)
  obtain ⟨q4, eq4, e⟩ := bd_s e
  have F := Fr.tr F (fX0_pinchAt q3 16 q4 eq4) (fun _ hh => absurd hh List.not_mem_nil) (by decide)
  obtain ⟨q5, eq5, e⟩ := bd_s e
  have F := Fr.tr F (fX2_lay q4.2 40 6 q4.1 (q4.2.1 1 8) q5 eq5) (by decide) (by decide)
  exact Fr.e0 F e

-- X5_fuelOfOther
abbrev wX5_fuelOfOther : List (Nat × Option Nat) := [(21, some 4), (22, none), (21, some 5), (24, none), (25, none), (23, none), (4, some 1)]
abbrev zX5_fuelOfOther : List Nat := [5]
set_option maxRecDepth 10000 in
theorem fX5_fuelOfOther (h : Hp) (q : (Int32 × Hp)) (e : sX5_fuelOfOther h = some q) : Fr (wX5_fuelOfOther) zX5_fuelOfOther h q.2 := by
  unfold sX5_fuelOfOther at e
  have F : Fr (wX5_fuelOfOther) zX5_fuelOfOther h h := Fr.rf
  obtain ⟨q1, eq1, e⟩ := bd_s e
  have F := Fr.tr F (fX0_work h 21 11 (h.1 1 8) q1 eq1) (by decide) (by decide)
  obtain ⟨q2, eq2, e⟩ := bd_s e
  have F := Fr.tr F (fX0_cool q1 21 q2 eq2) (fun _ hh => absurd hh List.not_mem_nil) (by decide)
  obtain ⟨q3, eq3, e⟩ := bd_s e
  have F := Fr.tr F (fX4_tell_ q2.2 q2.1.toInt64 (((q2.2.1 21 5) - (q2.2.1 16 5)).toInt64) q3 eq3) (by decide) (by decide)
  exact Fr.e1 F e

-- X6_streams
abbrev wX6_streams : List (Nat × Option Nat) := [(54, some 0), (54, some 6), (54, some 4), (54, some 5), (54, some 7), (60, none), (61, none), (62, none), (67, none), (57, none), (58, none), (59, none)]
abbrev zX6_streams : List Nat := []
set_option maxRecDepth 10000 in
theorem fX6_streams_c73 (h0 : Hp) (h : Hp) (q : (Int32 × Hp)) (F : Fr (wX6_streams) zX6_streams h0 h) (e : sX6_streams_c73 h = some q) : Fr (wX6_streams) zX6_streams h0 q.2 := by
  unfold sX6_streams_c73 at e
  exact Fr.e1 F e
set_option maxRecDepth 10000 in
theorem fX6_streams_c60 (h0 : Hp) (k25 : Hp → Int32 → Option (Int32 × Hp)) (hk25 : ∀ (h : Hp) (v1 : Int32) (q : (Int32 × Hp)), Fr (wX6_streams) zX6_streams h0 h → k25 h v1 = some q → Fr (wX6_streams) zX6_streams h0 q.2) (h : Hp) (v1 : Int32) (t0 : Int32) (q : (Int32 × Hp)) (F : Fr (wX6_streams) zX6_streams h0 h) (e : sX6_streams_c60 k25 h v1 t0 = some q) : Fr (wX6_streams) zX6_streams h0 q.2 := by
  unfold sX6_streams_c60 at e
  by_cases c : t0 = 0
  · rw [if_pos c] at e
    exact fX6_streams_c73 h0 h q F e
  · rw [if_neg c] at e
    obtain ⟨q7, eq7, e⟩ := bd_s e
    have F := Fr.tr F (fX6_readsStream h v1 q7 eq7) (by decide) (by decide)
    by_cases c : q7.1 = 0
    · rw [if_pos c] at e
      exact fX6_streams_c73 h0 q7.2 q F e
    · rw [if_neg c] at e
      obtain ⟨x8, ex8, e⟩ := nm_s e
      exact hk25 q7.2 x8 q F e
set_option maxRecDepth 10000 in
theorem fX6_streams_c55 (h0 : Hp) (k25 : Hp → Int32 → Option (Int32 × Hp)) (hk25 : ∀ (h : Hp) (v1 : Int32) (q : (Int32 × Hp)), Fr (wX6_streams) zX6_streams h0 h → k25 h v1 = some q → Fr (wX6_streams) zX6_streams h0 q.2) (h : Hp) (v1 : Int32) (q : (Int32 × Hp)) (F : Fr (wX6_streams) zX6_streams h0 h) (e : sX6_streams_c55 k25 h v1 = some q) : Fr (wX6_streams) zX6_streams h0 q.2 := by
  unfold sX6_streams_c55 at e
  exact fX6_streams_c60 h0 k25 hk25 h v1 (1 : Int32) q F e
set_option maxRecDepth 10000 in
theorem fX6_streams_c59 (h0 : Hp) (k25 : Hp → Int32 → Option (Int32 × Hp)) (hk25 : ∀ (h : Hp) (v1 : Int32) (q : (Int32 × Hp)), Fr (wX6_streams) zX6_streams h0 h → k25 h v1 = some q → Fr (wX6_streams) zX6_streams h0 q.2) (h : Hp) (v1 : Int32) (q : (Int32 × Hp)) (F : Fr (wX6_streams) zX6_streams h0 h) (e : sX6_streams_c59 k25 h v1 = some q) : Fr (wX6_streams) zX6_streams h0 q.2 := by
  unfold sX6_streams_c59 at e
  exact fX6_streams_c60 h0 k25 hk25 h v1 (0 : Int32) q F e
set_option maxRecDepth 10000 in
theorem fX6_streams_c93 (h0 : Hp) (k93 : Hp → Int32 → Int32 → Option (Int32 × Hp)) (hk93 : ∀ (h : Hp) (v1 : Int32) (v2 : Int32) (q : (Int32 × Hp)), Fr (wX6_streams) zX6_streams h0 h → k93 h v1 v2 = some q → Fr (wX6_streams) zX6_streams h0 q.2) (h : Hp) (v1 : Int32) (v2 : Int32) (q : (Int32 × Hp)) (F : Fr (wX6_streams) zX6_streams h0 h) (e : sX6_streams_c93 k93 h v1 v2 = some q) : Fr (wX6_streams) zX6_streams h0 q.2 := by
  unfold sX6_streams_c93 at e
  by_cases c : v1 ≤ v2
  · rw [if_pos c] at e
    obtain ⟨q9, eq9, e⟩ := bd_s e
    have F := Fr.tr F (fX6_allGo h q9 eq9) (by decide) (by decide)
    exact Fr.e1 F e
  · rw [if_neg c] at e
    obtain ⟨c10, e⟩ := gd_s e
    obtain ⟨c11, e⟩ := gd_s e
    obtain ⟨h12, eh12, e⟩ := nm_s e
    have F := Fr.w1 F eh12 (Or.inl (by decide))
    obtain ⟨c13, e⟩ := gd_s e
    obtain ⟨c14, e⟩ := gd_s e
    obtain ⟨h15, eh15, e⟩ := nm_s e
    have F := Fr.w1 F eh15 (Or.inl (by decide))
    obtain ⟨c16, e⟩ := gd_s e
    obtain ⟨c17, e⟩ := gd_s e
    obtain ⟨h18, eh18, e⟩ := nm_s e
    have F := Fr.w1 F eh18 (Or.inl (by decide))
    obtain ⟨x19, ex19, e⟩ := nm_s e
    exact hk93 h18 v1 x19 q F e
theorem fX6_streams_b93 (h0 : Hp) : ∀ (n : Nat) (h : Hp) (v1 : Int32) (v2 : Int32) (q : (Int32 × Hp)), Fr (wX6_streams) zX6_streams h0 h → sX6_streams_b93 n h v1 v2 = some q → Fr (wX6_streams) zX6_streams h0 q.2
  | 0 => fun _ _ _ _ _ e => by cases e
  | n + 1 => fun h v1 v2 q F e => fX6_streams_c93 h0 (sX6_streams_b93 n) (fX6_streams_b93 h0 n) h v1 v2 q F e
set_option maxRecDepth 10000 in
theorem fX6_streams_c25 (h0 : Hp) (k25 : Hp → Int32 → Option (Int32 × Hp)) (hk25 : ∀ (h : Hp) (v1 : Int32) (q : (Int32 × Hp)), Fr (wX6_streams) zX6_streams h0 h → k25 h v1 = some q → Fr (wX6_streams) zX6_streams h0 q.2) (h : Hp) (v1 : Int32) (q : (Int32 × Hp)) (F : Fr (wX6_streams) zX6_streams h0 h) (e : sX6_streams_c25 k25 h v1 = some q) : Fr (wX6_streams) zX6_streams h0 q.2 := by
  unfold sX6_streams_c25 at e
  by_cases c : (h.1 54 6) ≤ (h.1 54 5)
  · rw [if_pos c] at e
    obtain ⟨h5, eh5, e⟩ := nm_s e
    have F := Fr.w1 F eh5 (Or.inr (by decide))
    exact fX6_streams_b93 h0 FU h5 v1 (0 : Int32) q F e
  · rw [if_neg c] at e
    by_cases c : v1 = 0
    · rw [if_pos c] at e
      exact fX6_streams_c55 h0 k25 hk25 h v1 q F e
    · rw [if_neg c] at e
      by_cases c : (10 : Int32) ≤ v1
      · rw [if_pos c] at e
        exact fX6_streams_c59 h0 k25 hk25 h v1 q F e
      · rw [if_neg c] at e
        obtain ⟨q6, eq6, e⟩ := bd_s e
        have F := Fr.tr F (fX6_takes h (44 : Int32) q6 eq6) (by decide) (by decide)
        by_cases c : q6.1 = 0
        · rw [if_pos c] at e
          exact fX6_streams_c59 h0 k25 hk25 q6.2 v1 q F e
        · rw [if_neg c] at e
          exact fX6_streams_c55 h0 k25 hk25 q6.2 v1 q F e
theorem fX6_streams_b25 (h0 : Hp) : ∀ (n : Nat) (h : Hp) (v1 : Int32) (q : (Int32 × Hp)), Fr (wX6_streams) zX6_streams h0 h → sX6_streams_b25 n h v1 = some q → Fr (wX6_streams) zX6_streams h0 q.2
  | 0 => fun _ _ _ _ e => by cases e
  | n + 1 => fun h v1 q F e => fX6_streams_c25 h0 (sX6_streams_b25 n) (fX6_streams_b25 h0 n) h v1 q F e
set_option maxRecDepth 10000 in
theorem fX6_streams (h : Hp) (q : (Int32 × Hp)) (e : sX6_streams h = some q) : Fr (wX6_streams) zX6_streams h q.2 := by
  unfold sX6_streams at e
  have F : Fr (wX6_streams) zX6_streams h h := Fr.rf
  obtain ⟨h1, eh1, e⟩ := nm_s e
  have F := Fr.w1 F eh1 (Or.inr (by decide))
  obtain ⟨h2, eh2, e⟩ := nm_s e
  have F := Fr.w1 F eh2 (Or.inr (by decide))
  obtain ⟨h3, eh3, e⟩ := nm_s e
  have F := Fr.w1 F eh3 (Or.inr (by decide))
  obtain ⟨h4, eh4, e⟩ := nm_s e
  have F := Fr.w1 F eh4 (Or.inr (by decide))
  exact fX6_streams_b25 h FU h4 (0 : Int32) q F e

-- X6_works
abbrev wX6_works : List (Nat × Option Nat) := [(54, some 17), (54, some 18), (63, none), (64, none), (54, some 19)]
abbrev zX6_works : List Nat := []
set_option maxRecDepth 10000 in
theorem fX6_works_c156 (h0 : Hp) (h : Hp) (t0 : Int32) (q : Hp) (F : Fr (wX6_works) zX6_works h0 h) (e : sX6_works_c156 h t0 = some q) : Fr (wX6_works) zX6_works h0 q := by
  unfold sX6_works_c156 at e
  obtain ⟨h21, eh21, e⟩ := nm_s e
  have F := Fr.w1 F eh21 (Or.inr (by decide))
  exact Fr.e0 F e
set_option maxRecDepth 10000 in
theorem fX6_works_c106 (h0 : Hp) (k106 : Hp → Int32 → Option Hp) (hk106 : ∀ (h : Hp) (v2 : Int32) (q : Hp), Fr (wX6_works) zX6_works h0 h → k106 h v2 = some q → Fr (wX6_works) zX6_works h0 q) (h : Hp) (v2 : Int32) (q : Hp) (F : Fr (wX6_works) zX6_works h0 h) (e : sX6_works_c106 k106 h v2 = some q) : Fr (wX6_works) zX6_works h0 q := by
  unfold sX6_works_c106 at e
  by_cases c : (h.1 54 17) ≤ v2
  · rw [if_pos c] at e
    by_cases c : (h.1 54 17) = 0
    · rw [if_pos c] at e
      exact fX6_works_c156 h0 h (0 : Int32) q F e
    · rw [if_neg c] at e
      obtain ⟨c16, e⟩ := gd_s e
      exact fX6_works_c156 h0 h (h.1 64 ((h.1 54 17) - (1 : Int32)).toNatClampNeg) q F e
  · rw [if_neg c] at e
    obtain ⟨c17, e⟩ := gd_s e
    obtain ⟨c18, e⟩ := gd_s e
    obtain ⟨h19, eh19, e⟩ := nm_s e
    have F := Fr.w1 F eh19 (Or.inl (by decide))
    obtain ⟨x20, ex20, e⟩ := nm_s e
    exact hk106 h19 x20 q F e
theorem fX6_works_b106 (h0 : Hp) : ∀ (n : Nat) (h : Hp) (v2 : Int32) (q : Hp), Fr (wX6_works) zX6_works h0 h → sX6_works_b106 n h v2 = some q → Fr (wX6_works) zX6_works h0 q
  | 0 => fun _ _ _ _ e => by cases e
  | n + 1 => fun h v2 q F e => fX6_works_c106 h0 (sX6_works_b106 n) (fX6_works_b106 h0 n) h v2 q F e
set_option maxRecDepth 10000 in
theorem fX6_works_c62 (h0 : Hp) (k62 : Hp → Int32 → Int32 → Option Hp) (hk62 : ∀ (h : Hp) (v1 : Int32) (v2 : Int32) (q : Hp), Fr (wX6_works) zX6_works h0 h → k62 h v1 v2 = some q → Fr (wX6_works) zX6_works h0 q) (h : Hp) (v1 : Int32) (v2 : Int32) (q : Hp) (F : Fr (wX6_works) zX6_works h0 h) (e : sX6_works_c62 k62 h v1 v2 = some q) : Fr (wX6_works) zX6_works h0 q := by
  unfold sX6_works_c62 at e
  by_cases c : (h.1 54 17) ≤ v2
  · rw [if_pos c] at e
    exact fX6_works_b106 h0 FU h (0 : Int32) q F e
  · rw [if_neg c] at e
    obtain ⟨c10, e⟩ := gd_s e
    obtain ⟨h11, eh11, e⟩ := nm_s e
    have F := Fr.w1 F eh11 (Or.inl (by decide))
    obtain ⟨h12, eh12, e⟩ := nm_s e
    have F := Fr.w1 F eh12 (Or.inr (by decide))
    obtain ⟨q13, eq13, e⟩ := bd_s e
    have F := Fr.tr F (fX6_surplus h12 v2 q13 eq13) (fun _ hh => absurd hh List.not_mem_nil) (by decide)
    obtain ⟨x14, ex14, e⟩ := nm_s e
    obtain ⟨x15, ex15, e⟩ := nm_s e
    exact hk62 q13.2 x14 x15 q F e
theorem fX6_works_b62 (h0 : Hp) : ∀ (n : Nat) (h : Hp) (v1 : Int32) (v2 : Int32) (q : Hp), Fr (wX6_works) zX6_works h0 h → sX6_works_b62 n h v1 v2 = some q → Fr (wX6_works) zX6_works h0 q
  | 0 => fun _ _ _ _ _ e => by cases e
  | n + 1 => fun h v1 v2 q F e => fX6_works_c62 h0 (sX6_works_b62 n) (fX6_works_b62 h0 n) h v1 v2 q F e
set_option maxRecDepth 10000 in
theorem fX6_works_c7 (h0 : Hp) (k7 : Hp → Int32 → Option Hp) (hk7 : ∀ (h : Hp) (v1 : Int32) (q : Hp), Fr (wX6_works) zX6_works h0 h → k7 h v1 = some q → Fr (wX6_works) zX6_works h0 q) (h : Hp) (v1 : Int32) (q : Hp) (F : Fr (wX6_works) zX6_works h0 h) (e : sX6_works_c7 k7 h v1 = some q) : Fr (wX6_works) zX6_works h0 q := by
  unfold sX6_works_c7 at e
  by_cases c : (h.1 54 7) ≤ v1
  · rw [if_pos c] at e
    obtain ⟨h2, eh2, e⟩ := nm_s e
    have F := Fr.w1 F eh2 (Or.inr (by decide))
    exact fX6_works_b62 h0 FU h2 (0 : Int32) (0 : Int32) q F e
  · rw [if_neg c] at e
    obtain ⟨c3, e⟩ := gd_s e
    obtain ⟨q4, eq4, e⟩ := bd_s e
    have F := Fr.tr F (fX6_shift h v1 q4 eq4) (fun _ hh => absurd hh List.not_mem_nil) (by decide)
    obtain ⟨q5, eq5, e⟩ := bd_s e
    have F := Fr.tr F (fX6_addsBorder q4.2 ((h.1 57 v1.toNatClampNeg) - q4.1) q5 eq5) (by decide) (by decide)
    obtain ⟨c6, e⟩ := gd_s e
    obtain ⟨q7, eq7, e⟩ := bd_s e
    have F := Fr.tr F (fX6_shift q5 v1 q7 eq7) (fun _ hh => absurd hh List.not_mem_nil) (by decide)
    obtain ⟨q8, eq8, e⟩ := bd_s e
    have F := Fr.tr F (fX6_addsBorder q7.2 ((q5.1 58 v1.toNatClampNeg) - q7.1) q8 eq8) (by decide) (by decide)
    obtain ⟨x9, ex9, e⟩ := nm_s e
    exact hk7 q8 x9 q F e
theorem fX6_works_b7 (h0 : Hp) : ∀ (n : Nat) (h : Hp) (v1 : Int32) (q : Hp), Fr (wX6_works) zX6_works h0 h → sX6_works_b7 n h v1 = some q → Fr (wX6_works) zX6_works h0 q
  | 0 => fun _ _ _ _ e => by cases e
  | n + 1 => fun h v1 q F e => fX6_works_c7 h0 (sX6_works_b7 n) (fX6_works_b7 h0 n) h v1 q F e
set_option maxRecDepth 10000 in
theorem fX6_works (h : Hp) (q : Hp) (e : sX6_works h = some q) : Fr (wX6_works) zX6_works h q := by
  unfold sX6_works at e
  have F : Fr (wX6_works) zX6_works h h := Fr.rf
  obtain ⟨h1, eh1, e⟩ := nm_s e
  have F := Fr.w1 F eh1 (Or.inr (by decide))
  exact fX6_works_b7 h FU h1 (0 : Int32) q F e

-- X6_heat
abbrev wX6_heat : List (Nat × Option Nat) := []
abbrev zX6_heat : List Nat := []
set_option maxRecDepth 10000 in
theorem fX6_heat_c33 (h0 : Hp) (h : Hp) (v2 : Int32) (t0 : Int32) (q : (Int32 × Hp)) (F : Fr (wX6_heat) zX6_heat h0 h) (e : sX6_heat_c33 h v2 t0 = some q) : Fr (wX6_heat) zX6_heat h0 q.2 := by
  unfold sX6_heat_c33 at e
  obtain ⟨c5, e⟩ := gd_s e
  exact Fr.e1 F e
set_option maxRecDepth 10000 in
theorem fX6_heat (h : Hp) (a1 : Int32) (a2 : Int32) (q : (Int32 × Hp)) (e : sX6_heat h a1 a2 = some q) : Fr (wX6_heat) zX6_heat h q.2 := by
  unfold sX6_heat at e
  have F : Fr (wX6_heat) zX6_heat h h := Fr.rf
  by_cases c : a1 = 0
  · rw [if_pos c] at e
    obtain ⟨q3, eq3, e⟩ := bd_s e
    have F := Fr.tr F (fX6_far h a1 a2 q3 eq3) (fun _ hh => absurd hh List.not_mem_nil) (by decide)
    obtain ⟨q4, eq4, e⟩ := bd_s e
    have F := Fr.tr F (fX6_near q3.2 a1 a2 q4 eq4) (fun _ hh => absurd hh List.not_mem_nil) (by decide)
    exact fX6_heat_c33 h q4.2 a2 (q3.1 - q4.1) q F e
  · rw [if_neg c] at e
    obtain ⟨q1, eq1, e⟩ := bd_s e
    have F := Fr.tr F (fX6_near h a1 a2 q1 eq1) (fun _ hh => absurd hh List.not_mem_nil) (by decide)
    obtain ⟨q2, eq2, e⟩ := bd_s e
    have F := Fr.tr F (fX6_far q1.2 a1 a2 q2 eq2) (fun _ hh => absurd hh List.not_mem_nil) (by decide)
    exact fX6_heat_c33 h q2.2 a2 (q1.1 - q2.1) q F e

-- X6_width
abbrev wX6_width : List (Nat × Option Nat) := []
abbrev zX6_width : List Nat := []
set_option maxRecDepth 10000 in
theorem fX6_width_c9 (h0 : Hp) (h : Hp) (v1 : Int32) (v2 : Int32) (v3 : Int32) (v4 : Int32) (v5 : Int32) (t0 : Int32) (q : (Int64 × Hp)) (F : Fr (wX6_width) zX6_width h0 h) (e : sX6_width_c9 h v1 v2 v3 v4 v5 t0 = some q) : Fr (wX6_width) zX6_width h0 q.2 := by
  unfold sX6_width_c9 at e
  obtain ⟨q1, eq1, e⟩ := bd_s e
  have F := Fr.tr F (fX6_near h v1 v2 q1 eq1) (fun _ hh => absurd hh List.not_mem_nil) (by decide)
  obtain ⟨c2, e⟩ := gd_s e
  obtain ⟨x3, ex3, e⟩ := nm_s e
  obtain ⟨q4, eq4, e⟩ := bd_s e
  have F := Fr.tr F (fX6_near q1.2 v1 v3 q4 eq4) (fun _ hh => absurd hh List.not_mem_nil) (by decide)
  obtain ⟨c5, e⟩ := gd_s e
  obtain ⟨x6, ex6, e⟩ := nm_s e
  obtain ⟨c7, e⟩ := gd_s e
  obtain ⟨c8, e⟩ := gd_s e
  exact Fr.e1 F e
set_option maxRecDepth 10000 in
theorem fX6_width (h : Hp) (a1 : Int32) (a2 : Int32) (a3 : Int32) (a4 : Int32) (a5 : Int32) (q : (Int64 × Hp)) (e : sX6_width h a1 a2 a3 a4 a5 = some q) : Fr (wX6_width) zX6_width h q.2 := by
  unfold sX6_width at e
  have F : Fr (wX6_width) zX6_width h h := Fr.rf
  by_cases c : a1 = 0
  · rw [if_pos c] at e
    exact fX6_width_c9 h h a1 a2 a3 a4 a5 (1 : Int32) q F e
  · rw [if_neg c] at e
    exact fX6_width_c9 h h a1 a2 a3 a4 a5 (-1 : Int32) q F e

-- X5_streams
abbrev wX5_streams : List (Nat × Option Nat) := [(11, some 4), (2, some 2), (2, some 4), (2, some 3), (12, none), (13, none), (14, none), (15, none), (2, some 1), (6, some 4), (7, none), (8, none), (9, none), (10, none), (16, some 4), (17, none), (16, some 5), (19, none), (20, none), (18, none), (26, some 1), (26, some 2), (26, some 14), (33, none), (27, none), (29, none), (30, none), (31, none), (32, none), (28, none), (40, some 1), (40, some 2), (40, some 14), (47, none), (41, none), (43, none), (44, none), (45, none), (46, none), (42, none)]
abbrev zX5_streams : List Nat := []
set_option maxRecDepth 10000 in
theorem fX5_streams (h : Hp) (q : (Int32 × Hp)) (e : sX5_streams h = some q) : Fr (wX5_streams) zX5_streams h q.2 := by
  unfold sX5_streams at e
  have F : Fr (wX5_streams) zX5_streams h h := Fr.rf
  obtain ⟨q1, eq1, e⟩ := bd_s e
  have F := Fr.tr F (fX3_readInto h 11 q1 eq1) (by decide) (by decide)
  obtain ⟨q2, eq2, e⟩ := bd_s e
  have F := Fr.tr F (fX3_cut q1.2 (0 : Int32) q2 eq2) (by decide) (by decide)
  by_cases c : q1.1 = (-1 : Int32)
  · rw [if_pos c] at e
    obtain ⟨q3, eq3, e⟩ := bd_s e
    have F := Fr.tr F (fX1_copy q2.2 6 11 q3 eq3) (by decide) (by decide)
    obtain ⟨q4, eq4, e⟩ := bd_s e
    have F := Fr.tr F (fX5_settle q3 q4 eq4) (by decide) (by decide)
    exact Fr.e1 F e
  · rw [if_neg c] at e
    exact Fr.e1 F e

-- X5_sets
abbrev wX5_sets : List (Nat × Option Nat) := [(9, none), (8, none), (10, none), (16, some 4), (17, none), (16, some 5), (19, none), (20, none), (18, none), (26, some 1), (26, some 2), (26, some 14), (33, none), (27, none), (29, none), (30, none), (31, none), (32, none), (28, none), (40, some 1), (40, some 2), (40, some 14), (47, none), (41, none), (43, none), (44, none), (45, none), (46, none), (42, none)]
abbrev zX5_sets : List Nat := []
set_option maxRecDepth 10000 in
theorem fX5_sets_c19 (h0 : Hp) (h : Hp) (q : (Int32 × Hp)) (F : Fr (wX5_sets) zX5_sets h0 h) (e : sX5_sets_c19 h = some q) : Fr (wX5_sets) zX5_sets h0 q.2 := by
  unfold sX5_sets_c19 at e
  exact Fr.e1 F e
set_option maxRecDepth 10000 in
theorem fX5_sets (h : Hp) (a1 : Int32) (a2 : Int32) (a3 : Int32) (q : (Int32 × Hp)) (e : sX5_sets h a1 a2 a3 = some q) : Fr (wX5_sets) zX5_sets h q.2 := by
  unfold sX5_sets at e
  have F : Fr (wX5_sets) zX5_sets h h := Fr.rf
  obtain ⟨q1, eq1, e⟩ := bd_s e
  have F := Fr.tr F (fX1_has h 6 a1 q1 eq1) (fun _ hh => absurd hh List.not_mem_nil) (by decide)
  by_cases c : q1.1 = 0
  · rw [if_pos c] at e
    exact fX5_sets_c19 h q1.2 q F e
  · rw [if_neg c] at e
    obtain ⟨q2, eq2, e⟩ := bd_s e
    have F := Fr.tr F (fX5_isValue q1.2 a2 a3 q2 eq2) (fun _ hh => absurd hh List.not_mem_nil) (by decide)
    by_cases c : q2.1 = 0
    · rw [if_pos c] at e
      exact fX5_sets_c19 h q2.2 q F e
    · rw [if_neg c] at e
      obtain ⟨q3, eq3, e⟩ := bd_s e
      have F := Fr.tr F (fX1_value q2.2 6 a1 a2 q3 eq3) (fun _ hh => absurd hh List.not_mem_nil) (by decide)
      by_cases c : q3.1 = a3
      · rw [if_pos c] at e
        exact Fr.e1 F e
      · rw [if_neg c] at e
        obtain ⟨q4, eq4, e⟩ := bd_s e
        have F := Fr.tr F (fX1_turns q3.2 6 a1 a2 a3 q4 eq4) (fun _ hh => absurd hh List.not_mem_nil) (by decide)
        by_cases c : q4.1 = 0
        · rw [if_pos c] at e
          obtain ⟨q5, eq5, e⟩ := bd_s e
          have F := Fr.tr F (fX1_put q4.2 6 a1 a2 a3 q5 eq5) (by decide) (by decide)
          obtain ⟨q6, eq6, e⟩ := bd_s e
          have F := Fr.tr F (fX5_settle q5 q6 eq6) (by decide) (by decide)
          exact Fr.e1 F e
        · rw [if_neg c] at e
          exact Fr.e1 F e

-- X5_gap
abbrev wX5_gap : List (Nat × Option Nat) := [(1, some 8), (16, some 4), (17, none), (16, some 5), (19, none), (20, none), (18, none), (26, some 1), (26, some 2), (26, some 14), (33, none), (27, none), (29, none), (30, none), (31, none), (32, none), (28, none), (40, some 1), (40, some 2), (40, some 14), (47, none), (41, none), (43, none), (44, none), (45, none), (46, none), (42, none)]
abbrev zX5_gap : List Nat := []
set_option maxRecDepth 10000 in
theorem fX5_gap (h : Hp) (a1 : Int32) (q : (Int32 × Hp)) (e : sX5_gap h a1 = some q) : Fr (wX5_gap) zX5_gap h q.2 := by
  unfold sX5_gap at e
  have F : Fr (wX5_gap) zX5_gap h h := Fr.rf
  obtain ⟨q1, eq1, e⟩ := bd_s e
  have F := Fr.tr F (fX5_isGap h a1 q1 eq1) (fun _ hh => absurd hh List.not_mem_nil) (by decide)
  by_cases c : q1.1 = 0
  · rw [if_pos c] at e
    exact Fr.e1 F e
  · rw [if_neg c] at e
    obtain ⟨x2, ex2, e⟩ := nm_s e
    by_cases c : x2 = a1
    · rw [if_pos c] at e
      exact Fr.e1 F e
    · rw [if_neg c] at e
      obtain ⟨h3, eh3, e⟩ := nm_s e
      have F := Fr.w1 F eh3 (Or.inr (by decide))
      obtain ⟨q4, eq4, e⟩ := bd_s e
      have F := Fr.tr F (fX5_settle h3 q4 eq4) (by decide) (by decide)
      exact Fr.e1 F e

-- X5_splits
abbrev wX5_splits : List (Nat × Option Nat) := [(9, none), (8, none), (10, none), (7, none), (6, some 4), (16, some 4), (17, none), (16, some 5), (19, none), (20, none), (18, none), (26, some 1), (26, some 2), (26, some 14), (33, none), (27, none), (29, none), (30, none), (31, none), (32, none), (28, none), (40, some 1), (40, some 2), (40, some 14), (47, none), (41, none), (43, none), (44, none), (45, none), (46, none), (42, none)]
abbrev zX5_splits : List Nat := []
set_option maxRecDepth 10000 in
theorem fX5_splits_c29 (h0 : Hp) (h : Hp) (q : (Int32 × Hp)) (F : Fr (wX5_splits) zX5_splits h0 h) (e : sX5_splits_c29 h = some q) : Fr (wX5_splits) zX5_splits h0 q.2 := by
  unfold sX5_splits_c29 at e
  exact Fr.e1 F e
set_option maxRecDepth 10000 in
theorem fX5_splits (h : Hp) (a1 : Int32) (a2 : Int32) (q : (Int32 × Hp)) (e : sX5_splits h a1 a2 = some q) : Fr (wX5_splits) zX5_splits h q.2 := by
  unfold sX5_splits at e
  have F : Fr (wX5_splits) zX5_splits h h := Fr.rf
  obtain ⟨q1, eq1, e⟩ := bd_s e
  have F := Fr.tr F (fX1_has h 6 a1 q1 eq1) (fun _ hh => absurd hh List.not_mem_nil) (by decide)
  by_cases c : q1.1 = 0
  · rw [if_pos c] at e
    exact fX5_splits_c29 h q1.2 q F e
  · rw [if_neg c] at e
    by_cases c : a2 < (1 : Int32)
    · rw [if_pos c] at e
      exact fX5_splits_c29 h q1.2 q F e
    · rw [if_neg c] at e
      obtain ⟨c2, e⟩ := gd_s e
      by_cases c : a2 < (q1.2.1 10 a1.toNatClampNeg)
      · rw [if_pos c] at e
        by_cases c : (q1.2.1 6 4) < (10 : Int32)
        · rw [if_pos c] at e
          obtain ⟨c3, e⟩ := gd_s e
          obtain ⟨q4, eq4, e⟩ := bd_s e
          have F := Fr.tr F (fX1_put q1.2 6 a1 (2 : Int32) ((q1.2.1 10 a1.toNatClampNeg) - a2) q4 eq4) (by decide) (by decide)
          obtain ⟨c5, e⟩ := gd_s e
          obtain ⟨c6, e⟩ := gd_s e
          obtain ⟨c7, e⟩ := gd_s e
          obtain ⟨q8, eq8, e⟩ := bd_s e
          have F := Fr.tr F (fX1_add q4 6 (q4.1 7 a1.toNatClampNeg) (q4.1 8 a1.toNatClampNeg) (q4.1 9 a1.toNatClampNeg) a2 q8 eq8) (by decide) (by decide)
          obtain ⟨q9, eq9, e⟩ := bd_s e
          have F := Fr.tr F (fX5_settle q8 q9 eq9) (by decide) (by decide)
          exact Fr.e1 F e
        · rw [if_neg c] at e
          exact Fr.e1 F e
      · rw [if_neg c] at e
        exact fX5_splits_c29 h q1.2 q F e

-- X5_drops
abbrev wX5_drops : List (Nat × Option Nat) := [(6, some 4), (7, none), (8, none), (9, none), (10, none), (16, some 4), (17, none), (16, some 5), (19, none), (20, none), (18, none), (26, some 1), (26, some 2), (26, some 14), (33, none), (27, none), (29, none), (30, none), (31, none), (32, none), (28, none), (40, some 1), (40, some 2), (40, some 14), (47, none), (41, none), (43, none), (44, none), (45, none), (46, none), (42, none)]
abbrev zX5_drops : List Nat := []
set_option maxRecDepth 10000 in
theorem fX5_drops (h : Hp) (a1 : Int32) (q : (Int32 × Hp)) (e : sX5_drops h a1 = some q) : Fr (wX5_drops) zX5_drops h q.2 := by
  unfold sX5_drops at e
  have F : Fr (wX5_drops) zX5_drops h h := Fr.rf
  obtain ⟨q1, eq1, e⟩ := bd_s e
  have F := Fr.tr F (fX1_has h 6 a1 q1 eq1) (fun _ hh => absurd hh List.not_mem_nil) (by decide)
  by_cases c : q1.1 = 0
  · rw [if_pos c] at e
    exact Fr.e1 F e
  · rw [if_neg c] at e
    obtain ⟨q2, eq2, e⟩ := bd_s e
    have F := Fr.tr F (fX1_remove q1.2 6 a1 q2 eq2) (by decide) (by decide)
    obtain ⟨q3, eq3, e⟩ := bd_s e
    have F := Fr.tr F (fX5_settle q2 q3 eq3) (by decide) (by decide)
    exact Fr.e1 F e

-- X5_were
abbrev wX5_were : List (Nat × Option Nat) := [(11, some 4), (12, none), (13, none), (14, none), (15, none), (21, some 4), (22, none), (21, some 5), (24, none), (25, none), (23, none), (4, some 1)]
abbrev zX5_were : List Nat := [5]
set_option maxRecDepth 10000 in
theorem fX5_were_c19 (h0 : Hp) (h : Hp) (q : (Int32 × Hp)) (F : Fr (wX5_were) zX5_were h0 h) (e : sX5_were_c19 h = some q) : Fr (wX5_were) zX5_were h0 q.2 := by
  unfold sX5_were_c19 at e
  exact Fr.e1 F e
set_option maxRecDepth 10000 in
theorem fX5_were (h : Hp) (a1 : Int32) (a2 : Int32) (a3 : Int32) (q : (Int32 × Hp)) (e : sX5_were h a1 a2 a3 = some q) : Fr (wX5_were) zX5_were h q.2 := by
  unfold sX5_were at e
  have F : Fr (wX5_were) zX5_were h h := Fr.rf
  obtain ⟨q1, eq1, e⟩ := bd_s e
  have F := Fr.tr F (fX1_has h 6 a1 q1 eq1) (fun _ hh => absurd hh List.not_mem_nil) (by decide)
  by_cases c : q1.1 = 0
  · rw [if_pos c] at e
    exact fX5_were_c19 h q1.2 q F e
  · rw [if_neg c] at e
    obtain ⟨q2, eq2, e⟩ := bd_s e
    have F := Fr.tr F (fX5_isValue q1.2 a2 a3 q2 eq2) (fun _ hh => absurd hh List.not_mem_nil) (by decide)
    by_cases c : q2.1 = 0
    · rw [if_pos c] at e
      exact fX5_were_c19 h q2.2 q F e
    · rw [if_neg c] at e
      obtain ⟨q3, eq3, e⟩ := bd_s e
      have F := Fr.tr F (fX1_turns q2.2 6 a1 a2 a3 q3 eq3) (fun _ hh => absurd hh List.not_mem_nil) (by decide)
      by_cases c : q3.1 = 0
      · rw [if_pos c] at e
        obtain ⟨q4, eq4, e⟩ := bd_s e
        have F := Fr.tr F (fX1_copy q3.2 11 6 q4 eq4) (by decide) (by decide)
        obtain ⟨q5, eq5, e⟩ := bd_s e
        have F := Fr.tr F (fX1_put q4 11 a1 a2 a3 q5 eq5) (by decide) (by decide)
        obtain ⟨q6, eq6, e⟩ := bd_s e
        have F := Fr.tr F (fX5_fuelOfOther q5 q6 eq6) (by decide) (by decide)
        exact Fr.e1 F e
      · rw [if_neg c] at e
        exact Fr.e1 F e

-- X5_without
abbrev wX5_without : List (Nat × Option Nat) := [(11, some 4), (12, none), (13, none), (14, none), (15, none), (21, some 4), (22, none), (21, some 5), (24, none), (25, none), (23, none), (4, some 1)]
abbrev zX5_without : List Nat := [5]
set_option maxRecDepth 10000 in
theorem fX5_without (h : Hp) (a1 : Int32) (q : (Int32 × Hp)) (e : sX5_without h a1 = some q) : Fr (wX5_without) zX5_without h q.2 := by
  unfold sX5_without at e
  have F : Fr (wX5_without) zX5_without h h := Fr.rf
  obtain ⟨q1, eq1, e⟩ := bd_s e
  have F := Fr.tr F (fX1_has h 6 a1 q1 eq1) (fun _ hh => absurd hh List.not_mem_nil) (by decide)
  by_cases c : q1.1 = 0
  · rw [if_pos c] at e
    exact Fr.e1 F e
  · rw [if_neg c] at e
    obtain ⟨q2, eq2, e⟩ := bd_s e
    have F := Fr.tr F (fX1_copy q1.2 11 6 q2 eq2) (by decide) (by decide)
    obtain ⟨q3, eq3, e⟩ := bd_s e
    have F := Fr.tr F (fX1_remove q2 11 a1 q3 eq3) (by decide) (by decide)
    obtain ⟨q4, eq4, e⟩ := bd_s e
    have F := Fr.tr F (fX5_fuelOfOther q3 q4 eq4) (by decide) (by decide)
    exact Fr.e1 F e

-- X5_range
abbrev wX5_range : List (Nat × Option Nat) := [(4, some 1)]
abbrev zX5_range : List Nat := [5]
set_option maxRecDepth 10000 in
theorem fX5_range_c18 (h0 : Hp) (h : Hp) (q : (Int32 × Hp)) (F : Fr (wX5_range) zX5_range h0 h) (e : sX5_range_c18 h = some q) : Fr (wX5_range) zX5_range h0 q.2 := by
  unfold sX5_range_c18 at e
  exact Fr.e1 F e
set_option maxRecDepth 10000 in
theorem fX5_range_c74 (h0 : Hp) (h : Hp) (t0 : Int32) (q : (Int32 × Hp)) (F : Fr (wX5_range) zX5_range h0 h) (e : sX5_range_c74 h t0 = some q) : Fr (wX5_range) zX5_range h0 q.2 := by
  unfold sX5_range_c74 at e
  exact Fr.e1 F e
set_option maxRecDepth 10000 in
theorem fX5_range (h : Hp) (a1 : Int32) (a2 : Int32) (q : (Int32 × Hp)) (e : sX5_range h a1 a2 = some q) : Fr (wX5_range) zX5_range h q.2 := by
  unfold sX5_range at e
  have F : Fr (wX5_range) zX5_range h h := Fr.rf
  obtain ⟨q1, eq1, e⟩ := bd_s e
  have F := Fr.tr F (fX5_isSide h a1 q1 eq1) (fun _ hh => absurd hh List.not_mem_nil) (by decide)
  by_cases c : q1.1 = 0
  · rw [if_pos c] at e
    exact fX5_range_c18 h q1.2 q F e
  · rw [if_neg c] at e
    obtain ⟨q2, eq2, e⟩ := bd_s e
    have F := Fr.tr F (fX1_has q1.2 6 a2 q2 eq2) (fun _ hh => absurd hh List.not_mem_nil) (by decide)
    by_cases c : q2.1 = 0
    · rw [if_pos c] at e
      exact fX5_range_c18 h q2.2 q F e
    · rw [if_neg c] at e
      obtain ⟨q3, eq3, e⟩ := bd_s e
      have F := Fr.tr F (fX5_sideOf q2.2 a1 q3 eq3) (fun _ hh => absurd hh List.not_mem_nil) (by decide)
      obtain ⟨c4, e⟩ := gd_s e
      obtain ⟨c5, e⟩ := gd_s e
      obtain ⟨c6, e⟩ := gd_s e
      obtain ⟨c7, e⟩ := gd_s e
      obtain ⟨q8, eq8, e⟩ := bd_s e
      have F := Fr.tr F (fX2_rest q3.2 q3.1 a2 q8 eq8) (fun _ hh => absurd hh List.not_mem_nil) (by decide)
      obtain ⟨q9, eq9, e⟩ := bd_s e
      have F := Fr.tr F (fX4_tell___ q8.2 ((q3.2.1 (q3.1 + 4) a2.toNatClampNeg).toInt64) ((q3.2.1 (q3.1 + 5) a2.toNatClampNeg).toInt64) ((q3.2.1 (q3.1 + 6) a2.toNatClampNeg).toInt64) q8.1.toInt64 q9 eq9) (by decide) (by decide)
      obtain ⟨c10, e⟩ := gd_s e
      by_cases c : (q9.1 (q3.1 + 6) a2.toNatClampNeg) ≤ 0
      · rw [if_pos c] at e
        exact fX5_range_c74 h q9 (0 : Int32) q F e
      · rw [if_neg c] at e
        exact fX5_range_c74 h q9 (1 : Int32) q F e

-- X5_ticks
abbrev wX5_ticks : List (Nat × Option Nat) := [(34, none), (48, none), (35, none), (49, none), (36, none), (50, none), (26, some 14), (40, some 14), (33, none), (47, none), (4, some 1)]
abbrev zX5_ticks : List Nat := [5]
set_option maxRecDepth 10000 in
theorem fX5_ticks_c46 (h0 : Hp) (h : Hp) (v2 : Nat) (v3 : Int32) (hv2 : ck v2 = 2) (q : (Int32 × Hp)) (F : Fr (wX5_ticks) zX5_ticks h0 h) (e : sX5_ticks_c46 h v2 v3 = some q) : Fr (wX5_ticks) zX5_ticks h0 q.2 := by
  unfold sX5_ticks_c46 at e
  obtain ⟨q7, eq7, e⟩ := bd_s e
  have F := Fr.tr F (fX2_restOfKind h v2 (1 : Int32) q7 eq7) (fun _ hh => absurd hh List.not_mem_nil) (by decide)
  obtain ⟨q8, eq8, e⟩ := bd_s e
  have F := Fr.tr F (fX2_restOfKind q7.2 v2 (0 : Int32) q8 eq8) (fun _ hh => absurd hh List.not_mem_nil) (by decide)
  obtain ⟨q9, eq9, e⟩ := bd_s e
  have F := Fr.tr F (fX4_tell_ q8.2 q7.1.toInt64 q8.1.toInt64 q9 eq9) (by decide) (by decide)
  exact Fr.e1 F e
set_option maxRecDepth 10000 in
theorem fX5_ticks_c23 (h0 : Hp) (k23 : Hp → Nat → Int32 → Int32 → Option (Int32 × Hp)) (hk23 : ∀ (h : Hp) (v2 : Nat) (v3 : Int32) (v4 : Int32) (hv2 : ck v2 = 2) (q : (Int32 × Hp)), Fr (wX5_ticks) zX5_ticks h0 h → k23 h v2 v3 v4 = some q → Fr (wX5_ticks) zX5_ticks h0 q.2) (h : Hp) (v2 : Nat) (v3 : Int32) (v4 : Int32) (hv2 : ck v2 = 2) (q : (Int32 × Hp)) (F : Fr (wX5_ticks) zX5_ticks h0 h) (e : sX5_ticks_c23 k23 h v2 v3 v4 = some q) : Fr (wX5_ticks) zX5_ticks h0 q.2 := by
  unfold sX5_ticks_c23 at e
  by_cases c : (24 : Int32) ≤ v4
  · rw [if_pos c] at e
    exact fX5_ticks_c46 h0 h v2 v3 hv2 q F e
  · rw [if_neg c] at e
    obtain ⟨q5, eq5, e⟩ := bd_s e
    have F := Fr.tr F (fX2_joinGreatest h v2 q5 eq5) (by rcases hsX2 hv2 with hh | hh <;> rw [hh] <;> decide) (by decide)
    by_cases c : q5.1 = 0
    · rw [if_pos c] at e
      exact fX5_ticks_c46 h0 q5.2 v2 v3 hv2 q F e
    · rw [if_neg c] at e
      obtain ⟨x6, ex6, e⟩ := nm_s e
      exact hk23 q5.2 v2 v3 x6 hv2 q F e
theorem fX5_ticks_b23 (h0 : Hp) : ∀ (n : Nat) (h : Hp) (v2 : Nat) (v3 : Int32) (v4 : Int32) (hv2 : ck v2 = 2) (q : (Int32 × Hp)), Fr (wX5_ticks) zX5_ticks h0 h → sX5_ticks_b23 n h v2 v3 v4 = some q → Fr (wX5_ticks) zX5_ticks h0 q.2
  | 0 => fun _ _ _ _ _ _ _ e => by cases e
  | n + 1 => fun h v2 v3 v4 hv2 q F e => fX5_ticks_c23 h0 (sX5_ticks_b23 n) (fX5_ticks_b23 h0 n) h v2 v3 v4 hv2 q F e
set_option maxRecDepth 10000 in
theorem fX5_ticks (h : Hp) (a1 : Int32) (q : (Int32 × Hp)) (e : sX5_ticks h a1 = some q) : Fr (wX5_ticks) zX5_ticks h q.2 := by
  unfold sX5_ticks at e
  have F : Fr (wX5_ticks) zX5_ticks h h := Fr.rf
  obtain ⟨q1, eq1, e⟩ := bd_s e
  have F := Fr.tr F (fX5_isSide h a1 q1 eq1) (fun _ hh => absurd hh List.not_mem_nil) (by decide)
  by_cases c : q1.1 = 0
  · rw [if_pos c] at e
    exact Fr.e1 F e
  · rw [if_neg c] at e
    obtain ⟨q2, eq2, e⟩ := bd_s e
    have F := Fr.tr F (fX5_sideOf q1.2 a1 q2 eq2) (fun _ hh => absurd hh List.not_mem_nil) (by decide)
    obtain ⟨c3, e⟩ := gd_s e
    obtain ⟨x4, ex4, e⟩ := nm_s e
    exact fX5_ticks_b23 h FU q2.2 q2.1 x4 x4 (isC_t c3) q F e

-- X5_takesWanted
abbrev wX5_takesWanted (a1 : Nat) : List (Nat × Option Nat) := [(a1, some 14), (a1 + 7, none), (a1 + 8, none), (a1 + 9, none), (a1 + 10, none), (4, some 1)]
abbrev zX5_takesWanted : List Nat := [5]
set_option maxRecDepth 10000 in
theorem fX5_takesWanted (h : Hp) (a1 : Nat) (q : (Int32 × Hp)) (e : sX5_takesWanted h a1 = some q) : Fr (wX5_takesWanted a1) zX5_takesWanted h q.2 := by
  unfold sX5_takesWanted at e
  obtain ⟨ha1, e⟩ := gd_s e
  have ha1 := isC_t ha1
  have F : Fr (wX5_takesWanted a1) zX5_takesWanted h h := Fr.rf
  obtain ⟨q1, eq1, e⟩ := bd_s e
  have F := Fr.tr F (fX2_firstTooNarrow h a1 q1 eq1) (fun _ hh => absurd hh List.not_mem_nil) (by decide)
  by_cases c : q1.1 = (-1 : Int32)
  · rw [if_pos c] at e
    obtain ⟨q2, eq2, e⟩ := bd_s e
    have F := Fr.tr F (fX2_takeWanted q1.2 a1 q2 eq2) (by simp) (by decide)
    exact Fr.e1 F e
  · rw [if_neg c] at e
    obtain ⟨q3, eq3, e⟩ := bd_s e
    have F := Fr.tr F (fX4_tell q1.2 q1.1.toInt64 q3 eq3) (by simp) (by decide)
    exact Fr.e1 F e

-- X6_border
abbrev wX6_border : List (Nat × Option Nat) := [(54, some 17), (54, some 18), (63, none), (64, none), (54, some 19), (54, some 0), (54, some 1)]
abbrev zX6_border : List Nat := [55]
set_option maxRecDepth 10000 in
theorem fX6_border_c145 (h0 : Hp) (h : Hp) (v1 : Int32) (t0 : Int64) (q : (Int32 × Hp)) (F : Fr (wX6_border) zX6_border h0 h) (e : sX6_border_c145 h v1 t0 = some q) : Fr (wX6_border) zX6_border h0 q.2 := by
  unfold sX6_border_c145 at e
  obtain ⟨q17, eq17, e⟩ := bd_s e
  have F := Fr.tr F (fX6_enters h t0 q17 eq17) (by decide) (by decide)
  obtain ⟨c18, e⟩ := gd_s e
  exact Fr.e1 F e
set_option maxRecDepth 10000 in
theorem fX6_border_c113 (h0 : Hp) (h : Hp) (v1 : Int32) (v2 : Int32) (t0 : Int64) (q : (Int32 × Hp)) (F : Fr (wX6_border) zX6_border h0 h) (e : sX6_border_c113 h v1 v2 t0 = some q) : Fr (wX6_border) zX6_border h0 q.2 := by
  unfold sX6_border_c113 at e
  obtain ⟨q13, eq13, e⟩ := bd_s e
  have F := Fr.tr F (fX6_enters h t0 q13 eq13) (by decide) (by decide)
  by_cases c : v2 = 0
  · rw [if_pos c] at e
    obtain ⟨c14, e⟩ := gd_s e
    obtain ⟨c15, e⟩ := gd_s e
    obtain ⟨q16, eq16, e⟩ := bd_s e
    have F := Fr.tr F (fX6_through q13 (0 : Int32) (q13.1 63 v1.toNatClampNeg) (q13.1 63 (v1 + (1 : Int32)).toNatClampNeg) q16 eq16) (fun _ hh => absurd hh List.not_mem_nil) (by decide)
    exact fX6_border_c145 h0 q16.2 v1 q16.1.toInt64 q F e
  · rw [if_neg c] at e
    exact fX6_border_c145 h0 q13 v1 (0 : Int64) q F e
set_option maxRecDepth 10000 in
theorem fX6_border_c57 (h0 : Hp) (h : Hp) (v1 : Int32) (t0 : Int32) (q : (Int32 × Hp)) (F : Fr (wX6_border) zX6_border h0 h) (e : sX6_border_c57 h v1 t0 = some q) : Fr (wX6_border) zX6_border h0 q.2 := by
  unfold sX6_border_c57 at e
  obtain ⟨h5, eh5, e⟩ := nm_s e
  have F := Fr.w1 F eh5 (Or.inr (by decide))
  obtain ⟨c6, e⟩ := gd_s e
  obtain ⟨q7, eq7, e⟩ := bd_s e
  have F := Fr.tr F (fX6_enters h5 ((h5.1 64 v1.toNatClampNeg).toInt64) q7 eq7) (by decide) (by decide)
  obtain ⟨q8, eq8, e⟩ := bd_s e
  have F := Fr.tr F (fX6_surplus q7 v1 q8 eq8) (fun _ hh => absurd hh List.not_mem_nil) (by decide)
  obtain ⟨q9, eq9, e⟩ := bd_s e
  have F := Fr.tr F (fX6_enters q8.2 q8.1.toInt64 q9 eq9) (by decide) (by decide)
  by_cases c : t0 = 0
  · rw [if_pos c] at e
    obtain ⟨c10, e⟩ := gd_s e
    obtain ⟨c11, e⟩ := gd_s e
    obtain ⟨q12, eq12, e⟩ := bd_s e
    have F := Fr.tr F (fX6_through q9 (1 : Int32) (q9.1 63 v1.toNatClampNeg) (q9.1 63 (v1 + (1 : Int32)).toNatClampNeg) q12 eq12) (fun _ hh => absurd hh List.not_mem_nil) (by decide)
    exact fX6_border_c113 h0 q12.2 v1 t0 q12.1.toInt64 q F e
  · rw [if_neg c] at e
    exact fX6_border_c113 h0 q9 v1 t0 (0 : Int64) q F e
set_option maxRecDepth 10000 in
theorem fX6_border_c26 (h0 : Hp) (h : Hp) (v1 : Int32) (t0 : Int32) (q : (Int32 × Hp)) (F : Fr (wX6_border) zX6_border h0 h) (e : sX6_border_c26 h v1 t0 = some q) : Fr (wX6_border) zX6_border h0 q.2 := by
  unfold sX6_border_c26 at e
  obtain ⟨q3, eq3, e⟩ := bd_s e
  have F := Fr.tr F (fX6_flag h t0 q3 eq3) (fun _ hh => absurd hh List.not_mem_nil) (by decide)
  obtain ⟨h4, eh4, e⟩ := nm_s e
  have F := Fr.w1 F eh4 (Or.inr (by decide))
  by_cases c : (h4.1 54 0) = (1 : Int32)
  · rw [if_pos c] at e
    exact Fr.e1 F e
  · rw [if_neg c] at e
    by_cases c : (v1 + (1 : Int32)) = (h4.1 54 17)
    · rw [if_pos c] at e
      exact fX6_border_c57 h0 h4 v1 (1 : Int32) q F e
    · rw [if_neg c] at e
      exact fX6_border_c57 h0 h4 v1 (0 : Int32) q F e
set_option maxRecDepth 10000 in
theorem fX6_border (h : Hp) (a1 : Int32) (q : (Int32 × Hp)) (e : sX6_border h a1 = some q) : Fr (wX6_border) zX6_border h q.2 := by
  unfold sX6_border at e
  have F : Fr (wX6_border) zX6_border h h := Fr.rf
  obtain ⟨q1, eq1, e⟩ := bd_s e
  have F := Fr.tr F (fX6_works h q1 eq1) (by decide) (by decide)
  obtain ⟨q2, eq2, e⟩ := bd_s e
  have F := Fr.tr F (fX6_in q1 a1.toInt64 (0 : Int64) (((q1.1 54 17) - (1 : Int32)).toInt64) q2 eq2) (fun _ hh => absurd hh List.not_mem_nil) (by decide)
  by_cases c : q2.1 = 0
  · rw [if_pos c] at e
    exact fX6_border_c26 h q2.2 a1 (1 : Int32) q F e
  · rw [if_neg c] at e
    exact fX6_border_c26 h q2.2 a1 (0 : Int32) q F e

-- X6_fuel
abbrev wX6_fuel : List (Nat × Option Nat) := [(54, some 0), (54, some 17), (54, some 18), (63, none), (64, none), (54, some 19), (54, some 1)]
abbrev zX6_fuel : List Nat := [55]
set_option maxRecDepth 10000 in
theorem fX6_fuel (h : Hp) (q : (Int32 × Hp)) (e : sX6_fuel h = some q) : Fr (wX6_fuel) zX6_fuel h q.2 := by
  unfold sX6_fuel at e
  have F : Fr (wX6_fuel) zX6_fuel h h := Fr.rf
  obtain ⟨h1, eh1, e⟩ := nm_s e
  have F := Fr.w1 F eh1 (Or.inr (by decide))
  obtain ⟨q2, eq2, e⟩ := bd_s e
  have F := Fr.tr F (fX6_works h1 q2 eq2) (by decide) (by decide)
  obtain ⟨h3, eh3, e⟩ := nm_s e
  have F := Fr.w1 F eh3 (Or.inr (by decide))
  obtain ⟨q4, eq4, e⟩ := bd_s e
  have F := Fr.tr F (fX6_enters h3 ((h3.1 54 19).toInt64) q4 eq4) (by decide) (by decide)
  obtain ⟨q5, eq5, e⟩ := bd_s e
  have F := Fr.tr F (fX6_enters q4 ((q4.1 54 17).toInt64) q5 eq5) (by decide) (by decide)
  exact Fr.e1 F e

-- X6_pinch
abbrev wX6_pinch : List (Nat × Option Nat) := [(54, some 0), (54, some 17), (54, some 18), (63, none), (64, none), (54, some 19), (54, some 1)]
abbrev zX6_pinch : List Nat := [55]
set_option maxRecDepth 10000 in
theorem fX6_pinch_c58 (h0 : Hp) (k26 : Hp → Int32 → Option (Int32 × Hp)) (hk26 : ∀ (h : Hp) (v1 : Int32) (q : (Int32 × Hp)), Fr (wX6_pinch) zX6_pinch h0 h → k26 h v1 = some q → Fr (wX6_pinch) zX6_pinch h0 q.2) (h : Hp) (v1 : Int32) (q : (Int32 × Hp)) (F : Fr (wX6_pinch) zX6_pinch h0 h) (e : sX6_pinch_c58 k26 h v1 = some q) : Fr (wX6_pinch) zX6_pinch h0 q.2 := by
  unfold sX6_pinch_c58 at e
  obtain ⟨x8, ex8, e⟩ := nm_s e
  exact hk26 h x8 q F e
set_option maxRecDepth 10000 in
theorem fX6_pinch_c26 (h0 : Hp) (k26 : Hp → Int32 → Option (Int32 × Hp)) (hk26 : ∀ (h : Hp) (v1 : Int32) (q : (Int32 × Hp)), Fr (wX6_pinch) zX6_pinch h0 h → k26 h v1 = some q → Fr (wX6_pinch) zX6_pinch h0 q.2) (h : Hp) (v1 : Int32) (q : (Int32 × Hp)) (F : Fr (wX6_pinch) zX6_pinch h0 h) (e : sX6_pinch_c26 k26 h v1 = some q) : Fr (wX6_pinch) zX6_pinch h0 q.2 := by
  unfold sX6_pinch_c26 at e
  by_cases c : (h.1 54 17) ≤ v1
  · rw [if_pos c] at e
    obtain ⟨q4, eq4, e⟩ := bd_s e
    have F := Fr.tr F (fX6_pinchNow h q4 eq4) (fun _ hh => absurd hh List.not_mem_nil) (by decide)
    exact Fr.e1 F e
  · rw [if_neg c] at e
    obtain ⟨c5, e⟩ := gd_s e
    by_cases c : (h.1 64 v1.toNatClampNeg) = 0
    · rw [if_pos c] at e
      obtain ⟨c6, e⟩ := gd_s e
      obtain ⟨q7, eq7, e⟩ := bd_s e
      have F := Fr.tr F (fX6_enters h (((1000 : Int32) + (h.1 63 v1.toNatClampNeg)).toInt64) q7 eq7) (by decide) (by decide)
      exact fX6_pinch_c58 h0 k26 hk26 q7 v1 q F e
    · rw [if_neg c] at e
      exact fX6_pinch_c58 h0 k26 hk26 h v1 q F e
theorem fX6_pinch_b26 (h0 : Hp) : ∀ (n : Nat) (h : Hp) (v1 : Int32) (q : (Int32 × Hp)), Fr (wX6_pinch) zX6_pinch h0 h → sX6_pinch_b26 n h v1 = some q → Fr (wX6_pinch) zX6_pinch h0 q.2
  | 0 => fun _ _ _ _ e => by cases e
  | n + 1 => fun h v1 q F e => fX6_pinch_c26 h0 (sX6_pinch_b26 n) (fX6_pinch_b26 h0 n) h v1 q F e
set_option maxRecDepth 10000 in
theorem fX6_pinch (h : Hp) (q : (Int32 × Hp)) (e : sX6_pinch h = some q) : Fr (wX6_pinch) zX6_pinch h q.2 := by
  unfold sX6_pinch at e
  have F : Fr (wX6_pinch) zX6_pinch h h := Fr.rf
  obtain ⟨h1, eh1, e⟩ := nm_s e
  have F := Fr.w1 F eh1 (Or.inr (by decide))
  obtain ⟨q2, eq2, e⟩ := bd_s e
  have F := Fr.tr F (fX6_works h1 q2 eq2) (by decide) (by decide)
  by_cases c : (q2.1 54 7) = 0
  · rw [if_pos c] at e
    exact Fr.e1 F e
  · rw [if_neg c] at e
    obtain ⟨h3, eh3, e⟩ := nm_s e
    have F := Fr.w1 F eh3 (Or.inr (by decide))
    exact fX6_pinch_b26 h FU h3 (0 : Int32) q F e

-- X6_carry
abbrev wX6_carry : List (Nat × Option Nat) := [(54, some 0), (54, some 17), (54, some 18), (63, none), (64, none), (54, some 19), (54, some 1)]
abbrev zX6_carry : List Nat := [55]
set_option maxRecDepth 10000 in
theorem fX6_carry_c57 (h0 : Hp) (h : Hp) (q : (Int32 × Hp)) (F : Fr (wX6_carry) zX6_carry h0 h) (e : sX6_carry_c57 h = some q) : Fr (wX6_carry) zX6_carry h0 q.2 := by
  unfold sX6_carry_c57 at e
  exact Fr.e1 F e
set_option maxRecDepth 10000 in
theorem fX6_carry_c152 (h0 : Hp) (h : Hp) (v2 : Int32) (t0 : Int32) (q : (Int32 × Hp)) (F : Fr (wX6_carry) zX6_carry h0 h) (e : sX6_carry_c152 h v2 t0 = some q) : Fr (wX6_carry) zX6_carry h0 q.2 := by
  unfold sX6_carry_c152 at e
  obtain ⟨h15, eh15, e⟩ := nm_s e
  have F := Fr.w1 F eh15 (Or.inr (by decide))
  obtain ⟨c16, e⟩ := gd_s e
  obtain ⟨q17, eq17, e⟩ := bd_s e
  have F := Fr.tr F (fX6_enters h15 (((h15.1 64 v2.toNatClampNeg) + t0).toInt64) q17 eq17) (by decide) (by decide)
  exact Fr.e1 F e
set_option maxRecDepth 10000 in
theorem fX6_carry_c90 (h0 : Hp) (h : Hp) (v1 : Int32) (v2 : Int32) (q : (Int32 × Hp)) (F : Fr (wX6_carry) zX6_carry h0 h) (e : sX6_carry_c90 h v1 v2 = some q) : Fr (wX6_carry) zX6_carry h0 q.2 := by
  unfold sX6_carry_c90 at e
  obtain ⟨c7, e⟩ := gd_s e
  by_cases c : (h.1 63 v2.toNatClampNeg) = v1
  · rw [if_pos c] at e
    exact fX6_carry_c152 h0 h v2 (0 : Int32) q F e
  · rw [if_neg c] at e
    obtain ⟨c8, e⟩ := gd_s e
    obtain ⟨c9, e⟩ := gd_s e
    obtain ⟨c10, e⟩ := gd_s e
    obtain ⟨q11, eq11, e⟩ := bd_s e
    have F := Fr.tr F (fX6_through h (1 : Int32) (h.1 63 v2.toNatClampNeg) (h.1 63 (v2 + (1 : Int32)).toNatClampNeg) q11 eq11) (fun _ hh => absurd hh List.not_mem_nil) (by decide)
    obtain ⟨c12, e⟩ := gd_s e
    obtain ⟨c13, e⟩ := gd_s e
    obtain ⟨q14, eq14, e⟩ := bd_s e
    have F := Fr.tr F (fX6_through q11.2 (0 : Int32) (q11.2.1 63 v2.toNatClampNeg) (q11.2.1 63 (v2 + (1 : Int32)).toNatClampNeg) q14 eq14) (fun _ hh => absurd hh List.not_mem_nil) (by decide)
    exact fX6_carry_c152 h0 q14.2 v2 (((h.1 63 v2.toNatClampNeg) - v1) * (q11.1 - q14.1)) q F e
set_option maxRecDepth 10000 in
theorem fX6_carry_c62 (h0 : Hp) (k62 : Hp → Int32 → Int32 → Option (Int32 × Hp)) (hk62 : ∀ (h : Hp) (v1 : Int32) (v2 : Int32) (q : (Int32 × Hp)), Fr (wX6_carry) zX6_carry h0 h → k62 h v1 v2 = some q → Fr (wX6_carry) zX6_carry h0 q.2) (h : Hp) (v1 : Int32) (v2 : Int32) (q : (Int32 × Hp)) (F : Fr (wX6_carry) zX6_carry h0 h) (e : sX6_carry_c62 k62 h v1 v2 = some q) : Fr (wX6_carry) zX6_carry h0 q.2 := by
  unfold sX6_carry_c62 at e
  by_cases c : (h.1 54 17) ≤ (v2 + (1 : Int32))
  · rw [if_pos c] at e
    exact fX6_carry_c90 h0 h v1 v2 q F e
  · rw [if_neg c] at e
    obtain ⟨c5, e⟩ := gd_s e
    by_cases c : (h.1 63 (v2 + (1 : Int32)).toNatClampNeg) < v1
    · rw [if_pos c] at e
      exact fX6_carry_c90 h0 h v1 v2 q F e
    · rw [if_neg c] at e
      obtain ⟨x6, ex6, e⟩ := nm_s e
      exact hk62 h v1 x6 q F e
theorem fX6_carry_b62 (h0 : Hp) : ∀ (n : Nat) (h : Hp) (v1 : Int32) (v2 : Int32) (q : (Int32 × Hp)), Fr (wX6_carry) zX6_carry h0 h → sX6_carry_b62 n h v1 v2 = some q → Fr (wX6_carry) zX6_carry h0 q.2
  | 0 => fun _ _ _ _ _ e => by cases e
  | n + 1 => fun h v1 v2 q F e => fX6_carry_c62 h0 (sX6_carry_b62 n) (fX6_carry_b62 h0 n) h v1 v2 q F e
set_option maxRecDepth 10000 in
theorem fX6_carry (h : Hp) (a1 : Int32) (q : (Int32 × Hp)) (e : sX6_carry h a1 = some q) : Fr (wX6_carry) zX6_carry h q.2 := by
  unfold sX6_carry at e
  have F : Fr (wX6_carry) zX6_carry h h := Fr.rf
  obtain ⟨h1, eh1, e⟩ := nm_s e
  have F := Fr.w1 F eh1 (Or.inr (by decide))
  obtain ⟨q2, eq2, e⟩ := bd_s e
  have F := Fr.tr F (fX6_in h1 a1.toInt64 (-60 : Int64) (500 : Int64) q2 eq2) (fun _ hh => absurd hh List.not_mem_nil) (by decide)
  by_cases c : q2.1 = 0
  · rw [if_pos c] at e
    exact Fr.e1 F e
  · rw [if_neg c] at e
    obtain ⟨q3, eq3, e⟩ := bd_s e
    have F := Fr.tr F (fX6_works q2.2 q3 eq3) (by decide) (by decide)
    by_cases c : (q3.1 54 7) = 0
    · rw [if_pos c] at e
      exact fX6_carry_c57 h q3 q F e
    · rw [if_neg c] at e
      by_cases c : (q3.1 63 (0 : Int32).toNatClampNeg) < a1
      · rw [if_pos c] at e
        exact fX6_carry_c57 h q3 q F e
      · rw [if_neg c] at e
        obtain ⟨c4, e⟩ := gd_s e
        by_cases c : (q3.1 63 ((q3.1 54 17) - (1 : Int32)).toNatClampNeg) ≤ a1
        · rw [if_pos c] at e
          exact fX6_carry_b62 h FU q3 a1 (0 : Int32) q F e
        · rw [if_neg c] at e
          exact fX6_carry_c57 h q3 q F e

-- X6_by
abbrev wX6_by : List (Nat × Option Nat) := [(54, some 0), (54, some 11), (54, some 17), (54, some 18), (63, none), (64, none), (54, some 19), (54, some 1)]
abbrev zX6_by : List Nat := [55]
set_option maxRecDepth 10000 in
theorem fX6_by (h : Hp) (a1 : Int32) (q : (Int32 × Hp)) (e : sX6_by h a1 = some q) : Fr (wX6_by) zX6_by h q.2 := by
  unfold sX6_by at e
  have F : Fr (wX6_by) zX6_by h h := Fr.rf
  obtain ⟨h1, eh1, e⟩ := nm_s e
  have F := Fr.w1 F eh1 (Or.inr (by decide))
  obtain ⟨q2, eq2, e⟩ := bd_s e
  have F := Fr.tr F (fX6_in h1 a1.toInt64 (0 : Int64) (60 : Int64) q2 eq2) (fun _ hh => absurd hh List.not_mem_nil) (by decide)
  by_cases c : q2.1 = 0
  · rw [if_pos c] at e
    exact Fr.e1 F e
  · rw [if_neg c] at e
    by_cases c : (q2.2.1 54 7) = 0
    · rw [if_pos c] at e
      exact Fr.e1 F e
    · rw [if_neg c] at e
      obtain ⟨x3, ex3, e⟩ := nm_s e
      obtain ⟨h4, eh4, e⟩ := nm_s e
      have F := Fr.w1 F eh4 (Or.inr (by decide))
      obtain ⟨q5, eq5, e⟩ := bd_s e
      have F := Fr.tr F (fX6_works h4 q5 eq5) (by decide) (by decide)
      obtain ⟨q6, eq6, e⟩ := bd_s e
      have F := Fr.tr F (fX6_pinchNow q5 q6 eq6) (fun _ hh => absurd hh List.not_mem_nil) (by decide)
      obtain ⟨h7, eh7, e⟩ := nm_s e
      have F := Fr.w1 F eh7 (Or.inr (by decide))
      obtain ⟨h8, eh8, e⟩ := nm_s e
      have F := Fr.w1 F eh8 (Or.inr (by decide))
      obtain ⟨q9, eq9, e⟩ := bd_s e
      have F := Fr.tr F (fX6_enters h8 ((h8.1 54 19).toInt64) q9 eq9) (by decide) (by decide)
      obtain ⟨q10, eq10, e⟩ := bd_s e
      have F := Fr.tr F (fX6_enters q9 (((1000 : Int32) + q6.1).toInt64) q10 eq10) (by decide) (by decide)
      exact Fr.e1 F e

-- X6_fuelBy
abbrev wX6_fuelBy : List (Nat × Option Nat) := [(54, some 11), (54, some 17), (54, some 18), (63, none), (64, none), (54, some 19)]
abbrev zX6_fuelBy : List Nat := []
set_option maxRecDepth 10000 in
theorem fX6_fuelBy (h : Hp) (a1 : Int32) (q : (Int32 × Hp)) (e : sX6_fuelBy h a1 = some q) : Fr (wX6_fuelBy) zX6_fuelBy h q.2 := by
  unfold sX6_fuelBy at e
  have F : Fr (wX6_fuelBy) zX6_fuelBy h h := Fr.rf
  obtain ⟨x1, ex1, e⟩ := nm_s e
  obtain ⟨h2, eh2, e⟩ := nm_s e
  have F := Fr.w1 F eh2 (Or.inr (by decide))
  obtain ⟨q3, eq3, e⟩ := bd_s e
  have F := Fr.tr F (fX6_works h2 q3 eq3) (by decide) (by decide)
  obtain ⟨h4, eh4, e⟩ := nm_s e
  have F := Fr.w1 F eh4 (Or.inr (by decide))
  exact Fr.e1 F e

-- X6_were
abbrev wX6_were : List (Nat × Option Nat) := [(54, some 0), (54, some 17), (54, some 18), (63, none), (64, none), (54, some 19), (57, none), (58, none), (59, none), (54, some 1)]
abbrev zX6_were : List Nat := [55]
set_option maxRecDepth 10000 in
theorem fX6_were (h : Hp) (a1 : Int32) (a2 : Int32) (a3 : Int32) (q : (Int32 × Hp)) (e : sX6_were h a1 a2 a3 = some q) : Fr (wX6_were) zX6_were h q.2 := by
  unfold sX6_were at e
  have F : Fr (wX6_were) zX6_were h h := Fr.rf
  obtain ⟨h1, eh1, e⟩ := nm_s e
  have F := Fr.w1 F eh1 (Or.inr (by decide))
  obtain ⟨q2, eq2, e⟩ := bd_s e
  have F := Fr.tr F (fX6_canSet h1 a1 a2 a3 q2 eq2) (fun _ hh => absurd hh List.not_mem_nil) (by decide)
  by_cases c : q2.1 = 0
  · rw [if_pos c] at e
    exact Fr.e1 F e
  · rw [if_neg c] at e
    obtain ⟨q3, eq3, e⟩ := bd_s e
    have F := Fr.tr F (fX6_wouldTurn q2.2 a1 a2 a3 q3 eq3) (fun _ hh => absurd hh List.not_mem_nil) (by decide)
    by_cases c : q3.1 = 0
    · rw [if_pos c] at e
      obtain ⟨q4, eq4, e⟩ := bd_s e
      have F := Fr.tr F (fX6_works q3.2 q4 eq4) (by decide) (by decide)
      obtain ⟨x5, ex5, e⟩ := nm_s e
      obtain ⟨q6, eq6, e⟩ := bd_s e
      have F := Fr.tr F (fX6_of q4 a1 a2 q6 eq6) (fun _ hh => absurd hh List.not_mem_nil) (by decide)
      obtain ⟨q7, eq7, e⟩ := bd_s e
      have F := Fr.tr F (fX6_becomes q6.2 a1 a2 a3 q7 eq7) (by decide) (by decide)
      obtain ⟨q8, eq8, e⟩ := bd_s e
      have F := Fr.tr F (fX6_works q7 q8 eq8) (by decide) (by decide)
      obtain ⟨q9, eq9, e⟩ := bd_s e
      have F := Fr.tr F (fX6_becomes q8 a1 a2 q6.1 q9 eq9) (by decide) (by decide)
      obtain ⟨h10, eh10, e⟩ := nm_s e
      have F := Fr.w1 F eh10 (Or.inr (by decide))
      obtain ⟨q11, eq11, e⟩ := bd_s e
      have F := Fr.tr F (fX6_enters h10 ((h10.1 54 19).toInt64) q11 eq11) (by decide) (by decide)
      obtain ⟨q12, eq12, e⟩ := bd_s e
      have F := Fr.tr F (fX6_enters q11 (((q11.1 54 18) - x5).toInt64) q12 eq12) (by decide) (by decide)
      exact Fr.e1 F e
    · rw [if_neg c] at e
      exact Fr.e1 F e

-- X6_fuelWithout
abbrev wX6_fuelWithout : List (Nat × Option Nat) := [(54, some 7), (57, none), (58, none), (59, none), (54, some 17), (54, some 18), (63, none), (64, none), (54, some 19), (54, some 20)]
abbrev zX6_fuelWithout : List Nat := []
set_option maxRecDepth 10000 in
theorem fX6_fuelWithout_c37 (h0 : Hp) (k37 : Hp → Int32 → Int32 → Int32 → Int32 → Int32 → Option (Int32 × Hp)) (hk37 : ∀ (h : Hp) (v1 : Int32) (v2 : Int32) (v3 : Int32) (v4 : Int32) (v5 : Int32) (q : (Int32 × Hp)), Fr (wX6_fuelWithout) zX6_fuelWithout h0 h → k37 h v1 v2 v3 v4 v5 = some q → Fr (wX6_fuelWithout) zX6_fuelWithout h0 q.2) (h : Hp) (v1 : Int32) (v2 : Int32) (v3 : Int32) (v4 : Int32) (v5 : Int32) (q : (Int32 × Hp)) (F : Fr (wX6_fuelWithout) zX6_fuelWithout h0 h) (e : sX6_fuelWithout_c37 k37 h v1 v2 v3 v4 v5 = some q) : Fr (wX6_fuelWithout) zX6_fuelWithout h0 q.2 := by
  unfold sX6_fuelWithout_c37 at e
  by_cases c : v5 ≤ v1
  · rw [if_pos c] at e
    obtain ⟨c10, e⟩ := gd_s e
    obtain ⟨h11, eh11, e⟩ := nm_s e
    have F := Fr.w1 F eh11 (Or.inl (by decide))
    obtain ⟨c12, e⟩ := gd_s e
    obtain ⟨h13, eh13, e⟩ := nm_s e
    have F := Fr.w1 F eh13 (Or.inl (by decide))
    obtain ⟨c14, e⟩ := gd_s e
    obtain ⟨h15, eh15, e⟩ := nm_s e
    have F := Fr.w1 F eh15 (Or.inl (by decide))
    obtain ⟨h16, eh16, e⟩ := nm_s e
    have F := Fr.w1 F eh16 (Or.inr (by decide))
    obtain ⟨h17, eh17, e⟩ := nm_s e
    have F := Fr.w1 F eh17 (Or.inr (by decide))
    exact Fr.e1 F e
  · rw [if_neg c] at e
    obtain ⟨c18, e⟩ := gd_s e
    obtain ⟨c19, e⟩ := gd_s e
    obtain ⟨h20, eh20, e⟩ := nm_s e
    have F := Fr.w1 F eh20 (Or.inl (by decide))
    obtain ⟨c21, e⟩ := gd_s e
    obtain ⟨c22, e⟩ := gd_s e
    obtain ⟨h23, eh23, e⟩ := nm_s e
    have F := Fr.w1 F eh23 (Or.inl (by decide))
    obtain ⟨c24, e⟩ := gd_s e
    obtain ⟨c25, e⟩ := gd_s e
    obtain ⟨h26, eh26, e⟩ := nm_s e
    have F := Fr.w1 F eh26 (Or.inl (by decide))
    obtain ⟨x27, ex27, e⟩ := nm_s e
    exact hk37 h26 v1 v2 v3 v4 x27 q F e
theorem fX6_fuelWithout_b37 (h0 : Hp) : ∀ (n : Nat) (h : Hp) (v1 : Int32) (v2 : Int32) (v3 : Int32) (v4 : Int32) (v5 : Int32) (q : (Int32 × Hp)), Fr (wX6_fuelWithout) zX6_fuelWithout h0 h → sX6_fuelWithout_b37 n h v1 v2 v3 v4 v5 = some q → Fr (wX6_fuelWithout) zX6_fuelWithout h0 q.2
  | 0 => fun _ _ _ _ _ _ _ _ e => by cases e
  | n + 1 => fun h v1 v2 v3 v4 v5 q F e => fX6_fuelWithout_c37 h0 (sX6_fuelWithout_b37 n) (fX6_fuelWithout_b37 h0 n) h v1 v2 v3 v4 v5 q F e
set_option maxRecDepth 10000 in
theorem fX6_fuelWithout (h : Hp) (a1 : Int32) (q : (Int32 × Hp)) (e : sX6_fuelWithout h a1 = some q) : Fr (wX6_fuelWithout) zX6_fuelWithout h q.2 := by
  unfold sX6_fuelWithout at e
  have F : Fr (wX6_fuelWithout) zX6_fuelWithout h h := Fr.rf
  obtain ⟨c1, e⟩ := gd_s e
  obtain ⟨x2, ex2, e⟩ := nm_s e
  obtain ⟨c3, e⟩ := gd_s e
  obtain ⟨x4, ex4, e⟩ := nm_s e
  obtain ⟨c5, e⟩ := gd_s e
  obtain ⟨x6, ex6, e⟩ := nm_s e
  obtain ⟨q7, eq7, e⟩ := bd_s e
  have F := Fr.tr F (fX6_takesOut h a1 q7 eq7) (by decide) (by decide)
  obtain ⟨q8, eq8, e⟩ := bd_s e
  have F := Fr.tr F (fX6_works q7 q8 eq8) (by decide) (by decide)
  obtain ⟨x9, ex9, e⟩ := nm_s e
  exact fX6_fuelWithout_b37 h FU q8 a1 x2 x4 x6 x9 q F e

-- X6_finds
abbrev wX6_finds : List (Nat × Option Nat) := [(54, some 17), (54, some 18), (63, none), (64, none), (54, some 19), (54, some 21)]
abbrev zX6_finds : List Nat := []
set_option maxRecDepth 10000 in
theorem fX6_finds_c20 (h0 : Hp) (h : Hp) (t0 : Int32) (q : Hp) (F : Fr (wX6_finds) zX6_finds h0 h) (e : sX6_finds_c20 h t0 = some q) : Fr (wX6_finds) zX6_finds h0 q := by
  unfold sX6_finds_c20 at e
  obtain ⟨h3, eh3, e⟩ := nm_s e
  have F := Fr.w1 F eh3 (Or.inr (by decide))
  exact Fr.e0 F e
set_option maxRecDepth 10000 in
theorem fX6_finds (h : Hp) (q : Hp) (e : sX6_finds h = some q) : Fr (wX6_finds) zX6_finds h q := by
  unfold sX6_finds at e
  have F : Fr (wX6_finds) zX6_finds h h := Fr.rf
  obtain ⟨q1, eq1, e⟩ := bd_s e
  have F := Fr.tr F (fX6_works h q1 eq1) (by decide) (by decide)
  by_cases c : (q1.1 54 7) = 0
  · rw [if_pos c] at e
    exact fX6_finds_c20 h q1 (0 : Int32) q F e
  · rw [if_neg c] at e
    obtain ⟨q2, eq2, e⟩ := bd_s e
    have F := Fr.tr F (fX6_pinchNow q1 q2 eq2) (fun _ hh => absurd hh List.not_mem_nil) (by decide)
    exact fX6_finds_c20 h q2.2 q2.1 q F e

-- X6_laysArriving
abbrev wX6_laysArriving (a3 : Nat) : List (Nat × Option Nat) := [(a3, none)]
abbrev zX6_laysArriving : List Nat := []
set_option maxRecDepth 10000 in
theorem fX6_laysArriving_c109 (h0 : Hp) (a3 : Nat) (k6 : Hp → Int32 → Int32 → Nat → Int32 → Int32 → Option (Int32 × Hp)) (hk6 : ∀ (h : Hp) (v1 : Int32) (v2 : Int32) (v4 : Int32) (v5 : Int32) (ha3 : ck a3 = 10 ∧ an a3 = 10) (q : (Int32 × Hp)), Fr (wX6_laysArriving a3) zX6_laysArriving h0 h → k6 h v1 v2 a3 v4 v5 = some q → Fr (wX6_laysArriving a3) zX6_laysArriving h0 q.2) (h : Hp) (v1 : Int32) (v2 : Int32) (v4 : Int32) (v5 : Int32) (ha3 : ck a3 = 10 ∧ an a3 = 10) (q : (Int32 × Hp)) (F : Fr (wX6_laysArriving a3) zX6_laysArriving h0 h) (e : sX6_laysArriving_c109 k6 h v1 v2 a3 v4 v5 = some q) : Fr (wX6_laysArriving a3) zX6_laysArriving h0 q.2 := by
  unfold sX6_laysArriving_c109 at e
  obtain ⟨x15, ex15, e⟩ := nm_s e
  exact hk6 h v1 v2 v4 x15 ⟨ha3.1, ha3.2⟩ q F e
set_option maxRecDepth 10000 in
theorem fX6_laysArriving_c95 (h0 : Hp) (a3 : Nat) (k6 : Hp → Int32 → Int32 → Nat → Int32 → Int32 → Option (Int32 × Hp)) (hk6 : ∀ (h : Hp) (v1 : Int32) (v2 : Int32) (v4 : Int32) (v5 : Int32) (ha3 : ck a3 = 10 ∧ an a3 = 10) (q : (Int32 × Hp)), Fr (wX6_laysArriving a3) zX6_laysArriving h0 h → k6 h v1 v2 a3 v4 v5 = some q → Fr (wX6_laysArriving a3) zX6_laysArriving h0 q.2) (h : Hp) (v1 : Int32) (v2 : Int32) (v4 : Int32) (v5 : Int32) (v6 : Int32) (ha3 : ck a3 = 10 ∧ an a3 = 10) (q : (Int32 × Hp)) (F : Fr (wX6_laysArriving a3) zX6_laysArriving h0 h) (e : sX6_laysArriving_c95 k6 h v1 v2 a3 v4 v5 v6 = some q) : Fr (wX6_laysArriving a3) zX6_laysArriving h0 q.2 := by
  unfold sX6_laysArriving_c95 at e
  obtain ⟨c11, e⟩ := gd_s e
  obtain ⟨c12, e⟩ := gd_s e
  obtain ⟨h13, eh13, e⟩ := nm_s e
  have F := Fr.w1 F eh13 (Or.inl (by simp))
  obtain ⟨x14, ex14, e⟩ := nm_s e
  exact fX6_laysArriving_c109 h0 a3 k6 hk6 h13 v1 v2 x14 v5 ⟨ha3.1, ha3.2⟩ q F e
set_option maxRecDepth 10000 in
theorem fX6_laysArriving_c58 (h0 : Hp) (a3 : Nat) (k6 : Hp → Int32 → Int32 → Nat → Int32 → Int32 → Option (Int32 × Hp)) (hk6 : ∀ (h : Hp) (v1 : Int32) (v2 : Int32) (v4 : Int32) (v5 : Int32) (ha3 : ck a3 = 10 ∧ an a3 = 10) (q : (Int32 × Hp)), Fr (wX6_laysArriving a3) zX6_laysArriving h0 h → k6 h v1 v2 a3 v4 v5 = some q → Fr (wX6_laysArriving a3) zX6_laysArriving h0 q.2) (k58 : Hp → Int32 → Int32 → Nat → Int32 → Int32 → Int32 → Option (Int32 × Hp)) (hk58 : ∀ (h : Hp) (v1 : Int32) (v2 : Int32) (v4 : Int32) (v5 : Int32) (v6 : Int32) (ha3 : ck a3 = 10 ∧ an a3 = 10) (q : (Int32 × Hp)), Fr (wX6_laysArriving a3) zX6_laysArriving h0 h → k58 h v1 v2 a3 v4 v5 v6 = some q → Fr (wX6_laysArriving a3) zX6_laysArriving h0 q.2) (h : Hp) (v1 : Int32) (v2 : Int32) (v4 : Int32) (v5 : Int32) (v6 : Int32) (ha3 : ck a3 = 10 ∧ an a3 = 10) (q : (Int32 × Hp)) (F : Fr (wX6_laysArriving a3) zX6_laysArriving h0 h) (e : sX6_laysArriving_c58 k6 k58 h v1 v2 a3 v4 v5 v6 = some q) : Fr (wX6_laysArriving a3) zX6_laysArriving h0 q.2 := by
  unfold sX6_laysArriving_c58 at e
  by_cases c : v6 ≤ 0
  · rw [if_pos c] at e
    exact fX6_laysArriving_c95 h0 a3 k6 hk6 h v1 v2 v4 v5 v6 ⟨ha3.1, ha3.2⟩ q F e
  · rw [if_neg c] at e
    obtain ⟨c5, e⟩ := gd_s e
    obtain ⟨c6, e⟩ := gd_s e
    by_cases c : (h.1 59 v5.toNatClampNeg) ≤ (h.1 a3 (v6 - (1 : Int32)).toNatClampNeg)
    · rw [if_pos c] at e
      exact fX6_laysArriving_c95 h0 a3 k6 hk6 h v1 v2 v4 v5 v6 ⟨ha3.1, ha3.2⟩ q F e
    · rw [if_neg c] at e
      obtain ⟨c7, e⟩ := gd_s e
      obtain ⟨c8, e⟩ := gd_s e
      obtain ⟨h9, eh9, e⟩ := nm_s e
      have F := Fr.w1 F eh9 (Or.inl (by simp))
      obtain ⟨x10, ex10, e⟩ := nm_s e
      exact hk58 h9 v1 v2 v4 v5 x10 ⟨ha3.1, ha3.2⟩ q F e
theorem fX6_laysArriving_b58 (h0 : Hp) (a3 : Nat) (k6 : Hp → Int32 → Int32 → Nat → Int32 → Int32 → Option (Int32 × Hp)) (hk6 : ∀ (h : Hp) (v1 : Int32) (v2 : Int32) (v4 : Int32) (v5 : Int32) (ha3 : ck a3 = 10 ∧ an a3 = 10) (q : (Int32 × Hp)), Fr (wX6_laysArriving a3) zX6_laysArriving h0 h → k6 h v1 v2 a3 v4 v5 = some q → Fr (wX6_laysArriving a3) zX6_laysArriving h0 q.2) : ∀ (n : Nat) (h : Hp) (v1 : Int32) (v2 : Int32) (v4 : Int32) (v5 : Int32) (v6 : Int32) (ha3 : ck a3 = 10 ∧ an a3 = 10) (q : (Int32 × Hp)), Fr (wX6_laysArriving a3) zX6_laysArriving h0 h → sX6_laysArriving_b58 k6 n h v1 v2 a3 v4 v5 v6 = some q → Fr (wX6_laysArriving a3) zX6_laysArriving h0 q.2
  | 0 => fun _ _ _ _ _ _ _ _ _ e => by cases e
  | n + 1 => fun h v1 v2 v4 v5 v6 ha3 q F e => fX6_laysArriving_c58 h0 a3 k6 hk6 (sX6_laysArriving_b58 k6 n) (fX6_laysArriving_b58 h0 a3 k6 hk6 n) h v1 v2 v4 v5 v6 ha3 q F e
set_option maxRecDepth 10000 in
theorem fX6_laysArriving_c6 (h0 : Hp) (a3 : Nat) (k6 : Hp → Int32 → Int32 → Nat → Int32 → Int32 → Option (Int32 × Hp)) (hk6 : ∀ (h : Hp) (v1 : Int32) (v2 : Int32) (v4 : Int32) (v5 : Int32) (ha3 : ck a3 = 10 ∧ an a3 = 10) (q : (Int32 × Hp)), Fr (wX6_laysArriving a3) zX6_laysArriving h0 h → k6 h v1 v2 a3 v4 v5 = some q → Fr (wX6_laysArriving a3) zX6_laysArriving h0 q.2) (h : Hp) (v1 : Int32) (v2 : Int32) (v4 : Int32) (v5 : Int32) (ha3 : ck a3 = 10 ∧ an a3 = 10) (q : (Int32 × Hp)) (F : Fr (wX6_laysArriving a3) zX6_laysArriving h0 h) (e : sX6_laysArriving_c6 k6 h v1 v2 a3 v4 v5 = some q) : Fr (wX6_laysArriving a3) zX6_laysArriving h0 q.2 := by
  unfold sX6_laysArriving_c6 at e
  by_cases c : (h.1 54 7) ≤ v5
  · rw [if_pos c] at e
    exact Fr.e1 F e
  · rw [if_neg c] at e
    obtain ⟨q1, eq1, e⟩ := bd_s e
    have F := Fr.tr F (fX6_isHot h v5 q1 eq1) (fun _ hh => absurd hh List.not_mem_nil) (by decide)
    by_cases c : q1.1 = v2
    · rw [if_pos c] at e
      obtain ⟨q2, eq2, e⟩ := bd_s e
      have F := Fr.tr F (fX6_heat q1.2 v1 v5 q2 eq2) (fun _ hh => absurd hh List.not_mem_nil) (by decide)
      by_cases c : q2.1 = 0
      · rw [if_pos c] at e
        exact fX6_laysArriving_c109 h0 a3 k6 hk6 q2.2 v1 v2 v4 v5 ⟨ha3.1, ha3.2⟩ q F e
      · rw [if_neg c] at e
        obtain ⟨q3, eq3, e⟩ := bd_s e
        have F := Fr.tr F (fX6_near q2.2 v1 v5 q3 eq3) (fun _ hh => absurd hh List.not_mem_nil) (by decide)
        obtain ⟨q4, eq4, e⟩ := bd_s e
        have F := Fr.tr F (fX6_pinchOf q3.2 v5 q4 eq4) (fun _ hh => absurd hh List.not_mem_nil) (by decide)
        by_cases c : q3.1 = q4.1
        · rw [if_pos c] at e
          exact fX6_laysArriving_b58 h0 a3 k6 hk6 FU q4.2 v1 v2 v4 v5 v4 ⟨ha3.1, ha3.2⟩ q F e
        · rw [if_neg c] at e
          exact fX6_laysArriving_c109 h0 a3 k6 hk6 q4.2 v1 v2 v4 v5 ⟨ha3.1, ha3.2⟩ q F e
    · rw [if_neg c] at e
      exact fX6_laysArriving_c109 h0 a3 k6 hk6 q1.2 v1 v2 v4 v5 ⟨ha3.1, ha3.2⟩ q F e
theorem fX6_laysArriving_b6 (h0 : Hp) (a3 : Nat) : ∀ (n : Nat) (h : Hp) (v1 : Int32) (v2 : Int32) (v4 : Int32) (v5 : Int32) (ha3 : ck a3 = 10 ∧ an a3 = 10) (q : (Int32 × Hp)), Fr (wX6_laysArriving a3) zX6_laysArriving h0 h → sX6_laysArriving_b6 n h v1 v2 a3 v4 v5 = some q → Fr (wX6_laysArriving a3) zX6_laysArriving h0 q.2
  | 0 => fun _ _ _ _ _ _ _ _ e => by cases e
  | n + 1 => fun h v1 v2 v4 v5 ha3 q F e => fX6_laysArriving_c6 h0 a3 (sX6_laysArriving_b6 n) (fX6_laysArriving_b6 h0 a3 n) h v1 v2 v4 v5 ha3 q F e
set_option maxRecDepth 10000 in
theorem fX6_laysArriving (h : Hp) (a1 : Int32) (a2 : Int32) (a3 : Nat) (q : (Int32 × Hp)) (e : sX6_laysArriving h a1 a2 a3 = some q) : Fr (wX6_laysArriving a3) zX6_laysArriving h q.2 := by
  unfold sX6_laysArriving at e
  obtain ⟨ha3, e⟩ := gd_s e
  have ha3 := isA_t ha3
  have F : Fr (wX6_laysArriving a3) zX6_laysArriving h h := Fr.rf
  exact fX6_laysArriving_b6 h a3 FU h a1 a2 (0 : Int32) (0 : Int32) ⟨ha3.1, ha3.2⟩ q F e

-- X6_rest
abbrev wX6_rest : List (Nat × Option Nat) := []
abbrev zX6_rest : List Nat := []
set_option maxRecDepth 10000 in
theorem fX6_rest (h : Hp) (a1 : Int32) (a2 : Int32) (q : (Int32 × Hp)) (e : sX6_rest h a1 a2 = some q) : Fr (wX6_rest) zX6_rest h q.2 := by
  unfold sX6_rest at e
  have F : Fr (wX6_rest) zX6_rest h h := Fr.rf
  obtain ⟨q1, eq1, e⟩ := bd_s e
  have F := Fr.tr F (fX6_heat h a1 a2 q1 eq1) (fun _ hh => absurd hh List.not_mem_nil) (by decide)
  obtain ⟨c2, e⟩ := gd_s e
  obtain ⟨q3, eq3, e⟩ := bd_s e
  have F := Fr.tr F (fX6_used q1.2 a1 a2 (q1.2.1 67 a1.toNatClampNeg) q3 eq3) (fun _ hh => absurd hh List.not_mem_nil) (by decide)
  exact Fr.e1 F e

-- X6_widthAt
abbrev wX6_widthAt : List (Nat × Option Nat) := []
abbrev zX6_widthAt : List Nat := []
set_option maxRecDepth 10000 in
theorem fX6_widthAt_c22 (h0 : Hp) (h : Hp) (v1 : Int32) (v2 : Int32) (v4 : Int32) (t0 : Int32) (q : (Int64 × Hp)) (F : Fr (wX6_widthAt) zX6_widthAt h0 h) (e : sX6_widthAt_c22 h v1 v2 v4 t0 = some q) : Fr (wX6_widthAt) zX6_widthAt h0 q.2 := by
  unfold sX6_widthAt_c22 at e
  obtain ⟨c3, e⟩ := gd_s e
  obtain ⟨c4, e⟩ := gd_s e
  obtain ⟨c5, e⟩ := gd_s e
  obtain ⟨q6, eq6, e⟩ := bd_s e
  have F := Fr.tr F (fX6_used h v1 (h.1 68 v4.toNatClampNeg) v2 q6 eq6) (fun _ hh => absurd hh List.not_mem_nil) (by decide)
  obtain ⟨c7, e⟩ := gd_s e
  obtain ⟨q8, eq8, e⟩ := bd_s e
  have F := Fr.tr F (fX6_used q6.2 v1 (q6.2.1 69 v4.toNatClampNeg) v2 q8 eq8) (fun _ hh => absurd hh List.not_mem_nil) (by decide)
  obtain ⟨q9, eq9, e⟩ := bd_s e
  have F := Fr.tr F (fX6_width q8.2 v1 (h.1 68 v4.toNatClampNeg) (h.1 69 v4.toNatClampNeg) (q6.1 + t0) (q8.1 + t0) q9 eq9) (fun _ hh => absurd hh List.not_mem_nil) (by decide)
  exact Fr.e1 F e
set_option maxRecDepth 10000 in
theorem fX6_widthAt (h : Hp) (a1 : Int32) (a2 : Int32) (a3 : Int32) (q : (Int64 × Hp)) (e : sX6_widthAt h a1 a2 a3 = some q) : Fr (wX6_widthAt) zX6_widthAt h q.2 := by
  unfold sX6_widthAt at e
  have F : Fr (wX6_widthAt) zX6_widthAt h h := Fr.rf
  obtain ⟨q1, eq1, e⟩ := bd_s e
  have F := Fr.tr F (fX6_place h a1 a2 q1 eq1) (fun _ hh => absurd hh List.not_mem_nil) (by decide)
  by_cases c : a3 = 0
  · rw [if_pos c] at e
    exact fX6_widthAt_c22 h q1.2 a1 a2 q1.1 (0 : Int32) q F e
  · rw [if_neg c] at e
    obtain ⟨c2, e⟩ := gd_s e
    exact fX6_widthAt_c22 h q1.2 a1 a2 q1.1 (q1.2.1 70 q1.1.toNatClampNeg) q F e

-- X6_areThere
abbrev wX6_areThere : List (Nat × Option Nat) := []
abbrev zX6_areThere : List Nat := []
set_option maxRecDepth 10000 in
theorem fX6_areThere_c62 (h0 : Hp) (h : Hp) (t0 : Int32) (q : (Int32 × Hp)) (F : Fr (wX6_areThere) zX6_areThere h0 h) (e : sX6_areThere_c62 h t0 = some q) : Fr (wX6_areThere) zX6_areThere h0 q.2 := by
  unfold sX6_areThere_c62 at e
  obtain ⟨c8, e⟩ := gd_s e
  exact Fr.e1 F e
set_option maxRecDepth 10000 in
theorem fX6_areThere_c61 (h0 : Hp) (h : Hp) (q : (Int32 × Hp)) (F : Fr (wX6_areThere) zX6_areThere h0 h) (e : sX6_areThere_c61 h = some q) : Fr (wX6_areThere) zX6_areThere h0 q.2 := by
  unfold sX6_areThere_c61 at e
  exact fX6_areThere_c62 h0 h (0 : Int32) q F e
set_option maxRecDepth 10000 in
theorem fX6_areThere (h : Hp) (a1 : Int32) (a2 : Int32) (a3 : Int32) (q : (Int32 × Hp)) (e : sX6_areThere h a1 a2 a3 = some q) : Fr (wX6_areThere) zX6_areThere h q.2 := by
  unfold sX6_areThere at e
  have F : Fr (wX6_areThere) zX6_areThere h h := Fr.rf
  obtain ⟨q1, eq1, e⟩ := bd_s e
  have F := Fr.tr F (fX6_isSide h a1 q1 eq1) (fun _ hh => absurd hh List.not_mem_nil) (by decide)
  by_cases c : q1.1 = 0
  · rw [if_pos c] at e
    exact fX6_areThere_c61 h q1.2 q F e
  · rw [if_neg c] at e
    obtain ⟨q2, eq2, e⟩ := bd_s e
    have F := Fr.tr F (fX6_isStream q1.2 a2 q2 eq2) (fun _ hh => absurd hh List.not_mem_nil) (by decide)
    by_cases c : q2.1 = 0
    · rw [if_pos c] at e
      exact fX6_areThere_c61 h q2.2 q F e
    · rw [if_neg c] at e
      obtain ⟨q3, eq3, e⟩ := bd_s e
      have F := Fr.tr F (fX6_isStream q2.2 a3 q3 eq3) (fun _ hh => absurd hh List.not_mem_nil) (by decide)
      by_cases c : q3.1 = 0
      · rw [if_pos c] at e
        exact fX6_areThere_c61 h q3.2 q F e
      · rw [if_neg c] at e
        obtain ⟨q4, eq4, e⟩ := bd_s e
        have F := Fr.tr F (fX6_isHot q3.2 a2 q4 eq4) (fun _ hh => absurd hh List.not_mem_nil) (by decide)
        by_cases c : q4.1 = 0
        · rw [if_pos c] at e
          exact fX6_areThere_c61 h q4.2 q F e
        · rw [if_neg c] at e
          obtain ⟨q5, eq5, e⟩ := bd_s e
          have F := Fr.tr F (fX6_isHot q4.2 a3 q5 eq5) (fun _ hh => absurd hh List.not_mem_nil) (by decide)
          by_cases c : q5.1 = 0
          · rw [if_pos c] at e
            obtain ⟨q6, eq6, e⟩ := bd_s e
            have F := Fr.tr F (fX6_heat q5.2 a1 a2 q6 eq6) (fun _ hh => absurd hh List.not_mem_nil) (by decide)
            by_cases c : q6.1 ≤ 0
            · rw [if_pos c] at e
              exact fX6_areThere_c61 h q6.2 q F e
            · rw [if_neg c] at e
              obtain ⟨q7, eq7, e⟩ := bd_s e
              have F := Fr.tr F (fX6_heat q6.2 a1 a3 q7 eq7) (fun _ hh => absurd hh List.not_mem_nil) (by decide)
              by_cases c : q7.1 ≤ 0
              · rw [if_pos c] at e
                exact fX6_areThere_c61 h q7.2 q F e
              · rw [if_neg c] at e
                exact fX6_areThere_c62 h q7.2 (1 : Int32) q F e
          · rw [if_neg c] at e
            exact fX6_areThere_c61 h q5.2 q F e

-- X5_leaves
abbrev wX5_leaves : List (Nat × Option Nat) := [(37, none), (51, none), (26, some 14), (40, some 14), (33, none), (47, none), (34, none), (48, none), (35, none), (49, none), (36, none), (50, none), (4, some 1)]
abbrev zX5_leaves : List Nat := [5]
set_option maxRecDepth 10000 in
theorem fX5_leaves_c45 (h0 : Hp) (h : Hp) (t0 : Int32) (q : (Int32 × Hp)) (F : Fr (wX5_leaves) zX5_leaves h0 h) (e : sX5_leaves_c45 h t0 = some q) : Fr (wX5_leaves) zX5_leaves h0 q.2 := by
  unfold sX5_leaves_c45 at e
  exact Fr.e1 F e
set_option maxRecDepth 10000 in
theorem fX5_leaves (h : Hp) (a1 : Int32) (a2 : Int32) (q : (Int32 × Hp)) (e : sX5_leaves h a1 a2 = some q) : Fr (wX5_leaves) zX5_leaves h q.2 := by
  unfold sX5_leaves at e
  have F : Fr (wX5_leaves) zX5_leaves h h := Fr.rf
  obtain ⟨q1, eq1, e⟩ := bd_s e
  have F := Fr.tr F (fX5_hasMatch h a1 a2 q1 eq1) (fun _ hh => absurd hh List.not_mem_nil) (by decide)
  by_cases c : q1.1 = 0
  · rw [if_pos c] at e
    exact Fr.e1 F e
  · rw [if_neg c] at e
    obtain ⟨q2, eq2, e⟩ := bd_s e
    have F := Fr.tr F (fX5_sideOf q1.2 a1 q2 eq2) (fun _ hh => absurd hh List.not_mem_nil) (by decide)
    obtain ⟨c3, e⟩ := gd_s e
    obtain ⟨q4, eq4, e⟩ := bd_s e
    have F := Fr.tr F (fX2_wantAsIs q2.2 q2.1 q4 eq4) (by rcases hsX2 (isC_t c3) with hh | hh <;> rw [hh] <;> decide) (by decide)
    obtain ⟨c5, e⟩ := gd_s e
    obtain ⟨h6, eh6, e⟩ := nm_s e
    have F := Fr.w1 F eh6 (Or.inl (by rcases hsX2 (isC_t c3) with hh | hh <;> rw [hh] <;> decide))
    obtain ⟨q7, eq7, e⟩ := bd_s e
    have F := Fr.tr F (fX5_takesWanted h6 q2.1 q7 eq7) (by rcases hsX2 (isC_t c3) with hh | hh <;> rw [hh] <;> decide) (by decide)
    by_cases c : q7.1 = 0
    · rw [if_pos c] at e
      exact fX5_leaves_c45 h q7.2 (-4 : Int32) q F e
    · rw [if_neg c] at e
      exact fX5_leaves_c45 h q7.2 (q7.2.1 q2.1 14) q F e

-- X5_loads
abbrev wX5_loads : List (Nat × Option Nat) := [(37, none), (51, none), (26, some 14), (40, some 14), (33, none), (47, none), (34, none), (48, none), (35, none), (49, none), (36, none), (50, none), (4, some 1)]
abbrev zX5_loads : List Nat := [5]
set_option maxRecDepth 10000 in
theorem fX5_loads_c14 (h0 : Hp) (h : Hp) (q : (Int32 × Hp)) (F : Fr (wX5_loads) zX5_loads h0 h) (e : sX5_loads_c14 h = some q) : Fr (wX5_loads) zX5_loads h0 q.2 := by
  unfold sX5_loads_c14 at e
  exact Fr.e1 F e
set_option maxRecDepth 10000 in
theorem fX5_loads_c79 (h0 : Hp) (h : Hp) (q : (Int32 × Hp)) (F : Fr (wX5_loads) zX5_loads h0 h) (e : sX5_loads_c79 h = some q) : Fr (wX5_loads) zX5_loads h0 q.2 := by
  unfold sX5_loads_c79 at e
  exact Fr.e1 F e
set_option maxRecDepth 10000 in
theorem fX5_loads_c111 (h0 : Hp) (h : Hp) (t0 : Int32) (q : (Int32 × Hp)) (F : Fr (wX5_loads) zX5_loads h0 h) (e : sX5_loads_c111 h t0 = some q) : Fr (wX5_loads) zX5_loads h0 q.2 := by
  unfold sX5_loads_c111 at e
  exact Fr.e1 F e
set_option maxRecDepth 10000 in
theorem fX5_loads (h : Hp) (a1 : Int32) (a2 : Int32) (a3 : Int32) (q : (Int32 × Hp)) (e : sX5_loads h a1 a2 a3 = some q) : Fr (wX5_loads) zX5_loads h q.2 := by
  unfold sX5_loads at e
  have F : Fr (wX5_loads) zX5_loads h h := Fr.rf
  obtain ⟨q1, eq1, e⟩ := bd_s e
  have F := Fr.tr F (fX5_hasMatch h a1 a2 q1 eq1) (fun _ hh => absurd hh List.not_mem_nil) (by decide)
  by_cases c : q1.1 = 0
  · rw [if_pos c] at e
    exact fX5_loads_c14 h q1.2 q F e
  · rw [if_neg c] at e
    by_cases c : (1 : Int32) ≤ a3
    · rw [if_pos c] at e
      obtain ⟨q2, eq2, e⟩ := bd_s e
      have F := Fr.tr F (fX5_sideOf q1.2 a1 q2 eq2) (fun _ hh => absurd hh List.not_mem_nil) (by decide)
      obtain ⟨c3, e⟩ := gd_s e
      obtain ⟨c4, e⟩ := gd_s e
      obtain ⟨x5, ex5, e⟩ := nm_s e
      by_cases c : x5 = a3
      · rw [if_pos c] at e
        exact Fr.e1 F e
      · rw [if_neg c] at e
        obtain ⟨c6, e⟩ := gd_s e
        obtain ⟨q7, eq7, e⟩ := bd_s e
        have F := Fr.tr F (fX2_rest q2.2 q2.1 (q2.2.1 (q2.1 + 8) a2.toNatClampNeg) q7 eq7) (fun _ hh => absurd hh List.not_mem_nil) (by decide)
        by_cases c : (q7.1 + x5) < a3
        · rw [if_pos c] at e
          exact fX5_loads_c79 h q7.2 q F e
        · rw [if_neg c] at e
          obtain ⟨c8, e⟩ := gd_s e
          obtain ⟨q9, eq9, e⟩ := bd_s e
          have F := Fr.tr F (fX2_rest q7.2 q2.1 (q7.2.1 (q2.1 + 9) a2.toNatClampNeg) q9 eq9) (fun _ hh => absurd hh List.not_mem_nil) (by decide)
          by_cases c : a3 ≤ (q9.1 + x5)
          · rw [if_pos c] at e
            obtain ⟨q10, eq10, e⟩ := bd_s e
            have F := Fr.tr F (fX2_wantAsIs q9.2 q2.1 q10 eq10) (by rcases hsX2 (isC_t c3) with hh | hh <;> rw [hh] <;> decide) (by decide)
            obtain ⟨c11, e⟩ := gd_s e
            obtain ⟨h12, eh12, e⟩ := nm_s e
            have F := Fr.w1 F eh12 (Or.inl (by rcases hsX2 (isC_t c3) with hh | hh <;> rw [hh] <;> decide))
            obtain ⟨q13, eq13, e⟩ := bd_s e
            have F := Fr.tr F (fX5_takesWanted h12 q2.1 q13 eq13) (by rcases hsX2 (isC_t c3) with hh | hh <;> rw [hh] <;> decide) (by decide)
            by_cases c : q13.1 = 0
            · rw [if_pos c] at e
              exact fX5_loads_c111 h q13.2 (-4 : Int32) q F e
            · rw [if_neg c] at e
              exact fX5_loads_c111 h q13.2 x5 q F e
          · rw [if_neg c] at e
            exact fX5_loads_c79 h q9.2 q F e
    · rw [if_neg c] at e
      exact fX5_loads_c14 h q1.2 q F e

-- X5_breaks
abbrev wX5_breaks : List (Nat × Option Nat) := [(39, none), (53, none), (38, none), (52, none), (26, some 16), (40, some 16), (37, none), (51, none), (26, some 14), (40, some 14), (33, none), (47, none), (34, none), (48, none), (35, none), (49, none), (36, none), (50, none), (4, some 1)]
abbrev zX5_breaks : List Nat := [5]
set_option maxRecDepth 10000 in
theorem fX5_breaks_c70 (h0 : Hp) (h : Hp) (t0 : Int32) (q : (Int32 × Hp)) (F : Fr (wX5_breaks) zX5_breaks h0 h) (e : sX5_breaks_c70 h t0 = some q) : Fr (wX5_breaks) zX5_breaks h0 q.2 := by
  unfold sX5_breaks_c70 at e
  exact Fr.e1 F e
set_option maxRecDepth 10000 in
theorem fX5_breaks (h : Hp) (a1 : Int32) (a2 : Int32) (q : (Int32 × Hp)) (e : sX5_breaks h a1 a2 = some q) : Fr (wX5_breaks) zX5_breaks h q.2 := by
  unfold sX5_breaks at e
  have F : Fr (wX5_breaks) zX5_breaks h h := Fr.rf
  obtain ⟨q1, eq1, e⟩ := bd_s e
  have F := Fr.tr F (fX5_hasMatch h a1 a2 q1 eq1) (fun _ hh => absurd hh List.not_mem_nil) (by decide)
  by_cases c : q1.1 = 0
  · rw [if_pos c] at e
    exact Fr.e1 F e
  · rw [if_neg c] at e
    obtain ⟨q2, eq2, e⟩ := bd_s e
    have F := Fr.tr F (fX5_sideOf q1.2 a1 q2 eq2) (fun _ hh => absurd hh List.not_mem_nil) (by decide)
    obtain ⟨c3, e⟩ := gd_s e
    obtain ⟨q4, eq4, e⟩ := bd_s e
    have F := Fr.tr F (fX2_findRing q2.2 q2.1 a2 q4 eq4) (by rcases hsX2 (isC_t c3) with hh | hh <;> rw [hh] <;> decide) (by decide)
    by_cases c : q4.1 = 0
    · rw [if_pos c] at e
      exact Fr.e1 F e
    · rw [if_neg c] at e
      obtain ⟨q5, eq5, e⟩ := bd_s e
      have F := Fr.tr F (fX2_wantRoundRing q4.2 q2.1 q5 eq5) (by rcases hsX2 (isC_t c3) with hh | hh <;> rw [hh] <;> decide) (by decide)
      by_cases c : q5.1 = (-1 : Int32)
      · rw [if_pos c] at e
        obtain ⟨q6, eq6, e⟩ := bd_s e
        have F := Fr.tr F (fX5_takesWanted q5.2 q2.1 q6 eq6) (by rcases hsX2 (isC_t c3) with hh | hh <;> rw [hh] <;> decide) (by decide)
        by_cases c : q6.1 = 0
        · rw [if_pos c] at e
          exact fX5_breaks_c70 h q6.2 (-4 : Int32) q F e
        · rw [if_neg c] at e
          exact fX5_breaks_c70 h q6.2 (q6.2.1 q2.1 14) q F e
      · rw [if_neg c] at e
        obtain ⟨q7, eq7, e⟩ := bd_s e
        have F := Fr.tr F (fX4_tell q5.2 q5.1.toInt64 q7 eq7) (by decide) (by decide)
        exact Fr.e1 F e

-- X6_widest
abbrev wX6_widest : List (Nat × Option Nat) := [(54, some 0), (54, some 11), (54, some 17), (54, some 18), (63, none), (64, none), (54, some 19), (54, some 1)]
abbrev zX6_widest : List Nat := [55]
set_option maxRecDepth 10000 in
theorem fX6_widest_c33 (h0 : Hp) (h : Hp) (v2 : Int32) (q : (Int32 × Hp)) (F : Fr (wX6_widest) zX6_widest h0 h) (e : sX6_widest_c33 h v2 = some q) : Fr (wX6_widest) zX6_widest h0 q.2 := by
  unfold sX6_widest_c33 at e
  by_cases c : 0 ≤ v2
  · rw [if_pos c] at e
    obtain ⟨h4, eh4, e⟩ := nm_s e
    have F := Fr.w1 F eh4 (Or.inr (by decide))
    obtain ⟨q5, eq5, e⟩ := bd_s e
    have F := Fr.tr F (fX6_fuelBy h4 v2 q5 eq5) (by decide) (by decide)
    obtain ⟨q6, eq6, e⟩ := bd_s e
    have F := Fr.tr F (fX6_enters q5.2 q5.1.toInt64 q6 eq6) (by decide) (by decide)
    exact Fr.e1 F e
  · rw [if_neg c] at e
    exact Fr.e1 F e
set_option maxRecDepth 10000 in
theorem fX6_widest_c14 (h0 : Hp) (k14 : Hp → Int32 → Int32 → Option (Int32 × Hp)) (hk14 : ∀ (h : Hp) (v1 : Int32) (v2 : Int32) (q : (Int32 × Hp)), Fr (wX6_widest) zX6_widest h0 h → k14 h v1 v2 = some q → Fr (wX6_widest) zX6_widest h0 q.2) (h : Hp) (v1 : Int32) (v2 : Int32) (q : (Int32 × Hp)) (F : Fr (wX6_widest) zX6_widest h0 h) (e : sX6_widest_c14 k14 h v1 v2 = some q) : Fr (wX6_widest) zX6_widest h0 q.2 := by
  unfold sX6_widest_c14 at e
  by_cases c : v2 < 0
  · rw [if_pos c] at e
    exact fX6_widest_c33 h0 h v2 q F e
  · rw [if_neg c] at e
    obtain ⟨q2, eq2, e⟩ := bd_s e
    have F := Fr.tr F (fX6_fuelBy h v2 q2 eq2) (by decide) (by decide)
    by_cases c : q2.1 ≤ v1
    · rw [if_pos c] at e
      exact fX6_widest_c33 h0 q2.2 v2 q F e
    · rw [if_neg c] at e
      obtain ⟨x3, ex3, e⟩ := nm_s e
      exact hk14 q2.2 v1 x3 q F e
theorem fX6_widest_b14 (h0 : Hp) : ∀ (n : Nat) (h : Hp) (v1 : Int32) (v2 : Int32) (q : (Int32 × Hp)), Fr (wX6_widest) zX6_widest h0 h → sX6_widest_b14 n h v1 v2 = some q → Fr (wX6_widest) zX6_widest h0 q.2
  | 0 => fun _ _ _ _ _ e => by cases e
  | n + 1 => fun h v1 v2 q F e => fX6_widest_c14 h0 (sX6_widest_b14 n) (fX6_widest_b14 h0 n) h v1 v2 q F e
set_option maxRecDepth 10000 in
theorem fX6_widest (h : Hp) (a1 : Int32) (q : (Int32 × Hp)) (e : sX6_widest h a1 = some q) : Fr (wX6_widest) zX6_widest h q.2 := by
  unfold sX6_widest at e
  have F : Fr (wX6_widest) zX6_widest h h := Fr.rf
  obtain ⟨h1, eh1, e⟩ := nm_s e
  have F := Fr.w1 F eh1 (Or.inr (by decide))
  by_cases c : 0 ≤ a1
  · rw [if_pos c] at e
    exact fX6_widest_b14 h FU h1 a1 (60 : Int32) q F e
  · rw [if_neg c] at e
    exact Fr.e1 F e

-- X6_without
abbrev wX6_without : List (Nat × Option Nat) := [(54, some 0), (54, some 17), (54, some 18), (63, none), (64, none), (54, some 19), (54, some 7), (57, none), (58, none), (59, none), (54, some 20), (54, some 1)]
abbrev zX6_without : List Nat := [55]
set_option maxRecDepth 10000 in
theorem fX6_without (h : Hp) (a1 : Int32) (q : (Int32 × Hp)) (e : sX6_without h a1 = some q) : Fr (wX6_without) zX6_without h q.2 := by
  unfold sX6_without at e
  have F : Fr (wX6_without) zX6_without h h := Fr.rf
  obtain ⟨h1, eh1, e⟩ := nm_s e
  have F := Fr.w1 F eh1 (Or.inr (by decide))
  obtain ⟨q2, eq2, e⟩ := bd_s e
  have F := Fr.tr F (fX6_isStream h1 a1 q2 eq2) (fun _ hh => absurd hh List.not_mem_nil) (by decide)
  by_cases c : q2.1 = 0
  · rw [if_pos c] at e
    exact Fr.e1 F e
  · rw [if_neg c] at e
    obtain ⟨q3, eq3, e⟩ := bd_s e
    have F := Fr.tr F (fX6_works q2.2 q3 eq3) (by decide) (by decide)
    obtain ⟨x4, ex4, e⟩ := nm_s e
    obtain ⟨q5, eq5, e⟩ := bd_s e
    have F := Fr.tr F (fX6_fuelWithout q3 a1 q5 eq5) (by decide) (by decide)
    obtain ⟨h6, eh6, e⟩ := nm_s e
    have F := Fr.w1 F eh6 (Or.inr (by decide))
    obtain ⟨q7, eq7, e⟩ := bd_s e
    have F := Fr.tr F (fX6_enters h6 ((h6.1 54 20).toInt64) q7 eq7) (by decide) (by decide)
    obtain ⟨q8, eq8, e⟩ := bd_s e
    have F := Fr.tr F (fX6_enters q7 ((q5.1 - x4).toInt64) q8 eq8) (by decide) (by decide)
    exact Fr.e1 F e

-- X6_dearest
abbrev wX6_dearest : List (Nat × Option Nat) := [(54, some 0), (54, some 1), (54, some 7), (57, none), (58, none), (59, none), (54, some 17), (54, some 18), (63, none), (64, none), (54, some 19), (54, some 20)]
abbrev zX6_dearest : List Nat := [55]
set_option maxRecDepth 10000 in
theorem fX6_dearest_c45 (h0 : Hp) (k19 : Hp → Int32 → Int32 → Option (Int32 × Hp)) (hk19 : ∀ (h : Hp) (v1 : Int32) (v2 : Int32) (q : (Int32 × Hp)), Fr (wX6_dearest) zX6_dearest h0 h → k19 h v1 v2 = some q → Fr (wX6_dearest) zX6_dearest h0 q.2) (h : Hp) (v2 : Int32) (t0 : Int32) (q : (Int32 × Hp)) (F : Fr (wX6_dearest) zX6_dearest h0 h) (e : sX6_dearest_c45 k19 h v2 t0 = some q) : Fr (wX6_dearest) zX6_dearest h0 q.2 := by
  unfold sX6_dearest_c45 at e
  obtain ⟨x7, ex7, e⟩ := nm_s e
  exact hk19 h t0 x7 q F e
set_option maxRecDepth 10000 in
theorem fX6_dearest_c19 (h0 : Hp) (k19 : Hp → Int32 → Int32 → Option (Int32 × Hp)) (hk19 : ∀ (h : Hp) (v1 : Int32) (v2 : Int32) (q : (Int32 × Hp)), Fr (wX6_dearest) zX6_dearest h0 h → k19 h v1 v2 = some q → Fr (wX6_dearest) zX6_dearest h0 q.2) (h : Hp) (v1 : Int32) (v2 : Int32) (q : (Int32 × Hp)) (F : Fr (wX6_dearest) zX6_dearest h0 h) (e : sX6_dearest_c19 k19 h v1 v2 = some q) : Fr (wX6_dearest) zX6_dearest h0 q.2 := by
  unfold sX6_dearest_c19 at e
  by_cases c : (h.1 54 7) ≤ v2
  · rw [if_pos c] at e
    obtain ⟨h2, eh2, e⟩ := nm_s e
    have F := Fr.w1 F eh2 (Or.inr (by decide))
    obtain ⟨q3, eq3, e⟩ := bd_s e
    have F := Fr.tr F (fX6_fuelWithout h2 v1 q3 eq3) (by decide) (by decide)
    obtain ⟨q4, eq4, e⟩ := bd_s e
    have F := Fr.tr F (fX6_enters q3.2 q3.1.toInt64 q4 eq4) (by decide) (by decide)
    exact Fr.e1 F e
  · rw [if_neg c] at e
    obtain ⟨q5, eq5, e⟩ := bd_s e
    have F := Fr.tr F (fX6_fuelWithout h v2 q5 eq5) (by decide) (by decide)
    obtain ⟨q6, eq6, e⟩ := bd_s e
    have F := Fr.tr F (fX6_fuelWithout q5.2 v1 q6 eq6) (by decide) (by decide)
    by_cases c : q6.1 ≤ q5.1
    · rw [if_pos c] at e
      exact fX6_dearest_c45 h0 k19 hk19 q6.2 v2 v1 q F e
    · rw [if_neg c] at e
      exact fX6_dearest_c45 h0 k19 hk19 q6.2 v2 v2 q F e
theorem fX6_dearest_b19 (h0 : Hp) : ∀ (n : Nat) (h : Hp) (v1 : Int32) (v2 : Int32) (q : (Int32 × Hp)), Fr (wX6_dearest) zX6_dearest h0 h → sX6_dearest_b19 n h v1 v2 = some q → Fr (wX6_dearest) zX6_dearest h0 q.2
  | 0 => fun _ _ _ _ _ e => by cases e
  | n + 1 => fun h v1 v2 q F e => fX6_dearest_c19 h0 (sX6_dearest_b19 n) (fX6_dearest_b19 h0 n) h v1 v2 q F e
set_option maxRecDepth 10000 in
theorem fX6_dearest (h : Hp) (q : (Int32 × Hp)) (e : sX6_dearest h = some q) : Fr (wX6_dearest) zX6_dearest h q.2 := by
  unfold sX6_dearest at e
  have F : Fr (wX6_dearest) zX6_dearest h h := Fr.rf
  obtain ⟨h1, eh1, e⟩ := nm_s e
  have F := Fr.w1 F eh1 (Or.inr (by decide))
  by_cases c : (h1.1 54 7) = 0
  · rw [if_pos c] at e
    exact Fr.e1 F e
  · rw [if_neg c] at e
    exact fX6_dearest_b19 h FU h1 (0 : Int32) (1 : Int32) q F e

-- X6_arrive
abbrev wX6_arrive : List (Nat × Option Nat) := [(54, some 0), (54, some 17), (54, some 18), (63, none), (64, none), (54, some 19), (54, some 21), (65, none), (66, none), (54, some 1)]
abbrev zX6_arrive : List Nat := [55]
set_option maxRecDepth 10000 in
theorem fX6_arrive_c109 (h0 : Hp) (k76 : Hp → Int32 → Int32 → Int32 → Int32 → Int32 → Int32 → Option (Int32 × Hp)) (hk76 : ∀ (h : Hp) (v1 : Int32) (v2 : Int32) (v3 : Int32) (v4 : Int32) (v5 : Int32) (v6 : Int32) (q : (Int32 × Hp)), Fr (wX6_arrive) zX6_arrive h0 h → k76 h v1 v2 v3 v4 v5 v6 = some q → Fr (wX6_arrive) zX6_arrive h0 q.2) (h : Hp) (v1 : Int32) (v2 : Int32) (v3 : Int32) (v4 : Int32) (v6 : Int32) (t0 : Int32) (q : (Int32 × Hp)) (F : Fr (wX6_arrive) zX6_arrive h0 h) (e : sX6_arrive_c109 k76 h v1 v2 v3 v4 v6 t0 = some q) : Fr (wX6_arrive) zX6_arrive h0 q.2 := by
  unfold sX6_arrive_c109 at e
  obtain ⟨x8, ex8, e⟩ := nm_s e
  exact hk76 h v1 v2 v3 v4 t0 x8 q F e
set_option maxRecDepth 10000 in
theorem fX6_arrive_c166 (h0 : Hp) (h : Hp) (t0 : Int32) (q : (Int32 × Hp)) (F : Fr (wX6_arrive) zX6_arrive h0 h) (e : sX6_arrive_c166 h t0 = some q) : Fr (wX6_arrive) zX6_arrive h0 q.2 := by
  unfold sX6_arrive_c166 at e
  exact Fr.e1 F e
set_option maxRecDepth 10000 in
theorem fX6_arrive_c134 (h0 : Hp) (h : Hp) (v1 : Int32) (v2 : Int32) (v3 : Int32) (v4 : Int32) (v5 : Int32) (t0 : Int64) (q : (Int32 × Hp)) (F : Fr (wX6_arrive) zX6_arrive h0 h) (e : sX6_arrive_c134 h v1 v2 v3 v4 v5 t0 = some q) : Fr (wX6_arrive) zX6_arrive h0 q.2 := by
  unfold sX6_arrive_c134 at e
  obtain ⟨q10, eq10, e⟩ := bd_s e
  have F := Fr.tr F (fX6_enters h t0 q10 eq10) (by decide) (by decide)
  obtain ⟨q11, eq11, e⟩ := bd_s e
  have F := Fr.tr F (fX6_flag q10 v4 q11 eq11) (fun _ hh => absurd hh List.not_mem_nil) (by decide)
  obtain ⟨q12, eq12, e⟩ := bd_s e
  have F := Fr.tr F (fX6_enters q11.2 q11.1.toInt64 q12 eq12) (by decide) (by decide)
  obtain ⟨q13, eq13, e⟩ := bd_s e
  have F := Fr.tr F (fX6_flag q12 v5 q13 eq13) (fun _ hh => absurd hh List.not_mem_nil) (by decide)
  obtain ⟨q14, eq14, e⟩ := bd_s e
  have F := Fr.tr F (fX6_enters q13.2 q13.1.toInt64 q14 eq14) (by decide) (by decide)
  by_cases c : v1 = 0
  · rw [if_pos c] at e
    exact fX6_arrive_c166 h0 q14 v2 q F e
  · rw [if_neg c] at e
    exact fX6_arrive_c166 h0 q14 v3 q F e
set_option maxRecDepth 10000 in
theorem fX6_arrive_c117 (h0 : Hp) (h : Hp) (v1 : Int32) (v2 : Int32) (v3 : Int32) (v4 : Int32) (v5 : Int32) (q : (Int32 × Hp)) (F : Fr (wX6_arrive) zX6_arrive h0 h) (e : sX6_arrive_c117 h v1 v2 v3 v4 v5 = some q) : Fr (wX6_arrive) zX6_arrive h0 q.2 := by
  unfold sX6_arrive_c117 at e
  obtain ⟨h9, eh9, e⟩ := nm_s e
  have F := Fr.w1 F eh9 (Or.inr (by decide))
  by_cases c : v1 = 0
  · rw [if_pos c] at e
    exact fX6_arrive_c134 h0 h9 v1 v2 v3 v4 v5 v3.toInt64 q F e
  · rw [if_neg c] at e
    exact fX6_arrive_c134 h0 h9 v1 v2 v3 v4 v5 v2.toInt64 q F e
set_option maxRecDepth 10000 in
theorem fX6_arrive_c76 (h0 : Hp) (k76 : Hp → Int32 → Int32 → Int32 → Int32 → Int32 → Int32 → Option (Int32 × Hp)) (hk76 : ∀ (h : Hp) (v1 : Int32) (v2 : Int32) (v3 : Int32) (v4 : Int32) (v5 : Int32) (v6 : Int32) (q : (Int32 × Hp)), Fr (wX6_arrive) zX6_arrive h0 h → k76 h v1 v2 v3 v4 v5 v6 = some q → Fr (wX6_arrive) zX6_arrive h0 q.2) (h : Hp) (v1 : Int32) (v2 : Int32) (v3 : Int32) (v4 : Int32) (v5 : Int32) (v6 : Int32) (q : (Int32 × Hp)) (F : Fr (wX6_arrive) zX6_arrive h0 h) (e : sX6_arrive_c76 k76 h v1 v2 v3 v4 v5 v6 = some q) : Fr (wX6_arrive) zX6_arrive h0 q.2 := by
  unfold sX6_arrive_c76 at e
  by_cases c : v2 ≤ v6
  · rw [if_pos c] at e
    exact fX6_arrive_c117 h0 h v1 v2 v3 v4 v5 q F e
  · rw [if_neg c] at e
    by_cases c : v5 = 0
    · rw [if_pos c] at e
      exact fX6_arrive_c117 h0 h v1 v2 v3 v4 v5 q F e
    · rw [if_neg c] at e
      obtain ⟨c6, e⟩ := gd_s e
      obtain ⟨c7, e⟩ := gd_s e
      by_cases c : (h.1 66 v6.toNatClampNeg) < (h.1 65 v6.toNatClampNeg)
      · rw [if_pos c] at e
        exact fX6_arrive_c109 h0 k76 hk76 h v1 v2 v3 v4 v6 (0 : Int32) q F e
      · rw [if_neg c] at e
        exact fX6_arrive_c109 h0 k76 hk76 h v1 v2 v3 v4 v6 (1 : Int32) q F e
theorem fX6_arrive_b76 (h0 : Hp) : ∀ (n : Nat) (h : Hp) (v1 : Int32) (v2 : Int32) (v3 : Int32) (v4 : Int32) (v5 : Int32) (v6 : Int32) (q : (Int32 × Hp)), Fr (wX6_arrive) zX6_arrive h0 h → sX6_arrive_b76 n h v1 v2 v3 v4 v5 v6 = some q → Fr (wX6_arrive) zX6_arrive h0 q.2
  | 0 => fun _ _ _ _ _ _ _ _ _ e => by cases e
  | n + 1 => fun h v1 v2 v3 v4 v5 v6 q F e => fX6_arrive_c76 h0 (sX6_arrive_b76 n) (fX6_arrive_b76 h0 n) h v1 v2 v3 v4 v5 v6 q F e
set_option maxRecDepth 10000 in
theorem fX6_arrive_c67 (h0 : Hp) (h : Hp) (v1 : Int32) (v2 : Int32) (v3 : Int32) (t0 : Int32) (q : (Int32 × Hp)) (F : Fr (wX6_arrive) zX6_arrive h0 h) (e : sX6_arrive_c67 h v1 v2 v3 t0 = some q) : Fr (wX6_arrive) zX6_arrive h0 q.2 := by
  unfold sX6_arrive_c67 at e
  exact fX6_arrive_b76 h0 FU h v1 v2 v3 t0 t0 (0 : Int32) q F e
set_option maxRecDepth 10000 in
theorem fX6_arrive_c49 (h0 : Hp) (h : Hp) (v1 : Int32) (v2 : Int32) (t0 : Int32) (t1 : Int32) (q : (Int32 × Hp)) (F : Fr (wX6_arrive) zX6_arrive h0 h) (e : sX6_arrive_c49 h v1 v2 t0 t1 = some q) : Fr (wX6_arrive) zX6_arrive h0 q.2 := by
  unfold sX6_arrive_c49 at e
  obtain ⟨q5, eq5, e⟩ := bd_s e
  have F := Fr.tr F (fX6_laysArriving h t1 t0 66 q5 eq5) (by decide) (by decide)
  by_cases c : q5.1 < v2
  · rw [if_pos c] at e
    exact fX6_arrive_c67 h0 q5.2 v1 v2 q5.1 (0 : Int32) q F e
  · rw [if_neg c] at e
    exact fX6_arrive_c67 h0 q5.2 v1 v2 q5.1 (1 : Int32) q F e
set_option maxRecDepth 10000 in
theorem fX6_arrive_c29 (h0 : Hp) (h : Hp) (v1 : Int32) (t0 : Int32) (t1 : Int32) (q : (Int32 × Hp)) (F : Fr (wX6_arrive) zX6_arrive h0 h) (e : sX6_arrive_c29 h v1 t0 t1 = some q) : Fr (wX6_arrive) zX6_arrive h0 q.2 := by
  unfold sX6_arrive_c29 at e
  obtain ⟨q4, eq4, e⟩ := bd_s e
  have F := Fr.tr F (fX6_laysArriving h t1 t0 65 q4 eq4) (by decide) (by decide)
  by_cases c : v1 = (1 : Int32)
  · rw [if_pos c] at e
    exact fX6_arrive_c49 h0 q4.2 v1 q4.1 (1 : Int32) v1 q F e
  · rw [if_neg c] at e
    exact fX6_arrive_c49 h0 q4.2 v1 q4.1 (0 : Int32) v1 q F e
set_option maxRecDepth 10000 in
theorem fX6_arrive (h : Hp) (a1 : Int32) (q : (Int32 × Hp)) (e : sX6_arrive h a1 = some q) : Fr (wX6_arrive) zX6_arrive h q.2 := by
  unfold sX6_arrive at e
  have F : Fr (wX6_arrive) zX6_arrive h h := Fr.rf
  obtain ⟨h1, eh1, e⟩ := nm_s e
  have F := Fr.w1 F eh1 (Or.inr (by decide))
  obtain ⟨q2, eq2, e⟩ := bd_s e
  have F := Fr.tr F (fX6_isSide h1 a1 q2 eq2) (fun _ hh => absurd hh List.not_mem_nil) (by decide)
  by_cases c : q2.1 = 0
  · rw [if_pos c] at e
    exact Fr.e1 F e
  · rw [if_neg c] at e
    obtain ⟨q3, eq3, e⟩ := bd_s e
    have F := Fr.tr F (fX6_finds q2.2 q3 eq3) (by decide) (by decide)
    by_cases c : a1 = 0
    · rw [if_pos c] at e
      exact fX6_arrive_c29 h q3 a1 (1 : Int32) a1 q F e
    · rw [if_neg c] at e
      exact fX6_arrive_c29 h q3 a1 (0 : Int32) a1 q F e

-- X6_range
abbrev wX6_range : List (Nat × Option Nat) := [(54, some 0), (54, some 17), (54, some 18), (63, none), (64, none), (54, some 19), (54, some 21), (54, some 1)]
abbrev zX6_range : List Nat := [55]
set_option maxRecDepth 10000 in
theorem fX6_range_c20 (h0 : Hp) (h : Hp) (q : (Int32 × Hp)) (F : Fr (wX6_range) zX6_range h0 h) (e : sX6_range_c20 h = some q) : Fr (wX6_range) zX6_range h0 q.2 := by
  unfold sX6_range_c20 at e
  exact Fr.e1 F e
set_option maxRecDepth 10000 in
theorem fX6_range_c81 (h0 : Hp) (h : Hp) (v1 : Int32) (v2 : Int32) (v3 : Int32) (t0 : Int64) (q : (Int32 × Hp)) (F : Fr (wX6_range) zX6_range h0 h) (e : sX6_range_c81 h v1 v2 v3 t0 = some q) : Fr (wX6_range) zX6_range h0 q.2 := by
  unfold sX6_range_c81 at e
  obtain ⟨q10, eq10, e⟩ := bd_s e
  have F := Fr.tr F (fX6_enters h t0 q10 eq10) (by decide) (by decide)
  obtain ⟨q11, eq11, e⟩ := bd_s e
  have F := Fr.tr F (fX6_heat q10 v1 v2 q11 eq11) (fun _ hh => absurd hh List.not_mem_nil) (by decide)
  obtain ⟨q12, eq12, e⟩ := bd_s e
  have F := Fr.tr F (fX6_enters q11.2 q11.1.toInt64 q12 eq12) (by decide) (by decide)
  obtain ⟨q13, eq13, e⟩ := bd_s e
  have F := Fr.tr F (fX6_rest q12 v1 v2 q13 eq13) (fun _ hh => absurd hh List.not_mem_nil) (by decide)
  obtain ⟨q14, eq14, e⟩ := bd_s e
  have F := Fr.tr F (fX6_enters q13.2 q13.1.toInt64 q14 eq14) (by decide) (by decide)
  obtain ⟨q15, eq15, e⟩ := bd_s e
  have F := Fr.tr F (fX6_flag q14 v3 q15 eq15) (fun _ hh => absurd hh List.not_mem_nil) (by decide)
  exact Fr.e1 F e
set_option maxRecDepth 10000 in
theorem fX6_range_c62 (h0 : Hp) (h : Hp) (v1 : Int32) (v2 : Int32) (v3 : Int32) (t0 : Int64) (q : (Int32 × Hp)) (F : Fr (wX6_range) zX6_range h0 h) (e : sX6_range_c62 h v1 v2 v3 t0 = some q) : Fr (wX6_range) zX6_range h0 q.2 := by
  unfold sX6_range_c62 at e
  obtain ⟨q8, eq8, e⟩ := bd_s e
  have F := Fr.tr F (fX6_enters h t0 q8 eq8) (by decide) (by decide)
  by_cases c : v3 = 0
  · rw [if_pos c] at e
    exact fX6_range_c81 h0 q8 v1 v2 v3 (0 : Int64) q F e
  · rw [if_neg c] at e
    obtain ⟨q9, eq9, e⟩ := bd_s e
    have F := Fr.tr F (fX6_far q8 v1 v2 q9 eq9) (fun _ hh => absurd hh List.not_mem_nil) (by decide)
    exact fX6_range_c81 h0 q9.2 v1 v2 v3 q9.1.toInt64 q F e
set_option maxRecDepth 10000 in
theorem fX6_range_c40 (h0 : Hp) (h : Hp) (v1 : Int32) (v2 : Int32) (t0 : Int32) (q : (Int32 × Hp)) (F : Fr (wX6_range) zX6_range h0 h) (e : sX6_range_c40 h v1 v2 t0 = some q) : Fr (wX6_range) zX6_range h0 q.2 := by
  unfold sX6_range_c40 at e
  obtain ⟨h6, eh6, e⟩ := nm_s e
  have F := Fr.w1 F eh6 (Or.inr (by decide))
  by_cases c : t0 = 0
  · rw [if_pos c] at e
    exact fX6_range_c62 h0 h6 v1 v2 t0 (0 : Int64) q F e
  · rw [if_neg c] at e
    obtain ⟨q7, eq7, e⟩ := bd_s e
    have F := Fr.tr F (fX6_near h6 v1 v2 q7 eq7) (fun _ hh => absurd hh List.not_mem_nil) (by decide)
    exact fX6_range_c62 h0 q7.2 v1 v2 t0 q7.1.toInt64 q F e
set_option maxRecDepth 10000 in
theorem fX6_range (h : Hp) (a1 : Int32) (a2 : Int32) (q : (Int32 × Hp)) (e : sX6_range h a1 a2 = some q) : Fr (wX6_range) zX6_range h q.2 := by
  unfold sX6_range at e
  have F : Fr (wX6_range) zX6_range h h := Fr.rf
  obtain ⟨h1, eh1, e⟩ := nm_s e
  have F := Fr.w1 F eh1 (Or.inr (by decide))
  obtain ⟨q2, eq2, e⟩ := bd_s e
  have F := Fr.tr F (fX6_isSide h1 a1 q2 eq2) (fun _ hh => absurd hh List.not_mem_nil) (by decide)
  by_cases c : q2.1 = 0
  · rw [if_pos c] at e
    exact fX6_range_c20 h q2.2 q F e
  · rw [if_neg c] at e
    obtain ⟨q3, eq3, e⟩ := bd_s e
    have F := Fr.tr F (fX6_isStream q2.2 a2 q3 eq3) (fun _ hh => absurd hh List.not_mem_nil) (by decide)
    by_cases c : q3.1 = 0
    · rw [if_pos c] at e
      exact fX6_range_c20 h q3.2 q F e
    · rw [if_neg c] at e
      obtain ⟨q4, eq4, e⟩ := bd_s e
      have F := Fr.tr F (fX6_finds q3.2 q4 eq4) (by decide) (by decide)
      obtain ⟨q5, eq5, e⟩ := bd_s e
      have F := Fr.tr F (fX6_heat q4 a1 a2 q5 eq5) (fun _ hh => absurd hh List.not_mem_nil) (by decide)
      by_cases c : q5.1 ≤ 0
      · rw [if_pos c] at e
        exact fX6_range_c40 h q5.2 a1 a2 (0 : Int32) q F e
      · rw [if_neg c] at e
        exact fX6_range_c40 h q5.2 a1 a2 (1 : Int32) q F e

-- X6_keeps
abbrev wX6_keeps : List (Nat × Option Nat) := []
abbrev zX6_keeps : List Nat := []
set_option maxRecDepth 10000 in
theorem fX6_keeps_c41 (h0 : Hp) (h : Hp) (t0 : Int32) (q : (Int32 × Hp)) (F : Fr (wX6_keeps) zX6_keeps h0 h) (e : sX6_keeps_c41 h t0 = some q) : Fr (wX6_keeps) zX6_keeps h0 q.2 := by
  unfold sX6_keeps_c41 at e
  obtain ⟨c6, e⟩ := gd_s e
  exact Fr.e1 F e
set_option maxRecDepth 10000 in
theorem fX6_keeps (h : Hp) (a1 : Int32) (a2 : Int32) (a3 : Int32) (q : (Int32 × Hp)) (e : sX6_keeps h a1 a2 a3 = some q) : Fr (wX6_keeps) zX6_keeps h q.2 := by
  unfold sX6_keeps at e
  have F : Fr (wX6_keeps) zX6_keeps h h := Fr.rf
  obtain ⟨q1, eq1, e⟩ := bd_s e
  have F := Fr.tr F (fX6_place h a1 a2 q1 eq1) (fun _ hh => absurd hh List.not_mem_nil) (by decide)
  obtain ⟨q2, eq2, e⟩ := bd_s e
  have F := Fr.tr F (fX6_widthAt q1.2 a1 a2 a3 q2 eq2) (fun _ hh => absurd hh List.not_mem_nil) (by decide)
  obtain ⟨c3, e⟩ := gd_s e
  obtain ⟨c4, e⟩ := gd_s e
  obtain ⟨q5, eq5, e⟩ := bd_s e
  have F := Fr.tr F (fX6_least q2.2 (q2.2.1 68 q1.1.toNatClampNeg) (q2.2.1 69 q1.1.toNatClampNeg) q5 eq5) (fun _ hh => absurd hh List.not_mem_nil) (by decide)
  by_cases c : (lg_cmp q2.1 q5.1) < 0
  · rw [if_pos c] at e
    exact fX6_keeps_c41 h q5.2 (0 : Int32) q F e
  · rw [if_neg c] at e
    exact fX6_keeps_c41 h q5.2 (1 : Int32) q F e

-- X6_mostOf
abbrev wX6_mostOf : List (Nat × Option Nat) := []
abbrev zX6_mostOf : List Nat := []
set_option maxRecDepth 10000 in
theorem fX6_mostOf_c114 (h0 : Hp) (h : Hp) (t0 : Int32) (q : (Int32 × Hp)) (F : Fr (wX6_mostOf) zX6_mostOf h0 h) (e : sX6_mostOf_c114 h t0 = some q) : Fr (wX6_mostOf) zX6_mostOf h0 q.2 := by
  unfold sX6_mostOf_c114 at e
  exact Fr.e1 F e
set_option maxRecDepth 10000 in
theorem fX6_mostOf_c88 (h0 : Hp) (h : Hp) (v4 : Int64) (v6 : Int32) (t0 : Int32) (t1 : Int32) (q : (Int32 × Hp)) (F : Fr (wX6_mostOf) zX6_mostOf h0 h) (e : sX6_mostOf_c88 h v4 v6 t0 t1 = some q) : Fr (wX6_mostOf) zX6_mostOf h0 q.2 := by
  unfold sX6_mostOf_c88 at e
  obtain ⟨x13, ex13, e⟩ := nm_s e
  by_cases c : x13 ≤ 0
  · rw [if_pos c] at e
    exact fX6_mostOf_c114 h0 h v6 q F e
  · rw [if_neg c] at e
    obtain ⟨c14, e⟩ := gd_s e
    exact fX6_mostOf_c114 h0 h ((lmin v6.toInt64 (v4 / x13.toInt64)).toInt32) q F e
set_option maxRecDepth 10000 in
theorem fX6_mostOf (h : Hp) (a1 : Int32) (a2 : Int32) (a3 : Int32) (q : (Int32 × Hp)) (e : sX6_mostOf h a1 a2 a3 = some q) : Fr (wX6_mostOf) zX6_mostOf h q.2 := by
  unfold sX6_mostOf at e
  have F : Fr (wX6_mostOf) zX6_mostOf h h := Fr.rf
  obtain ⟨c1, e⟩ := gd_s e
  obtain ⟨q2, eq2, e⟩ := bd_s e
  have F := Fr.tr F (fX6_used h a1 a2 (h.1 67 a1.toNatClampNeg) q2 eq2) (fun _ hh => absurd hh List.not_mem_nil) (by decide)
  obtain ⟨c3, e⟩ := gd_s e
  obtain ⟨q4, eq4, e⟩ := bd_s e
  have F := Fr.tr F (fX6_used q2.2 a1 a3 (q2.2.1 67 a1.toNatClampNeg) q4 eq4) (fun _ hh => absurd hh List.not_mem_nil) (by decide)
  obtain ⟨q5, eq5, e⟩ := bd_s e
  have F := Fr.tr F (fX6_width q4.2 a1 a2 a3 q2.1 q4.1 q5 eq5) (fun _ hh => absurd hh List.not_mem_nil) (by decide)
  obtain ⟨q6, eq6, e⟩ := bd_s e
  have F := Fr.tr F (fX6_least q5.2 a2 a3 q6 eq6) (fun _ hh => absurd hh List.not_mem_nil) (by decide)
  obtain ⟨x7, ex7, e⟩ := nm_s e
  by_cases c : 0 ≤ (lg_cmp x7 (0 : Int64))
  · rw [if_pos c] at e
    obtain ⟨q8, eq8, e⟩ := bd_s e
    have F := Fr.tr F (fX6_rest q6.2 a1 a2 q8 eq8) (fun _ hh => absurd hh List.not_mem_nil) (by decide)
    obtain ⟨q9, eq9, e⟩ := bd_s e
    have F := Fr.tr F (fX6_rest q8.2 a1 a3 q9 eq9) (fun _ hh => absurd hh List.not_mem_nil) (by decide)
    obtain ⟨x10, ex10, e⟩ := nm_s e
    obtain ⟨c11, e⟩ := gd_s e
    obtain ⟨c12, e⟩ := gd_s e
    by_cases c : a1 = 0
    · rw [if_pos c] at e
      exact fX6_mostOf_c88 h q9.2 x7 x10 (1 : Int32) ((q9.2.1 59 a2.toNatClampNeg) - (q9.2.1 59 a3.toNatClampNeg)) q F e
    · rw [if_neg c] at e
      exact fX6_mostOf_c88 h q9.2 x7 x10 (-1 : Int32) ((q9.2.1 59 a2.toNatClampNeg) - (q9.2.1 59 a3.toNatClampNeg)) q F e
  · rw [if_neg c] at e
    exact Fr.e1 F e

-- X6_rests
abbrev wX6_rests : List (Nat × Option Nat) := []
abbrev zX6_rests : List Nat := []
set_option maxRecDepth 10000 in
theorem fX6_rests_c36 (h0 : Hp) (k5 : Hp → Int32 → Int32 → Int32 → Int32 → Option (Int32 × Hp)) (hk5 : ∀ (h : Hp) (v1 : Int32) (v2 : Int32) (v3 : Int32) (v4 : Int32) (q : (Int32 × Hp)), Fr (wX6_rests) zX6_rests h0 h → k5 h v1 v2 v3 v4 = some q → Fr (wX6_rests) zX6_rests h0 q.2) (h : Hp) (v1 : Int32) (v2 : Int32) (v4 : Int32) (t0 : Int32) (t1 : Int32) (q : (Int32 × Hp)) (F : Fr (wX6_rests) zX6_rests h0 h) (e : sX6_rests_c36 k5 h v1 v2 v4 t0 t1 = some q) : Fr (wX6_rests) zX6_rests h0 q.2 := by
  unfold sX6_rests_c36 at e
  obtain ⟨x3, ex3, e⟩ := nm_s e
  obtain ⟨x4, ex4, e⟩ := nm_s e
  exact hk5 h v1 v2 x3 x4 q F e
set_option maxRecDepth 10000 in
theorem fX6_rests_c5 (h0 : Hp) (k5 : Hp → Int32 → Int32 → Int32 → Int32 → Option (Int32 × Hp)) (hk5 : ∀ (h : Hp) (v1 : Int32) (v2 : Int32) (v3 : Int32) (v4 : Int32) (q : (Int32 × Hp)), Fr (wX6_rests) zX6_rests h0 h → k5 h v1 v2 v3 v4 = some q → Fr (wX6_rests) zX6_rests h0 q.2) (h : Hp) (v1 : Int32) (v2 : Int32) (v3 : Int32) (v4 : Int32) (q : (Int32 × Hp)) (F : Fr (wX6_rests) zX6_rests h0 h) (e : sX6_rests_c5 k5 h v1 v2 v3 v4 = some q) : Fr (wX6_rests) zX6_rests h0 q.2 := by
  unfold sX6_rests_c5 at e
  by_cases c : (h.1 54 7) ≤ v4
  · rw [if_pos c] at e
    exact Fr.e1 F e
  · rw [if_neg c] at e
    obtain ⟨q1, eq1, e⟩ := bd_s e
    have F := Fr.tr F (fX6_isHot h v4 q1 eq1) (fun _ hh => absurd hh List.not_mem_nil) (by decide)
    by_cases c : q1.1 = v2
    · rw [if_pos c] at e
      obtain ⟨q2, eq2, e⟩ := bd_s e
      have F := Fr.tr F (fX6_rest q1.2 v1 v4 q2 eq2) (fun _ hh => absurd hh List.not_mem_nil) (by decide)
      exact fX6_rests_c36 h0 k5 hk5 q2.2 v1 v2 v4 q2.1 v3 q F e
    · rw [if_neg c] at e
      exact fX6_rests_c36 h0 k5 hk5 q1.2 v1 v2 v4 (0 : Int32) v3 q F e
theorem fX6_rests_b5 (h0 : Hp) : ∀ (n : Nat) (h : Hp) (v1 : Int32) (v2 : Int32) (v3 : Int32) (v4 : Int32) (q : (Int32 × Hp)), Fr (wX6_rests) zX6_rests h0 h → sX6_rests_b5 n h v1 v2 v3 v4 = some q → Fr (wX6_rests) zX6_rests h0 q.2
  | 0 => fun _ _ _ _ _ _ _ e => by cases e
  | n + 1 => fun h v1 v2 v3 v4 q F e => fX6_rests_c5 h0 (sX6_rests_b5 n) (fX6_rests_b5 h0 n) h v1 v2 v3 v4 q F e
set_option maxRecDepth 10000 in
theorem fX6_rests (h : Hp) (a1 : Int32) (a2 : Int32) (q : (Int32 × Hp)) (e : sX6_rests h a1 a2 = some q) : Fr (wX6_rests) zX6_rests h q.2 := by
  unfold sX6_rests at e
  have F : Fr (wX6_rests) zX6_rests h h := Fr.rf
  exact fX6_rests_b5 h FU h a1 a2 (0 : Int32) (0 : Int32) q F e

-- X6_match
abbrev wX6_match : List (Nat × Option Nat) := [(54, some 0), (54, some 17), (54, some 18), (63, none), (64, none), (54, some 19), (54, some 21), (54, some 1)]
abbrev zX6_match : List Nat := [55]
set_option maxRecDepth 10000 in
theorem fX6_match_c153 (h0 : Hp) (h : Hp) (t0 : Int32) (q : (Int32 × Hp)) (F : Fr (wX6_match) zX6_match h0 h) (e : sX6_match_c153 h t0 = some q) : Fr (wX6_match) zX6_match h0 q.2 := by
  unfold sX6_match_c153 at e
  exact Fr.e1 F e
set_option maxRecDepth 10000 in
theorem fX6_match_c27 (h0 : Hp) (h : Hp) (v1 : Int32) (v2 : Int32) (v3 : Int32) (t0 : Int32) (q : (Int32 × Hp)) (F : Fr (wX6_match) zX6_match h0 h) (e : sX6_match_c27 h v1 v2 v3 t0 = some q) : Fr (wX6_match) zX6_match h0 q.2 := by
  unfold sX6_match_c27 at e
  obtain ⟨q3, eq3, e⟩ := bd_s e
  have F := Fr.tr F (fX6_flag h t0 q3 eq3) (fun _ hh => absurd hh List.not_mem_nil) (by decide)
  obtain ⟨h4, eh4, e⟩ := nm_s e
  have F := Fr.w1 F eh4 (Or.inr (by decide))
  by_cases c : (h4.1 54 0) = (1 : Int32)
  · rw [if_pos c] at e
    exact Fr.e1 F e
  · rw [if_neg c] at e
    obtain ⟨q5, eq5, e⟩ := bd_s e
    have F := Fr.tr F (fX6_finds h4 q5 eq5) (by decide) (by decide)
    obtain ⟨q6, eq6, e⟩ := bd_s e
    have F := Fr.tr F (fX6_place q5 v1 v2 q6 eq6) (fun _ hh => absurd hh List.not_mem_nil) (by decide)
    obtain ⟨h7, eh7, e⟩ := nm_s e
    have F := Fr.w1 F eh7 (Or.inr (by decide))
    obtain ⟨q8, eq8, e⟩ := bd_s e
    have F := Fr.tr F (fX6_widthAt h7 v1 v2 (0 : Int32) q8 eq8) (fun _ hh => absurd hh List.not_mem_nil) (by decide)
    obtain ⟨c9, e⟩ := gd_s e
    obtain ⟨c10, e⟩ := gd_s e
    obtain ⟨q11, eq11, e⟩ := bd_s e
    have F := Fr.tr F (fX6_under q8.2 (q8.2.1 68 q6.1.toNatClampNeg) (q8.2.1 69 q6.1.toNatClampNeg) q11 eq11) (fun _ hh => absurd hh List.not_mem_nil) (by decide)
    obtain ⟨q12, eq12, e⟩ := bd_s e
    have F := Fr.tr F (fX6_entersPart q11.2 q8.1 q11.1 q12 eq12) (by decide) (by decide)
    obtain ⟨q13, eq13, e⟩ := bd_s e
    have F := Fr.tr F (fX6_widthAt q12 v1 v2 (1 : Int32) q13 eq13) (fun _ hh => absurd hh List.not_mem_nil) (by decide)
    obtain ⟨c14, e⟩ := gd_s e
    obtain ⟨c15, e⟩ := gd_s e
    obtain ⟨q16, eq16, e⟩ := bd_s e
    have F := Fr.tr F (fX6_under q13.2 (q13.2.1 68 q6.1.toNatClampNeg) (q13.2.1 69 q6.1.toNatClampNeg) q16 eq16) (fun _ hh => absurd hh List.not_mem_nil) (by decide)
    obtain ⟨q17, eq17, e⟩ := bd_s e
    have F := Fr.tr F (fX6_entersPart q16.2 q13.1 q16.1 q17 eq17) (by decide) (by decide)
    by_cases c : v3 = 0
    · rw [if_pos c] at e
      obtain ⟨c20, e⟩ := gd_s e
      exact fX6_match_c153 h0 q17 (q17.1 68 q6.1.toNatClampNeg) q F e
    · rw [if_neg c] at e
      by_cases c : v3 = (1 : Int32)
      · rw [if_pos c] at e
        obtain ⟨c19, e⟩ := gd_s e
        exact fX6_match_c153 h0 q17 (q17.1 69 q6.1.toNatClampNeg) q F e
      · rw [if_neg c] at e
        obtain ⟨c18, e⟩ := gd_s e
        exact fX6_match_c153 h0 q17 (q17.1 70 q6.1.toNatClampNeg) q F e
set_option maxRecDepth 10000 in
theorem fX6_match_c22 (h0 : Hp) (h : Hp) (v1 : Int32) (v2 : Int32) (v3 : Int32) (q : (Int32 × Hp)) (F : Fr (wX6_match) zX6_match h0 h) (e : sX6_match_c22 h v1 v2 v3 = some q) : Fr (wX6_match) zX6_match h0 q.2 := by
  unfold sX6_match_c22 at e
  exact fX6_match_c27 h0 h v1 v2 v3 (1 : Int32) q F e
set_option maxRecDepth 10000 in
theorem fX6_match (h : Hp) (a1 : Int32) (a2 : Int32) (a3 : Int32) (q : (Int32 × Hp)) (e : sX6_match h a1 a2 a3 = some q) : Fr (wX6_match) zX6_match h q.2 := by
  unfold sX6_match at e
  have F : Fr (wX6_match) zX6_match h h := Fr.rf
  obtain ⟨q1, eq1, e⟩ := bd_s e
  have F := Fr.tr F (fX6_isMatch h a1 a2 q1 eq1) (fun _ hh => absurd hh List.not_mem_nil) (by decide)
  by_cases c : q1.1 = 0
  · rw [if_pos c] at e
    exact fX6_match_c22 h q1.2 a1 a2 a3 q F e
  · rw [if_neg c] at e
    obtain ⟨q2, eq2, e⟩ := bd_s e
    have F := Fr.tr F (fX6_in q1.2 a3.toInt64 (0 : Int64) (2 : Int64) q2 eq2) (fun _ hh => absurd hh List.not_mem_nil) (by decide)
    by_cases c : q2.1 = 0
    · rw [if_pos c] at e
      exact fX6_match_c22 h q2.2 a1 a2 a3 q F e
    · rw [if_neg c] at e
      exact fX6_match_c27 h q2.2 a1 a2 a3 (0 : Int32) q F e

-- X6_areaOf
abbrev wX6_areaOf : List (Nat × Option Nat) := []
abbrev zX6_areaOf : List Nat := []
set_option maxRecDepth 10000 in
theorem fX6_areaOf_c76 (h0 : Hp) (h : Hp) (t0 : Int32) (q : (Int32 × Hp)) (F : Fr (wX6_areaOf) zX6_areaOf h0 h) (e : sX6_areaOf_c76 h t0 = some q) : Fr (wX6_areaOf) zX6_areaOf h0 q.2 := by
  unfold sX6_areaOf_c76 at e
  exact Fr.e1 F e
set_option maxRecDepth 10000 in
theorem fX6_areaOf (h : Hp) (a1 : Int32) (a2 : Int32) (q : (Int32 × Hp)) (e : sX6_areaOf h a1 a2 = some q) : Fr (wX6_areaOf) zX6_areaOf h q.2 := by
  unfold sX6_areaOf at e
  have F : Fr (wX6_areaOf) zX6_areaOf h h := Fr.rf
  obtain ⟨q1, eq1, e⟩ := bd_s e
  have F := Fr.tr F (fX6_place h a1 a2 q1 eq1) (fun _ hh => absurd hh List.not_mem_nil) (by decide)
  obtain ⟨q2, eq2, e⟩ := bd_s e
  have F := Fr.tr F (fX6_widthAt q1.2 a1 a2 (0 : Int32) q2 eq2) (fun _ hh => absurd hh List.not_mem_nil) (by decide)
  obtain ⟨q3, eq3, e⟩ := bd_s e
  have F := Fr.tr F (fX6_widthAt q2.2 a1 a2 (1 : Int32) q3 eq3) (fun _ hh => absurd hh List.not_mem_nil) (by decide)
  obtain ⟨x4, ex4, e⟩ := nm_s e
  obtain ⟨c5, e⟩ := gd_s e
  obtain ⟨c6, e⟩ := gd_s e
  obtain ⟨c7, e⟩ := gd_s e
  obtain ⟨q8, eq8, e⟩ := bd_s e
  have F := Fr.tr F (fX6_under q3.2 (q3.2.1 68 q1.1.toNatClampNeg) (q3.2.1 69 q1.1.toNatClampNeg) q8 eq8) (fun _ hh => absurd hh List.not_mem_nil) (by decide)
  obtain ⟨x9, ex9, e⟩ := nm_s e
  by_cases c : (lg_cmp x4 (0 : Int64)) = 0
  · rw [if_pos c] at e
    exact fX6_areaOf_c76 h q8.2 (-2 : Int32) q F e
  · rw [if_neg c] at e
    obtain ⟨c10, e⟩ := gd_s e
    exact fX6_areaOf_c76 h q8.2 ((((x9 + x4) - (1 : Int64)) / x4).toInt32) q F e

-- X6_firstBad
abbrev wX6_firstBad : List (Nat × Option Nat) := []
abbrev zX6_firstBad : List Nat := []
set_option maxRecDepth 10000 in
theorem fX6_firstBad_c32 (h0 : Hp) (h : Hp) (v2 : Int32) (q : (Int32 × Hp)) (F : Fr (wX6_firstBad) zX6_firstBad h0 h) (e : sX6_firstBad_c32 h v2 = some q) : Fr (wX6_firstBad) zX6_firstBad h0 q.2 := by
  unfold sX6_firstBad_c32 at e
  exact Fr.e1 F e
set_option maxRecDepth 10000 in
theorem fX6_firstBad_c2 (h0 : Hp) (k2 : Hp → Int32 → Int32 → Option (Int32 × Hp)) (hk2 : ∀ (h : Hp) (v1 : Int32) (v2 : Int32) (q : (Int32 × Hp)), Fr (wX6_firstBad) zX6_firstBad h0 h → k2 h v1 v2 = some q → Fr (wX6_firstBad) zX6_firstBad h0 q.2) (h : Hp) (v1 : Int32) (v2 : Int32) (q : (Int32 × Hp)) (F : Fr (wX6_firstBad) zX6_firstBad h0 h) (e : sX6_firstBad_c2 k2 h v1 v2 = some q) : Fr (wX6_firstBad) zX6_firstBad h0 q.2 := by
  unfold sX6_firstBad_c2 at e
  obtain ⟨c1, e⟩ := gd_s e
  by_cases c : (h.1 67 v1.toNatClampNeg) ≤ v2
  · rw [if_pos c] at e
    exact Fr.e1 F e
  · rw [if_neg c] at e
    obtain ⟨q2, eq2, e⟩ := bd_s e
    have F := Fr.tr F (fX6_keeps h v1 v2 (0 : Int32) q2 eq2) (fun _ hh => absurd hh List.not_mem_nil) (by decide)
    by_cases c : q2.1 = 0
    · rw [if_pos c] at e
      exact fX6_firstBad_c32 h0 q2.2 v2 q F e
    · rw [if_neg c] at e
      obtain ⟨q3, eq3, e⟩ := bd_s e
      have F := Fr.tr F (fX6_keeps q2.2 v1 v2 (1 : Int32) q3 eq3) (fun _ hh => absurd hh List.not_mem_nil) (by decide)
      by_cases c : q3.1 = 0
      · rw [if_pos c] at e
        exact fX6_firstBad_c32 h0 q3.2 v2 q F e
      · rw [if_neg c] at e
        obtain ⟨x4, ex4, e⟩ := nm_s e
        exact hk2 q3.2 v1 x4 q F e
theorem fX6_firstBad_b2 (h0 : Hp) : ∀ (n : Nat) (h : Hp) (v1 : Int32) (v2 : Int32) (q : (Int32 × Hp)), Fr (wX6_firstBad) zX6_firstBad h0 h → sX6_firstBad_b2 n h v1 v2 = some q → Fr (wX6_firstBad) zX6_firstBad h0 q.2
  | 0 => fun _ _ _ _ _ e => by cases e
  | n + 1 => fun h v1 v2 q F e => fX6_firstBad_c2 h0 (sX6_firstBad_b2 n) (fX6_firstBad_b2 h0 n) h v1 v2 q F e
set_option maxRecDepth 10000 in
theorem fX6_firstBad (h : Hp) (a1 : Int32) (q : (Int32 × Hp)) (e : sX6_firstBad h a1 = some q) : Fr (wX6_firstBad) zX6_firstBad h q.2 := by
  unfold sX6_firstBad at e
  have F : Fr (wX6_firstBad) zX6_firstBad h h := Fr.rf
  exact fX6_firstBad_b2 h FU h a1 (0 : Int32) q F e

-- X6_joins
abbrev wX6_joins : List (Nat × Option Nat) := [(54, some 0), (54, some 17), (54, some 18), (63, none), (64, none), (54, some 19), (54, some 21), (68, none), (69, none), (70, none), (67, none), (54, some 1)]
abbrev zX6_joins : List Nat := [55]
set_option maxRecDepth 10000 in
theorem fX6_joins_c25 (h0 : Hp) (h : Hp) (q : (Int32 × Hp)) (F : Fr (wX6_joins) zX6_joins h0 h) (e : sX6_joins_c25 h = some q) : Fr (wX6_joins) zX6_joins h0 q.2 := by
  unfold sX6_joins_c25 at e
  exact Fr.e1 F e
set_option maxRecDepth 10000 in
theorem fX6_joins_c63 (h0 : Hp) (h : Hp) (q : (Int32 × Hp)) (F : Fr (wX6_joins) zX6_joins h0 h) (e : sX6_joins_c63 h = some q) : Fr (wX6_joins) zX6_joins h0 q.2 := by
  unfold sX6_joins_c63 at e
  exact Fr.e1 F e
set_option maxRecDepth 10000 in
theorem fX6_joins (h : Hp) (a1 : Int32) (a2 : Int32) (a3 : Int32) (a4 : Int32) (q : (Int32 × Hp)) (e : sX6_joins h a1 a2 a3 a4 = some q) : Fr (wX6_joins) zX6_joins h q.2 := by
  unfold sX6_joins at e
  have F : Fr (wX6_joins) zX6_joins h h := Fr.rf
  obtain ⟨h1, eh1, e⟩ := nm_s e
  have F := Fr.w1 F eh1 (Or.inr (by decide))
  obtain ⟨q2, eq2, e⟩ := bd_s e
  have F := Fr.tr F (fX6_finds h1 q2 eq2) (by decide) (by decide)
  obtain ⟨q3, eq3, e⟩ := bd_s e
  have F := Fr.tr F (fX6_areThere q2 a1 a2 a3 q3 eq3) (fun _ hh => absurd hh List.not_mem_nil) (by decide)
  by_cases c : q3.1 = 0
  · rw [if_pos c] at e
    exact fX6_joins_c25 h q3.2 q F e
  · rw [if_neg c] at e
    by_cases c : (1 : Int32) ≤ a4
    · rw [if_pos c] at e
      obtain ⟨c4, e⟩ := gd_s e
      by_cases c : (q3.2.1 67 a1.toNatClampNeg) = (24 : Int32)
      · rw [if_pos c] at e
        exact Fr.e1 F e
      · rw [if_neg c] at e
        obtain ⟨q5, eq5, e⟩ := bd_s e
        have F := Fr.tr F (fX6_rest q3.2 a1 a2 q5 eq5) (fun _ hh => absurd hh List.not_mem_nil) (by decide)
        by_cases c : q5.1 < a4
        · rw [if_pos c] at e
          exact fX6_joins_c63 h q5.2 q F e
        · rw [if_neg c] at e
          obtain ⟨q6, eq6, e⟩ := bd_s e
          have F := Fr.tr F (fX6_rest q5.2 a1 a3 q6 eq6) (fun _ hh => absurd hh List.not_mem_nil) (by decide)
          by_cases c : a4 ≤ q6.1
          · rw [if_pos c] at e
            obtain ⟨c7, e⟩ := gd_s e
            obtain ⟨x8, ex8, e⟩ := nm_s e
            obtain ⟨q9, eq9, e⟩ := bd_s e
            have F := Fr.tr F (fX6_laysMatch q6.2 a1 a2 a3 a4 q9 eq9) (by decide) (by decide)
            obtain ⟨q10, eq10, e⟩ := bd_s e
            have F := Fr.tr F (fX6_keeps q9 a1 x8 (0 : Int32) q10 eq10) (fun _ hh => absurd hh List.not_mem_nil) (by decide)
            by_cases c : q10.1 = 0
            · rw [if_pos c] at e
              exact Fr.e1 F e
            · rw [if_neg c] at e
              obtain ⟨q11, eq11, e⟩ := bd_s e
              have F := Fr.tr F (fX6_keeps q10.2 a1 x8 (1 : Int32) q11 eq11) (fun _ hh => absurd hh List.not_mem_nil) (by decide)
              by_cases c : q11.1 = 0
              · rw [if_pos c] at e
                exact Fr.e1 F e
              · rw [if_neg c] at e
                obtain ⟨c12, e⟩ := gd_s e
                obtain ⟨c13, e⟩ := gd_s e
                obtain ⟨h14, eh14, e⟩ := nm_s e
                have F := Fr.w1 F eh14 (Or.inl (by decide))
                obtain ⟨h15, eh15, e⟩ := nm_s e
                have F := Fr.w1 F eh15 (Or.inr (by decide))
                obtain ⟨q16, eq16, e⟩ := bd_s e
                have F := Fr.tr F (fX6_rest h15 a1 a2 q16 eq16) (fun _ hh => absurd hh List.not_mem_nil) (by decide)
                obtain ⟨q17, eq17, e⟩ := bd_s e
                have F := Fr.tr F (fX6_enters q16.2 q16.1.toInt64 q17 eq17) (by decide) (by decide)
                obtain ⟨q18, eq18, e⟩ := bd_s e
                have F := Fr.tr F (fX6_rest q17 a1 a3 q18 eq18) (fun _ hh => absurd hh List.not_mem_nil) (by decide)
                obtain ⟨q19, eq19, e⟩ := bd_s e
                have F := Fr.tr F (fX6_enters q18.2 q18.1.toInt64 q19 eq19) (by decide) (by decide)
                exact Fr.e1 F e
          · rw [if_neg c] at e
            exact fX6_joins_c63 h q6.2 q F e
    · rw [if_neg c] at e
      exact fX6_joins_c25 h q3.2 q F e

-- X6_most
abbrev wX6_most : List (Nat × Option Nat) := [(54, some 0), (54, some 17), (54, some 18), (63, none), (64, none), (54, some 19), (54, some 21)]
abbrev zX6_most : List Nat := []
set_option maxRecDepth 10000 in
theorem fX6_most_c30 (h0 : Hp) (h : Hp) (t0 : Int32) (q : (Int32 × Hp)) (F : Fr (wX6_most) zX6_most h0 h) (e : sX6_most_c30 h t0 = some q) : Fr (wX6_most) zX6_most h0 q.2 := by
  unfold sX6_most_c30 at e
  exact Fr.e1 F e
set_option maxRecDepth 10000 in
theorem fX6_most (h : Hp) (a1 : Int32) (a2 : Int32) (a3 : Int32) (q : (Int32 × Hp)) (e : sX6_most h a1 a2 a3 = some q) : Fr (wX6_most) zX6_most h q.2 := by
  unfold sX6_most at e
  have F : Fr (wX6_most) zX6_most h h := Fr.rf
  obtain ⟨h1, eh1, e⟩ := nm_s e
  have F := Fr.w1 F eh1 (Or.inr (by decide))
  obtain ⟨q2, eq2, e⟩ := bd_s e
  have F := Fr.tr F (fX6_finds h1 q2 eq2) (by decide) (by decide)
  obtain ⟨q3, eq3, e⟩ := bd_s e
  have F := Fr.tr F (fX6_areThere q2 a1 a2 a3 q3 eq3) (fun _ hh => absurd hh List.not_mem_nil) (by decide)
  by_cases c : q3.1 = 0
  · rw [if_pos c] at e
    exact fX6_most_c30 h q3.2 (-1 : Int32) q F e
  · rw [if_neg c] at e
    obtain ⟨q4, eq4, e⟩ := bd_s e
    have F := Fr.tr F (fX6_mostOf q3.2 a1 a2 a3 q4 eq4) (fun _ hh => absurd hh List.not_mem_nil) (by decide)
    exact fX6_most_c30 h q4.2 q4.1 q F e

-- X6_findsBest
abbrev wX6_findsBest : List (Nat × Option Nat) := [(54, some 28), (54, some 29)]
abbrev zX6_findsBest : List Nat := []
set_option maxRecDepth 10000 in
theorem fX6_findsBest_c69 (h0 : Hp) (k4 : Hp → Int32 → Int32 → Int32 → Option (Int32 × Hp)) (hk4 : ∀ (h : Hp) (v1 : Int32) (v2 : Int32) (v3 : Int32) (q : (Int32 × Hp)), Fr (wX6_findsBest) zX6_findsBest h0 h → k4 h v1 v2 v3 = some q → Fr (wX6_findsBest) zX6_findsBest h0 q.2) (k15 : Hp → Int32 → Int32 → Int32 → Int32 → Option (Int32 × Hp)) (hk15 : ∀ (h : Hp) (v1 : Int32) (v2 : Int32) (v3 : Int32) (v4 : Int32) (q : (Int32 × Hp)), Fr (wX6_findsBest) zX6_findsBest h0 h → k15 h v1 v2 v3 v4 = some q → Fr (wX6_findsBest) zX6_findsBest h0 q.2) (h : Hp) (v1 : Int32) (v2 : Int32) (v3 : Int32) (v4 : Int32) (q : (Int32 × Hp)) (F : Fr (wX6_findsBest) zX6_findsBest h0 h) (e : sX6_findsBest_c69 k4 k15 h v1 v2 v3 v4 = some q) : Fr (wX6_findsBest) zX6_findsBest h0 q.2 := by
  unfold sX6_findsBest_c69 at e
  obtain ⟨x6, ex6, e⟩ := nm_s e
  exact hk15 h v1 v2 v3 x6 q F e
set_option maxRecDepth 10000 in
theorem fX6_findsBest_c47 (h0 : Hp) (k4 : Hp → Int32 → Int32 → Int32 → Option (Int32 × Hp)) (hk4 : ∀ (h : Hp) (v1 : Int32) (v2 : Int32) (v3 : Int32) (q : (Int32 × Hp)), Fr (wX6_findsBest) zX6_findsBest h0 h → k4 h v1 v2 v3 = some q → Fr (wX6_findsBest) zX6_findsBest h0 q.2) (k15 : Hp → Int32 → Int32 → Int32 → Int32 → Option (Int32 × Hp)) (hk15 : ∀ (h : Hp) (v1 : Int32) (v2 : Int32) (v3 : Int32) (v4 : Int32) (q : (Int32 × Hp)), Fr (wX6_findsBest) zX6_findsBest h0 h → k15 h v1 v2 v3 v4 = some q → Fr (wX6_findsBest) zX6_findsBest h0 q.2) (h : Hp) (v1 : Int32) (v2 : Int32) (v3 : Int32) (v4 : Int32) (t0 : Int32) (q : (Int32 × Hp)) (F : Fr (wX6_findsBest) zX6_findsBest h0 h) (e : sX6_findsBest_c47 k4 k15 h v1 v2 v3 v4 t0 = some q) : Fr (wX6_findsBest) zX6_findsBest h0 q.2 := by
  unfold sX6_findsBest_c47 at e
  by_cases c : t0 ≤ v2
  · rw [if_pos c] at e
    exact fX6_findsBest_c69 h0 k4 hk4 k15 hk15 h v1 v2 v3 v4 q F e
  · rw [if_neg c] at e
    obtain ⟨h4, eh4, e⟩ := nm_s e
    have F := Fr.w1 F eh4 (Or.inr (by decide))
    obtain ⟨h5, eh5, e⟩ := nm_s e
    have F := Fr.w1 F eh5 (Or.inr (by decide))
    exact fX6_findsBest_c69 h0 k4 hk4 k15 hk15 h5 v1 t0 v3 v4 q F e
set_option maxRecDepth 10000 in
theorem fX6_findsBest_c15 (h0 : Hp) (k4 : Hp → Int32 → Int32 → Int32 → Option (Int32 × Hp)) (hk4 : ∀ (h : Hp) (v1 : Int32) (v2 : Int32) (v3 : Int32) (q : (Int32 × Hp)), Fr (wX6_findsBest) zX6_findsBest h0 h → k4 h v1 v2 v3 = some q → Fr (wX6_findsBest) zX6_findsBest h0 q.2) (k15 : Hp → Int32 → Int32 → Int32 → Int32 → Option (Int32 × Hp)) (hk15 : ∀ (h : Hp) (v1 : Int32) (v2 : Int32) (v3 : Int32) (v4 : Int32) (q : (Int32 × Hp)), Fr (wX6_findsBest) zX6_findsBest h0 h → k15 h v1 v2 v3 v4 = some q → Fr (wX6_findsBest) zX6_findsBest h0 q.2) (h : Hp) (v1 : Int32) (v2 : Int32) (v3 : Int32) (v4 : Int32) (q : (Int32 × Hp)) (F : Fr (wX6_findsBest) zX6_findsBest h0 h) (e : sX6_findsBest_c15 k4 k15 h v1 v2 v3 v4 = some q) : Fr (wX6_findsBest) zX6_findsBest h0 q.2 := by
  unfold sX6_findsBest_c15 at e
  by_cases c : (h.1 54 7) ≤ v4
  · rw [if_pos c] at e
    obtain ⟨x1, ex1, e⟩ := nm_s e
    exact hk4 h v1 v2 x1 q F e
  · rw [if_neg c] at e
    obtain ⟨q2, eq2, e⟩ := bd_s e
    have F := Fr.tr F (fX6_areThere h v1 v3 v4 q2 eq2) (fun _ hh => absurd hh List.not_mem_nil) (by decide)
    by_cases c : q2.1 = 0
    · rw [if_pos c] at e
      exact fX6_findsBest_c47 h0 k4 hk4 k15 hk15 q2.2 v1 v2 v3 v4 (0 : Int32) q F e
    · rw [if_neg c] at e
      obtain ⟨q3, eq3, e⟩ := bd_s e
      have F := Fr.tr F (fX6_mostOf q2.2 v1 v3 v4 q3 eq3) (fun _ hh => absurd hh List.not_mem_nil) (by decide)
      exact fX6_findsBest_c47 h0 k4 hk4 k15 hk15 q3.2 v1 v2 v3 v4 q3.1 q F e
theorem fX6_findsBest_b15 (h0 : Hp) (k4 : Hp → Int32 → Int32 → Int32 → Option (Int32 × Hp)) (hk4 : ∀ (h : Hp) (v1 : Int32) (v2 : Int32) (v3 : Int32) (q : (Int32 × Hp)), Fr (wX6_findsBest) zX6_findsBest h0 h → k4 h v1 v2 v3 = some q → Fr (wX6_findsBest) zX6_findsBest h0 q.2) : ∀ (n : Nat) (h : Hp) (v1 : Int32) (v2 : Int32) (v3 : Int32) (v4 : Int32) (q : (Int32 × Hp)), Fr (wX6_findsBest) zX6_findsBest h0 h → sX6_findsBest_b15 k4 n h v1 v2 v3 v4 = some q → Fr (wX6_findsBest) zX6_findsBest h0 q.2
  | 0 => fun _ _ _ _ _ _ _ e => by cases e
  | n + 1 => fun h v1 v2 v3 v4 q F e => fX6_findsBest_c15 h0 k4 hk4 (sX6_findsBest_b15 k4 n) (fX6_findsBest_b15 h0 k4 hk4 n) h v1 v2 v3 v4 q F e
set_option maxRecDepth 10000 in
theorem fX6_findsBest_c4 (h0 : Hp) (k4 : Hp → Int32 → Int32 → Int32 → Option (Int32 × Hp)) (hk4 : ∀ (h : Hp) (v1 : Int32) (v2 : Int32) (v3 : Int32) (q : (Int32 × Hp)), Fr (wX6_findsBest) zX6_findsBest h0 h → k4 h v1 v2 v3 = some q → Fr (wX6_findsBest) zX6_findsBest h0 q.2) (h : Hp) (v1 : Int32) (v2 : Int32) (v3 : Int32) (q : (Int32 × Hp)) (F : Fr (wX6_findsBest) zX6_findsBest h0 h) (e : sX6_findsBest_c4 k4 h v1 v2 v3 = some q) : Fr (wX6_findsBest) zX6_findsBest h0 q.2 := by
  unfold sX6_findsBest_c4 at e
  by_cases c : (h.1 54 7) ≤ v3
  · rw [if_pos c] at e
    exact Fr.e1 F e
  · rw [if_neg c] at e
    exact fX6_findsBest_b15 h0 k4 hk4 FU h v1 v2 v3 (0 : Int32) q F e
theorem fX6_findsBest_b4 (h0 : Hp) : ∀ (n : Nat) (h : Hp) (v1 : Int32) (v2 : Int32) (v3 : Int32) (q : (Int32 × Hp)), Fr (wX6_findsBest) zX6_findsBest h0 h → sX6_findsBest_b4 n h v1 v2 v3 = some q → Fr (wX6_findsBest) zX6_findsBest h0 q.2
  | 0 => fun _ _ _ _ _ _ e => by cases e
  | n + 1 => fun h v1 v2 v3 q F e => fX6_findsBest_c4 h0 (sX6_findsBest_b4 n) (fX6_findsBest_b4 h0 n) h v1 v2 v3 q F e
set_option maxRecDepth 10000 in
theorem fX6_findsBest (h : Hp) (a1 : Int32) (q : (Int32 × Hp)) (e : sX6_findsBest h a1 = some q) : Fr (wX6_findsBest) zX6_findsBest h q.2 := by
  unfold sX6_findsBest at e
  have F : Fr (wX6_findsBest) zX6_findsBest h h := Fr.rf
  exact fX6_findsBest_b4 h FU h a1 (0 : Int32) (0 : Int32) q F e

-- X6_area
abbrev wX6_area : List (Nat × Option Nat) := [(54, some 0), (54, some 17), (54, some 18), (63, none), (64, none), (54, some 19), (54, some 21)]
abbrev zX6_area : List Nat := []
set_option maxRecDepth 10000 in
theorem fX6_area (h : Hp) (a1 : Int32) (a2 : Int32) (q : (Int32 × Hp)) (e : sX6_area h a1 a2 = some q) : Fr (wX6_area) zX6_area h q.2 := by
  unfold sX6_area at e
  have F : Fr (wX6_area) zX6_area h h := Fr.rf
  obtain ⟨h1, eh1, e⟩ := nm_s e
  have F := Fr.w1 F eh1 (Or.inr (by decide))
  obtain ⟨q2, eq2, e⟩ := bd_s e
  have F := Fr.tr F (fX6_isMatch h1 a1 a2 q2 eq2) (fun _ hh => absurd hh List.not_mem_nil) (by decide)
  by_cases c : q2.1 = 0
  · rw [if_pos c] at e
    exact Fr.e1 F e
  · rw [if_neg c] at e
    obtain ⟨q3, eq3, e⟩ := bd_s e
    have F := Fr.tr F (fX6_finds q2.2 q3 eq3) (by decide) (by decide)
    obtain ⟨q4, eq4, e⟩ := bd_s e
    have F := Fr.tr F (fX6_areaOf q3 a1 a2 q4 eq4) (fun _ hh => absurd hh List.not_mem_nil) (by decide)
    exact Fr.e1 F e

-- X6_total
abbrev wX6_total : List (Nat × Option Nat) := [(54, some 0), (54, some 17), (54, some 18), (63, none), (64, none), (54, some 19), (54, some 21), (54, some 1)]
abbrev zX6_total : List Nat := [55]
set_option maxRecDepth 10000 in
theorem fX6_total_c96 (h0 : Hp) (k21 : Hp → Int32 → Int32 → Int32 → Int32 → Int32 → Option (Int32 × Hp)) (hk21 : ∀ (h : Hp) (v1 : Int32) (v2 : Int32) (v3 : Int32) (v4 : Int32) (v5 : Int32) (q : (Int32 × Hp)), Fr (wX6_total) zX6_total h0 h → k21 h v1 v2 v3 v4 v5 = some q → Fr (wX6_total) zX6_total h0 q.2) (k30 : Hp → Int32 → Int32 → Int32 → Int32 → Int32 → Int32 → Option (Int32 × Hp)) (hk30 : ∀ (h : Hp) (v1 : Int32) (v2 : Int32) (v3 : Int32) (v4 : Int32) (v5 : Int32) (v6 : Int32) (q : (Int32 × Hp)), Fr (wX6_total) zX6_total h0 h → k30 h v1 v2 v3 v4 v5 v6 = some q → Fr (wX6_total) zX6_total h0 q.2) (h : Hp) (v1 : Int32) (v2 : Int32) (v4 : Int32) (v5 : Int32) (v6 : Int32) (v7 : Int32) (t0 : Int32) (q : (Int32 × Hp)) (F : Fr (wX6_total) zX6_total h0 h) (e : sX6_total_c96 k21 k30 h v1 v2 v4 v5 v6 v7 t0 = some q) : Fr (wX6_total) zX6_total h0 q.2 := by
  unfold sX6_total_c96 at e
  obtain ⟨x12, ex12, e⟩ := nm_s e
  obtain ⟨x13, ex13, e⟩ := nm_s e
  exact hk30 h v1 v2 t0 x12 v5 x13 q F e
set_option maxRecDepth 10000 in
theorem fX6_total_c63 (h0 : Hp) (k21 : Hp → Int32 → Int32 → Int32 → Int32 → Int32 → Option (Int32 × Hp)) (hk21 : ∀ (h : Hp) (v1 : Int32) (v2 : Int32) (v3 : Int32) (v4 : Int32) (v5 : Int32) (q : (Int32 × Hp)), Fr (wX6_total) zX6_total h0 h → k21 h v1 v2 v3 v4 v5 = some q → Fr (wX6_total) zX6_total h0 q.2) (k30 : Hp → Int32 → Int32 → Int32 → Int32 → Int32 → Int32 → Option (Int32 × Hp)) (hk30 : ∀ (h : Hp) (v1 : Int32) (v2 : Int32) (v3 : Int32) (v4 : Int32) (v5 : Int32) (v6 : Int32) (q : (Int32 × Hp)), Fr (wX6_total) zX6_total h0 h → k30 h v1 v2 v3 v4 v5 v6 = some q → Fr (wX6_total) zX6_total h0 q.2) (h : Hp) (v1 : Int32) (v3 : Int32) (v4 : Int32) (v5 : Int32) (v6 : Int32) (v7 : Int32) (t0 : Int32) (t1 : Int32) (q : (Int32 × Hp)) (F : Fr (wX6_total) zX6_total h0 h) (e : sX6_total_c63 k21 k30 h v1 v3 v4 v5 v6 v7 t0 t1 = some q) : Fr (wX6_total) zX6_total h0 q.2 := by
  unfold sX6_total_c63 at e
  obtain ⟨q9, eq9, e⟩ := bd_s e
  have F := Fr.tr F (fX6_flag h t0 q9 eq9) (fun _ hh => absurd hh List.not_mem_nil) (by decide)
  obtain ⟨x10, ex10, e⟩ := nm_s e
  obtain ⟨x11, ex11, e⟩ := nm_s e
  by_cases c : v7 ≤ v4
  · rw [if_pos c] at e
    exact fX6_total_c96 h0 k21 hk21 k30 hk30 q9.2 x11 x10 v4 v5 v6 v7 v3 q F e
  · rw [if_neg c] at e
    exact fX6_total_c96 h0 k21 hk21 k30 hk30 q9.2 x11 x10 v4 v5 v6 v7 (((100 : Int32) * v5) + v6) q F e
set_option maxRecDepth 10000 in
theorem fX6_total_c30 (h0 : Hp) (k21 : Hp → Int32 → Int32 → Int32 → Int32 → Int32 → Option (Int32 × Hp)) (hk21 : ∀ (h : Hp) (v1 : Int32) (v2 : Int32) (v3 : Int32) (v4 : Int32) (v5 : Int32) (q : (Int32 × Hp)), Fr (wX6_total) zX6_total h0 h → k21 h v1 v2 v3 v4 v5 = some q → Fr (wX6_total) zX6_total h0 q.2) (k30 : Hp → Int32 → Int32 → Int32 → Int32 → Int32 → Int32 → Option (Int32 × Hp)) (hk30 : ∀ (h : Hp) (v1 : Int32) (v2 : Int32) (v3 : Int32) (v4 : Int32) (v5 : Int32) (v6 : Int32) (q : (Int32 × Hp)), Fr (wX6_total) zX6_total h0 h → k30 h v1 v2 v3 v4 v5 v6 = some q → Fr (wX6_total) zX6_total h0 q.2) (h : Hp) (v1 : Int32) (v2 : Int32) (v3 : Int32) (v4 : Int32) (v5 : Int32) (v6 : Int32) (q : (Int32 × Hp)) (F : Fr (wX6_total) zX6_total h0 h) (e : sX6_total_c30 k21 k30 h v1 v2 v3 v4 v5 v6 = some q) : Fr (wX6_total) zX6_total h0 q.2 := by
  unfold sX6_total_c30 at e
  obtain ⟨c6, e⟩ := gd_s e
  by_cases c : (h.1 67 v5.toNatClampNeg) ≤ v6
  · rw [if_pos c] at e
    obtain ⟨x7, ex7, e⟩ := nm_s e
    exact hk21 h v1 v2 v3 v4 x7 q F e
  · rw [if_neg c] at e
    obtain ⟨q8, eq8, e⟩ := bd_s e
    have F := Fr.tr F (fX6_areaOf h v5 v6 q8 eq8) (fun _ hh => absurd hh List.not_mem_nil) (by decide)
    by_cases c : 0 ≤ q8.1
    · rw [if_pos c] at e
      exact fX6_total_c63 h0 k21 hk21 k30 hk30 q8.2 v1 v3 v4 v5 v6 q8.1 (0 : Int32) v2 q F e
    · rw [if_neg c] at e
      exact fX6_total_c63 h0 k21 hk21 k30 hk30 q8.2 v1 v3 v4 v5 v6 q8.1 (1 : Int32) v2 q F e
theorem fX6_total_b30 (h0 : Hp) (k21 : Hp → Int32 → Int32 → Int32 → Int32 → Int32 → Option (Int32 × Hp)) (hk21 : ∀ (h : Hp) (v1 : Int32) (v2 : Int32) (v3 : Int32) (v4 : Int32) (v5 : Int32) (q : (Int32 × Hp)), Fr (wX6_total) zX6_total h0 h → k21 h v1 v2 v3 v4 v5 = some q → Fr (wX6_total) zX6_total h0 q.2) : ∀ (n : Nat) (h : Hp) (v1 : Int32) (v2 : Int32) (v3 : Int32) (v4 : Int32) (v5 : Int32) (v6 : Int32) (q : (Int32 × Hp)), Fr (wX6_total) zX6_total h0 h → sX6_total_b30 k21 n h v1 v2 v3 v4 v5 v6 = some q → Fr (wX6_total) zX6_total h0 q.2
  | 0 => fun _ _ _ _ _ _ _ _ _ e => by cases e
  | n + 1 => fun h v1 v2 v3 v4 v5 v6 q F e => fX6_total_c30 h0 k21 hk21 (sX6_total_b30 k21 n) (fX6_total_b30 h0 k21 hk21 n) h v1 v2 v3 v4 v5 v6 q F e
set_option maxRecDepth 10000 in
theorem fX6_total_c21 (h0 : Hp) (k21 : Hp → Int32 → Int32 → Int32 → Int32 → Int32 → Option (Int32 × Hp)) (hk21 : ∀ (h : Hp) (v1 : Int32) (v2 : Int32) (v3 : Int32) (v4 : Int32) (v5 : Int32) (q : (Int32 × Hp)), Fr (wX6_total) zX6_total h0 h → k21 h v1 v2 v3 v4 v5 = some q → Fr (wX6_total) zX6_total h0 q.2) (h : Hp) (v1 : Int32) (v2 : Int32) (v3 : Int32) (v4 : Int32) (v5 : Int32) (q : (Int32 × Hp)) (F : Fr (wX6_total) zX6_total h0 h) (e : sX6_total_c21 k21 h v1 v2 v3 v4 v5 = some q) : Fr (wX6_total) zX6_total h0 q.2 := by
  unfold sX6_total_c21 at e
  by_cases c : (2 : Int32) ≤ v5
  · rw [if_pos c] at e
    obtain ⟨h3, eh3, e⟩ := nm_s e
    have F := Fr.w1 F eh3 (Or.inr (by decide))
    obtain ⟨q4, eq4, e⟩ := bd_s e
    have F := Fr.tr F (fX6_enters h3 v2.toInt64 q4 eq4) (by decide) (by decide)
    obtain ⟨q5, eq5, e⟩ := bd_s e
    have F := Fr.tr F (fX6_enters q4 v3.toInt64 q5 eq5) (by decide) (by decide)
    exact Fr.e1 F e
  · rw [if_neg c] at e
    exact fX6_total_b30 h0 k21 hk21 FU h v1 v2 v3 v4 v5 (0 : Int32) q F e
theorem fX6_total_b21 (h0 : Hp) : ∀ (n : Nat) (h : Hp) (v1 : Int32) (v2 : Int32) (v3 : Int32) (v4 : Int32) (v5 : Int32) (q : (Int32 × Hp)), Fr (wX6_total) zX6_total h0 h → sX6_total_b21 n h v1 v2 v3 v4 v5 = some q → Fr (wX6_total) zX6_total h0 q.2
  | 0 => fun _ _ _ _ _ _ _ _ e => by cases e
  | n + 1 => fun h v1 v2 v3 v4 v5 q F e => fX6_total_c21 h0 (sX6_total_b21 n) (fX6_total_b21 h0 n) h v1 v2 v3 v4 v5 q F e
set_option maxRecDepth 10000 in
theorem fX6_total (h : Hp) (q : (Int32 × Hp)) (e : sX6_total h = some q) : Fr (wX6_total) zX6_total h q.2 := by
  unfold sX6_total at e
  have F : Fr (wX6_total) zX6_total h h := Fr.rf
  obtain ⟨h1, eh1, e⟩ := nm_s e
  have F := Fr.w1 F eh1 (Or.inr (by decide))
  obtain ⟨q2, eq2, e⟩ := bd_s e
  have F := Fr.tr F (fX6_finds h1 q2 eq2) (by decide) (by decide)
  exact fX6_total_b21 h FU q2 (0 : Int32) (0 : Int32) (-1 : Int32) (0 : Int32) (0 : Int32) q F e

-- X6_left
abbrev wX6_left : List (Nat × Option Nat) := [(54, some 0), (54, some 17), (54, some 18), (63, none), (64, none), (54, some 19), (54, some 21), (54, some 1)]
abbrev zX6_left : List Nat := [55]
set_option maxRecDepth 10000 in
theorem fX6_left (h : Hp) (q : (Int32 × Hp)) (e : sX6_left h = some q) : Fr (wX6_left) zX6_left h q.2 := by
  unfold sX6_left at e
  have F : Fr (wX6_left) zX6_left h h := Fr.rf
  obtain ⟨h1, eh1, e⟩ := nm_s e
  have F := Fr.w1 F eh1 (Or.inr (by decide))
  obtain ⟨q2, eq2, e⟩ := bd_s e
  have F := Fr.tr F (fX6_finds h1 q2 eq2) (by decide) (by decide)
  obtain ⟨q3, eq3, e⟩ := bd_s e
  have F := Fr.tr F (fX6_rests q2 (0 : Int32) (0 : Int32) q3 eq3) (fun _ hh => absurd hh List.not_mem_nil) (by decide)
  obtain ⟨q4, eq4, e⟩ := bd_s e
  have F := Fr.tr F (fX6_rests q3.2 (1 : Int32) (0 : Int32) q4 eq4) (fun _ hh => absurd hh List.not_mem_nil) (by decide)
  obtain ⟨x5, ex5, e⟩ := nm_s e
  obtain ⟨h6, eh6, e⟩ := nm_s e
  have F := Fr.w1 F eh6 (Or.inr (by decide))
  obtain ⟨q7, eq7, e⟩ := bd_s e
  have F := Fr.tr F (fX6_rests h6 (0 : Int32) (1 : Int32) q7 eq7) (fun _ hh => absurd hh List.not_mem_nil) (by decide)
  obtain ⟨q8, eq8, e⟩ := bd_s e
  have F := Fr.tr F (fX6_rests q7.2 (1 : Int32) (1 : Int32) q8 eq8) (fun _ hh => absurd hh List.not_mem_nil) (by decide)
  obtain ⟨q9, eq9, e⟩ := bd_s e
  have F := Fr.tr F (fX6_enters q8.2 ((q7.1 + q8.1).toInt64) q9 eq9) (by decide) (by decide)
  obtain ⟨q10, eq10, e⟩ := bd_s e
  have F := Fr.tr F (fX6_enters q9 ((x5 - (q9.1 54 18)).toInt64) q10 eq10) (by decide) (by decide)
  exact Fr.e1 F e

-- X6_ticks
abbrev wX6_ticks : List (Nat × Option Nat) := [(54, some 0), (54, some 17), (54, some 18), (63, none), (64, none), (54, some 19), (54, some 21), (54, some 28), (54, some 29), (68, none), (69, none), (70, none), (67, none), (54, some 1)]
abbrev zX6_ticks : List Nat := [55]
set_option maxRecDepth 10000 in
theorem fX6_ticks_c77 (h0 : Hp) (h : Hp) (v1 : Int32) (v2 : Int32) (q : (Int32 × Hp)) (F : Fr (wX6_ticks) zX6_ticks h0 h) (e : sX6_ticks_c77 h v1 v2 = some q) : Fr (wX6_ticks) zX6_ticks h0 q.2 := by
  unfold sX6_ticks_c77 at e
  obtain ⟨h12, eh12, e⟩ := nm_s e
  have F := Fr.w1 F eh12 (Or.inr (by decide))
  obtain ⟨q13, eq13, e⟩ := bd_s e
  have F := Fr.tr F (fX6_rests h12 v1 (1 : Int32) q13 eq13) (fun _ hh => absurd hh List.not_mem_nil) (by decide)
  obtain ⟨q14, eq14, e⟩ := bd_s e
  have F := Fr.tr F (fX6_enters q13.2 q13.1.toInt64 q14 eq14) (by decide) (by decide)
  obtain ⟨q15, eq15, e⟩ := bd_s e
  have F := Fr.tr F (fX6_rests q14 v1 (0 : Int32) q15 eq15) (fun _ hh => absurd hh List.not_mem_nil) (by decide)
  obtain ⟨q16, eq16, e⟩ := bd_s e
  have F := Fr.tr F (fX6_enters q15.2 q15.1.toInt64 q16 eq16) (by decide) (by decide)
  exact Fr.e1 F e
set_option maxRecDepth 10000 in
theorem fX6_ticks_c26 (h0 : Hp) (k26 : Hp → Int32 → Int32 → Int32 → Option (Int32 × Hp)) (hk26 : ∀ (h : Hp) (v1 : Int32) (v2 : Int32) (v3 : Int32) (q : (Int32 × Hp)), Fr (wX6_ticks) zX6_ticks h0 h → k26 h v1 v2 v3 = some q → Fr (wX6_ticks) zX6_ticks h0 q.2) (h : Hp) (v1 : Int32) (v2 : Int32) (v3 : Int32) (q : (Int32 × Hp)) (F : Fr (wX6_ticks) zX6_ticks h0 h) (e : sX6_ticks_c26 k26 h v1 v2 v3 = some q) : Fr (wX6_ticks) zX6_ticks h0 q.2 := by
  unfold sX6_ticks_c26 at e
  by_cases c : v3 ≤ 0
  · rw [if_pos c] at e
    exact fX6_ticks_c77 h0 h v1 v2 q F e
  · rw [if_neg c] at e
    obtain ⟨c5, e⟩ := gd_s e
    by_cases c : (24 : Int32) ≤ (h.1 67 v1.toNatClampNeg)
    · rw [if_pos c] at e
      exact fX6_ticks_c77 h0 h v1 v2 q F e
    · rw [if_neg c] at e
      obtain ⟨q6, eq6, e⟩ := bd_s e
      have F := Fr.tr F (fX6_laysMatch h v1 (h.1 54 28) (h.1 54 29) v3 q6 eq6) (by decide) (by decide)
      obtain ⟨c7, e⟩ := gd_s e
      obtain ⟨c8, e⟩ := gd_s e
      obtain ⟨h9, eh9, e⟩ := nm_s e
      have F := Fr.w1 F eh9 (Or.inl (by decide))
      obtain ⟨x10, ex10, e⟩ := nm_s e
      obtain ⟨q11, eq11, e⟩ := bd_s e
      have F := Fr.tr F (fX6_findsBest h9 v1 q11 eq11) (by decide) (by decide)
      exact hk26 q11.2 v1 x10 q11.1 q F e
theorem fX6_ticks_b26 (h0 : Hp) : ∀ (n : Nat) (h : Hp) (v1 : Int32) (v2 : Int32) (v3 : Int32) (q : (Int32 × Hp)), Fr (wX6_ticks) zX6_ticks h0 h → sX6_ticks_b26 n h v1 v2 v3 = some q → Fr (wX6_ticks) zX6_ticks h0 q.2
  | 0 => fun _ _ _ _ _ _ e => by cases e
  | n + 1 => fun h v1 v2 v3 q F e => fX6_ticks_c26 h0 (sX6_ticks_b26 n) (fX6_ticks_b26 h0 n) h v1 v2 v3 q F e
set_option maxRecDepth 10000 in
theorem fX6_ticks (h : Hp) (a1 : Int32) (q : (Int32 × Hp)) (e : sX6_ticks h a1 = some q) : Fr (wX6_ticks) zX6_ticks h q.2 := by
  unfold sX6_ticks at e
  have F : Fr (wX6_ticks) zX6_ticks h h := Fr.rf
  obtain ⟨h1, eh1, e⟩ := nm_s e
  have F := Fr.w1 F eh1 (Or.inr (by decide))
  obtain ⟨q2, eq2, e⟩ := bd_s e
  have F := Fr.tr F (fX6_isSide h1 a1 q2 eq2) (fun _ hh => absurd hh List.not_mem_nil) (by decide)
  by_cases c : q2.1 = 0
  · rw [if_pos c] at e
    exact Fr.e1 F e
  · rw [if_neg c] at e
    obtain ⟨q3, eq3, e⟩ := bd_s e
    have F := Fr.tr F (fX6_finds q2.2 q3 eq3) (by decide) (by decide)
    obtain ⟨q4, eq4, e⟩ := bd_s e
    have F := Fr.tr F (fX6_findsBest q3 a1 q4 eq4) (by decide) (by decide)
    exact fX6_ticks_b26 h FU q4.2 a1 (0 : Int32) q4.1 q F e

-- X6_isRight
abbrev wX6_isRight : List (Nat × Option Nat) := [(67, none), (68, none), (69, none), (70, none), (54, some 1)]
abbrev zX6_isRight : List Nat := [55]
set_option maxRecDepth 10000 in
theorem fX6_isRight (h : Hp) (a1 : Int32) (q : (Int32 × Hp)) (e : sX6_isRight h a1 = some q) : Fr (wX6_isRight) zX6_isRight h q.2 := by
  unfold sX6_isRight at e
  have F : Fr (wX6_isRight) zX6_isRight h h := Fr.rf
  obtain ⟨q1, eq1, e⟩ := bd_s e
  have F := Fr.tr F (fX6_firstBad h a1 q1 eq1) (fun _ hh => absurd hh List.not_mem_nil) (by decide)
  by_cases c : 0 ≤ q1.1
  · rw [if_pos c] at e
    obtain ⟨q2, eq2, e⟩ := bd_s e
    have F := Fr.tr F (fX6_comesBack q1.2 a1 q2 eq2) (by decide) (by decide)
    obtain ⟨h3, eh3, e⟩ := nm_s e
    have F := Fr.w1 F eh3 (Or.inr (by decide))
    obtain ⟨q4, eq4, e⟩ := bd_s e
    have F := Fr.tr F (fX6_enters h3 q1.1.toInt64 q4 eq4) (by decide) (by decide)
    exact Fr.e1 F e
  · rw [if_neg c] at e
    exact Fr.e1 F e

-- X6_leaves
abbrev wX6_leaves : List (Nat × Option Nat) := [(54, some 0), (54, some 17), (54, some 18), (63, none), (64, none), (54, some 19), (54, some 21), (54, some 33), (71, none), (72, none), (73, none), (70, none), (67, none), (68, none), (69, none), (54, some 1)]
abbrev zX6_leaves : List Nat := [55]
set_option maxRecDepth 10000 in
theorem fX6_leaves_c60 (h0 : Hp) (h : Hp) (t0 : Int32) (q : (Int32 × Hp)) (F : Fr (wX6_leaves) zX6_leaves h0 h) (e : sX6_leaves_c60 h t0 = some q) : Fr (wX6_leaves) zX6_leaves h0 q.2 := by
  unfold sX6_leaves_c60 at e
  exact Fr.e1 F e
set_option maxRecDepth 10000 in
theorem fX6_leaves (h : Hp) (a1 : Int32) (a2 : Int32) (q : (Int32 × Hp)) (e : sX6_leaves h a1 a2 = some q) : Fr (wX6_leaves) zX6_leaves h q.2 := by
  unfold sX6_leaves at e
  have F : Fr (wX6_leaves) zX6_leaves h h := Fr.rf
  obtain ⟨h1, eh1, e⟩ := nm_s e
  have F := Fr.w1 F eh1 (Or.inr (by decide))
  obtain ⟨q2, eq2, e⟩ := bd_s e
  have F := Fr.tr F (fX6_isMatch h1 a1 a2 q2 eq2) (fun _ hh => absurd hh List.not_mem_nil) (by decide)
  by_cases c : q2.1 = 0
  · rw [if_pos c] at e
    exact Fr.e1 F e
  · rw [if_neg c] at e
    obtain ⟨q3, eq3, e⟩ := bd_s e
    have F := Fr.tr F (fX6_finds q2.2 q3 eq3) (by decide) (by decide)
    obtain ⟨q4, eq4, e⟩ := bd_s e
    have F := Fr.tr F (fX6_saves q3 a1 q4 eq4) (by decide) (by decide)
    obtain ⟨q5, eq5, e⟩ := bd_s e
    have F := Fr.tr F (fX6_place q4 a1 a2 q5 eq5) (fun _ hh => absurd hh List.not_mem_nil) (by decide)
    obtain ⟨c6, e⟩ := gd_s e
    obtain ⟨h7, eh7, e⟩ := nm_s e
    have F := Fr.w1 F eh7 (Or.inl (by decide))
    obtain ⟨q8, eq8, e⟩ := bd_s e
    have F := Fr.tr F (fX6_closesUp h7 a1 q8 eq8) (by decide) (by decide)
    obtain ⟨q9, eq9, e⟩ := bd_s e
    have F := Fr.tr F (fX6_isRight q8 a1 q9 eq9) (by decide) (by decide)
    by_cases c : q9.1 = 0
    · rw [if_pos c] at e
      exact fX6_leaves_c60 h q9.2 (-4 : Int32) q F e
    · rw [if_neg c] at e
      obtain ⟨c10, e⟩ := gd_s e
      exact fX6_leaves_c60 h q9.2 (q9.2.1 67 a1.toNatClampNeg) q F e

-- X6_loads
abbrev wX6_loads : List (Nat × Option Nat) := [(54, some 0), (54, some 17), (54, some 18), (63, none), (64, none), (54, some 19), (54, some 21), (54, some 33), (71, none), (72, none), (73, none), (70, none), (67, none), (68, none), (69, none), (54, some 1)]
abbrev zX6_loads : List Nat := [55]
set_option maxRecDepth 10000 in
theorem fX6_loads_c19 (h0 : Hp) (h : Hp) (q : (Int32 × Hp)) (F : Fr (wX6_loads) zX6_loads h0 h) (e : sX6_loads_c19 h = some q) : Fr (wX6_loads) zX6_loads h0 q.2 := by
  unfold sX6_loads_c19 at e
  exact Fr.e1 F e
set_option maxRecDepth 10000 in
theorem fX6_loads_c88 (h0 : Hp) (h : Hp) (q : (Int32 × Hp)) (F : Fr (wX6_loads) zX6_loads h0 h) (e : sX6_loads_c88 h = some q) : Fr (wX6_loads) zX6_loads h0 q.2 := by
  unfold sX6_loads_c88 at e
  exact Fr.e1 F e
set_option maxRecDepth 10000 in
theorem fX6_loads_c119 (h0 : Hp) (h : Hp) (t0 : Int32) (q : (Int32 × Hp)) (F : Fr (wX6_loads) zX6_loads h0 h) (e : sX6_loads_c119 h t0 = some q) : Fr (wX6_loads) zX6_loads h0 q.2 := by
  unfold sX6_loads_c119 at e
  exact Fr.e1 F e
set_option maxRecDepth 10000 in
theorem fX6_loads (h : Hp) (a1 : Int32) (a2 : Int32) (a3 : Int32) (q : (Int32 × Hp)) (e : sX6_loads h a1 a2 a3 = some q) : Fr (wX6_loads) zX6_loads h q.2 := by
  unfold sX6_loads at e
  have F : Fr (wX6_loads) zX6_loads h h := Fr.rf
  obtain ⟨h1, eh1, e⟩ := nm_s e
  have F := Fr.w1 F eh1 (Or.inr (by decide))
  obtain ⟨q2, eq2, e⟩ := bd_s e
  have F := Fr.tr F (fX6_isMatch h1 a1 a2 q2 eq2) (fun _ hh => absurd hh List.not_mem_nil) (by decide)
  by_cases c : q2.1 = 0
  · rw [if_pos c] at e
    exact fX6_loads_c19 h q2.2 q F e
  · rw [if_neg c] at e
    by_cases c : (1 : Int32) ≤ a3
    · rw [if_pos c] at e
      obtain ⟨q3, eq3, e⟩ := bd_s e
      have F := Fr.tr F (fX6_place q2.2 a1 a2 q3 eq3) (fun _ hh => absurd hh List.not_mem_nil) (by decide)
      obtain ⟨c4, e⟩ := gd_s e
      obtain ⟨x5, ex5, e⟩ := nm_s e
      by_cases c : x5 = a3
      · rw [if_pos c] at e
        exact Fr.e1 F e
      · rw [if_neg c] at e
        obtain ⟨q6, eq6, e⟩ := bd_s e
        have F := Fr.tr F (fX6_finds q3.2 q6 eq6) (by decide) (by decide)
        obtain ⟨c7, e⟩ := gd_s e
        obtain ⟨q8, eq8, e⟩ := bd_s e
        have F := Fr.tr F (fX6_rest q6 a1 (q6.1 68 q3.1.toNatClampNeg) q8 eq8) (fun _ hh => absurd hh List.not_mem_nil) (by decide)
        by_cases c : q8.1 < (a3 - x5)
        · rw [if_pos c] at e
          exact fX6_loads_c88 h q8.2 q F e
        · rw [if_neg c] at e
          obtain ⟨c9, e⟩ := gd_s e
          obtain ⟨q10, eq10, e⟩ := bd_s e
          have F := Fr.tr F (fX6_rest q8.2 a1 (q8.2.1 69 q3.1.toNatClampNeg) q10 eq10) (fun _ hh => absurd hh List.not_mem_nil) (by decide)
          by_cases c : (a3 - x5) ≤ q10.1
          · rw [if_pos c] at e
            obtain ⟨q11, eq11, e⟩ := bd_s e
            have F := Fr.tr F (fX6_saves q10.2 a1 q11 eq11) (by decide) (by decide)
            obtain ⟨c12, e⟩ := gd_s e
            obtain ⟨h13, eh13, e⟩ := nm_s e
            have F := Fr.w1 F eh13 (Or.inl (by decide))
            obtain ⟨q14, eq14, e⟩ := bd_s e
            have F := Fr.tr F (fX6_isRight h13 a1 q14 eq14) (by decide) (by decide)
            by_cases c : q14.1 = 0
            · rw [if_pos c] at e
              exact fX6_loads_c119 h q14.2 (-4 : Int32) q F e
            · rw [if_neg c] at e
              exact fX6_loads_c119 h q14.2 x5 q F e
          · rw [if_neg c] at e
            exact fX6_loads_c88 h q10.2 q F e
    · rw [if_neg c] at e
      exact fX6_loads_c19 h q2.2 q F e

-- X6_findsLoop
abbrev wX6_findsLoop : List (Nat × Option Nat) := [(74, none), (54, some 35)]
abbrev zX6_findsLoop : List Nat := []
set_option maxRecDepth 10000 in
theorem fX6_findsLoop_c12 (h0 : Hp) (k12 : Hp → Int32 → Int32 → Option (Int32 × Hp)) (hk12 : ∀ (h : Hp) (v1 : Int32) (v2 : Int32) (q : (Int32 × Hp)), Fr (wX6_findsLoop) zX6_findsLoop h0 h → k12 h v1 v2 = some q → Fr (wX6_findsLoop) zX6_findsLoop h0 q.2) (h : Hp) (v1 : Int32) (v2 : Int32) (q : (Int32 × Hp)) (F : Fr (wX6_findsLoop) zX6_findsLoop h0 h) (e : sX6_findsLoop_c12 k12 h v1 v2 = some q) : Fr (wX6_findsLoop) zX6_findsLoop h0 q.2 := by
  unfold sX6_findsLoop_c12 at e
  obtain ⟨c3, e⟩ := gd_s e
  by_cases c : (h.1 67 v1.toNatClampNeg) < (h.1 54 35)
  · rw [if_pos c] at e
    exact Fr.e1 F e
  · rw [if_neg c] at e
    obtain ⟨q4, eq4, e⟩ := bd_s e
    have F := Fr.tr F (fX6_place h v1 v2 q4 eq4) (fun _ hh => absurd hh List.not_mem_nil) (by decide)
    obtain ⟨c5, e⟩ := gd_s e
    obtain ⟨q6, eq6, e⟩ := bd_s e
    have F := Fr.tr F (fX6_goesRound 30 q4.2 v1 (1 : Int32) ((1 : Int32) <<< ((q4.2.1 69 q4.1.toNatClampNeg) &&& 31)) ((1 : Int32) <<< (v2 &&& 31)) q6 eq6) (by decide) (by decide)
    by_cases c : q6.1 = 0
    · rw [if_pos c] at e
      obtain ⟨h7, eh7, e⟩ := nm_s e
      have F := Fr.w1 F eh7 (Or.inr (by decide))
      exact hk12 h7 v1 v2 q F e
    · rw [if_neg c] at e
      exact Fr.e1 F e
theorem fX6_findsLoop_b12 (h0 : Hp) : ∀ (n : Nat) (h : Hp) (v1 : Int32) (v2 : Int32) (q : (Int32 × Hp)), Fr (wX6_findsLoop) zX6_findsLoop h0 h → sX6_findsLoop_b12 n h v1 v2 = some q → Fr (wX6_findsLoop) zX6_findsLoop h0 q.2
  | 0 => fun _ _ _ _ _ e => by cases e
  | n + 1 => fun h v1 v2 q F e => fX6_findsLoop_c12 h0 (sX6_findsLoop_b12 n) (fX6_findsLoop_b12 h0 n) h v1 v2 q F e
set_option maxRecDepth 10000 in
theorem fX6_findsLoop (h : Hp) (a1 : Int32) (a2 : Int32) (q : (Int32 × Hp)) (e : sX6_findsLoop h a1 a2 = some q) : Fr (wX6_findsLoop) zX6_findsLoop h q.2 := by
  unfold sX6_findsLoop at e
  have F : Fr (wX6_findsLoop) zX6_findsLoop h h := Fr.rf
  obtain ⟨h1, eh1, e⟩ := nm_s e
  have F := Fr.w1 F eh1 (Or.inl (by decide))
  obtain ⟨h2, eh2, e⟩ := nm_s e
  have F := Fr.w1 F eh2 (Or.inr (by decide))
  exact fX6_findsLoop_b12 h FU h2 a1 a2 q F e

-- X6_loop
abbrev wX6_loop : List (Nat × Option Nat) := [(54, some 0), (74, none), (54, some 35), (54, some 1)]
abbrev zX6_loop : List Nat := [55]
set_option maxRecDepth 10000 in
theorem fX6_loop_c38 (h0 : Hp) (k38 : Hp → Int32 → Int32 → Option (Int32 × Hp)) (hk38 : ∀ (h : Hp) (v3 : Int32) (v4 : Int32) (q : (Int32 × Hp)), Fr (wX6_loop) zX6_loop h0 h → k38 h v3 v4 = some q → Fr (wX6_loop) zX6_loop h0 q.2) (h : Hp) (v3 : Int32) (v4 : Int32) (q : (Int32 × Hp)) (F : Fr (wX6_loop) zX6_loop h0 h) (e : sX6_loop_c38 k38 h v3 v4 = some q) : Fr (wX6_loop) zX6_loop h0 q.2 := by
  unfold sX6_loop_c38 at e
  by_cases c : v3 ≤ v4
  · rw [if_pos c] at e
    exact Fr.e1 F e
  · rw [if_neg c] at e
    obtain ⟨c5, e⟩ := gd_s e
    obtain ⟨q6, eq6, e⟩ := bd_s e
    have F := Fr.tr F (fX6_enters h ((h.1 74 v4.toNatClampNeg).toInt64) q6 eq6) (by decide) (by decide)
    obtain ⟨x7, ex7, e⟩ := nm_s e
    exact hk38 q6 v3 x7 q F e
theorem fX6_loop_b38 (h0 : Hp) : ∀ (n : Nat) (h : Hp) (v3 : Int32) (v4 : Int32) (q : (Int32 × Hp)), Fr (wX6_loop) zX6_loop h0 h → sX6_loop_b38 n h v3 v4 = some q → Fr (wX6_loop) zX6_loop h0 q.2
  | 0 => fun _ _ _ _ _ e => by cases e
  | n + 1 => fun h v3 v4 q F e => fX6_loop_c38 h0 (sX6_loop_b38 n) (fX6_loop_b38 h0 n) h v3 v4 q F e
set_option maxRecDepth 10000 in
theorem fX6_loop (h : Hp) (a1 : Int32) (a2 : Int32) (q : (Int32 × Hp)) (e : sX6_loop h a1 a2 = some q) : Fr (wX6_loop) zX6_loop h q.2 := by
  unfold sX6_loop at e
  have F : Fr (wX6_loop) zX6_loop h h := Fr.rf
  obtain ⟨h1, eh1, e⟩ := nm_s e
  have F := Fr.w1 F eh1 (Or.inr (by decide))
  obtain ⟨q2, eq2, e⟩ := bd_s e
  have F := Fr.tr F (fX6_isMatch h1 a1 a2 q2 eq2) (fun _ hh => absurd hh List.not_mem_nil) (by decide)
  by_cases c : q2.1 = 0
  · rw [if_pos c] at e
    exact Fr.e1 F e
  · rw [if_neg c] at e
    obtain ⟨q3, eq3, e⟩ := bd_s e
    have F := Fr.tr F (fX6_findsLoop q2.2 a1 a2 q3 eq3) (by decide) (by decide)
    by_cases c : q3.1 = 0
    · rw [if_pos c] at e
      exact Fr.e1 F e
    · rw [if_neg c] at e
      obtain ⟨h4, eh4, e⟩ := nm_s e
      have F := Fr.w1 F eh4 (Or.inr (by decide))
      exact fX6_loop_b38 h FU h4 q3.1 (0 : Int32) q F e

-- X6_breaks
abbrev wX6_breaks : List (Nat × Option Nat) := [(54, some 0), (74, none), (54, some 35), (54, some 17), (54, some 18), (63, none), (64, none), (54, some 19), (54, some 21), (54, some 33), (71, none), (72, none), (73, none), (67, none), (68, none), (69, none), (70, none), (54, some 1)]
abbrev zX6_breaks : List Nat := [55]
set_option maxRecDepth 10000 in
theorem fX6_breaks_c97 (h0 : Hp) (k54 : Hp → Int32 → Int32 → Int32 → Int32 → Option (Int32 × Hp)) (hk54 : ∀ (h : Hp) (v1 : Int32) (v3 : Int32) (v4 : Int32) (v5 : Int32) (q : (Int32 × Hp)), Fr (wX6_breaks) zX6_breaks h0 h → k54 h v1 v3 v4 v5 = some q → Fr (wX6_breaks) zX6_breaks h0 q.2) (h : Hp) (v1 : Int32) (v3 : Int32) (v4 : Int32) (v5 : Int32) (v6 : Int32) (t0 : Int32) (t1 : Int32) (t2 : Int32) (q : (Int32 × Hp)) (F : Fr (wX6_breaks) zX6_breaks h0 h) (e : sX6_breaks_c97 k54 h v1 v3 v4 v5 v6 t0 t1 t2 = some q) : Fr (wX6_breaks) zX6_breaks h0 q.2 := by
  unfold sX6_breaks_c97 at e
  obtain ⟨c15, e⟩ := gd_s e
  obtain ⟨h16, eh16, e⟩ := nm_s e
  have F := Fr.w1 F eh16 (Or.inl (by decide))
  obtain ⟨c17, e⟩ := gd_s e
  by_cases c : 0 ≤ (h16.1 70 v6.toNatClampNeg)
  · rw [if_pos c] at e
    obtain ⟨x18, ex18, e⟩ := nm_s e
    exact hk54 h16 v1 v3 v4 x18 q F e
  · rw [if_neg c] at e
    obtain ⟨q19, eq19, e⟩ := bd_s e
    have F := Fr.tr F (fX6_comesBack h16 v1 q19 eq19) (by decide) (by decide)
    obtain ⟨h20, eh20, e⟩ := nm_s e
    have F := Fr.w1 F eh20 (Or.inr (by decide))
    obtain ⟨c21, e⟩ := gd_s e
    obtain ⟨q22, eq22, e⟩ := bd_s e
    have F := Fr.tr F (fX6_enters h20 ((h20.1 74 v5.toNatClampNeg).toInt64) q22 eq22) (by decide) (by decide)
    exact Fr.e1 F e
set_option maxRecDepth 10000 in
theorem fX6_breaks_c164 (h0 : Hp) (h : Hp) (t0 : Int32) (q : (Int32 × Hp)) (F : Fr (wX6_breaks) zX6_breaks h0 h) (e : sX6_breaks_c164 h t0 = some q) : Fr (wX6_breaks) zX6_breaks h0 q.2 := by
  unfold sX6_breaks_c164 at e
  exact Fr.e1 F e
set_option maxRecDepth 10000 in
theorem fX6_breaks_c54 (h0 : Hp) (k54 : Hp → Int32 → Int32 → Int32 → Int32 → Option (Int32 × Hp)) (hk54 : ∀ (h : Hp) (v1 : Int32) (v3 : Int32) (v4 : Int32) (v5 : Int32) (q : (Int32 × Hp)), Fr (wX6_breaks) zX6_breaks h0 h → k54 h v1 v3 v4 v5 = some q → Fr (wX6_breaks) zX6_breaks h0 q.2) (h : Hp) (v1 : Int32) (v3 : Int32) (v4 : Int32) (v5 : Int32) (q : (Int32 × Hp)) (F : Fr (wX6_breaks) zX6_breaks h0 h) (e : sX6_breaks_c54 k54 h v1 v3 v4 v5 = some q) : Fr (wX6_breaks) zX6_breaks h0 q.2 := by
  unfold sX6_breaks_c54 at e
  by_cases c : v3 ≤ v5
  · rw [if_pos c] at e
    obtain ⟨q9, eq9, e⟩ := bd_s e
    have F := Fr.tr F (fX6_closesUp h v1 q9 eq9) (by decide) (by decide)
    obtain ⟨q10, eq10, e⟩ := bd_s e
    have F := Fr.tr F (fX6_isRight q9 v1 q10 eq10) (by decide) (by decide)
    by_cases c : q10.1 = 0
    · rw [if_pos c] at e
      exact fX6_breaks_c164 h0 q10.2 (-4 : Int32) q F e
    · rw [if_neg c] at e
      obtain ⟨c11, e⟩ := gd_s e
      exact fX6_breaks_c164 h0 q10.2 (q10.2.1 67 v1.toNatClampNeg) q F e
  · rw [if_neg c] at e
    obtain ⟨c12, e⟩ := gd_s e
    obtain ⟨q13, eq13, e⟩ := bd_s e
    have F := Fr.tr F (fX6_place h v1 (h.1 74 v5.toNatClampNeg) q13 eq13) (fun _ hh => absurd hh List.not_mem_nil) (by decide)
    obtain ⟨c14, e⟩ := gd_s e
    by_cases c : (v5 - v5 / (2 : Int32) * (2 : Int32)) = (1 : Int32)
    · rw [if_pos c] at e
      exact fX6_breaks_c97 h0 k54 hk54 q13.2 v1 v3 v4 v5 q13.1 v4 (q13.2.1 70 q13.1.toNatClampNeg) q13.1 q F e
    · rw [if_neg c] at e
      exact fX6_breaks_c97 h0 k54 hk54 q13.2 v1 v3 v4 v5 q13.1 (-v4) (q13.2.1 70 q13.1.toNatClampNeg) q13.1 q F e
theorem fX6_breaks_b54 (h0 : Hp) : ∀ (n : Nat) (h : Hp) (v1 : Int32) (v3 : Int32) (v4 : Int32) (v5 : Int32) (q : (Int32 × Hp)), Fr (wX6_breaks) zX6_breaks h0 h → sX6_breaks_b54 n h v1 v3 v4 v5 = some q → Fr (wX6_breaks) zX6_breaks h0 q.2
  | 0 => fun _ _ _ _ _ _ _ e => by cases e
  | n + 1 => fun h v1 v3 v4 v5 q F e => fX6_breaks_c54 h0 (sX6_breaks_b54 n) (fX6_breaks_b54 h0 n) h v1 v3 v4 v5 q F e
set_option maxRecDepth 10000 in
theorem fX6_breaks (h : Hp) (a1 : Int32) (a2 : Int32) (q : (Int32 × Hp)) (e : sX6_breaks h a1 a2 = some q) : Fr (wX6_breaks) zX6_breaks h q.2 := by
  unfold sX6_breaks at e
  have F : Fr (wX6_breaks) zX6_breaks h h := Fr.rf
  obtain ⟨h1, eh1, e⟩ := nm_s e
  have F := Fr.w1 F eh1 (Or.inr (by decide))
  obtain ⟨q2, eq2, e⟩ := bd_s e
  have F := Fr.tr F (fX6_isMatch h1 a1 a2 q2 eq2) (fun _ hh => absurd hh List.not_mem_nil) (by decide)
  by_cases c : q2.1 = 0
  · rw [if_pos c] at e
    exact Fr.e1 F e
  · rw [if_neg c] at e
    obtain ⟨q3, eq3, e⟩ := bd_s e
    have F := Fr.tr F (fX6_findsLoop q2.2 a1 a2 q3 eq3) (by decide) (by decide)
    by_cases c : q3.1 = 0
    · rw [if_pos c] at e
      exact Fr.e1 F e
    · rw [if_neg c] at e
      obtain ⟨q4, eq4, e⟩ := bd_s e
      have F := Fr.tr F (fX6_finds q3.2 q4 eq4) (by decide) (by decide)
      obtain ⟨q5, eq5, e⟩ := bd_s e
      have F := Fr.tr F (fX6_saves q4 a1 q5 eq5) (by decide) (by decide)
      obtain ⟨q6, eq6, e⟩ := bd_s e
      have F := Fr.tr F (fX6_place q5 a1 a2 q6 eq6) (fun _ hh => absurd hh List.not_mem_nil) (by decide)
      obtain ⟨c7, e⟩ := gd_s e
      obtain ⟨x8, ex8, e⟩ := nm_s e
      exact fX6_breaks_b54 h FU q6.2 a1 q3.1 x8 (0 : Int32) q F e
