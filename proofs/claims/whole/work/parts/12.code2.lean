-- X5_isSide (level 0)
theorem dX5_isSide_0 : decode cX5_isSide 0 = .ok (.iload_n 0, 1) := by decide +kernel
theorem dX5_isSide_1 : decode cX5_isSide 1 = .ok (.ifCond .eq 8, 3) := by decide +kernel
theorem dX5_isSide_4 : decode cX5_isSide 4 = .ok (.iload_n 0, 1) := by decide +kernel
theorem dX5_isSide_5 : decode cX5_isSide 5 = .ok (.iconst 1, 1) := by decide +kernel
theorem dX5_isSide_6 : decode cX5_isSide 6 = .ok (.if_icmp .ne 7, 3) := by decide +kernel
theorem dX5_isSide_9 : decode cX5_isSide 9 = .ok (.iconst 1, 1) := by decide +kernel
theorem dX5_isSide_10 : decode cX5_isSide 10 = .ok (.goto 4, 3) := by decide +kernel
theorem dX5_isSide_13 : decode cX5_isSide 13 = .ok (.iconst 0, 1) := by decide +kernel
theorem dX5_isSide_14 : decode cX5_isSide 14 = .ok (.ireturn, 1) := by decide +kernel
def sX5_isSide_c14 (h : Hp) (t0 : Int32) : Option (Int32 × Hp) :=
  gd (zb t0) (some (t0, h))
set_option maxRecDepth 10000 in
theorem vX5_isSide_c14 (h : Hp) (t0 : Int32) (q : (Int32 × Hp)) (e : sX5_isSide_c14 h t0 = some q) : V (Gs 0 (pI q)) mX5_isSide (0, 0) 14 [] [.int t0] h := by
  unfold sX5_isSide_c14 at e
  obtain ⟨c1, e⟩ := gd_s e
  exact V.zret dX5_isSide_14 rfl (zb_t c1) (fnI e)
def sX5_isSide_c9 (h : Hp) : Option (Int32 × Hp) :=
  sX5_isSide_c14 h (1 : Int32)
set_option maxRecDepth 10000 in
theorem vX5_isSide_c9 (h : Hp) (q : (Int32 × Hp)) (e : sX5_isSide_c9 h = some q) : V (Gs 0 (pI q)) mX5_isSide (0, 0) 9 [] [] h := by
  unfold sX5_isSide_c9 at e
  refine V.iconst dX5_isSide_9 (pc' := 10) rfl (v := 1) (by decide) ?_
  refine V.goto dX5_isSide_10 (pc' := 14) (by decide) ?_
  exact vX5_isSide_c14 h (1 : Int32) q e
def sX5_isSide (h : Hp) (a0 : Int32) : Option (Int32 × Hp) :=
  if a0 = 0 then (sX5_isSide_c9 h) else (if a0 = (1 : Int32) then (sX5_isSide_c9 h) else (sX5_isSide_c14 h (0 : Int32)))
set_option maxRecDepth 10000 in
theorem kX5_isSide (h : Hp) (a0 : Int32) (q : (Int32 × Hp)) (e : sX5_isSide h a0 = some q) : K 0 mX5_isSide [.int a0] h (pI q) := by
  unfold sX5_isSide at e
  refine K.ofV (by decide) rfl (Nat.le_of_ble_eq_true rfl) ?_
  show V (Gs 0 (pI q)) mX5_isSide (0, 0) 0 [(0, .int a0)] [] h
  refine V.ilq dX5_isSide_0 (pc' := 1) rfl (j := 0) rfl ?_
  refine V.if_eq dX5_isSide_1 (pc' := 4) rfl (tgt := 9) (by decide) (fun c => ?_) (fun c => ?_)
  · rw [if_pos c] at e
    refine V.pk [] rfl ?_
    exact vX5_isSide_c9 h q e
  · rw [if_neg c] at e
    refine V.ilq dX5_isSide_4 (pc' := 5) rfl (j := 0) rfl ?_
    refine V.iconst dX5_isSide_5 (pc' := 6) rfl (v := 1) (by decide) ?_
    refine V.ic_ne dX5_isSide_6 (pc' := 9) rfl (tgt := 13) (by decide) (fun c => ?_) (fun c => ?_)
    · rw [if_neg c] at e
      refine V.iconst dX5_isSide_13 (pc' := 14) rfl (v := 0) (by decide) ?_
      refine V.pk [] rfl ?_
      exact vX5_isSide_c14 h (0 : Int32) q e
    · rw [if_pos c] at e
      refine V.pk [] rfl ?_
      exact vX5_isSide_c9 h q e

-- X5_sideOf (level 0)
theorem dX5_sideOf_0 : decode cX5_sideOf 0 = .ok (.iload_n 1, 1) := by decide +kernel
theorem dX5_sideOf_1 : decode cX5_sideOf 1 = .ok (.ifCond .ne 10, 3) := by decide +kernel
theorem dX5_sideOf_4 : decode cX5_sideOf 4 = .ok (.aload_n 0, 1) := by decide +kernel
theorem dX5_sideOf_5 : decode cX5_sideOf 5 = .ok (.getfield 48, 3) := by decide +kernel
theorem dX5_sideOf_8 : decode cX5_sideOf 8 = .ok (.goto 7, 3) := by decide +kernel
theorem dX5_sideOf_11 : decode cX5_sideOf 11 = .ok (.aload_n 0, 1) := by decide +kernel
theorem dX5_sideOf_12 : decode cX5_sideOf 12 = .ok (.getfield 52, 3) := by decide +kernel
theorem dX5_sideOf_15 : decode cX5_sideOf 15 = .ok (.areturn, 1) := by decide +kernel
def sX5_sideOf_c15 (h : Hp) (w0 : Nat) : Option (Nat × Hp) :=
  some (w0, h)
set_option maxRecDepth 10000 in
theorem vX5_sideOf_c15 (h : Hp) (w0 : Nat) (hw0 : ck w0 = 2) (q : (Nat × Hp)) (e : sX5_sideOf_c15 h w0 = some q) : V (Gs 0 (pR q)) mX5_sideOf (0, 0) 15 [] [.ref w0] h := by
  unfold sX5_sideOf_c15 at e
  exact V.aret dX5_sideOf_15 rfl (fnR e)
def sX5_sideOf (h : Hp) (a1 : Int32) : Option (Nat × Hp) :=
  if a1 = 0 then (sX5_sideOf_c15 h 26) else (sX5_sideOf_c15 h 40)
set_option maxRecDepth 10000 in
theorem kX5_sideOf (h : Hp) (a1 : Int32) (q : (Nat × Hp)) (e : sX5_sideOf h a1 = some q) : K 0 mX5_sideOf [.ref 1, .int a1] h (pR q) := by
  unfold sX5_sideOf at e
  refine K.ofV (by decide) rfl (Nat.le_of_ble_eq_true rfl) ?_
  show V (Gs 0 (pR q)) mX5_sideOf (0, 0) 0 [(0, .ref 1), (1, .int a1)] [] h
  refine V.ilq dX5_sideOf_0 (pc' := 1) rfl (j := 1) rfl ?_
  refine V.if_ne dX5_sideOf_1 (pc' := 4) rfl (tgt := 11) (by decide) (fun c => ?_) (fun c => ?_)
  · rw [if_neg c] at e
    refine V.alq dX5_sideOf_11 (pc' := 12) rfl (j := 0) rfl ?_
    refine V.getr dX5_sideOf_12 (pc' := 15) rfl FL_X5_52 rfl (by decide) rfl (r' := 40) rfl ?_
    refine V.pk [] rfl ?_
    exact vX5_sideOf_c15 h 40 rfl q e
  · rw [if_pos c] at e
    refine V.alq dX5_sideOf_4 (pc' := 5) rfl (j := 0) rfl ?_
    refine V.getr dX5_sideOf_5 (pc' := 8) rfl FL_X5_48 rfl (by decide) rfl (r' := 26) rfl ?_
    refine V.goto dX5_sideOf_8 (pc' := 15) (by decide) ?_
    refine V.pk [] rfl ?_
    exact vX5_sideOf_c15 h 26 rfl q e

-- X5_commonDivisor (level 0)
theorem dX5_commonDivisor_0 : decode cX5_commonDivisor 0 = .ok (.iload_n 0, 1) := by decide +kernel
theorem dX5_commonDivisor_1 : decode cX5_commonDivisor 1 = .ok (.istore_n 2, 1) := by decide +kernel
theorem dX5_commonDivisor_2 : decode cX5_commonDivisor 2 = .ok (.iload_n 1, 1) := by decide +kernel
theorem dX5_commonDivisor_3 : decode cX5_commonDivisor 3 = .ok (.istore_n 3, 1) := by decide +kernel
theorem dX5_commonDivisor_4 : decode cX5_commonDivisor 4 = .ok (.iconst 0, 1) := by decide +kernel
theorem dX5_commonDivisor_5 : decode cX5_commonDivisor 5 = .ok (.istore 4, 2) := by decide +kernel
theorem dX5_commonDivisor_7 : decode cX5_commonDivisor 7 = .ok (.iload 4, 2) := by decide +kernel
theorem dX5_commonDivisor_9 : decode cX5_commonDivisor 9 = .ok (.bipush 50, 2) := by decide +kernel
theorem dX5_commonDivisor_11 : decode cX5_commonDivisor 11 = .ok (.if_icmp .ge 23, 3) := by decide +kernel
theorem dX5_commonDivisor_14 : decode cX5_commonDivisor 14 = .ok (.iload_n 3, 1) := by decide +kernel
theorem dX5_commonDivisor_15 : decode cX5_commonDivisor 15 = .ok (.ifCond .eq 19, 3) := by decide +kernel
theorem dX5_commonDivisor_18 : decode cX5_commonDivisor 18 = .ok (.iload_n 2, 1) := by decide +kernel
theorem dX5_commonDivisor_19 : decode cX5_commonDivisor 19 = .ok (.iload_n 3, 1) := by decide +kernel
theorem dX5_commonDivisor_20 : decode cX5_commonDivisor 20 = .ok (.irem, 1) := by decide +kernel
theorem dX5_commonDivisor_21 : decode cX5_commonDivisor 21 = .ok (.istore 5, 2) := by decide +kernel
theorem dX5_commonDivisor_23 : decode cX5_commonDivisor 23 = .ok (.iload_n 3, 1) := by decide +kernel
theorem dX5_commonDivisor_24 : decode cX5_commonDivisor 24 = .ok (.istore_n 2, 1) := by decide +kernel
theorem dX5_commonDivisor_25 : decode cX5_commonDivisor 25 = .ok (.iload 5, 2) := by decide +kernel
theorem dX5_commonDivisor_27 : decode cX5_commonDivisor 27 = .ok (.istore_n 3, 1) := by decide +kernel
theorem dX5_commonDivisor_28 : decode cX5_commonDivisor 28 = .ok (.iinc 4 1, 3) := by decide +kernel
theorem dX5_commonDivisor_31 : decode cX5_commonDivisor 31 = .ok (.goto (-24), 3) := by decide +kernel
theorem dX5_commonDivisor_34 : decode cX5_commonDivisor 34 = .ok (.iload_n 2, 1) := by decide +kernel
theorem dX5_commonDivisor_35 : decode cX5_commonDivisor 35 = .ok (.ireturn, 1) := by decide +kernel
def sX5_commonDivisor_c34 (h : Hp) (v2 : Int32) : Option (Int32 × Hp) :=
  some (v2, h)
set_option maxRecDepth 10000 in
theorem vX5_commonDivisor_c34 (h : Hp) (v2 : Int32) (q : (Int32 × Hp)) (e : sX5_commonDivisor_c34 h v2 = some q) : V (Gs 0 (pI q)) mX5_commonDivisor (0, 0) 34 [(2, .int v2)] [] h := by
  unfold sX5_commonDivisor_c34 at e
  refine V.ilq dX5_commonDivisor_34 (pc' := 35) rfl (j := 0) rfl ?_
  exact V.iret dX5_commonDivisor_35 rfl (fnI e)
def sX5_commonDivisor_c7 (k7 : Hp → Int32 → Int32 → Int32 → Option (Int32 × Hp)) (h : Hp) (v2 : Int32) (v3 : Int32) (v4 : Int32) : Option (Int32 × Hp) :=
  if (50 : Int32) ≤ v4 then (sX5_commonDivisor_c34 h v2) else (if v3 = 0 then (sX5_commonDivisor_c34 h v2) else (gd (nzI v3) (nm ((v2 - v2 / v3 * v3)) fun x2 => nm (v4 + (1 : Int32)) fun x3 => k7 h v3 x2 x3)))
set_option maxRecDepth 10000 in
theorem vX5_commonDivisor_c7 (k7 : Hp → Int32 → Int32 → Int32 → Option (Int32 × Hp)) (hk7 : ∀ (h : Hp) (v2 : Int32) (v3 : Int32) (v4 : Int32) (q : (Int32 × Hp)), k7 h v2 v3 v4 = some q → V (Gs 0 (pI q)) mX5_commonDivisor (0, 0) 7 [(2, .int v2), (3, .int v3), (4, .int v4)] [] h) (h : Hp) (v2 : Int32) (v3 : Int32) (v4 : Int32) (q : (Int32 × Hp)) (e : sX5_commonDivisor_c7 k7 h v2 v3 v4 = some q) : V (Gs 0 (pI q)) mX5_commonDivisor (0, 0) 7 [(2, .int v2), (3, .int v3), (4, .int v4)] [] h := by
  unfold sX5_commonDivisor_c7 at e
  refine V.il dX5_commonDivisor_7 (pc' := 9) rfl (j := 2) rfl ?_
  refine V.bipush dX5_commonDivisor_9 (pc' := 11) rfl (v := 50) (by decide) ?_
  refine V.ic_ge dX5_commonDivisor_11 (pc' := 14) rfl (tgt := 34) (by decide) (fun c => ?_) (fun c => ?_)
  · rw [if_pos c] at e
    refine V.pk [0] rfl ?_
    exact vX5_commonDivisor_c34 h v2 q e
  · rw [if_neg c] at e
    refine V.ilq dX5_commonDivisor_14 (pc' := 15) rfl (j := 1) rfl ?_
    refine V.if_eq dX5_commonDivisor_15 (pc' := 18) rfl (tgt := 34) (by decide) (fun c => ?_) (fun c => ?_)
    · rw [if_pos c] at e
      refine V.pk [0] rfl ?_
      exact vX5_commonDivisor_c34 h v2 q e
    · rw [if_neg c] at e
      refine V.ilq dX5_commonDivisor_18 (pc' := 19) rfl (j := 0) rfl ?_
      refine V.ilq dX5_commonDivisor_19 (pc' := 20) rfl (j := 1) rfl ?_
      obtain ⟨c1, e⟩ := gd_s e
      refine V.irem dX5_commonDivisor_20 (pc' := 21) rfl (nzI_t c1) ?_
      obtain ⟨x2, ex2, e⟩ := nm_s e
      refine V.is dX5_commonDivisor_21 (pc' := 23) rfl (by decide) ex2 (L' := [(5, .int x2), (2, .int v2), (3, .int v3), (4, .int v4)]) rfl ?_
      refine V.ilq dX5_commonDivisor_23 (pc' := 24) rfl (j := 2) rfl ?_
      refine V.isq dX5_commonDivisor_24 (pc' := 25) rfl (by decide) rfl (L' := [(2, .int v3), (5, .int x2), (3, .int v3), (4, .int v4)]) rfl ?_
      refine V.il dX5_commonDivisor_25 (pc' := 27) rfl (j := 1) rfl ?_
      refine V.isq dX5_commonDivisor_27 (pc' := 28) rfl (by decide) rfl (L' := [(3, .int x2), (2, .int v3), (5, .int x2), (4, .int v4)]) rfl ?_
      obtain ⟨x3, ex3, e⟩ := nm_s e
      refine V.iinc dX5_commonDivisor_28 (pc' := 31) rfl (j := 3) rfl (v := 1) (by decide) (by decide) ex3 (L' := [(4, .int x3), (3, .int x2), (2, .int v3), (5, .int x2)]) rfl ?_
      refine V.goto dX5_commonDivisor_31 (pc' := 7) (by decide) ?_
      refine V.pk [2, 1, 0] rfl ?_
      exact hk7 h v3 x2 x3 q e
def sX5_commonDivisor_b7 : Nat → Hp → Int32 → Int32 → Int32 → Option (Int32 × Hp)
  | 0 => fun _ _ _ _ => none
  | n + 1 => sX5_commonDivisor_c7 (sX5_commonDivisor_b7 n)
theorem vX5_commonDivisor_b7 : ∀ (n : Nat) (h : Hp) (v2 : Int32) (v3 : Int32) (v4 : Int32) (q : (Int32 × Hp)), sX5_commonDivisor_b7 n h v2 v3 v4 = some q → V (Gs 0 (pI q)) mX5_commonDivisor (0, 0) 7 [(2, .int v2), (3, .int v3), (4, .int v4)] [] h
  | 0 => fun _ _ _ _ _ e => by cases e
  | n + 1 => fun h v2 v3 v4 q e => vX5_commonDivisor_c7 (sX5_commonDivisor_b7 n) (vX5_commonDivisor_b7 n) h v2 v3 v4 q e
def sX5_commonDivisor (h : Hp) (a0 : Int32) (a1 : Int32) : Option (Int32 × Hp) :=
  sX5_commonDivisor_b7 FU h a0 a1 (0 : Int32)
set_option maxRecDepth 10000 in
theorem kX5_commonDivisor (h : Hp) (a0 : Int32) (a1 : Int32) (q : (Int32 × Hp)) (e : sX5_commonDivisor h a0 a1 = some q) : K 0 mX5_commonDivisor [.int a0, .int a1] h (pI q) := by
  unfold sX5_commonDivisor at e
  refine K.ofV (by decide) rfl (Nat.le_of_ble_eq_true rfl) ?_
  show V (Gs 0 (pI q)) mX5_commonDivisor (0, 0) 0 [(0, .int a0), (1, .int a1)] [] h
  refine V.ilq dX5_commonDivisor_0 (pc' := 1) rfl (j := 0) rfl ?_
  refine V.isq dX5_commonDivisor_1 (pc' := 2) rfl (by decide) rfl (L' := [(2, .int a0), (0, .int a0), (1, .int a1)]) rfl ?_
  refine V.ilq dX5_commonDivisor_2 (pc' := 3) rfl (j := 2) rfl ?_
  refine V.isq dX5_commonDivisor_3 (pc' := 4) rfl (by decide) rfl (L' := [(3, .int a1), (2, .int a0), (0, .int a0), (1, .int a1)]) rfl ?_
  refine V.iconst dX5_commonDivisor_4 (pc' := 5) rfl (v := 0) (by decide) ?_
  refine V.is dX5_commonDivisor_5 (pc' := 7) rfl (by decide) rfl (L' := [(4, .int (0 : Int32)), (3, .int a1), (2, .int a0), (0, .int a0), (1, .int a1)]) rfl ?_
  refine V.pk [2, 1, 0] rfl ?_
  exact vX5_commonDivisor_b7 FU h a0 a1 (0 : Int32) q e

-- X6_thrown (level 0)
theorem dX6_thrown_0 : decode cX6_thrown 0 = .ok (.aload_n 0, 1) := by decide +kernel
theorem dX6_thrown_1 : decode cX6_thrown 1 = .ok (.getfield 1, 3) := by decide +kernel
theorem dX6_thrown_4 : decode cX6_thrown 4 = .ok (.ireturn, 1) := by decide +kernel
def sX6_thrown (h : Hp) : Option (Int32 × Hp) :=
  some ((h.1 54 0), h)
set_option maxRecDepth 10000 in
theorem kX6_thrown (h : Hp) (q : (Int32 × Hp)) (e : sX6_thrown h = some q) : K 0 mX6_thrown [.ref 54] h (pI q) := by
  unfold sX6_thrown at e
  refine K.ofV (by decide) rfl (Nat.le_of_ble_eq_true rfl) ?_
  show V (Gs 0 (pI q)) mX6_thrown (0, 0) 0 [(0, .ref 54)] [] h
  refine V.alq dX6_thrown_0 (pc' := 1) rfl (j := 0) rfl ?_
  refine V.getf dX6_thrown_1 (pc' := 4) rfl FL_X6_1 rfl (by decide) rfl ?_
  exact V.iret dX6_thrown_4 rfl (fnI e)

-- X6_in (level 0)
theorem dX6_in_0 : decode cX6_in 0 = .ok (.lload_n 0, 1) := by decide +kernel
theorem dX6_in_1 : decode cX6_in 1 = .ok (.lload_n 2, 1) := by decide +kernel
theorem dX6_in_2 : decode cX6_in 2 = .ok (.lcmp, 1) := by decide +kernel
theorem dX6_in_3 : decode cX6_in 3 = .ok (.ifCond .lt 14, 3) := by decide +kernel
theorem dX6_in_6 : decode cX6_in 6 = .ok (.lload_n 0, 1) := by decide +kernel
theorem dX6_in_7 : decode cX6_in 7 = .ok (.lload 4, 2) := by decide +kernel
theorem dX6_in_9 : decode cX6_in 9 = .ok (.lcmp, 1) := by decide +kernel
theorem dX6_in_10 : decode cX6_in 10 = .ok (.ifCond .gt 7, 3) := by decide +kernel
theorem dX6_in_13 : decode cX6_in 13 = .ok (.iconst 1, 1) := by decide +kernel
theorem dX6_in_14 : decode cX6_in 14 = .ok (.goto 4, 3) := by decide +kernel
theorem dX6_in_17 : decode cX6_in 17 = .ok (.iconst 0, 1) := by decide +kernel
theorem dX6_in_18 : decode cX6_in 18 = .ok (.ireturn, 1) := by decide +kernel
def sX6_in_c18 (h : Hp) (t0 : Int32) : Option (Int32 × Hp) :=
  gd (zb t0) (some (t0, h))
set_option maxRecDepth 10000 in
theorem vX6_in_c18 (h : Hp) (t0 : Int32) (q : (Int32 × Hp)) (e : sX6_in_c18 h t0 = some q) : V (Gs 0 (pI q)) mX6_in (0, 0) 18 [] [.int t0] h := by
  unfold sX6_in_c18 at e
  obtain ⟨c1, e⟩ := gd_s e
  exact V.zret dX6_in_18 rfl (zb_t c1) (fnI e)
def sX6_in_c17 (h : Hp) : Option (Int32 × Hp) :=
  sX6_in_c18 h (0 : Int32)
set_option maxRecDepth 10000 in
theorem vX6_in_c17 (h : Hp) (q : (Int32 × Hp)) (e : sX6_in_c17 h = some q) : V (Gs 0 (pI q)) mX6_in (0, 0) 17 [] [] h := by
  unfold sX6_in_c17 at e
  refine V.iconst dX6_in_17 (pc' := 18) rfl (v := 0) (by decide) ?_
  exact vX6_in_c18 h (0 : Int32) q e
def sX6_in (h : Hp) (a0 : Int64) (a2 : Int64) (a4 : Int64) : Option (Int32 × Hp) :=
  if (lg_cmp a0 a2) < 0 then (sX6_in_c17 h) else (if 0 < (lg_cmp a0 a4) then (sX6_in_c17 h) else (sX6_in_c18 h (1 : Int32)))
set_option maxRecDepth 10000 in
theorem kX6_in (h : Hp) (a0 : Int64) (a2 : Int64) (a4 : Int64) (q : (Int32 × Hp)) (e : sX6_in h a0 a2 a4 = some q) : K 0 mX6_in [.long a0, .long a2, .long a4] h (pI q) := by
  unfold sX6_in at e
  refine K.ofV (by decide) rfl (Nat.le_of_ble_eq_true rfl) ?_
  show V (Gs 0 (pI q)) mX6_in (0, 0) 0 [(0, .long a0), (2, .long a2), (4, .long a4)] [] h
  refine V.llq dX6_in_0 (pc' := 1) rfl (j := 0) rfl ?_
  refine V.llq dX6_in_1 (pc' := 2) rfl (j := 1) rfl ?_
  refine V.lcmp dX6_in_2 (pc' := 3) rfl ?_
  refine V.if_lt dX6_in_3 (pc' := 6) rfl (tgt := 17) (by decide) (fun c => ?_) (fun c => ?_)
  · rw [if_pos c] at e
    refine V.pk [] rfl ?_
    exact vX6_in_c17 h q e
  · rw [if_neg c] at e
    refine V.llq dX6_in_6 (pc' := 7) rfl (j := 0) rfl ?_
    refine V.ll dX6_in_7 (pc' := 9) rfl (j := 2) rfl ?_
    refine V.lcmp dX6_in_9 (pc' := 10) rfl ?_
    refine V.if_gt dX6_in_10 (pc' := 13) rfl (tgt := 17) (by decide) (fun c => ?_) (fun c => ?_)
    · rw [if_pos c] at e
      refine V.pk [] rfl ?_
      exact vX6_in_c17 h q e
    · rw [if_neg c] at e
      refine V.iconst dX6_in_13 (pc' := 14) rfl (v := 1) (by decide) ?_
      refine V.goto dX6_in_14 (pc' := 18) (by decide) ?_
      refine V.pk [] rfl ?_
      exact vX6_in_c18 h (1 : Int32) q e

-- X6_flag (level 0)
theorem dX6_flag_0 : decode cX6_flag 0 = .ok (.iload_n 0, 1) := by decide +kernel
theorem dX6_flag_1 : decode cX6_flag 1 = .ok (.ifCond .eq 7, 3) := by decide +kernel
theorem dX6_flag_4 : decode cX6_flag 4 = .ok (.iconst 1, 1) := by decide +kernel
theorem dX6_flag_5 : decode cX6_flag 5 = .ok (.goto 4, 3) := by decide +kernel
theorem dX6_flag_8 : decode cX6_flag 8 = .ok (.iconst 0, 1) := by decide +kernel
theorem dX6_flag_9 : decode cX6_flag 9 = .ok (.ireturn, 1) := by decide +kernel
def sX6_flag_c9 (h : Hp) (t0 : Int32) : Option (Int32 × Hp) :=
  some (t0, h)
set_option maxRecDepth 10000 in
theorem vX6_flag_c9 (h : Hp) (t0 : Int32) (q : (Int32 × Hp)) (e : sX6_flag_c9 h t0 = some q) : V (Gs 0 (pI q)) mX6_flag (0, 0) 9 [] [.int t0] h := by
  unfold sX6_flag_c9 at e
  exact V.iret dX6_flag_9 rfl (fnI e)
def sX6_flag (h : Hp) (a0 : Int32) : Option (Int32 × Hp) :=
  if a0 = 0 then (sX6_flag_c9 h (0 : Int32)) else (sX6_flag_c9 h (1 : Int32))
set_option maxRecDepth 10000 in
theorem kX6_flag (h : Hp) (a0 : Int32) (q : (Int32 × Hp)) (e : sX6_flag h a0 = some q) : K 0 mX6_flag [.int a0] h (pI q) := by
  unfold sX6_flag at e
  refine K.ofV (by decide) rfl (Nat.le_of_ble_eq_true rfl) ?_
  show V (Gs 0 (pI q)) mX6_flag (0, 0) 0 [(0, .int a0)] [] h
  refine V.ilq dX6_flag_0 (pc' := 1) rfl (j := 0) rfl ?_
  refine V.if_eq dX6_flag_1 (pc' := 4) rfl (tgt := 8) (by decide) (fun c => ?_) (fun c => ?_)
  · rw [if_pos c] at e
    refine V.iconst dX6_flag_8 (pc' := 9) rfl (v := 0) (by decide) ?_
    refine V.pk [] rfl ?_
    exact vX6_flag_c9 h (0 : Int32) q e
  · rw [if_neg c] at e
    refine V.iconst dX6_flag_4 (pc' := 5) rfl (v := 1) (by decide) ?_
    refine V.goto dX6_flag_5 (pc' := 9) (by decide) ?_
    refine V.pk [] rfl ?_
    exact vX6_flag_c9 h (1 : Int32) q e

-- X6_enters (level 0)
theorem dX6_enters_0 : decode cX6_enters 0 = .ok (.aload_n 0, 1) := by decide +kernel
theorem dX6_enters_1 : decode cX6_enters 1 = .ok (.getfield 7, 3) := by decide +kernel
theorem dX6_enters_4 : decode cX6_enters 4 = .ok (.aload_n 0, 1) := by decide +kernel
theorem dX6_enters_5 : decode cX6_enters 5 = .ok (.getfield 11, 3) := by decide +kernel
theorem dX6_enters_8 : decode cX6_enters 8 = .ok (.lload_n 1, 1) := by decide +kernel
theorem dX6_enters_9 : decode cX6_enters 9 = .ok (.lastore, 1) := by decide +kernel
theorem dX6_enters_10 : decode cX6_enters 10 = .ok (.aload_n 0, 1) := by decide +kernel
theorem dX6_enters_11 : decode cX6_enters 11 = .ok (.dup, 1) := by decide +kernel
theorem dX6_enters_12 : decode cX6_enters 12 = .ok (.getfield 11, 3) := by decide +kernel
theorem dX6_enters_15 : decode cX6_enters 15 = .ok (.iconst 1, 1) := by decide +kernel
theorem dX6_enters_16 : decode cX6_enters 16 = .ok (.iadd, 1) := by decide +kernel
theorem dX6_enters_17 : decode cX6_enters 17 = .ok (.putfield 11, 3) := by decide +kernel
theorem dX6_enters_20 : decode cX6_enters 20 = .ok (.return_, 1) := by decide +kernel
def sX6_enters (h : Hp) (a1 : Int64) : Option Hp :=
  gd (inb (h.1 54 1) 64) (nm (u2 h 55 (h.1 54 1).toNatClampNeg a1) fun h2 => nm (u1 h2 54 1 ((h2.1 54 1) + (1 : Int32))) fun h3 => some h3)
set_option maxRecDepth 10000 in
theorem kX6_enters (h : Hp) (a1 : Int64) (q : Hp) (e : sX6_enters h a1 = some q) : K 0 mX6_enters [.ref 54, .long a1] h (pV q) := by
  unfold sX6_enters at e
  refine K.ofV (by decide) rfl (Nat.le_of_ble_eq_true rfl) ?_
  show V (Gs 0 (pV q)) mX6_enters (0, 0) 0 [(0, .ref 54), (1, .long a1)] [] h
  refine V.alq dX6_enters_0 (pc' := 1) rfl (j := 0) rfl ?_
  refine V.getr dX6_enters_1 (pc' := 4) rfl FL_X6_7 rfl (by decide) rfl (r' := 55) rfl ?_
  refine V.alq dX6_enters_4 (pc' := 5) rfl (j := 0) rfl ?_
  refine V.getf dX6_enters_5 (pc' := 8) rfl FL_X6_11 rfl (by decide) rfl ?_
  refine V.llq dX6_enters_8 (pc' := 9) rfl (j := 1) rfl ?_
  obtain ⟨c1, e⟩ := gd_s e
  obtain ⟨h2, eh2, e⟩ := nm_s e
  refine V.last dX6_enters_9 (pc' := 10) rfl rfl rfl (inb_t c1) eh2 ?_
  refine V.alq dX6_enters_10 (pc' := 11) rfl (j := 0) rfl ?_
  refine V.dup dX6_enters_11 (pc' := 12) rfl rfl ?_
  refine V.getf dX6_enters_12 (pc' := 15) rfl FL_X6_11 rfl (by decide) rfl ?_
  refine V.iconst dX6_enters_15 (pc' := 16) rfl (v := 1) (by decide) ?_
  refine V.iadd dX6_enters_16 (pc' := 17) rfl ?_
  obtain ⟨h3, eh3, e⟩ := nm_s e
  refine V.putf dX6_enters_17 (pc' := 20) rfl FP_X6_11 rfl (by decide) rfl eh3 ?_
  exact V.vret dX6_enters_20 rfl (fnV e)

-- X6_common (level 0)
theorem dX6_common_0 : decode cX6_common 0 = .ok (.lload_n 0, 1) := by decide +kernel
theorem dX6_common_1 : decode cX6_common 1 = .ok (.lconst 0, 1) := by decide +kernel
theorem dX6_common_2 : decode cX6_common 2 = .ok (.lcmp, 1) := by decide +kernel
theorem dX6_common_3 : decode cX6_common 3 = .ok (.ifCond .ge 8, 3) := by decide +kernel
theorem dX6_common_6 : decode cX6_common 6 = .ok (.lload_n 0, 1) := by decide +kernel
theorem dX6_common_7 : decode cX6_common 7 = .ok (.lneg, 1) := by decide +kernel
theorem dX6_common_8 : decode cX6_common 8 = .ok (.goto 4, 3) := by decide +kernel
theorem dX6_common_11 : decode cX6_common 11 = .ok (.lload_n 0, 1) := by decide +kernel
theorem dX6_common_12 : decode cX6_common 12 = .ok (.lstore 4, 2) := by decide +kernel
theorem dX6_common_14 : decode cX6_common 14 = .ok (.lload_n 2, 1) := by decide +kernel
theorem dX6_common_15 : decode cX6_common 15 = .ok (.lstore 6, 2) := by decide +kernel
theorem dX6_common_17 : decode cX6_common 17 = .ok (.lload 6, 2) := by decide +kernel
theorem dX6_common_19 : decode cX6_common 19 = .ok (.lconst 0, 1) := by decide +kernel
theorem dX6_common_20 : decode cX6_common 20 = .ok (.lcmp, 1) := by decide +kernel
theorem dX6_common_21 : decode cX6_common 21 = .ok (.ifCond .eq 21, 3) := by decide +kernel
theorem dX6_common_24 : decode cX6_common 24 = .ok (.lload 4, 2) := by decide +kernel
theorem dX6_common_26 : decode cX6_common 26 = .ok (.lload 6, 2) := by decide +kernel
theorem dX6_common_28 : decode cX6_common 28 = .ok (.lrem, 1) := by decide +kernel
theorem dX6_common_29 : decode cX6_common 29 = .ok (.lstore 8, 2) := by decide +kernel
theorem dX6_common_31 : decode cX6_common 31 = .ok (.lload 6, 2) := by decide +kernel
theorem dX6_common_33 : decode cX6_common 33 = .ok (.lstore 4, 2) := by decide +kernel
theorem dX6_common_35 : decode cX6_common 35 = .ok (.lload 8, 2) := by decide +kernel
theorem dX6_common_37 : decode cX6_common 37 = .ok (.lstore 6, 2) := by decide +kernel
theorem dX6_common_39 : decode cX6_common 39 = .ok (.goto (-22), 3) := by decide +kernel
theorem dX6_common_42 : decode cX6_common 42 = .ok (.lload 4, 2) := by decide +kernel
theorem dX6_common_44 : decode cX6_common 44 = .ok (.lreturn, 1) := by decide +kernel
def sX6_common_c17 (k17 : Hp → Int64 → Int64 → Option (Int64 × Hp)) (h : Hp) (v4 : Int64) (v6 : Int64) : Option (Int64 × Hp) :=
  if (lg_cmp v6 (0 : Int64)) = 0 then (some (v4, h)) else (gd (nzL v6) (nm ((v4 - v4 / v6 * v6)) fun x2 => k17 h v6 x2))
set_option maxRecDepth 10000 in
theorem vX6_common_c17 (k17 : Hp → Int64 → Int64 → Option (Int64 × Hp)) (hk17 : ∀ (h : Hp) (v4 : Int64) (v6 : Int64) (q : (Int64 × Hp)), k17 h v4 v6 = some q → V (Gs 0 (pL q)) mX6_common (0, 0) 17 [(4, .long v4), (6, .long v6)] [] h) (h : Hp) (v4 : Int64) (v6 : Int64) (q : (Int64 × Hp)) (e : sX6_common_c17 k17 h v4 v6 = some q) : V (Gs 0 (pL q)) mX6_common (0, 0) 17 [(4, .long v4), (6, .long v6)] [] h := by
  unfold sX6_common_c17 at e
  refine V.ll dX6_common_17 (pc' := 19) rfl (j := 1) rfl ?_
  refine V.lconst dX6_common_19 (pc' := 20) rfl (v := 0) (by decide) ?_
  refine V.lcmp dX6_common_20 (pc' := 21) rfl ?_
  refine V.if_eq dX6_common_21 (pc' := 24) rfl (tgt := 42) (by decide) (fun c => ?_) (fun c => ?_)
  · rw [if_pos c] at e
    refine V.ll dX6_common_42 (pc' := 44) rfl (j := 0) rfl ?_
    exact V.lret dX6_common_44 rfl (fnL e)
  · rw [if_neg c] at e
    refine V.ll dX6_common_24 (pc' := 26) rfl (j := 0) rfl ?_
    refine V.ll dX6_common_26 (pc' := 28) rfl (j := 1) rfl ?_
    obtain ⟨c1, e⟩ := gd_s e
    refine V.lrem dX6_common_28 (pc' := 29) rfl (nzL_t c1) ?_
    obtain ⟨x2, ex2, e⟩ := nm_s e
    refine V.ls dX6_common_29 (pc' := 31) rfl (by decide) ex2 (L' := [(8, .long x2), (4, .long v4), (6, .long v6)]) rfl ?_
    refine V.ll dX6_common_31 (pc' := 33) rfl (j := 2) rfl ?_
    refine V.ls dX6_common_33 (pc' := 35) rfl (by decide) rfl (L' := [(4, .long v6), (8, .long x2), (6, .long v6)]) rfl ?_
    refine V.ll dX6_common_35 (pc' := 37) rfl (j := 1) rfl ?_
    refine V.ls dX6_common_37 (pc' := 39) rfl (by decide) rfl (L' := [(6, .long x2), (4, .long v6), (8, .long x2)]) rfl ?_
    refine V.goto dX6_common_39 (pc' := 17) (by decide) ?_
    refine V.pk [1, 0] rfl ?_
    exact hk17 h v6 x2 q e
def sX6_common_b17 : Nat → Hp → Int64 → Int64 → Option (Int64 × Hp)
  | 0 => fun _ _ _ => none
  | n + 1 => sX6_common_c17 (sX6_common_b17 n)
theorem vX6_common_b17 : ∀ (n : Nat) (h : Hp) (v4 : Int64) (v6 : Int64) (q : (Int64 × Hp)), sX6_common_b17 n h v4 v6 = some q → V (Gs 0 (pL q)) mX6_common (0, 0) 17 [(4, .long v4), (6, .long v6)] [] h
  | 0 => fun _ _ _ _ e => by cases e
  | n + 1 => fun h v4 v6 q e => vX6_common_c17 (sX6_common_b17 n) (vX6_common_b17 n) h v4 v6 q e
def sX6_common_c12 (h : Hp) (v2 : Int64) (t0 : Int64) : Option (Int64 × Hp) :=
  sX6_common_b17 FU h t0 v2
set_option maxRecDepth 10000 in
theorem vX6_common_c12 (h : Hp) (v2 : Int64) (t0 : Int64) (q : (Int64 × Hp)) (e : sX6_common_c12 h v2 t0 = some q) : V (Gs 0 (pL q)) mX6_common (0, 0) 12 [(2, .long v2)] [.long t0] h := by
  unfold sX6_common_c12 at e
  refine V.ls dX6_common_12 (pc' := 14) rfl (by decide) rfl (L' := [(4, .long t0), (2, .long v2)]) rfl ?_
  refine V.llq dX6_common_14 (pc' := 15) rfl (j := 1) rfl ?_
  refine V.ls dX6_common_15 (pc' := 17) rfl (by decide) rfl (L' := [(6, .long v2), (4, .long t0), (2, .long v2)]) rfl ?_
  refine V.pk [1, 0] rfl ?_
  exact vX6_common_b17 FU h t0 v2 q e
def sX6_common (h : Hp) (a0 : Int64) (a2 : Int64) : Option (Int64 × Hp) :=
  if 0 ≤ (lg_cmp a0 (0 : Int64)) then (sX6_common_c12 h a2 a0) else (sX6_common_c12 h a2 (-a0))
set_option maxRecDepth 10000 in
theorem kX6_common (h : Hp) (a0 : Int64) (a2 : Int64) (q : (Int64 × Hp)) (e : sX6_common h a0 a2 = some q) : K 0 mX6_common [.long a0, .long a2] h (pL q) := by
  unfold sX6_common at e
  refine K.ofV (by decide) rfl (Nat.le_of_ble_eq_true rfl) ?_
  show V (Gs 0 (pL q)) mX6_common (0, 0) 0 [(0, .long a0), (2, .long a2)] [] h
  refine V.llq dX6_common_0 (pc' := 1) rfl (j := 0) rfl ?_
  refine V.lconst dX6_common_1 (pc' := 2) rfl (v := 0) (by decide) ?_
  refine V.lcmp dX6_common_2 (pc' := 3) rfl ?_
  refine V.if_ge dX6_common_3 (pc' := 6) rfl (tgt := 11) (by decide) (fun c => ?_) (fun c => ?_)
  · rw [if_pos c] at e
    refine V.llq dX6_common_11 (pc' := 12) rfl (j := 0) rfl ?_
    refine V.pk [1] rfl ?_
    exact vX6_common_c12 h a2 a0 q e
  · rw [if_neg c] at e
    refine V.llq dX6_common_6 (pc' := 7) rfl (j := 0) rfl ?_
    refine V.lneg dX6_common_7 (pc' := 8) rfl ?_
    refine V.goto dX6_common_8 (pc' := 12) (by decide) ?_
    refine V.pk [1] rfl ?_
    exact vX6_common_c12 h a2 (-a0) q e

-- X6_sign (level 0)
theorem dX6_sign_0 : decode cX6_sign 0 = .ok (.aload_n 0, 1) := by decide +kernel
theorem dX6_sign_1 : decode cX6_sign 1 = .ok (.iconst 0, 1) := by decide +kernel
theorem dX6_sign_2 : decode cX6_sign 2 = .ok (.putfield 1, 3) := by decide +kernel
theorem dX6_sign_5 : decode cX6_sign 5 = .ok (.aload_n 0, 1) := by decide +kernel
theorem dX6_sign_6 : decode cX6_sign 6 = .ok (.getfield 22, 3) := by decide +kernel
theorem dX6_sign_9 : decode cX6_sign 9 = .ok (.bipush 116, 2) := by decide +kernel
theorem dX6_sign_11 : decode cX6_sign 11 = .ok (.if_icmp .le 5, 3) := by decide +kernel
theorem dX6_sign_14 : decode cX6_sign 14 = .ok (.iconst (-1), 1) := by decide +kernel
theorem dX6_sign_15 : decode cX6_sign 15 = .ok (.ireturn, 1) := by decide +kernel
theorem dX6_sign_16 : decode cX6_sign 16 = .ok (.iconst 0, 1) := by decide +kernel
theorem dX6_sign_17 : decode cX6_sign 17 = .ok (.istore_n 2, 1) := by decide +kernel
theorem dX6_sign_18 : decode cX6_sign 18 = .ok (.iload_n 2, 1) := by decide +kernel
theorem dX6_sign_19 : decode cX6_sign 19 = .ok (.iconst 4, 1) := by decide +kernel
theorem dX6_sign_20 : decode cX6_sign 20 = .ok (.if_icmp .ge 33, 3) := by decide +kernel
theorem dX6_sign_23 : decode cX6_sign 23 = .ok (.aload_n 0, 1) := by decide +kernel
theorem dX6_sign_24 : decode cX6_sign 24 = .ok (.getfield 25, 3) := by decide +kernel
theorem dX6_sign_27 : decode cX6_sign 27 = .ok (.aload_n 0, 1) := by decide +kernel
theorem dX6_sign_28 : decode cX6_sign 28 = .ok (.getfield 22, 3) := by decide +kernel
theorem dX6_sign_31 : decode cX6_sign 31 = .ok (.iload_n 2, 1) := by decide +kernel
theorem dX6_sign_32 : decode cX6_sign 32 = .ok (.iadd, 1) := by decide +kernel
theorem dX6_sign_33 : decode cX6_sign 33 = .ok (.iload_n 1, 1) := by decide +kernel
theorem dX6_sign_34 : decode cX6_sign 34 = .ok (.bipush 24, 2) := by decide +kernel
theorem dX6_sign_36 : decode cX6_sign 36 = .ok (.bipush 8, 2) := by decide +kernel
theorem dX6_sign_38 : decode cX6_sign 38 = .ok (.iload_n 2, 1) := by decide +kernel
theorem dX6_sign_39 : decode cX6_sign 39 = .ok (.imul, 1) := by decide +kernel
theorem dX6_sign_40 : decode cX6_sign 40 = .ok (.isub, 1) := by decide +kernel
theorem dX6_sign_41 : decode cX6_sign 41 = .ok (.ishr, 1) := by decide +kernel
theorem dX6_sign_42 : decode cX6_sign 42 = .ok (.sipush 255, 3) := by decide +kernel
theorem dX6_sign_45 : decode cX6_sign 45 = .ok (.iand, 1) := by decide +kernel
theorem dX6_sign_46 : decode cX6_sign 46 = .ok (.iastore, 1) := by decide +kernel
theorem dX6_sign_47 : decode cX6_sign 47 = .ok (.iinc 2 1, 3) := by decide +kernel
theorem dX6_sign_50 : decode cX6_sign 50 = .ok (.goto (-32), 3) := by decide +kernel
theorem dX6_sign_53 : decode cX6_sign 53 = .ok (.aload_n 0, 1) := by decide +kernel
theorem dX6_sign_54 : decode cX6_sign 54 = .ok (.dup, 1) := by decide +kernel
theorem dX6_sign_55 : decode cX6_sign 55 = .ok (.getfield 22, 3) := by decide +kernel
theorem dX6_sign_58 : decode cX6_sign 58 = .ok (.iconst 4, 1) := by decide +kernel
theorem dX6_sign_59 : decode cX6_sign 59 = .ok (.iadd, 1) := by decide +kernel
theorem dX6_sign_60 : decode cX6_sign 60 = .ok (.putfield 22, 3) := by decide +kernel
theorem dX6_sign_63 : decode cX6_sign 63 = .ok (.aload_n 0, 1) := by decide +kernel
theorem dX6_sign_64 : decode cX6_sign 64 = .ok (.getfield 22, 3) := by decide +kernel
theorem dX6_sign_67 : decode cX6_sign 67 = .ok (.ireturn, 1) := by decide +kernel
def sX6_sign_c18 (k18 : Hp → Int32 → Int32 → Option (Int32 × Hp)) (h : Hp) (v1 : Int32) (v2 : Int32) : Option (Int32 × Hp) :=
  if (4 : Int32) ≤ v2 then (nm (u1 h 54 4 ((h.1 54 4) + (4 : Int32))) fun h2 => some ((h2.1 54 4), h2)) else (gd (inb ((h.1 54 4) + v2) 120) (nm (u1 h 56 ((h.1 54 4) + v2).toNatClampNeg ((v1 >>> (((24 : Int32) - ((8 : Int32) * v2)) &&& 31)) &&& (255 : Int32))) fun h4 => nm (v2 + (1 : Int32)) fun x5 => k18 h4 v1 x5))
set_option maxRecDepth 10000 in
theorem vX6_sign_c18 (k18 : Hp → Int32 → Int32 → Option (Int32 × Hp)) (hk18 : ∀ (h : Hp) (v1 : Int32) (v2 : Int32) (q : (Int32 × Hp)), k18 h v1 v2 = some q → V (Gs 0 (pI q)) mX6_sign (0, 0) 18 [(0, .ref 54), (1, .int v1), (2, .int v2)] [] h) (h : Hp) (v1 : Int32) (v2 : Int32) (q : (Int32 × Hp)) (e : sX6_sign_c18 k18 h v1 v2 = some q) : V (Gs 0 (pI q)) mX6_sign (0, 0) 18 [(0, .ref 54), (1, .int v1), (2, .int v2)] [] h := by
  unfold sX6_sign_c18 at e
  refine V.ilq dX6_sign_18 (pc' := 19) rfl (j := 2) rfl ?_
  refine V.iconst dX6_sign_19 (pc' := 20) rfl (v := 4) (by decide) ?_
  refine V.ic_ge dX6_sign_20 (pc' := 23) rfl (tgt := 53) (by decide) (fun c => ?_) (fun c => ?_)
  · rw [if_pos c] at e
    refine V.alq dX6_sign_53 (pc' := 54) rfl (j := 0) rfl ?_
    refine V.dup dX6_sign_54 (pc' := 55) rfl rfl ?_
    refine V.getf dX6_sign_55 (pc' := 58) rfl FL_X6_22 rfl (by decide) rfl ?_
    refine V.iconst dX6_sign_58 (pc' := 59) rfl (v := 4) (by decide) ?_
    refine V.iadd dX6_sign_59 (pc' := 60) rfl ?_
    obtain ⟨h2, eh2, e⟩ := nm_s e
    refine V.putf dX6_sign_60 (pc' := 63) rfl FP_X6_22 rfl (by decide) rfl eh2 ?_
    refine V.alq dX6_sign_63 (pc' := 64) rfl (j := 0) rfl ?_
    refine V.getf dX6_sign_64 (pc' := 67) rfl FL_X6_22 rfl (by decide) rfl ?_
    exact V.iret dX6_sign_67 rfl (fnI e)
  · rw [if_neg c] at e
    refine V.alq dX6_sign_23 (pc' := 24) rfl (j := 0) rfl ?_
    refine V.getr dX6_sign_24 (pc' := 27) rfl FL_X6_25 rfl (by decide) rfl (r' := 56) rfl ?_
    refine V.alq dX6_sign_27 (pc' := 28) rfl (j := 0) rfl ?_
    refine V.getf dX6_sign_28 (pc' := 31) rfl FL_X6_22 rfl (by decide) rfl ?_
    refine V.ilq dX6_sign_31 (pc' := 32) rfl (j := 2) rfl ?_
    refine V.iadd dX6_sign_32 (pc' := 33) rfl ?_
    refine V.ilq dX6_sign_33 (pc' := 34) rfl (j := 1) rfl ?_
    refine V.bipush dX6_sign_34 (pc' := 36) rfl (v := 24) (by decide) ?_
    refine V.bipush dX6_sign_36 (pc' := 38) rfl (v := 8) (by decide) ?_
    refine V.ilq dX6_sign_38 (pc' := 39) rfl (j := 2) rfl ?_
    refine V.imul dX6_sign_39 (pc' := 40) rfl ?_
    refine V.isub dX6_sign_40 (pc' := 41) rfl ?_
    refine V.ishr dX6_sign_41 (pc' := 42) rfl ?_
    refine V.sipush dX6_sign_42 (pc' := 45) rfl (v := 255) (by decide) ?_
    refine V.iand dX6_sign_45 (pc' := 46) rfl ?_
    obtain ⟨c3, e⟩ := gd_s e
    obtain ⟨h4, eh4, e⟩ := nm_s e
    refine V.iast dX6_sign_46 (pc' := 47) rfl rfl rfl (inb_t c3) eh4 ?_
    obtain ⟨x5, ex5, e⟩ := nm_s e
    refine V.iinc dX6_sign_47 (pc' := 50) rfl (j := 2) rfl (v := 1) (by decide) (by decide) ex5 (L' := [(2, .int x5), (0, .ref 54), (1, .int v1)]) rfl ?_
    refine V.goto dX6_sign_50 (pc' := 18) (by decide) ?_
    refine V.pk [1, 2, 0] rfl ?_
    exact hk18 h4 v1 x5 q e
def sX6_sign_b18 : Nat → Hp → Int32 → Int32 → Option (Int32 × Hp)
  | 0 => fun _ _ _ => none
  | n + 1 => sX6_sign_c18 (sX6_sign_b18 n)
theorem vX6_sign_b18 : ∀ (n : Nat) (h : Hp) (v1 : Int32) (v2 : Int32) (q : (Int32 × Hp)), sX6_sign_b18 n h v1 v2 = some q → V (Gs 0 (pI q)) mX6_sign (0, 0) 18 [(0, .ref 54), (1, .int v1), (2, .int v2)] [] h
  | 0 => fun _ _ _ _ e => by cases e
  | n + 1 => fun h v1 v2 q e => vX6_sign_c18 (sX6_sign_b18 n) (vX6_sign_b18 n) h v1 v2 q e
def sX6_sign (h : Hp) (a1 : Int32) : Option (Int32 × Hp) :=
  nm (u1 h 54 0 (0 : Int32)) fun h1 => if (h1.1 54 4) ≤ (116 : Int32) then (sX6_sign_b18 FU h1 a1 (0 : Int32)) else (some ((-1 : Int32), h1))
set_option maxRecDepth 10000 in
theorem kX6_sign (h : Hp) (a1 : Int32) (q : (Int32 × Hp)) (e : sX6_sign h a1 = some q) : K 0 mX6_sign [.ref 54, .int a1] h (pI q) := by
  unfold sX6_sign at e
  refine K.ofV (by decide) rfl (Nat.le_of_ble_eq_true rfl) ?_
  show V (Gs 0 (pI q)) mX6_sign (0, 0) 0 [(0, .ref 54), (1, .int a1)] [] h
  refine V.alq dX6_sign_0 (pc' := 1) rfl (j := 0) rfl ?_
  refine V.iconst dX6_sign_1 (pc' := 2) rfl (v := 0) (by decide) ?_
  obtain ⟨h1, eh1, e⟩ := nm_s e
  refine V.putf dX6_sign_2 (pc' := 5) rfl FP_X6_1 rfl (by decide) rfl eh1 ?_
  refine V.alq dX6_sign_5 (pc' := 6) rfl (j := 0) rfl ?_
  refine V.getf dX6_sign_6 (pc' := 9) rfl FL_X6_22 rfl (by decide) rfl ?_
  refine V.bipush dX6_sign_9 (pc' := 11) rfl (v := 116) (by decide) ?_
  refine V.ic_le dX6_sign_11 (pc' := 14) rfl (tgt := 16) (by decide) (fun c => ?_) (fun c => ?_)
  · rw [if_pos c] at e
    refine V.iconst dX6_sign_16 (pc' := 17) rfl (v := 0) (by decide) ?_
    refine V.isq dX6_sign_17 (pc' := 18) rfl (by decide) rfl (L' := [(2, .int (0 : Int32)), (0, .ref 54), (1, .int a1)]) rfl ?_
    refine V.pk [1, 2, 0] rfl ?_
    exact vX6_sign_b18 FU h1 a1 (0 : Int32) q e
  · rw [if_neg c] at e
    refine V.iconst dX6_sign_14 (pc' := 15) rfl (v := -1) (by decide) ?_
    exact V.iret dX6_sign_15 rfl (fnI e)

-- X6_isHot (level 0)
theorem dX6_isHot_0 : decode cX6_isHot 0 = .ok (.aload_n 0, 1) := by decide +kernel
theorem dX6_isHot_1 : decode cX6_isHot 1 = .ok (.getfield 57, 3) := by decide +kernel
theorem dX6_isHot_4 : decode cX6_isHot 4 = .ok (.iload_n 1, 1) := by decide +kernel
theorem dX6_isHot_5 : decode cX6_isHot 5 = .ok (.iaload, 1) := by decide +kernel
theorem dX6_isHot_6 : decode cX6_isHot 6 = .ok (.aload_n 0, 1) := by decide +kernel
theorem dX6_isHot_7 : decode cX6_isHot 7 = .ok (.getfield 60, 3) := by decide +kernel
theorem dX6_isHot_10 : decode cX6_isHot 10 = .ok (.iload_n 1, 1) := by decide +kernel
theorem dX6_isHot_11 : decode cX6_isHot 11 = .ok (.iaload, 1) := by decide +kernel
theorem dX6_isHot_12 : decode cX6_isHot 12 = .ok (.if_icmp .le 7, 3) := by decide +kernel
theorem dX6_isHot_15 : decode cX6_isHot 15 = .ok (.iconst 1, 1) := by decide +kernel
theorem dX6_isHot_16 : decode cX6_isHot 16 = .ok (.goto 4, 3) := by decide +kernel
theorem dX6_isHot_19 : decode cX6_isHot 19 = .ok (.iconst 0, 1) := by decide +kernel
theorem dX6_isHot_20 : decode cX6_isHot 20 = .ok (.ireturn, 1) := by decide +kernel
def sX6_isHot_c20 (h : Hp) (t0 : Int32) : Option (Int32 × Hp) :=
  gd (zb t0) (some (t0, h))
set_option maxRecDepth 10000 in
theorem vX6_isHot_c20 (h : Hp) (t0 : Int32) (q : (Int32 × Hp)) (e : sX6_isHot_c20 h t0 = some q) : V (Gs 0 (pI q)) mX6_isHot (0, 0) 20 [] [.int t0] h := by
  unfold sX6_isHot_c20 at e
  obtain ⟨c3, e⟩ := gd_s e
  exact V.zret dX6_isHot_20 rfl (zb_t c3) (fnI e)
def sX6_isHot (h : Hp) (a1 : Int32) : Option (Int32 × Hp) :=
  gd (inb a1 10) (gd (inb a1 10) (if (h.1 57 a1.toNatClampNeg) ≤ (h.1 58 a1.toNatClampNeg) then (sX6_isHot_c20 h (0 : Int32)) else (sX6_isHot_c20 h (1 : Int32))))
set_option maxRecDepth 10000 in
theorem kX6_isHot (h : Hp) (a1 : Int32) (q : (Int32 × Hp)) (e : sX6_isHot h a1 = some q) : K 0 mX6_isHot [.ref 54, .int a1] h (pI q) := by
  unfold sX6_isHot at e
  refine K.ofV (by decide) rfl (Nat.le_of_ble_eq_true rfl) ?_
  show V (Gs 0 (pI q)) mX6_isHot (0, 0) 0 [(0, .ref 54), (1, .int a1)] [] h
  refine V.alq dX6_isHot_0 (pc' := 1) rfl (j := 0) rfl ?_
  refine V.getr dX6_isHot_1 (pc' := 4) rfl FL_X6_57 rfl (by decide) rfl (r' := 57) rfl ?_
  refine V.ilq dX6_isHot_4 (pc' := 5) rfl (j := 1) rfl ?_
  obtain ⟨c1, e⟩ := gd_s e
  refine V.iald dX6_isHot_5 (pc' := 6) rfl rfl rfl (inb_t c1) ?_
  refine V.alq dX6_isHot_6 (pc' := 7) rfl (j := 0) rfl ?_
  refine V.getr dX6_isHot_7 (pc' := 10) rfl FL_X6_60 rfl (by decide) rfl (r' := 58) rfl ?_
  refine V.ilq dX6_isHot_10 (pc' := 11) rfl (j := 1) rfl ?_
  obtain ⟨c2, e⟩ := gd_s e
  refine V.iald dX6_isHot_11 (pc' := 12) rfl rfl rfl (inb_t c2) ?_
  refine V.ic_le dX6_isHot_12 (pc' := 15) rfl (tgt := 19) (by decide) (fun c => ?_) (fun c => ?_)
  · rw [if_pos c] at e
    refine V.iconst dX6_isHot_19 (pc' := 20) rfl (v := 0) (by decide) ?_
    refine V.pk [] rfl ?_
    exact vX6_isHot_c20 h (0 : Int32) q e
  · rw [if_neg c] at e
    refine V.iconst dX6_isHot_15 (pc' := 16) rfl (v := 1) (by decide) ?_
    refine V.goto dX6_isHot_16 (pc' := 20) (by decide) ?_
    refine V.pk [] rfl ?_
    exact vX6_isHot_c20 h (1 : Int32) q e

-- X6_of (level 0)
theorem dX6_of_0 : decode cX6_of 0 = .ok (.iload_n 2, 1) := by decide +kernel
theorem dX6_of_1 : decode cX6_of 1 = .ok (.ifCond .ne 12, 3) := by decide +kernel
theorem dX6_of_4 : decode cX6_of 4 = .ok (.aload_n 0, 1) := by decide +kernel
theorem dX6_of_5 : decode cX6_of 5 = .ok (.getfield 57, 3) := by decide +kernel
theorem dX6_of_8 : decode cX6_of 8 = .ok (.iload_n 1, 1) := by decide +kernel
theorem dX6_of_9 : decode cX6_of 9 = .ok (.iaload, 1) := by decide +kernel
theorem dX6_of_10 : decode cX6_of 10 = .ok (.goto 23, 3) := by decide +kernel
theorem dX6_of_13 : decode cX6_of 13 = .ok (.iload_n 2, 1) := by decide +kernel
theorem dX6_of_14 : decode cX6_of 14 = .ok (.iconst 1, 1) := by decide +kernel
theorem dX6_of_15 : decode cX6_of 15 = .ok (.if_icmp .ne 12, 3) := by decide +kernel
theorem dX6_of_18 : decode cX6_of 18 = .ok (.aload_n 0, 1) := by decide +kernel
theorem dX6_of_19 : decode cX6_of 19 = .ok (.getfield 60, 3) := by decide +kernel
theorem dX6_of_22 : decode cX6_of 22 = .ok (.iload_n 1, 1) := by decide +kernel
theorem dX6_of_23 : decode cX6_of 23 = .ok (.iaload, 1) := by decide +kernel
theorem dX6_of_24 : decode cX6_of 24 = .ok (.goto 9, 3) := by decide +kernel
theorem dX6_of_27 : decode cX6_of 27 = .ok (.aload_n 0, 1) := by decide +kernel
theorem dX6_of_28 : decode cX6_of 28 = .ok (.getfield 63, 3) := by decide +kernel
theorem dX6_of_31 : decode cX6_of 31 = .ok (.iload_n 1, 1) := by decide +kernel
theorem dX6_of_32 : decode cX6_of 32 = .ok (.iaload, 1) := by decide +kernel
theorem dX6_of_33 : decode cX6_of 33 = .ok (.ireturn, 1) := by decide +kernel
def sX6_of_c33 (h : Hp) (t0 : Int32) : Option (Int32 × Hp) :=
  some (t0, h)
set_option maxRecDepth 10000 in
theorem vX6_of_c33 (h : Hp) (t0 : Int32) (q : (Int32 × Hp)) (e : sX6_of_c33 h t0 = some q) : V (Gs 0 (pI q)) mX6_of (0, 0) 33 [] [.int t0] h := by
  unfold sX6_of_c33 at e
  exact V.iret dX6_of_33 rfl (fnI e)
def sX6_of (h : Hp) (a1 : Int32) (a2 : Int32) : Option (Int32 × Hp) :=
  if a2 = 0 then (gd (inb a1 10) (sX6_of_c33 h (h.1 57 a1.toNatClampNeg))) else (if a2 = (1 : Int32) then (gd (inb a1 10) (sX6_of_c33 h (h.1 58 a1.toNatClampNeg))) else (gd (inb a1 10) (sX6_of_c33 h (h.1 59 a1.toNatClampNeg))))
set_option maxRecDepth 10000 in
theorem kX6_of (h : Hp) (a1 : Int32) (a2 : Int32) (q : (Int32 × Hp)) (e : sX6_of h a1 a2 = some q) : K 0 mX6_of [.ref 54, .int a1, .int a2] h (pI q) := by
  unfold sX6_of at e
  refine K.ofV (by decide) rfl (Nat.le_of_ble_eq_true rfl) ?_
  show V (Gs 0 (pI q)) mX6_of (0, 0) 0 [(0, .ref 54), (1, .int a1), (2, .int a2)] [] h
  refine V.ilq dX6_of_0 (pc' := 1) rfl (j := 2) rfl ?_
  refine V.if_ne dX6_of_1 (pc' := 4) rfl (tgt := 13) (by decide) (fun c => ?_) (fun c => ?_)
  · rw [if_neg c] at e
    refine V.ilq dX6_of_13 (pc' := 14) rfl (j := 2) rfl ?_
    refine V.iconst dX6_of_14 (pc' := 15) rfl (v := 1) (by decide) ?_
    refine V.ic_ne dX6_of_15 (pc' := 18) rfl (tgt := 27) (by decide) (fun c => ?_) (fun c => ?_)
    · rw [if_neg c] at e
      refine V.alq dX6_of_27 (pc' := 28) rfl (j := 0) rfl ?_
      refine V.getr dX6_of_28 (pc' := 31) rfl FL_X6_63 rfl (by decide) rfl (r' := 59) rfl ?_
      refine V.ilq dX6_of_31 (pc' := 32) rfl (j := 1) rfl ?_
      obtain ⟨c1, e⟩ := gd_s e
      refine V.iald dX6_of_32 (pc' := 33) rfl rfl rfl (inb_t c1) ?_
      refine V.pk [] rfl ?_
      exact vX6_of_c33 h (h.1 59 a1.toNatClampNeg) q e
    · rw [if_pos c] at e
      refine V.alq dX6_of_18 (pc' := 19) rfl (j := 0) rfl ?_
      refine V.getr dX6_of_19 (pc' := 22) rfl FL_X6_60 rfl (by decide) rfl (r' := 58) rfl ?_
      refine V.ilq dX6_of_22 (pc' := 23) rfl (j := 1) rfl ?_
      obtain ⟨c2, e⟩ := gd_s e
      refine V.iald dX6_of_23 (pc' := 24) rfl rfl rfl (inb_t c2) ?_
      refine V.goto dX6_of_24 (pc' := 33) (by decide) ?_
      refine V.pk [] rfl ?_
      exact vX6_of_c33 h (h.1 58 a1.toNatClampNeg) q e
  · rw [if_pos c] at e
    refine V.alq dX6_of_4 (pc' := 5) rfl (j := 0) rfl ?_
    refine V.getr dX6_of_5 (pc' := 8) rfl FL_X6_57 rfl (by decide) rfl (r' := 57) rfl ?_
    refine V.ilq dX6_of_8 (pc' := 9) rfl (j := 1) rfl ?_
    obtain ⟨c3, e⟩ := gd_s e
    refine V.iald dX6_of_9 (pc' := 10) rfl rfl rfl (inb_t c3) ?_
    refine V.goto dX6_of_10 (pc' := 33) (by decide) ?_
    refine V.pk [] rfl ?_
    exact vX6_of_c33 h (h.1 57 a1.toNatClampNeg) q e

-- X6_becomes (level 0)
theorem dX6_becomes_0 : decode cX6_becomes 0 = .ok (.aload_n 0, 1) := by decide +kernel
theorem dX6_becomes_1 : decode cX6_becomes 1 = .ok (.getfield 57, 3) := by decide +kernel
theorem dX6_becomes_4 : decode cX6_becomes 4 = .ok (.iload_n 1, 1) := by decide +kernel
theorem dX6_becomes_5 : decode cX6_becomes 5 = .ok (.iload_n 2, 1) := by decide +kernel
theorem dX6_becomes_6 : decode cX6_becomes 6 = .ok (.ifCond .ne 7, 3) := by decide +kernel
theorem dX6_becomes_9 : decode cX6_becomes 9 = .ok (.iload_n 3, 1) := by decide +kernel
theorem dX6_becomes_10 : decode cX6_becomes 10 = .ok (.goto 9, 3) := by decide +kernel
theorem dX6_becomes_13 : decode cX6_becomes 13 = .ok (.aload_n 0, 1) := by decide +kernel
theorem dX6_becomes_14 : decode cX6_becomes 14 = .ok (.getfield 57, 3) := by decide +kernel
theorem dX6_becomes_17 : decode cX6_becomes 17 = .ok (.iload_n 1, 1) := by decide +kernel
theorem dX6_becomes_18 : decode cX6_becomes 18 = .ok (.iaload, 1) := by decide +kernel
theorem dX6_becomes_19 : decode cX6_becomes 19 = .ok (.iastore, 1) := by decide +kernel
theorem dX6_becomes_20 : decode cX6_becomes 20 = .ok (.aload_n 0, 1) := by decide +kernel
theorem dX6_becomes_21 : decode cX6_becomes 21 = .ok (.getfield 60, 3) := by decide +kernel
theorem dX6_becomes_24 : decode cX6_becomes 24 = .ok (.iload_n 1, 1) := by decide +kernel
theorem dX6_becomes_25 : decode cX6_becomes 25 = .ok (.iload_n 2, 1) := by decide +kernel
theorem dX6_becomes_26 : decode cX6_becomes 26 = .ok (.iconst 1, 1) := by decide +kernel
theorem dX6_becomes_27 : decode cX6_becomes 27 = .ok (.if_icmp .ne 7, 3) := by decide +kernel
theorem dX6_becomes_30 : decode cX6_becomes 30 = .ok (.iload_n 3, 1) := by decide +kernel
theorem dX6_becomes_31 : decode cX6_becomes 31 = .ok (.goto 9, 3) := by decide +kernel
theorem dX6_becomes_34 : decode cX6_becomes 34 = .ok (.aload_n 0, 1) := by decide +kernel
theorem dX6_becomes_35 : decode cX6_becomes 35 = .ok (.getfield 60, 3) := by decide +kernel
theorem dX6_becomes_38 : decode cX6_becomes 38 = .ok (.iload_n 1, 1) := by decide +kernel
theorem dX6_becomes_39 : decode cX6_becomes 39 = .ok (.iaload, 1) := by decide +kernel
theorem dX6_becomes_40 : decode cX6_becomes 40 = .ok (.iastore, 1) := by decide +kernel
theorem dX6_becomes_41 : decode cX6_becomes 41 = .ok (.aload_n 0, 1) := by decide +kernel
theorem dX6_becomes_42 : decode cX6_becomes 42 = .ok (.getfield 63, 3) := by decide +kernel
theorem dX6_becomes_45 : decode cX6_becomes 45 = .ok (.iload_n 1, 1) := by decide +kernel
theorem dX6_becomes_46 : decode cX6_becomes 46 = .ok (.iload_n 2, 1) := by decide +kernel
theorem dX6_becomes_47 : decode cX6_becomes 47 = .ok (.iconst 2, 1) := by decide +kernel
theorem dX6_becomes_48 : decode cX6_becomes 48 = .ok (.if_icmp .ne 7, 3) := by decide +kernel
theorem dX6_becomes_51 : decode cX6_becomes 51 = .ok (.iload_n 3, 1) := by decide +kernel
theorem dX6_becomes_52 : decode cX6_becomes 52 = .ok (.goto 9, 3) := by decide +kernel
theorem dX6_becomes_55 : decode cX6_becomes 55 = .ok (.aload_n 0, 1) := by decide +kernel
theorem dX6_becomes_56 : decode cX6_becomes 56 = .ok (.getfield 63, 3) := by decide +kernel
theorem dX6_becomes_59 : decode cX6_becomes 59 = .ok (.iload_n 1, 1) := by decide +kernel
theorem dX6_becomes_60 : decode cX6_becomes 60 = .ok (.iaload, 1) := by decide +kernel
theorem dX6_becomes_61 : decode cX6_becomes 61 = .ok (.iastore, 1) := by decide +kernel
theorem dX6_becomes_62 : decode cX6_becomes 62 = .ok (.return_, 1) := by decide +kernel
def sX6_becomes_c61 (h : Hp) (t0 : Int32) (t1 : Int32) : Option Hp :=
  gd (inb t1 10) (nm (u1 h 59 t1.toNatClampNeg t0) fun h9 => some h9)
set_option maxRecDepth 10000 in
theorem vX6_becomes_c61 (h : Hp) (t0 : Int32) (t1 : Int32) (q : Hp) (e : sX6_becomes_c61 h t0 t1 = some q) : V (Gs 0 (pV q)) mX6_becomes (0, 0) 61 [] [.int t0, .int t1, .ref 59] h := by
  unfold sX6_becomes_c61 at e
  obtain ⟨c8, e⟩ := gd_s e
  obtain ⟨h9, eh9, e⟩ := nm_s e
  refine V.iast dX6_becomes_61 (pc' := 62) rfl rfl rfl (inb_t c8) eh9 ?_
  exact V.vret dX6_becomes_62 rfl (fnV e)
def sX6_becomes_c40 (h : Hp) (v1 : Int32) (v2 : Int32) (v3 : Int32) (t0 : Int32) (t1 : Int32) : Option Hp :=
  gd (inb t1 10) (nm (u1 h 58 t1.toNatClampNeg t0) fun h6 => if v2 = (2 : Int32) then (sX6_becomes_c61 h6 v3 v1) else (gd (inb v1 10) (sX6_becomes_c61 h6 (h6.1 59 v1.toNatClampNeg) v1)))
set_option maxRecDepth 10000 in
theorem vX6_becomes_c40 (h : Hp) (v1 : Int32) (v2 : Int32) (v3 : Int32) (t0 : Int32) (t1 : Int32) (q : Hp) (e : sX6_becomes_c40 h v1 v2 v3 t0 t1 = some q) : V (Gs 0 (pV q)) mX6_becomes (0, 0) 40 [(0, .ref 54), (1, .int v1), (2, .int v2), (3, .int v3)] [.int t0, .int t1, .ref 58] h := by
  unfold sX6_becomes_c40 at e
  obtain ⟨c5, e⟩ := gd_s e
  obtain ⟨h6, eh6, e⟩ := nm_s e
  refine V.iast dX6_becomes_40 (pc' := 41) rfl rfl rfl (inb_t c5) eh6 ?_
  refine V.alq dX6_becomes_41 (pc' := 42) rfl (j := 0) rfl ?_
  refine V.getr dX6_becomes_42 (pc' := 45) rfl FL_X6_63 rfl (by decide) rfl (r' := 59) rfl ?_
  refine V.ilq dX6_becomes_45 (pc' := 46) rfl (j := 1) rfl ?_
  refine V.ilq dX6_becomes_46 (pc' := 47) rfl (j := 2) rfl ?_
  refine V.iconst dX6_becomes_47 (pc' := 48) rfl (v := 2) (by decide) ?_
  refine V.ic_ne dX6_becomes_48 (pc' := 51) rfl (tgt := 55) (by decide) (fun c => ?_) (fun c => ?_)
  · rw [if_neg c] at e
    refine V.alq dX6_becomes_55 (pc' := 56) rfl (j := 0) rfl ?_
    refine V.getr dX6_becomes_56 (pc' := 59) rfl FL_X6_63 rfl (by decide) rfl (r' := 59) rfl ?_
    refine V.ilq dX6_becomes_59 (pc' := 60) rfl (j := 1) rfl ?_
    obtain ⟨c7, e⟩ := gd_s e
    refine V.iald dX6_becomes_60 (pc' := 61) rfl rfl rfl (inb_t c7) ?_
    refine V.pk [] rfl ?_
    exact vX6_becomes_c61 h6 (h6.1 59 v1.toNatClampNeg) v1 q e
  · rw [if_pos c] at e
    refine V.ilq dX6_becomes_51 (pc' := 52) rfl (j := 3) rfl ?_
    refine V.goto dX6_becomes_52 (pc' := 61) (by decide) ?_
    refine V.pk [] rfl ?_
    exact vX6_becomes_c61 h6 v3 v1 q e
def sX6_becomes_c19 (h : Hp) (v1 : Int32) (v2 : Int32) (v3 : Int32) (t0 : Int32) (t1 : Int32) : Option Hp :=
  gd (inb t1 10) (nm (u1 h 57 t1.toNatClampNeg t0) fun h3 => if v2 = (1 : Int32) then (sX6_becomes_c40 h3 v1 v2 v3 v3 v1) else (gd (inb v1 10) (sX6_becomes_c40 h3 v1 v2 v3 (h3.1 58 v1.toNatClampNeg) v1)))
set_option maxRecDepth 10000 in
theorem vX6_becomes_c19 (h : Hp) (v1 : Int32) (v2 : Int32) (v3 : Int32) (t0 : Int32) (t1 : Int32) (q : Hp) (e : sX6_becomes_c19 h v1 v2 v3 t0 t1 = some q) : V (Gs 0 (pV q)) mX6_becomes (0, 0) 19 [(0, .ref 54), (1, .int v1), (2, .int v2), (3, .int v3)] [.int t0, .int t1, .ref 57] h := by
  unfold sX6_becomes_c19 at e
  obtain ⟨c2, e⟩ := gd_s e
  obtain ⟨h3, eh3, e⟩ := nm_s e
  refine V.iast dX6_becomes_19 (pc' := 20) rfl rfl rfl (inb_t c2) eh3 ?_
  refine V.alq dX6_becomes_20 (pc' := 21) rfl (j := 0) rfl ?_
  refine V.getr dX6_becomes_21 (pc' := 24) rfl FL_X6_60 rfl (by decide) rfl (r' := 58) rfl ?_
  refine V.ilq dX6_becomes_24 (pc' := 25) rfl (j := 1) rfl ?_
  refine V.ilq dX6_becomes_25 (pc' := 26) rfl (j := 2) rfl ?_
  refine V.iconst dX6_becomes_26 (pc' := 27) rfl (v := 1) (by decide) ?_
  refine V.ic_ne dX6_becomes_27 (pc' := 30) rfl (tgt := 34) (by decide) (fun c => ?_) (fun c => ?_)
  · rw [if_neg c] at e
    refine V.alq dX6_becomes_34 (pc' := 35) rfl (j := 0) rfl ?_
    refine V.getr dX6_becomes_35 (pc' := 38) rfl FL_X6_60 rfl (by decide) rfl (r' := 58) rfl ?_
    refine V.ilq dX6_becomes_38 (pc' := 39) rfl (j := 1) rfl ?_
    obtain ⟨c4, e⟩ := gd_s e
    refine V.iald dX6_becomes_39 (pc' := 40) rfl rfl rfl (inb_t c4) ?_
    exact vX6_becomes_c40 h3 v1 v2 v3 (h3.1 58 v1.toNatClampNeg) v1 q e
  · rw [if_pos c] at e
    refine V.ilq dX6_becomes_30 (pc' := 31) rfl (j := 3) rfl ?_
    refine V.goto dX6_becomes_31 (pc' := 40) (by decide) ?_
    exact vX6_becomes_c40 h3 v1 v2 v3 v3 v1 q e
def sX6_becomes (h : Hp) (a1 : Int32) (a2 : Int32) (a3 : Int32) : Option Hp :=
  if a2 = 0 then (sX6_becomes_c19 h a1 a2 a3 a3 a1) else (gd (inb a1 10) (sX6_becomes_c19 h a1 a2 a3 (h.1 57 a1.toNatClampNeg) a1))
set_option maxRecDepth 10000 in
theorem kX6_becomes (h : Hp) (a1 : Int32) (a2 : Int32) (a3 : Int32) (q : Hp) (e : sX6_becomes h a1 a2 a3 = some q) : K 0 mX6_becomes [.ref 54, .int a1, .int a2, .int a3] h (pV q) := by
  unfold sX6_becomes at e
  refine K.ofV (by decide) rfl (Nat.le_of_ble_eq_true rfl) ?_
  show V (Gs 0 (pV q)) mX6_becomes (0, 0) 0 [(0, .ref 54), (1, .int a1), (2, .int a2), (3, .int a3)] [] h
  refine V.alq dX6_becomes_0 (pc' := 1) rfl (j := 0) rfl ?_
  refine V.getr dX6_becomes_1 (pc' := 4) rfl FL_X6_57 rfl (by decide) rfl (r' := 57) rfl ?_
  refine V.ilq dX6_becomes_4 (pc' := 5) rfl (j := 1) rfl ?_
  refine V.ilq dX6_becomes_5 (pc' := 6) rfl (j := 2) rfl ?_
  refine V.if_ne dX6_becomes_6 (pc' := 9) rfl (tgt := 13) (by decide) (fun c => ?_) (fun c => ?_)
  · rw [if_neg c] at e
    refine V.alq dX6_becomes_13 (pc' := 14) rfl (j := 0) rfl ?_
    refine V.getr dX6_becomes_14 (pc' := 17) rfl FL_X6_57 rfl (by decide) rfl (r' := 57) rfl ?_
    refine V.ilq dX6_becomes_17 (pc' := 18) rfl (j := 1) rfl ?_
    obtain ⟨c1, e⟩ := gd_s e
    refine V.iald dX6_becomes_18 (pc' := 19) rfl rfl rfl (inb_t c1) ?_
    exact vX6_becomes_c19 h a1 a2 a3 (h.1 57 a1.toNatClampNeg) a1 q e
  · rw [if_pos c] at e
    refine V.ilq dX6_becomes_9 (pc' := 10) rfl (j := 3) rfl ?_
    refine V.goto dX6_becomes_10 (pc' := 19) (by decide) ?_
    exact vX6_becomes_c19 h a1 a2 a3 a3 a1 q e

-- X6_takesOut (level 0)
theorem dX6_takesOut_0 : decode cX6_takesOut 0 = .ok (.aload_n 0, 1) := by decide +kernel
theorem dX6_takesOut_1 : decode cX6_takesOut 1 = .ok (.dup, 1) := by decide +kernel
theorem dX6_takesOut_2 : decode cX6_takesOut 2 = .ok (.getfield 131, 3) := by decide +kernel
theorem dX6_takesOut_5 : decode cX6_takesOut 5 = .ok (.iconst 1, 1) := by decide +kernel
theorem dX6_takesOut_6 : decode cX6_takesOut 6 = .ok (.isub, 1) := by decide +kernel
theorem dX6_takesOut_7 : decode cX6_takesOut 7 = .ok (.putfield 131, 3) := by decide +kernel
theorem dX6_takesOut_10 : decode cX6_takesOut 10 = .ok (.iload_n 1, 1) := by decide +kernel
theorem dX6_takesOut_11 : decode cX6_takesOut 11 = .ok (.istore_n 2, 1) := by decide +kernel
theorem dX6_takesOut_12 : decode cX6_takesOut 12 = .ok (.iload_n 2, 1) := by decide +kernel
theorem dX6_takesOut_13 : decode cX6_takesOut 13 = .ok (.aload_n 0, 1) := by decide +kernel
theorem dX6_takesOut_14 : decode cX6_takesOut 14 = .ok (.getfield 131, 3) := by decide +kernel
theorem dX6_takesOut_17 : decode cX6_takesOut 17 = .ok (.if_icmp .ge 51, 3) := by decide +kernel
theorem dX6_takesOut_20 : decode cX6_takesOut 20 = .ok (.aload_n 0, 1) := by decide +kernel
theorem dX6_takesOut_21 : decode cX6_takesOut 21 = .ok (.getfield 57, 3) := by decide +kernel
theorem dX6_takesOut_24 : decode cX6_takesOut 24 = .ok (.iload_n 2, 1) := by decide +kernel
theorem dX6_takesOut_25 : decode cX6_takesOut 25 = .ok (.aload_n 0, 1) := by decide +kernel
theorem dX6_takesOut_26 : decode cX6_takesOut 26 = .ok (.getfield 57, 3) := by decide +kernel
theorem dX6_takesOut_29 : decode cX6_takesOut 29 = .ok (.iload_n 2, 1) := by decide +kernel
theorem dX6_takesOut_30 : decode cX6_takesOut 30 = .ok (.iconst 1, 1) := by decide +kernel
theorem dX6_takesOut_31 : decode cX6_takesOut 31 = .ok (.iadd, 1) := by decide +kernel
theorem dX6_takesOut_32 : decode cX6_takesOut 32 = .ok (.iaload, 1) := by decide +kernel
theorem dX6_takesOut_33 : decode cX6_takesOut 33 = .ok (.iastore, 1) := by decide +kernel
theorem dX6_takesOut_34 : decode cX6_takesOut 34 = .ok (.aload_n 0, 1) := by decide +kernel
theorem dX6_takesOut_35 : decode cX6_takesOut 35 = .ok (.getfield 60, 3) := by decide +kernel
theorem dX6_takesOut_38 : decode cX6_takesOut 38 = .ok (.iload_n 2, 1) := by decide +kernel
theorem dX6_takesOut_39 : decode cX6_takesOut 39 = .ok (.aload_n 0, 1) := by decide +kernel
theorem dX6_takesOut_40 : decode cX6_takesOut 40 = .ok (.getfield 60, 3) := by decide +kernel
theorem dX6_takesOut_43 : decode cX6_takesOut 43 = .ok (.iload_n 2, 1) := by decide +kernel
theorem dX6_takesOut_44 : decode cX6_takesOut 44 = .ok (.iconst 1, 1) := by decide +kernel
theorem dX6_takesOut_45 : decode cX6_takesOut 45 = .ok (.iadd, 1) := by decide +kernel
theorem dX6_takesOut_46 : decode cX6_takesOut 46 = .ok (.iaload, 1) := by decide +kernel
theorem dX6_takesOut_47 : decode cX6_takesOut 47 = .ok (.iastore, 1) := by decide +kernel
theorem dX6_takesOut_48 : decode cX6_takesOut 48 = .ok (.aload_n 0, 1) := by decide +kernel
theorem dX6_takesOut_49 : decode cX6_takesOut 49 = .ok (.getfield 63, 3) := by decide +kernel
theorem dX6_takesOut_52 : decode cX6_takesOut 52 = .ok (.iload_n 2, 1) := by decide +kernel
theorem dX6_takesOut_53 : decode cX6_takesOut 53 = .ok (.aload_n 0, 1) := by decide +kernel
theorem dX6_takesOut_54 : decode cX6_takesOut 54 = .ok (.getfield 63, 3) := by decide +kernel
theorem dX6_takesOut_57 : decode cX6_takesOut 57 = .ok (.iload_n 2, 1) := by decide +kernel
theorem dX6_takesOut_58 : decode cX6_takesOut 58 = .ok (.iconst 1, 1) := by decide +kernel
theorem dX6_takesOut_59 : decode cX6_takesOut 59 = .ok (.iadd, 1) := by decide +kernel
theorem dX6_takesOut_60 : decode cX6_takesOut 60 = .ok (.iaload, 1) := by decide +kernel
theorem dX6_takesOut_61 : decode cX6_takesOut 61 = .ok (.iastore, 1) := by decide +kernel
theorem dX6_takesOut_62 : decode cX6_takesOut 62 = .ok (.iinc 2 1, 3) := by decide +kernel
theorem dX6_takesOut_65 : decode cX6_takesOut 65 = .ok (.goto (-53), 3) := by decide +kernel
theorem dX6_takesOut_68 : decode cX6_takesOut 68 = .ok (.return_, 1) := by decide +kernel
def sX6_takesOut_c12 (k12 : Hp → Int32 → Option Hp) (h : Hp) (v2 : Int32) : Option Hp :=
  if (h.1 54 7) ≤ v2 then (some h) else (gd (inb (v2 + (1 : Int32)) 10) (gd (inb v2 10) (nm (u1 h 57 v2.toNatClampNeg (h.1 57 (v2 + (1 : Int32)).toNatClampNeg)) fun h4 => gd (inb (v2 + (1 : Int32)) 10) (gd (inb v2 10) (nm (u1 h4 58 v2.toNatClampNeg (h4.1 58 (v2 + (1 : Int32)).toNatClampNeg)) fun h7 => gd (inb (v2 + (1 : Int32)) 10) (gd (inb v2 10) (nm (u1 h7 59 v2.toNatClampNeg (h7.1 59 (v2 + (1 : Int32)).toNatClampNeg)) fun h10 => nm (v2 + (1 : Int32)) fun x11 => k12 h10 x11)))))))
set_option maxRecDepth 10000 in
theorem vX6_takesOut_c12 (k12 : Hp → Int32 → Option Hp) (hk12 : ∀ (h : Hp) (v2 : Int32) (q : Hp), k12 h v2 = some q → V (Gs 0 (pV q)) mX6_takesOut (0, 0) 12 [(0, .ref 54), (2, .int v2)] [] h) (h : Hp) (v2 : Int32) (q : Hp) (e : sX6_takesOut_c12 k12 h v2 = some q) : V (Gs 0 (pV q)) mX6_takesOut (0, 0) 12 [(0, .ref 54), (2, .int v2)] [] h := by
  unfold sX6_takesOut_c12 at e
  refine V.ilq dX6_takesOut_12 (pc' := 13) rfl (j := 1) rfl ?_
  refine V.alq dX6_takesOut_13 (pc' := 14) rfl (j := 0) rfl ?_
  refine V.getf dX6_takesOut_14 (pc' := 17) rfl FL_X6_131 rfl (by decide) rfl ?_
  refine V.ic_ge dX6_takesOut_17 (pc' := 20) rfl (tgt := 68) (by decide) (fun c => ?_) (fun c => ?_)
  · rw [if_pos c] at e
    exact V.vret dX6_takesOut_68 rfl (fnV e)
  · rw [if_neg c] at e
    refine V.alq dX6_takesOut_20 (pc' := 21) rfl (j := 0) rfl ?_
    refine V.getr dX6_takesOut_21 (pc' := 24) rfl FL_X6_57 rfl (by decide) rfl (r' := 57) rfl ?_
    refine V.ilq dX6_takesOut_24 (pc' := 25) rfl (j := 1) rfl ?_
    refine V.alq dX6_takesOut_25 (pc' := 26) rfl (j := 0) rfl ?_
    refine V.getr dX6_takesOut_26 (pc' := 29) rfl FL_X6_57 rfl (by decide) rfl (r' := 57) rfl ?_
    refine V.ilq dX6_takesOut_29 (pc' := 30) rfl (j := 1) rfl ?_
    refine V.iconst dX6_takesOut_30 (pc' := 31) rfl (v := 1) (by decide) ?_
    refine V.iadd dX6_takesOut_31 (pc' := 32) rfl ?_
    obtain ⟨c2, e⟩ := gd_s e
    refine V.iald dX6_takesOut_32 (pc' := 33) rfl rfl rfl (inb_t c2) ?_
    obtain ⟨c3, e⟩ := gd_s e
    obtain ⟨h4, eh4, e⟩ := nm_s e
    refine V.iast dX6_takesOut_33 (pc' := 34) rfl rfl rfl (inb_t c3) eh4 ?_
    refine V.alq dX6_takesOut_34 (pc' := 35) rfl (j := 0) rfl ?_
    refine V.getr dX6_takesOut_35 (pc' := 38) rfl FL_X6_60 rfl (by decide) rfl (r' := 58) rfl ?_
    refine V.ilq dX6_takesOut_38 (pc' := 39) rfl (j := 1) rfl ?_
    refine V.alq dX6_takesOut_39 (pc' := 40) rfl (j := 0) rfl ?_
    refine V.getr dX6_takesOut_40 (pc' := 43) rfl FL_X6_60 rfl (by decide) rfl (r' := 58) rfl ?_
    refine V.ilq dX6_takesOut_43 (pc' := 44) rfl (j := 1) rfl ?_
    refine V.iconst dX6_takesOut_44 (pc' := 45) rfl (v := 1) (by decide) ?_
    refine V.iadd dX6_takesOut_45 (pc' := 46) rfl ?_
    obtain ⟨c5, e⟩ := gd_s e
    refine V.iald dX6_takesOut_46 (pc' := 47) rfl rfl rfl (inb_t c5) ?_
    obtain ⟨c6, e⟩ := gd_s e
    obtain ⟨h7, eh7, e⟩ := nm_s e
    refine V.iast dX6_takesOut_47 (pc' := 48) rfl rfl rfl (inb_t c6) eh7 ?_
    refine V.alq dX6_takesOut_48 (pc' := 49) rfl (j := 0) rfl ?_
    refine V.getr dX6_takesOut_49 (pc' := 52) rfl FL_X6_63 rfl (by decide) rfl (r' := 59) rfl ?_
    refine V.ilq dX6_takesOut_52 (pc' := 53) rfl (j := 1) rfl ?_
    refine V.alq dX6_takesOut_53 (pc' := 54) rfl (j := 0) rfl ?_
    refine V.getr dX6_takesOut_54 (pc' := 57) rfl FL_X6_63 rfl (by decide) rfl (r' := 59) rfl ?_
    refine V.ilq dX6_takesOut_57 (pc' := 58) rfl (j := 1) rfl ?_
    refine V.iconst dX6_takesOut_58 (pc' := 59) rfl (v := 1) (by decide) ?_
    refine V.iadd dX6_takesOut_59 (pc' := 60) rfl ?_
    obtain ⟨c8, e⟩ := gd_s e
    refine V.iald dX6_takesOut_60 (pc' := 61) rfl rfl rfl (inb_t c8) ?_
    obtain ⟨c9, e⟩ := gd_s e
    obtain ⟨h10, eh10, e⟩ := nm_s e
    refine V.iast dX6_takesOut_61 (pc' := 62) rfl rfl rfl (inb_t c9) eh10 ?_
    obtain ⟨x11, ex11, e⟩ := nm_s e
    refine V.iinc dX6_takesOut_62 (pc' := 65) rfl (j := 1) rfl (v := 1) (by decide) (by decide) ex11 (L' := [(2, .int x11), (0, .ref 54)]) rfl ?_
    refine V.goto dX6_takesOut_65 (pc' := 12) (by decide) ?_
    refine V.pk [1, 0] rfl ?_
    exact hk12 h10 x11 q e
def sX6_takesOut_b12 : Nat → Hp → Int32 → Option Hp
  | 0 => fun _ _ => none
  | n + 1 => sX6_takesOut_c12 (sX6_takesOut_b12 n)
theorem vX6_takesOut_b12 : ∀ (n : Nat) (h : Hp) (v2 : Int32) (q : Hp), sX6_takesOut_b12 n h v2 = some q → V (Gs 0 (pV q)) mX6_takesOut (0, 0) 12 [(0, .ref 54), (2, .int v2)] [] h
  | 0 => fun _ _ _ e => by cases e
  | n + 1 => fun h v2 q e => vX6_takesOut_c12 (sX6_takesOut_b12 n) (vX6_takesOut_b12 n) h v2 q e
def sX6_takesOut (h : Hp) (a1 : Int32) : Option Hp :=
  nm (u1 h 54 7 ((h.1 54 7) - (1 : Int32))) fun h1 => sX6_takesOut_b12 FU h1 a1
set_option maxRecDepth 10000 in
theorem kX6_takesOut (h : Hp) (a1 : Int32) (q : Hp) (e : sX6_takesOut h a1 = some q) : K 0 mX6_takesOut [.ref 54, .int a1] h (pV q) := by
  unfold sX6_takesOut at e
  refine K.ofV (by decide) rfl (Nat.le_of_ble_eq_true rfl) ?_
  show V (Gs 0 (pV q)) mX6_takesOut (0, 0) 0 [(0, .ref 54), (1, .int a1)] [] h
  refine V.alq dX6_takesOut_0 (pc' := 1) rfl (j := 0) rfl ?_
  refine V.dup dX6_takesOut_1 (pc' := 2) rfl rfl ?_
  refine V.getf dX6_takesOut_2 (pc' := 5) rfl FL_X6_131 rfl (by decide) rfl ?_
  refine V.iconst dX6_takesOut_5 (pc' := 6) rfl (v := 1) (by decide) ?_
  refine V.isub dX6_takesOut_6 (pc' := 7) rfl ?_
  obtain ⟨h1, eh1, e⟩ := nm_s e
  refine V.putf dX6_takesOut_7 (pc' := 10) rfl FP_X6_131 rfl (by decide) rfl eh1 ?_
  refine V.ilq dX6_takesOut_10 (pc' := 11) rfl (j := 1) rfl ?_
  refine V.isq dX6_takesOut_11 (pc' := 12) rfl (by decide) rfl (L' := [(2, .int a1), (0, .ref 54), (1, .int a1)]) rfl ?_
  refine V.pk [1, 0] rfl ?_
  exact vX6_takesOut_b12 FU h1 a1 q e

-- X6_addsBorder (level 0)
theorem dX6_addsBorder_0 : decode cX6_addsBorder 0 = .ok (.iconst 0, 1) := by decide +kernel
theorem dX6_addsBorder_1 : decode cX6_addsBorder 1 = .ok (.istore_n 2, 1) := by decide +kernel
theorem dX6_addsBorder_2 : decode cX6_addsBorder 2 = .ok (.iload_n 2, 1) := by decide +kernel
theorem dX6_addsBorder_3 : decode cX6_addsBorder 3 = .ok (.aload_n 0, 1) := by decide +kernel
theorem dX6_addsBorder_4 : decode cX6_addsBorder 4 = .ok (.getfield 187, 3) := by decide +kernel
theorem dX6_addsBorder_7 : decode cX6_addsBorder 7 = .ok (.if_icmp .ge 19, 3) := by decide +kernel
theorem dX6_addsBorder_10 : decode cX6_addsBorder 10 = .ok (.aload_n 0, 1) := by decide +kernel
theorem dX6_addsBorder_11 : decode cX6_addsBorder 11 = .ok (.getfield 78, 3) := by decide +kernel
theorem dX6_addsBorder_14 : decode cX6_addsBorder 14 = .ok (.iload_n 2, 1) := by decide +kernel
theorem dX6_addsBorder_15 : decode cX6_addsBorder 15 = .ok (.iaload, 1) := by decide +kernel
theorem dX6_addsBorder_16 : decode cX6_addsBorder 16 = .ok (.iload_n 1, 1) := by decide +kernel
theorem dX6_addsBorder_17 : decode cX6_addsBorder 17 = .ok (.if_icmp .le 9, 3) := by decide +kernel
theorem dX6_addsBorder_20 : decode cX6_addsBorder 20 = .ok (.iinc 2 1, 3) := by decide +kernel
theorem dX6_addsBorder_23 : decode cX6_addsBorder 23 = .ok (.goto (-21), 3) := by decide +kernel
theorem dX6_addsBorder_26 : decode cX6_addsBorder 26 = .ok (.iload_n 2, 1) := by decide +kernel
theorem dX6_addsBorder_27 : decode cX6_addsBorder 27 = .ok (.aload_n 0, 1) := by decide +kernel
theorem dX6_addsBorder_28 : decode cX6_addsBorder 28 = .ok (.getfield 187, 3) := by decide +kernel
theorem dX6_addsBorder_31 : decode cX6_addsBorder 31 = .ok (.if_icmp .ge 14, 3) := by decide +kernel
theorem dX6_addsBorder_34 : decode cX6_addsBorder 34 = .ok (.aload_n 0, 1) := by decide +kernel
theorem dX6_addsBorder_35 : decode cX6_addsBorder 35 = .ok (.getfield 78, 3) := by decide +kernel
theorem dX6_addsBorder_38 : decode cX6_addsBorder 38 = .ok (.iload_n 2, 1) := by decide +kernel
theorem dX6_addsBorder_39 : decode cX6_addsBorder 39 = .ok (.iaload, 1) := by decide +kernel
theorem dX6_addsBorder_40 : decode cX6_addsBorder 40 = .ok (.iload_n 1, 1) := by decide +kernel
theorem dX6_addsBorder_41 : decode cX6_addsBorder 41 = .ok (.if_icmp .ne 4, 3) := by decide +kernel
theorem dX6_addsBorder_44 : decode cX6_addsBorder 44 = .ok (.return_, 1) := by decide +kernel
theorem dX6_addsBorder_45 : decode cX6_addsBorder 45 = .ok (.aload_n 0, 1) := by decide +kernel
theorem dX6_addsBorder_46 : decode cX6_addsBorder 46 = .ok (.getfield 187, 3) := by decide +kernel
theorem dX6_addsBorder_49 : decode cX6_addsBorder 49 = .ok (.istore_n 3, 1) := by decide +kernel
theorem dX6_addsBorder_50 : decode cX6_addsBorder 50 = .ok (.iload_n 3, 1) := by decide +kernel
theorem dX6_addsBorder_51 : decode cX6_addsBorder 51 = .ok (.iload_n 2, 1) := by decide +kernel
theorem dX6_addsBorder_52 : decode cX6_addsBorder 52 = .ok (.if_icmp .le 23, 3) := by decide +kernel
theorem dX6_addsBorder_55 : decode cX6_addsBorder 55 = .ok (.aload_n 0, 1) := by decide +kernel
theorem dX6_addsBorder_56 : decode cX6_addsBorder 56 = .ok (.getfield 78, 3) := by decide +kernel
theorem dX6_addsBorder_59 : decode cX6_addsBorder 59 = .ok (.iload_n 3, 1) := by decide +kernel
theorem dX6_addsBorder_60 : decode cX6_addsBorder 60 = .ok (.aload_n 0, 1) := by decide +kernel
theorem dX6_addsBorder_61 : decode cX6_addsBorder 61 = .ok (.getfield 78, 3) := by decide +kernel
theorem dX6_addsBorder_64 : decode cX6_addsBorder 64 = .ok (.iload_n 3, 1) := by decide +kernel
theorem dX6_addsBorder_65 : decode cX6_addsBorder 65 = .ok (.iconst 1, 1) := by decide +kernel
theorem dX6_addsBorder_66 : decode cX6_addsBorder 66 = .ok (.isub, 1) := by decide +kernel
theorem dX6_addsBorder_67 : decode cX6_addsBorder 67 = .ok (.iaload, 1) := by decide +kernel
theorem dX6_addsBorder_68 : decode cX6_addsBorder 68 = .ok (.iastore, 1) := by decide +kernel
theorem dX6_addsBorder_69 : decode cX6_addsBorder 69 = .ok (.iinc 3 (-1), 3) := by decide +kernel
theorem dX6_addsBorder_72 : decode cX6_addsBorder 72 = .ok (.goto (-22), 3) := by decide +kernel
theorem dX6_addsBorder_75 : decode cX6_addsBorder 75 = .ok (.aload_n 0, 1) := by decide +kernel
theorem dX6_addsBorder_76 : decode cX6_addsBorder 76 = .ok (.getfield 78, 3) := by decide +kernel
theorem dX6_addsBorder_79 : decode cX6_addsBorder 79 = .ok (.iload_n 2, 1) := by decide +kernel
theorem dX6_addsBorder_80 : decode cX6_addsBorder 80 = .ok (.iload_n 1, 1) := by decide +kernel
theorem dX6_addsBorder_81 : decode cX6_addsBorder 81 = .ok (.iastore, 1) := by decide +kernel
theorem dX6_addsBorder_82 : decode cX6_addsBorder 82 = .ok (.aload_n 0, 1) := by decide +kernel
theorem dX6_addsBorder_83 : decode cX6_addsBorder 83 = .ok (.dup, 1) := by decide +kernel
theorem dX6_addsBorder_84 : decode cX6_addsBorder 84 = .ok (.getfield 187, 3) := by decide +kernel
theorem dX6_addsBorder_87 : decode cX6_addsBorder 87 = .ok (.iconst 1, 1) := by decide +kernel
theorem dX6_addsBorder_88 : decode cX6_addsBorder 88 = .ok (.iadd, 1) := by decide +kernel
theorem dX6_addsBorder_89 : decode cX6_addsBorder 89 = .ok (.putfield 187, 3) := by decide +kernel
theorem dX6_addsBorder_92 : decode cX6_addsBorder 92 = .ok (.return_, 1) := by decide +kernel
def sX6_addsBorder_c50 (k50 : Hp → Int32 → Int32 → Int32 → Option Hp) (h : Hp) (v1 : Int32) (v2 : Int32) (v3 : Int32) : Option Hp :=
  if v3 ≤ v2 then (gd (inb v2 20) (nm (u1 h 63 v2.toNatClampNeg v1) fun h6 => nm (u1 h6 54 17 ((h6.1 54 17) + (1 : Int32))) fun h7 => some h7)) else (gd (inb (v3 - (1 : Int32)) 20) (gd (inb v3 20) (nm (u1 h 63 v3.toNatClampNeg (h.1 63 (v3 - (1 : Int32)).toNatClampNeg)) fun h10 => nm (v3 + (-1 : Int32)) fun x11 => k50 h10 v1 v2 x11)))
set_option maxRecDepth 10000 in
theorem vX6_addsBorder_c50 (k50 : Hp → Int32 → Int32 → Int32 → Option Hp) (hk50 : ∀ (h : Hp) (v1 : Int32) (v2 : Int32) (v3 : Int32) (q : Hp), k50 h v1 v2 v3 = some q → V (Gs 0 (pV q)) mX6_addsBorder (0, 0) 50 [(0, .ref 54), (1, .int v1), (2, .int v2), (3, .int v3)] [] h) (h : Hp) (v1 : Int32) (v2 : Int32) (v3 : Int32) (q : Hp) (e : sX6_addsBorder_c50 k50 h v1 v2 v3 = some q) : V (Gs 0 (pV q)) mX6_addsBorder (0, 0) 50 [(0, .ref 54), (1, .int v1), (2, .int v2), (3, .int v3)] [] h := by
  unfold sX6_addsBorder_c50 at e
  refine V.ilq dX6_addsBorder_50 (pc' := 51) rfl (j := 3) rfl ?_
  refine V.ilq dX6_addsBorder_51 (pc' := 52) rfl (j := 2) rfl ?_
  refine V.ic_le dX6_addsBorder_52 (pc' := 55) rfl (tgt := 75) (by decide) (fun c => ?_) (fun c => ?_)
  · rw [if_pos c] at e
    refine V.alq dX6_addsBorder_75 (pc' := 76) rfl (j := 0) rfl ?_
    refine V.getr dX6_addsBorder_76 (pc' := 79) rfl FL_X6_78 rfl (by decide) rfl (r' := 63) rfl ?_
    refine V.ilq dX6_addsBorder_79 (pc' := 80) rfl (j := 2) rfl ?_
    refine V.ilq dX6_addsBorder_80 (pc' := 81) rfl (j := 1) rfl ?_
    obtain ⟨c5, e⟩ := gd_s e
    obtain ⟨h6, eh6, e⟩ := nm_s e
    refine V.iast dX6_addsBorder_81 (pc' := 82) rfl rfl rfl (inb_t c5) eh6 ?_
    refine V.alq dX6_addsBorder_82 (pc' := 83) rfl (j := 0) rfl ?_
    refine V.dup dX6_addsBorder_83 (pc' := 84) rfl rfl ?_
    refine V.getf dX6_addsBorder_84 (pc' := 87) rfl FL_X6_187 rfl (by decide) rfl ?_
    refine V.iconst dX6_addsBorder_87 (pc' := 88) rfl (v := 1) (by decide) ?_
    refine V.iadd dX6_addsBorder_88 (pc' := 89) rfl ?_
    obtain ⟨h7, eh7, e⟩ := nm_s e
    refine V.putf dX6_addsBorder_89 (pc' := 92) rfl FP_X6_187 rfl (by decide) rfl eh7 ?_
    exact V.vret dX6_addsBorder_92 rfl (fnV e)
  · rw [if_neg c] at e
    refine V.alq dX6_addsBorder_55 (pc' := 56) rfl (j := 0) rfl ?_
    refine V.getr dX6_addsBorder_56 (pc' := 59) rfl FL_X6_78 rfl (by decide) rfl (r' := 63) rfl ?_
    refine V.ilq dX6_addsBorder_59 (pc' := 60) rfl (j := 3) rfl ?_
    refine V.alq dX6_addsBorder_60 (pc' := 61) rfl (j := 0) rfl ?_
    refine V.getr dX6_addsBorder_61 (pc' := 64) rfl FL_X6_78 rfl (by decide) rfl (r' := 63) rfl ?_
    refine V.ilq dX6_addsBorder_64 (pc' := 65) rfl (j := 3) rfl ?_
    refine V.iconst dX6_addsBorder_65 (pc' := 66) rfl (v := 1) (by decide) ?_
    refine V.isub dX6_addsBorder_66 (pc' := 67) rfl ?_
    obtain ⟨c8, e⟩ := gd_s e
    refine V.iald dX6_addsBorder_67 (pc' := 68) rfl rfl rfl (inb_t c8) ?_
    obtain ⟨c9, e⟩ := gd_s e
    obtain ⟨h10, eh10, e⟩ := nm_s e
    refine V.iast dX6_addsBorder_68 (pc' := 69) rfl rfl rfl (inb_t c9) eh10 ?_
    obtain ⟨x11, ex11, e⟩ := nm_s e
    refine V.iinc dX6_addsBorder_69 (pc' := 72) rfl (j := 3) rfl (v := -1) (by decide) (by decide) ex11 (L' := [(3, .int x11), (0, .ref 54), (1, .int v1), (2, .int v2)]) rfl ?_
    refine V.goto dX6_addsBorder_72 (pc' := 50) (by decide) ?_
    refine V.pk [1, 2, 3, 0] rfl ?_
    exact hk50 h10 v1 v2 x11 q e
def sX6_addsBorder_b50 : Nat → Hp → Int32 → Int32 → Int32 → Option Hp
  | 0 => fun _ _ _ _ => none
  | n + 1 => sX6_addsBorder_c50 (sX6_addsBorder_b50 n)
theorem vX6_addsBorder_b50 : ∀ (n : Nat) (h : Hp) (v1 : Int32) (v2 : Int32) (v3 : Int32) (q : Hp), sX6_addsBorder_b50 n h v1 v2 v3 = some q → V (Gs 0 (pV q)) mX6_addsBorder (0, 0) 50 [(0, .ref 54), (1, .int v1), (2, .int v2), (3, .int v3)] [] h
  | 0 => fun _ _ _ _ _ e => by cases e
  | n + 1 => fun h v1 v2 v3 q e => vX6_addsBorder_c50 (sX6_addsBorder_b50 n) (vX6_addsBorder_b50 n) h v1 v2 v3 q e
def sX6_addsBorder_c45 (h : Hp) (v1 : Int32) (v2 : Int32) : Option Hp :=
  nm ((h.1 54 17)) fun x4 => sX6_addsBorder_b50 FU h v1 v2 x4
set_option maxRecDepth 10000 in
theorem vX6_addsBorder_c45 (h : Hp) (v1 : Int32) (v2 : Int32) (q : Hp) (e : sX6_addsBorder_c45 h v1 v2 = some q) : V (Gs 0 (pV q)) mX6_addsBorder (0, 0) 45 [(0, .ref 54), (1, .int v1), (2, .int v2)] [] h := by
  unfold sX6_addsBorder_c45 at e
  refine V.alq dX6_addsBorder_45 (pc' := 46) rfl (j := 0) rfl ?_
  refine V.getf dX6_addsBorder_46 (pc' := 49) rfl FL_X6_187 rfl (by decide) rfl ?_
  obtain ⟨x4, ex4, e⟩ := nm_s e
  refine V.isq dX6_addsBorder_49 (pc' := 50) rfl (by decide) ex4 (L' := [(3, .int x4), (0, .ref 54), (1, .int v1), (2, .int v2)]) rfl ?_
  refine V.pk [1, 2, 3, 0] rfl ?_
  exact vX6_addsBorder_b50 FU h v1 v2 x4 q e
def sX6_addsBorder_c26 (h : Hp) (v1 : Int32) (v2 : Int32) : Option Hp :=
  if (h.1 54 17) ≤ v2 then (sX6_addsBorder_c45 h v1 v2) else (gd (inb v2 20) (if (h.1 63 v2.toNatClampNeg) = v1 then (some h) else (sX6_addsBorder_c45 h v1 v2)))
set_option maxRecDepth 10000 in
theorem vX6_addsBorder_c26 (h : Hp) (v1 : Int32) (v2 : Int32) (q : Hp) (e : sX6_addsBorder_c26 h v1 v2 = some q) : V (Gs 0 (pV q)) mX6_addsBorder (0, 0) 26 [(0, .ref 54), (1, .int v1), (2, .int v2)] [] h := by
  unfold sX6_addsBorder_c26 at e
  refine V.ilq dX6_addsBorder_26 (pc' := 27) rfl (j := 2) rfl ?_
  refine V.alq dX6_addsBorder_27 (pc' := 28) rfl (j := 0) rfl ?_
  refine V.getf dX6_addsBorder_28 (pc' := 31) rfl FL_X6_187 rfl (by decide) rfl ?_
  refine V.ic_ge dX6_addsBorder_31 (pc' := 34) rfl (tgt := 45) (by decide) (fun c => ?_) (fun c => ?_)
  · rw [if_pos c] at e
    exact vX6_addsBorder_c45 h v1 v2 q e
  · rw [if_neg c] at e
    refine V.alq dX6_addsBorder_34 (pc' := 35) rfl (j := 0) rfl ?_
    refine V.getr dX6_addsBorder_35 (pc' := 38) rfl FL_X6_78 rfl (by decide) rfl (r' := 63) rfl ?_
    refine V.ilq dX6_addsBorder_38 (pc' := 39) rfl (j := 2) rfl ?_
    obtain ⟨c3, e⟩ := gd_s e
    refine V.iald dX6_addsBorder_39 (pc' := 40) rfl rfl rfl (inb_t c3) ?_
    refine V.ilq dX6_addsBorder_40 (pc' := 41) rfl (j := 1) rfl ?_
    refine V.ic_ne dX6_addsBorder_41 (pc' := 44) rfl (tgt := 45) (by decide) (fun c => ?_) (fun c => ?_)
    · rw [if_neg c] at e
      exact vX6_addsBorder_c45 h v1 v2 q e
    · rw [if_pos c] at e
      exact V.vret dX6_addsBorder_44 rfl (fnV e)
def sX6_addsBorder_c2 (k2 : Hp → Int32 → Int32 → Option Hp) (h : Hp) (v1 : Int32) (v2 : Int32) : Option Hp :=
  if (h.1 54 17) ≤ v2 then (sX6_addsBorder_c26 h v1 v2) else (gd (inb v2 20) (if (h.1 63 v2.toNatClampNeg) ≤ v1 then (sX6_addsBorder_c26 h v1 v2) else (nm (v2 + (1 : Int32)) fun x2 => k2 h v1 x2)))
set_option maxRecDepth 10000 in
theorem vX6_addsBorder_c2 (k2 : Hp → Int32 → Int32 → Option Hp) (hk2 : ∀ (h : Hp) (v1 : Int32) (v2 : Int32) (q : Hp), k2 h v1 v2 = some q → V (Gs 0 (pV q)) mX6_addsBorder (0, 0) 2 [(0, .ref 54), (1, .int v1), (2, .int v2)] [] h) (h : Hp) (v1 : Int32) (v2 : Int32) (q : Hp) (e : sX6_addsBorder_c2 k2 h v1 v2 = some q) : V (Gs 0 (pV q)) mX6_addsBorder (0, 0) 2 [(0, .ref 54), (1, .int v1), (2, .int v2)] [] h := by
  unfold sX6_addsBorder_c2 at e
  refine V.ilq dX6_addsBorder_2 (pc' := 3) rfl (j := 2) rfl ?_
  refine V.alq dX6_addsBorder_3 (pc' := 4) rfl (j := 0) rfl ?_
  refine V.getf dX6_addsBorder_4 (pc' := 7) rfl FL_X6_187 rfl (by decide) rfl ?_
  refine V.ic_ge dX6_addsBorder_7 (pc' := 10) rfl (tgt := 26) (by decide) (fun c => ?_) (fun c => ?_)
  · rw [if_pos c] at e
    exact vX6_addsBorder_c26 h v1 v2 q e
  · rw [if_neg c] at e
    refine V.alq dX6_addsBorder_10 (pc' := 11) rfl (j := 0) rfl ?_
    refine V.getr dX6_addsBorder_11 (pc' := 14) rfl FL_X6_78 rfl (by decide) rfl (r' := 63) rfl ?_
    refine V.ilq dX6_addsBorder_14 (pc' := 15) rfl (j := 2) rfl ?_
    obtain ⟨c1, e⟩ := gd_s e
    refine V.iald dX6_addsBorder_15 (pc' := 16) rfl rfl rfl (inb_t c1) ?_
    refine V.ilq dX6_addsBorder_16 (pc' := 17) rfl (j := 1) rfl ?_
    refine V.ic_le dX6_addsBorder_17 (pc' := 20) rfl (tgt := 26) (by decide) (fun c => ?_) (fun c => ?_)
    · rw [if_pos c] at e
      exact vX6_addsBorder_c26 h v1 v2 q e
    · rw [if_neg c] at e
      obtain ⟨x2, ex2, e⟩ := nm_s e
      refine V.iinc dX6_addsBorder_20 (pc' := 23) rfl (j := 2) rfl (v := 1) (by decide) (by decide) ex2 (L' := [(2, .int x2), (0, .ref 54), (1, .int v1)]) rfl ?_
      refine V.goto dX6_addsBorder_23 (pc' := 2) (by decide) ?_
      refine V.pk [1, 2, 0] rfl ?_
      exact hk2 h v1 x2 q e
def sX6_addsBorder_b2 : Nat → Hp → Int32 → Int32 → Option Hp
  | 0 => fun _ _ _ => none
  | n + 1 => sX6_addsBorder_c2 (sX6_addsBorder_b2 n)
theorem vX6_addsBorder_b2 : ∀ (n : Nat) (h : Hp) (v1 : Int32) (v2 : Int32) (q : Hp), sX6_addsBorder_b2 n h v1 v2 = some q → V (Gs 0 (pV q)) mX6_addsBorder (0, 0) 2 [(0, .ref 54), (1, .int v1), (2, .int v2)] [] h
  | 0 => fun _ _ _ _ e => by cases e
  | n + 1 => fun h v1 v2 q e => vX6_addsBorder_c2 (sX6_addsBorder_b2 n) (vX6_addsBorder_b2 n) h v1 v2 q e
def sX6_addsBorder (h : Hp) (a1 : Int32) : Option Hp :=
  sX6_addsBorder_b2 FU h a1 (0 : Int32)
set_option maxRecDepth 10000 in
theorem kX6_addsBorder (h : Hp) (a1 : Int32) (q : Hp) (e : sX6_addsBorder h a1 = some q) : K 0 mX6_addsBorder [.ref 54, .int a1] h (pV q) := by
  unfold sX6_addsBorder at e
  refine K.ofV (by decide) rfl (Nat.le_of_ble_eq_true rfl) ?_
  show V (Gs 0 (pV q)) mX6_addsBorder (0, 0) 0 [(0, .ref 54), (1, .int a1)] [] h
  refine V.iconst dX6_addsBorder_0 (pc' := 1) rfl (v := 0) (by decide) ?_
  refine V.isq dX6_addsBorder_1 (pc' := 2) rfl (by decide) rfl (L' := [(2, .int (0 : Int32)), (0, .ref 54), (1, .int a1)]) rfl ?_
  refine V.pk [1, 2, 0] rfl ?_
  exact vX6_addsBorder_b2 FU h a1 (0 : Int32) q e

-- X6_pinchNow (level 0)
theorem dX6_pinchNow_0 : decode cX6_pinchNow 0 = .ok (.iconst 0, 1) := by decide +kernel
theorem dX6_pinchNow_1 : decode cX6_pinchNow 1 = .ok (.istore_n 1, 1) := by decide +kernel
theorem dX6_pinchNow_2 : decode cX6_pinchNow 2 = .ok (.aload_n 0, 1) := by decide +kernel
theorem dX6_pinchNow_3 : decode cX6_pinchNow 3 = .ok (.getfield 81, 3) := by decide +kernel
theorem dX6_pinchNow_6 : decode cX6_pinchNow 6 = .ok (.iload_n 1, 1) := by decide +kernel
theorem dX6_pinchNow_7 : decode cX6_pinchNow 7 = .ok (.iaload, 1) := by decide +kernel
theorem dX6_pinchNow_8 : decode cX6_pinchNow 8 = .ok (.ifCond .le 9, 3) := by decide +kernel
theorem dX6_pinchNow_11 : decode cX6_pinchNow 11 = .ok (.iinc 1 1, 3) := by decide +kernel
theorem dX6_pinchNow_14 : decode cX6_pinchNow 14 = .ok (.goto (-12), 3) := by decide +kernel
theorem dX6_pinchNow_17 : decode cX6_pinchNow 17 = .ok (.aload_n 0, 1) := by decide +kernel
theorem dX6_pinchNow_18 : decode cX6_pinchNow 18 = .ok (.getfield 78, 3) := by decide +kernel
theorem dX6_pinchNow_21 : decode cX6_pinchNow 21 = .ok (.iload_n 1, 1) := by decide +kernel
theorem dX6_pinchNow_22 : decode cX6_pinchNow 22 = .ok (.iaload, 1) := by decide +kernel
theorem dX6_pinchNow_23 : decode cX6_pinchNow 23 = .ok (.ireturn, 1) := by decide +kernel
def sX6_pinchNow_c2 (k2 : Hp → Int32 → Option (Int32 × Hp)) (h : Hp) (v1 : Int32) : Option (Int32 × Hp) :=
  gd (inb v1 20) (if (h.1 64 v1.toNatClampNeg) ≤ 0 then (gd (inb v1 20) (some ((h.1 63 v1.toNatClampNeg), h))) else (nm (v1 + (1 : Int32)) fun x3 => k2 h x3))
set_option maxRecDepth 10000 in
theorem vX6_pinchNow_c2 (k2 : Hp → Int32 → Option (Int32 × Hp)) (hk2 : ∀ (h : Hp) (v1 : Int32) (q : (Int32 × Hp)), k2 h v1 = some q → V (Gs 0 (pI q)) mX6_pinchNow (0, 0) 2 [(0, .ref 54), (1, .int v1)] [] h) (h : Hp) (v1 : Int32) (q : (Int32 × Hp)) (e : sX6_pinchNow_c2 k2 h v1 = some q) : V (Gs 0 (pI q)) mX6_pinchNow (0, 0) 2 [(0, .ref 54), (1, .int v1)] [] h := by
  unfold sX6_pinchNow_c2 at e
  refine V.alq dX6_pinchNow_2 (pc' := 3) rfl (j := 0) rfl ?_
  refine V.getr dX6_pinchNow_3 (pc' := 6) rfl FL_X6_81 rfl (by decide) rfl (r' := 64) rfl ?_
  refine V.ilq dX6_pinchNow_6 (pc' := 7) rfl (j := 1) rfl ?_
  obtain ⟨c1, e⟩ := gd_s e
  refine V.iald dX6_pinchNow_7 (pc' := 8) rfl rfl rfl (inb_t c1) ?_
  refine V.if_le dX6_pinchNow_8 (pc' := 11) rfl (tgt := 17) (by decide) (fun c => ?_) (fun c => ?_)
  · rw [if_pos c] at e
    refine V.alq dX6_pinchNow_17 (pc' := 18) rfl (j := 0) rfl ?_
    refine V.getr dX6_pinchNow_18 (pc' := 21) rfl FL_X6_78 rfl (by decide) rfl (r' := 63) rfl ?_
    refine V.ilq dX6_pinchNow_21 (pc' := 22) rfl (j := 1) rfl ?_
    obtain ⟨c2, e⟩ := gd_s e
    refine V.iald dX6_pinchNow_22 (pc' := 23) rfl rfl rfl (inb_t c2) ?_
    exact V.iret dX6_pinchNow_23 rfl (fnI e)
  · rw [if_neg c] at e
    obtain ⟨x3, ex3, e⟩ := nm_s e
    refine V.iinc dX6_pinchNow_11 (pc' := 14) rfl (j := 1) rfl (v := 1) (by decide) (by decide) ex3 (L' := [(1, .int x3), (0, .ref 54)]) rfl ?_
    refine V.goto dX6_pinchNow_14 (pc' := 2) (by decide) ?_
    refine V.pk [1, 0] rfl ?_
    exact hk2 h x3 q e
def sX6_pinchNow_b2 : Nat → Hp → Int32 → Option (Int32 × Hp)
  | 0 => fun _ _ => none
  | n + 1 => sX6_pinchNow_c2 (sX6_pinchNow_b2 n)
theorem vX6_pinchNow_b2 : ∀ (n : Nat) (h : Hp) (v1 : Int32) (q : (Int32 × Hp)), sX6_pinchNow_b2 n h v1 = some q → V (Gs 0 (pI q)) mX6_pinchNow (0, 0) 2 [(0, .ref 54), (1, .int v1)] [] h
  | 0 => fun _ _ _ e => by cases e
  | n + 1 => fun h v1 q e => vX6_pinchNow_c2 (sX6_pinchNow_b2 n) (vX6_pinchNow_b2 n) h v1 q e
def sX6_pinchNow (h : Hp) : Option (Int32 × Hp) :=
  sX6_pinchNow_b2 FU h (0 : Int32)
set_option maxRecDepth 10000 in
theorem kX6_pinchNow (h : Hp) (q : (Int32 × Hp)) (e : sX6_pinchNow h = some q) : K 0 mX6_pinchNow [.ref 54] h (pI q) := by
  unfold sX6_pinchNow at e
  refine K.ofV (by decide) rfl (Nat.le_of_ble_eq_true rfl) ?_
  show V (Gs 0 (pI q)) mX6_pinchNow (0, 0) 0 [(0, .ref 54)] [] h
  refine V.iconst dX6_pinchNow_0 (pc' := 1) rfl (v := 0) (by decide) ?_
  refine V.isq dX6_pinchNow_1 (pc' := 2) rfl (by decide) rfl (L' := [(1, .int (0 : Int32)), (0, .ref 54)]) rfl ?_
  refine V.pk [1, 0] rfl ?_
  exact vX6_pinchNow_b2 FU h (0 : Int32) q e

-- X6_allGo (level 0)
theorem dX6_allGo_0 : decode cX6_allGo 0 = .ok (.aload_n 0, 1) := by decide +kernel
theorem dX6_allGo_1 : decode cX6_allGo 1 = .ok (.getfield 90, 3) := by decide +kernel
theorem dX6_allGo_4 : decode cX6_allGo 4 = .ok (.iconst 0, 1) := by decide +kernel
theorem dX6_allGo_5 : decode cX6_allGo 5 = .ok (.iconst 0, 1) := by decide +kernel
theorem dX6_allGo_6 : decode cX6_allGo 6 = .ok (.iastore, 1) := by decide +kernel
theorem dX6_allGo_7 : decode cX6_allGo 7 = .ok (.aload_n 0, 1) := by decide +kernel
theorem dX6_allGo_8 : decode cX6_allGo 8 = .ok (.getfield 90, 3) := by decide +kernel
theorem dX6_allGo_11 : decode cX6_allGo 11 = .ok (.iconst 1, 1) := by decide +kernel
theorem dX6_allGo_12 : decode cX6_allGo 12 = .ok (.iconst 0, 1) := by decide +kernel
theorem dX6_allGo_13 : decode cX6_allGo 13 = .ok (.iastore, 1) := by decide +kernel
theorem dX6_allGo_14 : decode cX6_allGo 14 = .ok (.return_, 1) := by decide +kernel
def sX6_allGo (h : Hp) : Option Hp :=
  nm (u1 h 67 (0 : Int32).toNatClampNeg (0 : Int32)) fun h1 => nm (u1 h1 67 (1 : Int32).toNatClampNeg (0 : Int32)) fun h2 => some h2
set_option maxRecDepth 10000 in
theorem kX6_allGo (h : Hp) (q : Hp) (e : sX6_allGo h = some q) : K 0 mX6_allGo [.ref 54] h (pV q) := by
  unfold sX6_allGo at e
  refine K.ofV (by decide) rfl (Nat.le_of_ble_eq_true rfl) ?_
  show V (Gs 0 (pV q)) mX6_allGo (0, 0) 0 [(0, .ref 54)] [] h
  refine V.alq dX6_allGo_0 (pc' := 1) rfl (j := 0) rfl ?_
  refine V.getr dX6_allGo_1 (pc' := 4) rfl FL_X6_90 rfl (by decide) rfl (r' := 67) rfl ?_
  refine V.iconst dX6_allGo_4 (pc' := 5) rfl (v := 0) (by decide) ?_
  refine V.iconst dX6_allGo_5 (pc' := 6) rfl (v := 0) (by decide) ?_
  obtain ⟨h1, eh1, e⟩ := nm_s e
  refine V.iast dX6_allGo_6 (pc' := 7) rfl rfl rfl (inb_t (by decide)) eh1 ?_
  refine V.alq dX6_allGo_7 (pc' := 8) rfl (j := 0) rfl ?_
  refine V.getr dX6_allGo_8 (pc' := 11) rfl FL_X6_90 rfl (by decide) rfl (r' := 67) rfl ?_
  refine V.iconst dX6_allGo_11 (pc' := 12) rfl (v := 1) (by decide) ?_
  refine V.iconst dX6_allGo_12 (pc' := 13) rfl (v := 0) (by decide) ?_
  obtain ⟨h2, eh2, e⟩ := nm_s e
  refine V.iast dX6_allGo_13 (pc' := 14) rfl rfl rfl (inb_t (by decide)) eh2 ?_
  exact V.vret dX6_allGo_14 rfl (fnV e)

-- X6_place (level 0)
theorem dX6_place_0 : decode cX6_place 0 = .ok (.bipush 25, 2) := by decide +kernel
theorem dX6_place_2 : decode cX6_place 2 = .ok (.iload_n 0, 1) := by decide +kernel
theorem dX6_place_3 : decode cX6_place 3 = .ok (.imul, 1) := by decide +kernel
theorem dX6_place_4 : decode cX6_place 4 = .ok (.iload_n 1, 1) := by decide +kernel
theorem dX6_place_5 : decode cX6_place 5 = .ok (.iadd, 1) := by decide +kernel
theorem dX6_place_6 : decode cX6_place 6 = .ok (.ireturn, 1) := by decide +kernel
def sX6_place (h : Hp) (a0 : Int32) (a1 : Int32) : Option (Int32 × Hp) :=
  some ((((25 : Int32) * a0) + a1), h)
set_option maxRecDepth 10000 in
theorem kX6_place (h : Hp) (a0 : Int32) (a1 : Int32) (q : (Int32 × Hp)) (e : sX6_place h a0 a1 = some q) : K 0 mX6_place [.int a0, .int a1] h (pI q) := by
  unfold sX6_place at e
  refine K.ofV (by decide) rfl (Nat.le_of_ble_eq_true rfl) ?_
  show V (Gs 0 (pI q)) mX6_place (0, 0) 0 [(0, .int a0), (1, .int a1)] [] h
  refine V.bipush dX6_place_0 (pc' := 2) rfl (v := 25) (by decide) ?_
  refine V.ilq dX6_place_2 (pc' := 3) rfl (j := 0) rfl ?_
  refine V.imul dX6_place_3 (pc' := 4) rfl ?_
  refine V.ilq dX6_place_4 (pc' := 5) rfl (j := 1) rfl ?_
  refine V.iadd dX6_place_5 (pc' := 6) rfl ?_
  exact V.iret dX6_place_6 rfl (fnI e)

-- X6_under (level 0)
theorem dX6_under_0 : decode cX6_under 0 = .ok (.aload_n 0, 1) := by decide +kernel
theorem dX6_under_1 : decode cX6_under 1 = .ok (.getfield 63, 3) := by decide +kernel
theorem dX6_under_4 : decode cX6_under 4 = .ok (.iload_n 1, 1) := by decide +kernel
theorem dX6_under_5 : decode cX6_under 5 = .ok (.iaload, 1) := by decide +kernel
theorem dX6_under_6 : decode cX6_under 6 = .ok (.i2l, 1) := by decide +kernel
theorem dX6_under_7 : decode cX6_under 7 = .ok (.aload_n 0, 1) := by decide +kernel
theorem dX6_under_8 : decode cX6_under 8 = .ok (.getfield 63, 3) := by decide +kernel
theorem dX6_under_11 : decode cX6_under 11 = .ok (.iload_n 2, 1) := by decide +kernel
theorem dX6_under_12 : decode cX6_under 12 = .ok (.iaload, 1) := by decide +kernel
theorem dX6_under_13 : decode cX6_under 13 = .ok (.i2l, 1) := by decide +kernel
theorem dX6_under_14 : decode cX6_under 14 = .ok (.lmul, 1) := by decide +kernel
theorem dX6_under_15 : decode cX6_under 15 = .ok (.lreturn, 1) := by decide +kernel
def sX6_under (h : Hp) (a1 : Int32) (a2 : Int32) : Option (Int64 × Hp) :=
  gd (inb a1 10) (gd (inb a2 10) (some (((h.1 59 a1.toNatClampNeg).toInt64 * (h.1 59 a2.toNatClampNeg).toInt64), h)))
set_option maxRecDepth 10000 in
theorem kX6_under (h : Hp) (a1 : Int32) (a2 : Int32) (q : (Int64 × Hp)) (e : sX6_under h a1 a2 = some q) : K 0 mX6_under [.ref 54, .int a1, .int a2] h (pL q) := by
  unfold sX6_under at e
  refine K.ofV (by decide) rfl (Nat.le_of_ble_eq_true rfl) ?_
  show V (Gs 0 (pL q)) mX6_under (0, 0) 0 [(0, .ref 54), (1, .int a1), (2, .int a2)] [] h
  refine V.alq dX6_under_0 (pc' := 1) rfl (j := 0) rfl ?_
  refine V.getr dX6_under_1 (pc' := 4) rfl FL_X6_63 rfl (by decide) rfl (r' := 59) rfl ?_
  refine V.ilq dX6_under_4 (pc' := 5) rfl (j := 1) rfl ?_
  obtain ⟨c1, e⟩ := gd_s e
  refine V.iald dX6_under_5 (pc' := 6) rfl rfl rfl (inb_t c1) ?_
  refine V.i2l dX6_under_6 (pc' := 7) rfl ?_
  refine V.alq dX6_under_7 (pc' := 8) rfl (j := 0) rfl ?_
  refine V.getr dX6_under_8 (pc' := 11) rfl FL_X6_63 rfl (by decide) rfl (r' := 59) rfl ?_
  refine V.ilq dX6_under_11 (pc' := 12) rfl (j := 2) rfl ?_
  obtain ⟨c2, e⟩ := gd_s e
  refine V.iald dX6_under_12 (pc' := 13) rfl rfl rfl (inb_t c2) ?_
  refine V.i2l dX6_under_13 (pc' := 14) rfl ?_
  refine V.lmul dX6_under_14 (pc' := 15) rfl ?_
  exact V.lret dX6_under_15 rfl (fnL e)

-- X0_placeBorders (level 1)
theorem dX0_placeBorders_0 : decode cX0_placeBorders 0 = .ok (.aload_n 0, 1) := by decide +kernel
theorem dX0_placeBorders_1 : decode cX0_placeBorders 1 = .ok (.iconst 0, 1) := by decide +kernel
theorem dX0_placeBorders_2 : decode cX0_placeBorders 2 = .ok (.putfield 24, 3) := by decide +kernel
theorem dX0_placeBorders_5 : decode cX0_placeBorders 5 = .ok (.iconst 0, 1) := by decide +kernel
theorem dX0_placeBorders_6 : decode cX0_placeBorders 6 = .ok (.istore_n 3, 1) := by decide +kernel
theorem dX0_placeBorders_7 : decode cX0_placeBorders 7 = .ok (.iload_n 3, 1) := by decide +kernel
theorem dX0_placeBorders_8 : decode cX0_placeBorders 8 = .ok (.aload_n 1, 1) := by decide +kernel
theorem dX0_placeBorders_9 : decode cX0_placeBorders 9 = .ok (.getfield 51, 3) := by decide +kernel
theorem dX0_placeBorders_12 : decode cX0_placeBorders 12 = .ok (.if_icmp .ge 51, 3) := by decide +kernel
theorem dX0_placeBorders_15 : decode cX0_placeBorders 15 = .ok (.aload_n 1, 1) := by decide +kernel
theorem dX0_placeBorders_16 : decode cX0_placeBorders 16 = .ok (.getfield 52, 3) := by decide +kernel
theorem dX0_placeBorders_19 : decode cX0_placeBorders 19 = .ok (.iload_n 3, 1) := by decide +kernel
theorem dX0_placeBorders_20 : decode cX0_placeBorders 20 = .ok (.baload, 1) := by decide +kernel
theorem dX0_placeBorders_21 : decode cX0_placeBorders 21 = .ok (.ifCond .eq 7, 3) := by decide +kernel
theorem dX0_placeBorders_24 : decode cX0_placeBorders 24 = .ok (.iload_n 2, 1) := by decide +kernel
theorem dX0_placeBorders_25 : decode cX0_placeBorders 25 = .ok (.goto 4, 3) := by decide +kernel
theorem dX0_placeBorders_28 : decode cX0_placeBorders 28 = .ok (.iconst 0, 1) := by decide +kernel
theorem dX0_placeBorders_29 : decode cX0_placeBorders 29 = .ok (.istore 4, 2) := by decide +kernel
theorem dX0_placeBorders_31 : decode cX0_placeBorders 31 = .ok (.aload_n 0, 1) := by decide +kernel
theorem dX0_placeBorders_32 : decode cX0_placeBorders 32 = .ok (.aload_n 1, 1) := by decide +kernel
theorem dX0_placeBorders_33 : decode cX0_placeBorders 33 = .ok (.getfield 56, 3) := by decide +kernel
theorem dX0_placeBorders_36 : decode cX0_placeBorders 36 = .ok (.iload_n 3, 1) := by decide +kernel
theorem dX0_placeBorders_37 : decode cX0_placeBorders 37 = .ok (.iaload, 1) := by decide +kernel
theorem dX0_placeBorders_38 : decode cX0_placeBorders 38 = .ok (.iload 4, 2) := by decide +kernel
theorem dX0_placeBorders_40 : decode cX0_placeBorders 40 = .ok (.isub, 1) := by decide +kernel
theorem dX0_placeBorders_41 : decode cX0_placeBorders 41 = .ok (.invokevirtual 59, 3) := by decide +kernel
theorem dX0_placeBorders_44 : decode cX0_placeBorders 44 = .ok (.aload_n 0, 1) := by decide +kernel
theorem dX0_placeBorders_45 : decode cX0_placeBorders 45 = .ok (.aload_n 1, 1) := by decide +kernel
theorem dX0_placeBorders_46 : decode cX0_placeBorders 46 = .ok (.getfield 63, 3) := by decide +kernel
theorem dX0_placeBorders_49 : decode cX0_placeBorders 49 = .ok (.iload_n 3, 1) := by decide +kernel
theorem dX0_placeBorders_50 : decode cX0_placeBorders 50 = .ok (.iaload, 1) := by decide +kernel
theorem dX0_placeBorders_51 : decode cX0_placeBorders 51 = .ok (.iload 4, 2) := by decide +kernel
theorem dX0_placeBorders_53 : decode cX0_placeBorders 53 = .ok (.isub, 1) := by decide +kernel
theorem dX0_placeBorders_54 : decode cX0_placeBorders 54 = .ok (.invokevirtual 59, 3) := by decide +kernel
theorem dX0_placeBorders_57 : decode cX0_placeBorders 57 = .ok (.iinc 3 1, 3) := by decide +kernel
theorem dX0_placeBorders_60 : decode cX0_placeBorders 60 = .ok (.goto (-53), 3) := by decide +kernel
theorem dX0_placeBorders_63 : decode cX0_placeBorders 63 = .ok (.return_, 1) := by decide +kernel
def sX0_placeBorders_c29 (k7 : Hp → Nat → Nat → Int32 → Int32 → Option Hp) (h : Hp) (r : Nat) (a1 : Nat) (v2 : Int32) (v3 : Int32) (t0 : Int32) : Option Hp :=
  gd (inb v3 10) ((sX0_placeBorder h r ((h.1 (a1 + 2) v3.toNatClampNeg) - t0)).bind fun q4 => gd (inb v3 10) ((sX0_placeBorder q4 r ((q4.1 (a1 + 3) v3.toNatClampNeg) - t0)).bind fun q6 => nm (v3 + (1 : Int32)) fun x7 => k7 q6 r a1 v2 x7))
set_option maxRecDepth 10000 in
theorem vX0_placeBorders_c29 (k7 : Hp → Nat → Nat → Int32 → Int32 → Option Hp) (hk7 : ∀ (h : Hp) (r : Nat) (a1 : Nat) (v2 : Int32) (v3 : Int32) (hr : ck r = 0) (ha1 : ck a1 = 1) (q : Hp), k7 h r a1 v2 v3 = some q → V (Gs 1 (pV q)) mX0_placeBorders (0, 0) 7 [(0, .ref r), (1, .ref a1), (2, .int v2), (3, .int v3)] [] h) (h : Hp) (r : Nat) (a1 : Nat) (v2 : Int32) (v3 : Int32) (t0 : Int32) (hr : ck r = 0) (ha1 : ck a1 = 1) (q : Hp) (e : sX0_placeBorders_c29 k7 h r a1 v2 v3 t0 = some q) : V (Gs 1 (pV q)) mX0_placeBorders (0, 0) 29 [(0, .ref r), (1, .ref a1), (2, .int v2), (3, .int v3)] [.int t0] h := by
  unfold sX0_placeBorders_c29 at e
  refine V.is dX0_placeBorders_29 (pc' := 31) rfl (by decide) rfl (L' := [(4, .int t0), (0, .ref r), (1, .ref a1), (2, .int v2), (3, .int v3)]) rfl ?_
  refine V.alq dX0_placeBorders_31 (pc' := 32) rfl (j := 1) rfl ?_
  refine V.alq dX0_placeBorders_32 (pc' := 33) rfl (j := 2) rfl ?_
  refine V.getr dX0_placeBorders_33 (pc' := 36) rfl FL_X0_56 ha1 (by decide) rfl (r' := a1 + 2) rfl ?_
  refine V.ilq dX0_placeBorders_36 (pc' := 37) rfl (j := 4) rfl ?_
  obtain ⟨c3, e⟩ := gd_s e
  refine V.iald dX0_placeBorders_37 (pc' := 38) rfl (akX1_2 ha1).1 (akX1_2 ha1).2 (inb_t c3) ?_
  refine V.il dX0_placeBorders_38 (pc' := 40) rfl (j := 0) rfl ?_
  refine V.isub dX0_placeBorders_40 (pc' := 41) rfl ?_
  obtain ⟨q4, eq4, e⟩ := bd_s e
  refine V.callVv dX0_placeBorders_41 (pc' := 44) rfl CV_X0_59 (as := [.int ((h.1 (a1 + 2) v3.toNatClampNeg) - t0)]) (kX0_placeBorder h r ((h.1 (a1 + 2) v3.toNatClampNeg) - t0) q4 eq4) (Gs_rm (by decide)) hr (by decide) rfl (Nat.le_of_ble_eq_true rfl) rfl ?_
  refine V.alq dX0_placeBorders_44 (pc' := 45) rfl (j := 1) rfl ?_
  refine V.alq dX0_placeBorders_45 (pc' := 46) rfl (j := 2) rfl ?_
  refine V.getr dX0_placeBorders_46 (pc' := 49) rfl FL_X0_63 ha1 (by decide) rfl (r' := a1 + 3) rfl ?_
  refine V.ilq dX0_placeBorders_49 (pc' := 50) rfl (j := 4) rfl ?_
  obtain ⟨c5, e⟩ := gd_s e
  refine V.iald dX0_placeBorders_50 (pc' := 51) rfl (akX1_3 ha1).1 (akX1_3 ha1).2 (inb_t c5) ?_
  refine V.il dX0_placeBorders_51 (pc' := 53) rfl (j := 0) rfl ?_
  refine V.isub dX0_placeBorders_53 (pc' := 54) rfl ?_
  obtain ⟨q6, eq6, e⟩ := bd_s e
  refine V.callVv dX0_placeBorders_54 (pc' := 57) rfl CV_X0_59 (as := [.int ((q4.1 (a1 + 3) v3.toNatClampNeg) - t0)]) (kX0_placeBorder q4 r ((q4.1 (a1 + 3) v3.toNatClampNeg) - t0) q6 eq6) (Gs_rm (by decide)) hr (by decide) rfl (Nat.le_of_ble_eq_true rfl) rfl ?_
  obtain ⟨x7, ex7, e⟩ := nm_s e
  refine V.iinc dX0_placeBorders_57 (pc' := 60) rfl (j := 4) rfl (v := 1) (by decide) (by decide) ex7 (L' := [(3, .int x7), (4, .int t0), (0, .ref r), (1, .ref a1), (2, .int v2)]) rfl ?_
  refine V.goto dX0_placeBorders_60 (pc' := 7) (by decide) ?_
  refine V.pk [2, 3, 4, 0] rfl ?_
  exact hk7 q6 r a1 v2 x7 hr ha1 q e
def sX0_placeBorders_c7 (k7 : Hp → Nat → Nat → Int32 → Int32 → Option Hp) (h : Hp) (r : Nat) (a1 : Nat) (v2 : Int32) (v3 : Int32) : Option Hp :=
  if (h.1 a1 4) ≤ v3 then (some h) else (gd (inb v3 10) (if (h.1 (a1 + 1) v3.toNatClampNeg) = 0 then (sX0_placeBorders_c29 k7 h r a1 v2 v3 (0 : Int32)) else (sX0_placeBorders_c29 k7 h r a1 v2 v3 v2)))
set_option maxRecDepth 10000 in
theorem vX0_placeBorders_c7 (k7 : Hp → Nat → Nat → Int32 → Int32 → Option Hp) (hk7 : ∀ (h : Hp) (r : Nat) (a1 : Nat) (v2 : Int32) (v3 : Int32) (hr : ck r = 0) (ha1 : ck a1 = 1) (q : Hp), k7 h r a1 v2 v3 = some q → V (Gs 1 (pV q)) mX0_placeBorders (0, 0) 7 [(0, .ref r), (1, .ref a1), (2, .int v2), (3, .int v3)] [] h) (h : Hp) (r : Nat) (a1 : Nat) (v2 : Int32) (v3 : Int32) (hr : ck r = 0) (ha1 : ck a1 = 1) (q : Hp) (e : sX0_placeBorders_c7 k7 h r a1 v2 v3 = some q) : V (Gs 1 (pV q)) mX0_placeBorders (0, 0) 7 [(0, .ref r), (1, .ref a1), (2, .int v2), (3, .int v3)] [] h := by
  unfold sX0_placeBorders_c7 at e
  refine V.ilq dX0_placeBorders_7 (pc' := 8) rfl (j := 3) rfl ?_
  refine V.alq dX0_placeBorders_8 (pc' := 9) rfl (j := 1) rfl ?_
  refine V.getf dX0_placeBorders_9 (pc' := 12) rfl FL_X0_51 ha1 (by decide) rfl ?_
  refine V.ic_ge dX0_placeBorders_12 (pc' := 15) rfl (tgt := 63) (by decide) (fun c => ?_) (fun c => ?_)
  · rw [if_pos c] at e
    exact V.vret dX0_placeBorders_63 rfl (fnV e)
  · rw [if_neg c] at e
    refine V.alq dX0_placeBorders_15 (pc' := 16) rfl (j := 1) rfl ?_
    refine V.getr dX0_placeBorders_16 (pc' := 19) rfl FL_X0_52 ha1 (by decide) rfl (r' := a1 + 1) rfl ?_
    refine V.ilq dX0_placeBorders_19 (pc' := 20) rfl (j := 3) rfl ?_
    obtain ⟨c2, e⟩ := gd_s e
    refine V.zald dX0_placeBorders_20 (pc' := 21) rfl (akX1_1 ha1).1 (akX1_1 ha1).2 (inb_t c2) ?_
    refine V.if_eq dX0_placeBorders_21 (pc' := 24) rfl (tgt := 28) (by decide) (fun c => ?_) (fun c => ?_)
    · rw [if_pos c] at e
      refine V.iconst dX0_placeBorders_28 (pc' := 29) rfl (v := 0) (by decide) ?_
      exact vX0_placeBorders_c29 k7 hk7 h r a1 v2 v3 (0 : Int32) hr ha1 q e
    · rw [if_neg c] at e
      refine V.ilq dX0_placeBorders_24 (pc' := 25) rfl (j := 2) rfl ?_
      refine V.goto dX0_placeBorders_25 (pc' := 29) (by decide) ?_
      exact vX0_placeBorders_c29 k7 hk7 h r a1 v2 v3 v2 hr ha1 q e
def sX0_placeBorders_b7 : Nat → Hp → Nat → Nat → Int32 → Int32 → Option Hp
  | 0 => fun _ _ _ _ _ => none
  | n + 1 => sX0_placeBorders_c7 (sX0_placeBorders_b7 n)
theorem vX0_placeBorders_b7 : ∀ (n : Nat) (h : Hp) (r : Nat) (a1 : Nat) (v2 : Int32) (v3 : Int32) (hr : ck r = 0) (ha1 : ck a1 = 1) (q : Hp), sX0_placeBorders_b7 n h r a1 v2 v3 = some q → V (Gs 1 (pV q)) mX0_placeBorders (0, 0) 7 [(0, .ref r), (1, .ref a1), (2, .int v2), (3, .int v3)] [] h
  | 0 => fun _ _ _ _ _ _ _ _ e => by cases e
  | n + 1 => fun h r a1 v2 v3 hr ha1 q e => vX0_placeBorders_c7 (sX0_placeBorders_b7 n) (vX0_placeBorders_b7 n) h r a1 v2 v3 hr ha1 q e
def sX0_placeBorders (h : Hp) (r : Nat) (a1 : Nat) (a2 : Int32) : Option Hp :=
  gd (isC r 0) (gd (isC a1 1) (nm (u1 h r 4 (0 : Int32)) fun h1 => sX0_placeBorders_b7 FU h1 r a1 a2 (0 : Int32)))
set_option maxRecDepth 10000 in
theorem kX0_placeBorders (h : Hp) (r : Nat) (a1 : Nat) (a2 : Int32) (q : Hp) (e : sX0_placeBorders h r a1 a2 = some q) : K 1 mX0_placeBorders [.ref r, .ref a1, .int a2] h (pV q) := by
  unfold sX0_placeBorders at e
  obtain ⟨hr, e⟩ := gd_s e
  have hr := isC_t hr
  obtain ⟨ha1, e⟩ := gd_s e
  have ha1 := isC_t ha1
  refine K.ofV (by decide) rfl (Nat.le_of_ble_eq_true rfl) ?_
  show V (Gs 1 (pV q)) mX0_placeBorders (0, 0) 0 [(0, .ref r), (1, .ref a1), (2, .int a2)] [] h
  refine V.alq dX0_placeBorders_0 (pc' := 1) rfl (j := 0) rfl ?_
  refine V.iconst dX0_placeBorders_1 (pc' := 2) rfl (v := 0) (by decide) ?_
  obtain ⟨h1, eh1, e⟩ := nm_s e
  refine V.putf dX0_placeBorders_2 (pc' := 5) rfl FP_X0_24 hr (by decide) rfl eh1 ?_
  refine V.iconst dX0_placeBorders_5 (pc' := 6) rfl (v := 0) (by decide) ?_
  refine V.isq dX0_placeBorders_6 (pc' := 7) rfl (by decide) rfl (L' := [(3, .int (0 : Int32)), (0, .ref r), (1, .ref a1), (2, .int a2)]) rfl ?_
  refine V.pk [1, 2, 3, 0] rfl ?_
  exact vX0_placeBorders_b7 FU h1 r a1 a2 (0 : Int32) hr ha1 q e

-- X1_copy (level 1)
theorem dX1_copy_0 : decode cX1_copy 0 = .ok (.aload_n 0, 1) := by decide +kernel
theorem dX1_copy_1 : decode cX1_copy 1 = .ok (.iconst 0, 1) := by decide +kernel
theorem dX1_copy_2 : decode cX1_copy 2 = .ok (.putfield 25, 3) := by decide +kernel
theorem dX1_copy_5 : decode cX1_copy 5 = .ok (.iconst 0, 1) := by decide +kernel
theorem dX1_copy_6 : decode cX1_copy 6 = .ok (.istore_n 2, 1) := by decide +kernel
theorem dX1_copy_7 : decode cX1_copy 7 = .ok (.iload_n 2, 1) := by decide +kernel
theorem dX1_copy_8 : decode cX1_copy 8 = .ok (.aload_n 1, 1) := by decide +kernel
theorem dX1_copy_9 : decode cX1_copy 9 = .ok (.getfield 25, 3) := by decide +kernel
theorem dX1_copy_12 : decode cX1_copy 12 = .ok (.if_icmp .ge 37, 3) := by decide +kernel
theorem dX1_copy_15 : decode cX1_copy 15 = .ok (.aload_n 0, 1) := by decide +kernel
theorem dX1_copy_16 : decode cX1_copy 16 = .ok (.aload_n 1, 1) := by decide +kernel
theorem dX1_copy_17 : decode cX1_copy 17 = .ok (.getfield 9, 3) := by decide +kernel
theorem dX1_copy_20 : decode cX1_copy 20 = .ok (.iload_n 2, 1) := by decide +kernel
theorem dX1_copy_21 : decode cX1_copy 21 = .ok (.baload, 1) := by decide +kernel
theorem dX1_copy_22 : decode cX1_copy 22 = .ok (.aload_n 1, 1) := by decide +kernel
theorem dX1_copy_23 : decode cX1_copy 23 = .ok (.getfield 15, 3) := by decide +kernel
theorem dX1_copy_26 : decode cX1_copy 26 = .ok (.iload_n 2, 1) := by decide +kernel
theorem dX1_copy_27 : decode cX1_copy 27 = .ok (.iaload, 1) := by decide +kernel
theorem dX1_copy_28 : decode cX1_copy 28 = .ok (.aload_n 1, 1) := by decide +kernel
theorem dX1_copy_29 : decode cX1_copy 29 = .ok (.getfield 19, 3) := by decide +kernel
theorem dX1_copy_32 : decode cX1_copy 32 = .ok (.iload_n 2, 1) := by decide +kernel
theorem dX1_copy_33 : decode cX1_copy 33 = .ok (.iaload, 1) := by decide +kernel
theorem dX1_copy_34 : decode cX1_copy 34 = .ok (.aload_n 1, 1) := by decide +kernel
theorem dX1_copy_35 : decode cX1_copy 35 = .ok (.getfield 22, 3) := by decide +kernel
theorem dX1_copy_38 : decode cX1_copy 38 = .ok (.iload_n 2, 1) := by decide +kernel
theorem dX1_copy_39 : decode cX1_copy 39 = .ok (.iaload, 1) := by decide +kernel
theorem dX1_copy_40 : decode cX1_copy 40 = .ok (.invokevirtual 29, 3) := by decide +kernel
theorem dX1_copy_43 : decode cX1_copy 43 = .ok (.iinc 2 1, 3) := by decide +kernel
theorem dX1_copy_46 : decode cX1_copy 46 = .ok (.goto (-39), 3) := by decide +kernel
theorem dX1_copy_49 : decode cX1_copy 49 = .ok (.return_, 1) := by decide +kernel
def sX1_copy_c7 (k7 : Hp → Nat → Nat → Int32 → Option Hp) (h : Hp) (r : Nat) (a1 : Nat) (v2 : Int32) : Option Hp :=
  if (h.1 a1 4) ≤ v2 then (some h) else (gd (inb v2 10) (gd (inb v2 10) (gd (inb v2 10) (gd (inb v2 10) ((sX1_add h r (h.1 (a1 + 1) v2.toNatClampNeg) (h.1 (a1 + 2) v2.toNatClampNeg) (h.1 (a1 + 3) v2.toNatClampNeg) (h.1 (a1 + 4) v2.toNatClampNeg)).bind fun q6 => nm (v2 + (1 : Int32)) fun x7 => k7 q6 r a1 x7)))))
set_option maxRecDepth 10000 in
theorem vX1_copy_c7 (k7 : Hp → Nat → Nat → Int32 → Option Hp) (hk7 : ∀ (h : Hp) (r : Nat) (a1 : Nat) (v2 : Int32) (hr : ck r = 1) (ha1 : ck a1 = 1) (q : Hp), k7 h r a1 v2 = some q → V (Gs 1 (pV q)) mX1_copy (0, 0) 7 [(0, .ref r), (1, .ref a1), (2, .int v2)] [] h) (h : Hp) (r : Nat) (a1 : Nat) (v2 : Int32) (hr : ck r = 1) (ha1 : ck a1 = 1) (q : Hp) (e : sX1_copy_c7 k7 h r a1 v2 = some q) : V (Gs 1 (pV q)) mX1_copy (0, 0) 7 [(0, .ref r), (1, .ref a1), (2, .int v2)] [] h := by
  unfold sX1_copy_c7 at e
  refine V.ilq dX1_copy_7 (pc' := 8) rfl (j := 2) rfl ?_
  refine V.alq dX1_copy_8 (pc' := 9) rfl (j := 1) rfl ?_
  refine V.getf dX1_copy_9 (pc' := 12) rfl FL_X1_25 ha1 (by decide) rfl ?_
  refine V.ic_ge dX1_copy_12 (pc' := 15) rfl (tgt := 49) (by decide) (fun c => ?_) (fun c => ?_)
  · rw [if_pos c] at e
    exact V.vret dX1_copy_49 rfl (fnV e)
  · rw [if_neg c] at e
    refine V.alq dX1_copy_15 (pc' := 16) rfl (j := 0) rfl ?_
    refine V.alq dX1_copy_16 (pc' := 17) rfl (j := 1) rfl ?_
    refine V.getr dX1_copy_17 (pc' := 20) rfl FL_X1_9 ha1 (by decide) rfl (r' := a1 + 1) rfl ?_
    refine V.ilq dX1_copy_20 (pc' := 21) rfl (j := 2) rfl ?_
    obtain ⟨c2, e⟩ := gd_s e
    refine V.zald dX1_copy_21 (pc' := 22) rfl (akX1_1 ha1).1 (akX1_1 ha1).2 (inb_t c2) ?_
    refine V.alq dX1_copy_22 (pc' := 23) rfl (j := 1) rfl ?_
    refine V.getr dX1_copy_23 (pc' := 26) rfl FL_X1_15 ha1 (by decide) rfl (r' := a1 + 2) rfl ?_
    refine V.ilq dX1_copy_26 (pc' := 27) rfl (j := 2) rfl ?_
    obtain ⟨c3, e⟩ := gd_s e
    refine V.iald dX1_copy_27 (pc' := 28) rfl (akX1_2 ha1).1 (akX1_2 ha1).2 (inb_t c3) ?_
    refine V.alq dX1_copy_28 (pc' := 29) rfl (j := 1) rfl ?_
    refine V.getr dX1_copy_29 (pc' := 32) rfl FL_X1_19 ha1 (by decide) rfl (r' := a1 + 3) rfl ?_
    refine V.ilq dX1_copy_32 (pc' := 33) rfl (j := 2) rfl ?_
    obtain ⟨c4, e⟩ := gd_s e
    refine V.iald dX1_copy_33 (pc' := 34) rfl (akX1_3 ha1).1 (akX1_3 ha1).2 (inb_t c4) ?_
    refine V.alq dX1_copy_34 (pc' := 35) rfl (j := 1) rfl ?_
    refine V.getr dX1_copy_35 (pc' := 38) rfl FL_X1_22 ha1 (by decide) rfl (r' := a1 + 4) rfl ?_
    refine V.ilq dX1_copy_38 (pc' := 39) rfl (j := 2) rfl ?_
    obtain ⟨c5, e⟩ := gd_s e
    refine V.iald dX1_copy_39 (pc' := 40) rfl (akX1_4 ha1).1 (akX1_4 ha1).2 (inb_t c5) ?_
    obtain ⟨q6, eq6, e⟩ := bd_s e
    refine V.callVv dX1_copy_40 (pc' := 43) rfl CV_X1_29 (as := [.int (h.1 (a1 + 1) v2.toNatClampNeg), .int (h.1 (a1 + 2) v2.toNatClampNeg), .int (h.1 (a1 + 3) v2.toNatClampNeg), .int (h.1 (a1 + 4) v2.toNatClampNeg)]) (kX1_add h r (h.1 (a1 + 1) v2.toNatClampNeg) (h.1 (a1 + 2) v2.toNatClampNeg) (h.1 (a1 + 3) v2.toNatClampNeg) (h.1 (a1 + 4) v2.toNatClampNeg) q6 eq6) (Gs_rm (by decide)) hr (by decide) rfl (Nat.le_of_ble_eq_true rfl) rfl ?_
    obtain ⟨x7, ex7, e⟩ := nm_s e
    refine V.iinc dX1_copy_43 (pc' := 46) rfl (j := 2) rfl (v := 1) (by decide) (by decide) ex7 (L' := [(2, .int x7), (0, .ref r), (1, .ref a1)]) rfl ?_
    refine V.goto dX1_copy_46 (pc' := 7) (by decide) ?_
    refine V.pk [1, 2, 0] rfl ?_
    exact hk7 q6 r a1 x7 hr ha1 q e
def sX1_copy_b7 : Nat → Hp → Nat → Nat → Int32 → Option Hp
  | 0 => fun _ _ _ _ => none
  | n + 1 => sX1_copy_c7 (sX1_copy_b7 n)
theorem vX1_copy_b7 : ∀ (n : Nat) (h : Hp) (r : Nat) (a1 : Nat) (v2 : Int32) (hr : ck r = 1) (ha1 : ck a1 = 1) (q : Hp), sX1_copy_b7 n h r a1 v2 = some q → V (Gs 1 (pV q)) mX1_copy (0, 0) 7 [(0, .ref r), (1, .ref a1), (2, .int v2)] [] h
  | 0 => fun _ _ _ _ _ _ _ e => by cases e
  | n + 1 => fun h r a1 v2 hr ha1 q e => vX1_copy_c7 (sX1_copy_b7 n) (vX1_copy_b7 n) h r a1 v2 hr ha1 q e
def sX1_copy (h : Hp) (r : Nat) (a1 : Nat) : Option Hp :=
  gd (isC r 1) (gd (isC a1 1) (nm (u1 h r 4 (0 : Int32)) fun h1 => sX1_copy_b7 FU h1 r a1 (0 : Int32)))
set_option maxRecDepth 10000 in
theorem kX1_copy (h : Hp) (r : Nat) (a1 : Nat) (q : Hp) (e : sX1_copy h r a1 = some q) : K 1 mX1_copy [.ref r, .ref a1] h (pV q) := by
  unfold sX1_copy at e
  obtain ⟨hr, e⟩ := gd_s e
  have hr := isC_t hr
  obtain ⟨ha1, e⟩ := gd_s e
  have ha1 := isC_t ha1
  refine K.ofV (by decide) rfl (Nat.le_of_ble_eq_true rfl) ?_
  show V (Gs 1 (pV q)) mX1_copy (0, 0) 0 [(0, .ref r), (1, .ref a1)] [] h
  refine V.alq dX1_copy_0 (pc' := 1) rfl (j := 0) rfl ?_
  refine V.iconst dX1_copy_1 (pc' := 2) rfl (v := 0) (by decide) ?_
  obtain ⟨h1, eh1, e⟩ := nm_s e
  refine V.putf dX1_copy_2 (pc' := 5) rfl FP_X1_25 hr (by decide) rfl eh1 ?_
  refine V.iconst dX1_copy_5 (pc' := 6) rfl (v := 0) (by decide) ?_
  refine V.isq dX1_copy_6 (pc' := 7) rfl (by decide) rfl (L' := [(2, .int (0 : Int32)), (0, .ref r), (1, .ref a1)]) rfl ?_
  refine V.pk [1, 2, 0] rfl ?_
  exact vX1_copy_b7 FU h1 r a1 (0 : Int32) hr ha1 q e

-- X1_low (level 1)
theorem dX1_low_0 : decode cX1_low 0 = .ok (.aload_n 0, 1) := by decide +kernel
theorem dX1_low_1 : decode cX1_low 1 = .ok (.getfield 15, 3) := by decide +kernel
theorem dX1_low_4 : decode cX1_low 4 = .ok (.iload_n 1, 1) := by decide +kernel
theorem dX1_low_5 : decode cX1_low 5 = .ok (.iaload, 1) := by decide +kernel
theorem dX1_low_6 : decode cX1_low 6 = .ok (.aload_n 0, 1) := by decide +kernel
theorem dX1_low_7 : decode cX1_low 7 = .ok (.getfield 19, 3) := by decide +kernel
theorem dX1_low_10 : decode cX1_low 10 = .ok (.iload_n 1, 1) := by decide +kernel
theorem dX1_low_11 : decode cX1_low 11 = .ok (.iaload, 1) := by decide +kernel
theorem dX1_low_12 : decode cX1_low 12 = .ok (.invokestatic 33, 3) := by decide +kernel
theorem dX1_low_15 : decode cX1_low 15 = .ok (.ireturn, 1) := by decide +kernel
def sX1_low (h : Hp) (r : Nat) (a1 : Int32) : Option (Int32 × Hp) :=
  gd (isC r 1) (gd (inb a1 10) (gd (inb a1 10) (some ((imin (h.1 (r + 2) a1.toNatClampNeg) (h.1 (r + 3) a1.toNatClampNeg)), h))))
set_option maxRecDepth 10000 in
theorem kX1_low (h : Hp) (r : Nat) (a1 : Int32) (q : (Int32 × Hp)) (e : sX1_low h r a1 = some q) : K 1 mX1_low [.ref r, .int a1] h (pI q) := by
  unfold sX1_low at e
  obtain ⟨hr, e⟩ := gd_s e
  have hr := isC_t hr
  refine K.ofV (by decide) rfl (Nat.le_of_ble_eq_true rfl) ?_
  show V (Gs 1 (pI q)) mX1_low (0, 0) 0 [(0, .ref r), (1, .int a1)] [] h
  refine V.alq dX1_low_0 (pc' := 1) rfl (j := 0) rfl ?_
  refine V.getr dX1_low_1 (pc' := 4) rfl FL_X1_15 hr (by decide) rfl (r' := r + 2) rfl ?_
  refine V.ilq dX1_low_4 (pc' := 5) rfl (j := 1) rfl ?_
  obtain ⟨c1, e⟩ := gd_s e
  refine V.iald dX1_low_5 (pc' := 6) rfl (akX1_2 hr).1 (akX1_2 hr).2 (inb_t c1) ?_
  refine V.alq dX1_low_6 (pc' := 7) rfl (j := 0) rfl ?_
  refine V.getr dX1_low_7 (pc' := 10) rfl FL_X1_19 hr (by decide) rfl (r' := r + 3) rfl ?_
  refine V.ilq dX1_low_10 (pc' := 11) rfl (j := 1) rfl ?_
  obtain ⟨c2, e⟩ := gd_s e
  refine V.iald dX1_low_11 (pc' := 12) rfl (akX1_3 hr).1 (akX1_3 hr).2 (inb_t c2) ?_
  refine V.mmin dX1_low_12 (pc' := 15) rfl (Gs_rm (by decide)) ML_X1_33 MS_imin MI_Math MC_imin (Nat.le_of_ble_eq_true rfl) ?_
  exact V.iret dX1_low_15 rfl (fnI e)

-- X1_high (level 1)
theorem dX1_high_0 : decode cX1_high 0 = .ok (.aload_n 0, 1) := by decide +kernel
theorem dX1_high_1 : decode cX1_high 1 = .ok (.getfield 15, 3) := by decide +kernel
theorem dX1_high_4 : decode cX1_high 4 = .ok (.iload_n 1, 1) := by decide +kernel
theorem dX1_high_5 : decode cX1_high 5 = .ok (.iaload, 1) := by decide +kernel
theorem dX1_high_6 : decode cX1_high 6 = .ok (.aload_n 0, 1) := by decide +kernel
theorem dX1_high_7 : decode cX1_high 7 = .ok (.getfield 19, 3) := by decide +kernel
theorem dX1_high_10 : decode cX1_high 10 = .ok (.iload_n 1, 1) := by decide +kernel
theorem dX1_high_11 : decode cX1_high 11 = .ok (.iaload, 1) := by decide +kernel
theorem dX1_high_12 : decode cX1_high 12 = .ok (.invokestatic 39, 3) := by decide +kernel
theorem dX1_high_15 : decode cX1_high 15 = .ok (.ireturn, 1) := by decide +kernel
def sX1_high (h : Hp) (r : Nat) (a1 : Int32) : Option (Int32 × Hp) :=
  gd (isC r 1) (gd (inb a1 10) (gd (inb a1 10) (some ((imax (h.1 (r + 2) a1.toNatClampNeg) (h.1 (r + 3) a1.toNatClampNeg)), h))))
set_option maxRecDepth 10000 in
theorem kX1_high (h : Hp) (r : Nat) (a1 : Int32) (q : (Int32 × Hp)) (e : sX1_high h r a1 = some q) : K 1 mX1_high [.ref r, .int a1] h (pI q) := by
  unfold sX1_high at e
  obtain ⟨hr, e⟩ := gd_s e
  have hr := isC_t hr
  refine K.ofV (by decide) rfl (Nat.le_of_ble_eq_true rfl) ?_
  show V (Gs 1 (pI q)) mX1_high (0, 0) 0 [(0, .ref r), (1, .int a1)] [] h
  refine V.alq dX1_high_0 (pc' := 1) rfl (j := 0) rfl ?_
  refine V.getr dX1_high_1 (pc' := 4) rfl FL_X1_15 hr (by decide) rfl (r' := r + 2) rfl ?_
  refine V.ilq dX1_high_4 (pc' := 5) rfl (j := 1) rfl ?_
  obtain ⟨c1, e⟩ := gd_s e
  refine V.iald dX1_high_5 (pc' := 6) rfl (akX1_2 hr).1 (akX1_2 hr).2 (inb_t c1) ?_
  refine V.alq dX1_high_6 (pc' := 7) rfl (j := 0) rfl ?_
  refine V.getr dX1_high_7 (pc' := 10) rfl FL_X1_19 hr (by decide) rfl (r' := r + 3) rfl ?_
  refine V.ilq dX1_high_10 (pc' := 11) rfl (j := 1) rfl ?_
  obtain ⟨c2, e⟩ := gd_s e
  refine V.iald dX1_high_11 (pc' := 12) rfl (akX1_3 hr).1 (akX1_3 hr).2 (inb_t c2) ?_
  refine V.mmax dX1_high_12 (pc' := 15) rfl (Gs_rm (by decide)) ML_X1_39 MS_imax MI_Math MC_imax (Nat.le_of_ble_eq_true rfl) ?_
  exact V.iret dX1_high_15 rfl (fnI e)

-- X1_endBelow (level 1)
theorem dX1_endBelow_0 : decode cX1_endBelow 0 = .ok (.iconst (-1), 1) := by decide +kernel
theorem dX1_endBelow_1 : decode cX1_endBelow 1 = .ok (.istore_n 3, 1) := by decide +kernel
theorem dX1_endBelow_2 : decode cX1_endBelow 2 = .ok (.iconst 0, 1) := by decide +kernel
theorem dX1_endBelow_3 : decode cX1_endBelow 3 = .ok (.istore 4, 2) := by decide +kernel
theorem dX1_endBelow_5 : decode cX1_endBelow 5 = .ok (.iload 4, 2) := by decide +kernel
theorem dX1_endBelow_7 : decode cX1_endBelow 7 = .ok (.aload_n 0, 1) := by decide +kernel
theorem dX1_endBelow_8 : decode cX1_endBelow 8 = .ok (.getfield 25, 3) := by decide +kernel
theorem dX1_endBelow_11 : decode cX1_endBelow 11 = .ok (.if_icmp .ge 74, 3) := by decide +kernel
theorem dX1_endBelow_14 : decode cX1_endBelow 14 = .ok (.aload_n 0, 1) := by decide +kernel
theorem dX1_endBelow_15 : decode cX1_endBelow 15 = .ok (.getfield 9, 3) := by decide +kernel
theorem dX1_endBelow_18 : decode cX1_endBelow 18 = .ok (.iload 4, 2) := by decide +kernel
theorem dX1_endBelow_20 : decode cX1_endBelow 20 = .ok (.baload, 1) := by decide +kernel
theorem dX1_endBelow_21 : decode cX1_endBelow 21 = .ok (.iload_n 1, 1) := by decide +kernel
theorem dX1_endBelow_22 : decode cX1_endBelow 22 = .ok (.if_icmp .ne 57, 3) := by decide +kernel
theorem dX1_endBelow_25 : decode cX1_endBelow 25 = .ok (.aload_n 0, 1) := by decide +kernel
theorem dX1_endBelow_26 : decode cX1_endBelow 26 = .ok (.getfield 15, 3) := by decide +kernel
theorem dX1_endBelow_29 : decode cX1_endBelow 29 = .ok (.iload 4, 2) := by decide +kernel
theorem dX1_endBelow_31 : decode cX1_endBelow 31 = .ok (.iaload, 1) := by decide +kernel
theorem dX1_endBelow_32 : decode cX1_endBelow 32 = .ok (.iload_n 2, 1) := by decide +kernel
theorem dX1_endBelow_33 : decode cX1_endBelow 33 = .ok (.if_icmp .ge 17, 3) := by decide +kernel
theorem dX1_endBelow_36 : decode cX1_endBelow 36 = .ok (.iload_n 3, 1) := by decide +kernel
theorem dX1_endBelow_37 : decode cX1_endBelow 37 = .ok (.aload_n 0, 1) := by decide +kernel
theorem dX1_endBelow_38 : decode cX1_endBelow 38 = .ok (.getfield 15, 3) := by decide +kernel
theorem dX1_endBelow_41 : decode cX1_endBelow 41 = .ok (.iload 4, 2) := by decide +kernel
theorem dX1_endBelow_43 : decode cX1_endBelow 43 = .ok (.iaload, 1) := by decide +kernel
theorem dX1_endBelow_44 : decode cX1_endBelow 44 = .ok (.invokestatic 39, 3) := by decide +kernel
theorem dX1_endBelow_47 : decode cX1_endBelow 47 = .ok (.goto 4, 3) := by decide +kernel
theorem dX1_endBelow_50 : decode cX1_endBelow 50 = .ok (.iload_n 3, 1) := by decide +kernel
theorem dX1_endBelow_51 : decode cX1_endBelow 51 = .ok (.istore_n 3, 1) := by decide +kernel
theorem dX1_endBelow_52 : decode cX1_endBelow 52 = .ok (.aload_n 0, 1) := by decide +kernel
theorem dX1_endBelow_53 : decode cX1_endBelow 53 = .ok (.getfield 19, 3) := by decide +kernel
theorem dX1_endBelow_56 : decode cX1_endBelow 56 = .ok (.iload 4, 2) := by decide +kernel
theorem dX1_endBelow_58 : decode cX1_endBelow 58 = .ok (.iaload, 1) := by decide +kernel
theorem dX1_endBelow_59 : decode cX1_endBelow 59 = .ok (.iload_n 2, 1) := by decide +kernel
theorem dX1_endBelow_60 : decode cX1_endBelow 60 = .ok (.if_icmp .ge 17, 3) := by decide +kernel
theorem dX1_endBelow_63 : decode cX1_endBelow 63 = .ok (.iload_n 3, 1) := by decide +kernel
theorem dX1_endBelow_64 : decode cX1_endBelow 64 = .ok (.aload_n 0, 1) := by decide +kernel
theorem dX1_endBelow_65 : decode cX1_endBelow 65 = .ok (.getfield 19, 3) := by decide +kernel
theorem dX1_endBelow_68 : decode cX1_endBelow 68 = .ok (.iload 4, 2) := by decide +kernel
theorem dX1_endBelow_70 : decode cX1_endBelow 70 = .ok (.iaload, 1) := by decide +kernel
theorem dX1_endBelow_71 : decode cX1_endBelow 71 = .ok (.invokestatic 39, 3) := by decide +kernel
theorem dX1_endBelow_74 : decode cX1_endBelow 74 = .ok (.goto 4, 3) := by decide +kernel
theorem dX1_endBelow_77 : decode cX1_endBelow 77 = .ok (.iload_n 3, 1) := by decide +kernel
theorem dX1_endBelow_78 : decode cX1_endBelow 78 = .ok (.istore_n 3, 1) := by decide +kernel
theorem dX1_endBelow_79 : decode cX1_endBelow 79 = .ok (.iinc 4 1, 3) := by decide +kernel
theorem dX1_endBelow_82 : decode cX1_endBelow 82 = .ok (.goto (-77), 3) := by decide +kernel
theorem dX1_endBelow_85 : decode cX1_endBelow 85 = .ok (.iload_n 3, 1) := by decide +kernel
theorem dX1_endBelow_86 : decode cX1_endBelow 86 = .ok (.ireturn, 1) := by decide +kernel
def sX1_endBelow_c79 (k5 : Hp → Nat → Int32 → Int32 → Int32 → Int32 → Option (Int32 × Hp)) (h : Hp) (r : Nat) (v1 : Int32) (v2 : Int32) (v3 : Int32) (v4 : Int32) : Option (Int32 × Hp) :=
  nm (v4 + (1 : Int32)) fun x6 => k5 h r v1 v2 v3 x6
set_option maxRecDepth 10000 in
theorem vX1_endBelow_c79 (k5 : Hp → Nat → Int32 → Int32 → Int32 → Int32 → Option (Int32 × Hp)) (hk5 : ∀ (h : Hp) (r : Nat) (v1 : Int32) (v2 : Int32) (v3 : Int32) (v4 : Int32) (hr : ck r = 1) (q : (Int32 × Hp)), k5 h r v1 v2 v3 v4 = some q → V (Gs 1 (pI q)) mX1_endBelow (0, 0) 5 [(0, .ref r), (1, .int v1), (2, .int v2), (3, .int v3), (4, .int v4)] [] h) (h : Hp) (r : Nat) (v1 : Int32) (v2 : Int32) (v3 : Int32) (v4 : Int32) (hr : ck r = 1) (q : (Int32 × Hp)) (e : sX1_endBelow_c79 k5 h r v1 v2 v3 v4 = some q) : V (Gs 1 (pI q)) mX1_endBelow (0, 0) 79 [(0, .ref r), (1, .int v1), (2, .int v2), (3, .int v3), (4, .int v4)] [] h := by
  unfold sX1_endBelow_c79 at e
  obtain ⟨x6, ex6, e⟩ := nm_s e
  refine V.iinc dX1_endBelow_79 (pc' := 82) rfl (j := 4) rfl (v := 1) (by decide) (by decide) ex6 (L' := [(4, .int x6), (0, .ref r), (1, .int v1), (2, .int v2), (3, .int v3)]) rfl ?_
  refine V.goto dX1_endBelow_82 (pc' := 5) (by decide) ?_
  refine V.pk [1, 2, 3, 4, 0] rfl ?_
  exact hk5 h r v1 v2 v3 x6 hr q e
def sX1_endBelow_c78 (k5 : Hp → Nat → Int32 → Int32 → Int32 → Int32 → Option (Int32 × Hp)) (h : Hp) (r : Nat) (v1 : Int32) (v2 : Int32) (v4 : Int32) (t0 : Int32) : Option (Int32 × Hp) :=
  sX1_endBelow_c79 k5 h r v1 v2 t0 v4
set_option maxRecDepth 10000 in
theorem vX1_endBelow_c78 (k5 : Hp → Nat → Int32 → Int32 → Int32 → Int32 → Option (Int32 × Hp)) (hk5 : ∀ (h : Hp) (r : Nat) (v1 : Int32) (v2 : Int32) (v3 : Int32) (v4 : Int32) (hr : ck r = 1) (q : (Int32 × Hp)), k5 h r v1 v2 v3 v4 = some q → V (Gs 1 (pI q)) mX1_endBelow (0, 0) 5 [(0, .ref r), (1, .int v1), (2, .int v2), (3, .int v3), (4, .int v4)] [] h) (h : Hp) (r : Nat) (v1 : Int32) (v2 : Int32) (v4 : Int32) (t0 : Int32) (hr : ck r = 1) (q : (Int32 × Hp)) (e : sX1_endBelow_c78 k5 h r v1 v2 v4 t0 = some q) : V (Gs 1 (pI q)) mX1_endBelow (0, 0) 78 [(0, .ref r), (1, .int v1), (2, .int v2), (4, .int v4)] [.int t0] h := by
  unfold sX1_endBelow_c78 at e
  refine V.isq dX1_endBelow_78 (pc' := 79) rfl (by decide) rfl (L' := [(3, .int t0), (0, .ref r), (1, .int v1), (2, .int v2), (4, .int v4)]) rfl ?_
  refine V.pk [1, 2, 3, 0, 4] rfl ?_
  exact vX1_endBelow_c79 k5 hk5 h r v1 v2 t0 v4 hr q e
def sX1_endBelow_c51 (k5 : Hp → Nat → Int32 → Int32 → Int32 → Int32 → Option (Int32 × Hp)) (h : Hp) (r : Nat) (v1 : Int32) (v2 : Int32) (v4 : Int32) (t0 : Int32) : Option (Int32 × Hp) :=
  gd (inb v4 10) (if v2 ≤ (h.1 (r + 3) v4.toNatClampNeg) then (sX1_endBelow_c78 k5 h r v1 v2 v4 t0) else (gd (inb v4 10) (sX1_endBelow_c78 k5 h r v1 v2 v4 (imax t0 (h.1 (r + 3) v4.toNatClampNeg)))))
set_option maxRecDepth 10000 in
theorem vX1_endBelow_c51 (k5 : Hp → Nat → Int32 → Int32 → Int32 → Int32 → Option (Int32 × Hp)) (hk5 : ∀ (h : Hp) (r : Nat) (v1 : Int32) (v2 : Int32) (v3 : Int32) (v4 : Int32) (hr : ck r = 1) (q : (Int32 × Hp)), k5 h r v1 v2 v3 v4 = some q → V (Gs 1 (pI q)) mX1_endBelow (0, 0) 5 [(0, .ref r), (1, .int v1), (2, .int v2), (3, .int v3), (4, .int v4)] [] h) (h : Hp) (r : Nat) (v1 : Int32) (v2 : Int32) (v4 : Int32) (t0 : Int32) (hr : ck r = 1) (q : (Int32 × Hp)) (e : sX1_endBelow_c51 k5 h r v1 v2 v4 t0 = some q) : V (Gs 1 (pI q)) mX1_endBelow (0, 0) 51 [(0, .ref r), (1, .int v1), (2, .int v2), (4, .int v4)] [.int t0] h := by
  unfold sX1_endBelow_c51 at e
  refine V.isq dX1_endBelow_51 (pc' := 52) rfl (by decide) rfl (L' := [(3, .int t0), (0, .ref r), (1, .int v1), (2, .int v2), (4, .int v4)]) rfl ?_
  refine V.alq dX1_endBelow_52 (pc' := 53) rfl (j := 1) rfl ?_
  refine V.getr dX1_endBelow_53 (pc' := 56) rfl FL_X1_19 hr (by decide) rfl (r' := r + 3) rfl ?_
  refine V.il dX1_endBelow_56 (pc' := 58) rfl (j := 4) rfl ?_
  obtain ⟨c4, e⟩ := gd_s e
  refine V.iald dX1_endBelow_58 (pc' := 59) rfl (akX1_3 hr).1 (akX1_3 hr).2 (inb_t c4) ?_
  refine V.ilq dX1_endBelow_59 (pc' := 60) rfl (j := 3) rfl ?_
  refine V.ic_ge dX1_endBelow_60 (pc' := 63) rfl (tgt := 77) (by decide) (fun c => ?_) (fun c => ?_)
  · rw [if_pos c] at e
    refine V.ilq dX1_endBelow_77 (pc' := 78) rfl (j := 0) rfl ?_
    refine V.pk [1, 2, 3, 4] rfl ?_
    exact vX1_endBelow_c78 k5 hk5 h r v1 v2 v4 t0 hr q e
  · rw [if_neg c] at e
    refine V.ilq dX1_endBelow_63 (pc' := 64) rfl (j := 0) rfl ?_
    refine V.alq dX1_endBelow_64 (pc' := 65) rfl (j := 1) rfl ?_
    refine V.getr dX1_endBelow_65 (pc' := 68) rfl FL_X1_19 hr (by decide) rfl (r' := r + 3) rfl ?_
    refine V.il dX1_endBelow_68 (pc' := 70) rfl (j := 4) rfl ?_
    obtain ⟨c5, e⟩ := gd_s e
    refine V.iald dX1_endBelow_70 (pc' := 71) rfl (akX1_3 hr).1 (akX1_3 hr).2 (inb_t c5) ?_
    refine V.mmax dX1_endBelow_71 (pc' := 74) rfl (Gs_rm (by decide)) ML_X1_39 MS_imax MI_Math MC_imax (Nat.le_of_ble_eq_true rfl) ?_
    refine V.goto dX1_endBelow_74 (pc' := 78) (by decide) ?_
    refine V.pk [1, 2, 3, 4] rfl ?_
    exact vX1_endBelow_c78 k5 hk5 h r v1 v2 v4 (imax t0 (h.1 (r + 3) v4.toNatClampNeg)) hr q e
def sX1_endBelow_c5 (k5 : Hp → Nat → Int32 → Int32 → Int32 → Int32 → Option (Int32 × Hp)) (h : Hp) (r : Nat) (v1 : Int32) (v2 : Int32) (v3 : Int32) (v4 : Int32) : Option (Int32 × Hp) :=
  if (h.1 r 4) ≤ v4 then (some (v3, h)) else (gd (inb v4 10) (if (h.1 (r + 1) v4.toNatClampNeg) = v1 then (gd (inb v4 10) (if v2 ≤ (h.1 (r + 2) v4.toNatClampNeg) then (sX1_endBelow_c51 k5 h r v1 v2 v4 v3) else (gd (inb v4 10) (sX1_endBelow_c51 k5 h r v1 v2 v4 (imax v3 (h.1 (r + 2) v4.toNatClampNeg)))))) else (sX1_endBelow_c79 k5 h r v1 v2 v3 v4)))
set_option maxRecDepth 10000 in
theorem vX1_endBelow_c5 (k5 : Hp → Nat → Int32 → Int32 → Int32 → Int32 → Option (Int32 × Hp)) (hk5 : ∀ (h : Hp) (r : Nat) (v1 : Int32) (v2 : Int32) (v3 : Int32) (v4 : Int32) (hr : ck r = 1) (q : (Int32 × Hp)), k5 h r v1 v2 v3 v4 = some q → V (Gs 1 (pI q)) mX1_endBelow (0, 0) 5 [(0, .ref r), (1, .int v1), (2, .int v2), (3, .int v3), (4, .int v4)] [] h) (h : Hp) (r : Nat) (v1 : Int32) (v2 : Int32) (v3 : Int32) (v4 : Int32) (hr : ck r = 1) (q : (Int32 × Hp)) (e : sX1_endBelow_c5 k5 h r v1 v2 v3 v4 = some q) : V (Gs 1 (pI q)) mX1_endBelow (0, 0) 5 [(0, .ref r), (1, .int v1), (2, .int v2), (3, .int v3), (4, .int v4)] [] h := by
  unfold sX1_endBelow_c5 at e
  refine V.il dX1_endBelow_5 (pc' := 7) rfl (j := 4) rfl ?_
  refine V.alq dX1_endBelow_7 (pc' := 8) rfl (j := 0) rfl ?_
  refine V.getf dX1_endBelow_8 (pc' := 11) rfl FL_X1_25 hr (by decide) rfl ?_
  refine V.ic_ge dX1_endBelow_11 (pc' := 14) rfl (tgt := 85) (by decide) (fun c => ?_) (fun c => ?_)
  · rw [if_pos c] at e
    refine V.ilq dX1_endBelow_85 (pc' := 86) rfl (j := 3) rfl ?_
    exact V.iret dX1_endBelow_86 rfl (fnI e)
  · rw [if_neg c] at e
    refine V.alq dX1_endBelow_14 (pc' := 15) rfl (j := 0) rfl ?_
    refine V.getr dX1_endBelow_15 (pc' := 18) rfl FL_X1_9 hr (by decide) rfl (r' := r + 1) rfl ?_
    refine V.il dX1_endBelow_18 (pc' := 20) rfl (j := 4) rfl ?_
    obtain ⟨c1, e⟩ := gd_s e
    refine V.zald dX1_endBelow_20 (pc' := 21) rfl (akX1_1 hr).1 (akX1_1 hr).2 (inb_t c1) ?_
    refine V.ilq dX1_endBelow_21 (pc' := 22) rfl (j := 1) rfl ?_
    refine V.ic_ne dX1_endBelow_22 (pc' := 25) rfl (tgt := 79) (by decide) (fun c => ?_) (fun c => ?_)
    · rw [if_neg c] at e
      exact vX1_endBelow_c79 k5 hk5 h r v1 v2 v3 v4 hr q e
    · rw [if_pos c] at e
      refine V.alq dX1_endBelow_25 (pc' := 26) rfl (j := 0) rfl ?_
      refine V.getr dX1_endBelow_26 (pc' := 29) rfl FL_X1_15 hr (by decide) rfl (r' := r + 2) rfl ?_
      refine V.il dX1_endBelow_29 (pc' := 31) rfl (j := 4) rfl ?_
      obtain ⟨c2, e⟩ := gd_s e
      refine V.iald dX1_endBelow_31 (pc' := 32) rfl (akX1_2 hr).1 (akX1_2 hr).2 (inb_t c2) ?_
      refine V.ilq dX1_endBelow_32 (pc' := 33) rfl (j := 2) rfl ?_
      refine V.ic_ge dX1_endBelow_33 (pc' := 36) rfl (tgt := 50) (by decide) (fun c => ?_) (fun c => ?_)
      · rw [if_pos c] at e
        refine V.ilq dX1_endBelow_50 (pc' := 51) rfl (j := 3) rfl ?_
        refine V.pk [0, 1, 2, 4] rfl ?_
        exact vX1_endBelow_c51 k5 hk5 h r v1 v2 v4 v3 hr q e
      · rw [if_neg c] at e
        refine V.ilq dX1_endBelow_36 (pc' := 37) rfl (j := 3) rfl ?_
        refine V.alq dX1_endBelow_37 (pc' := 38) rfl (j := 0) rfl ?_
        refine V.getr dX1_endBelow_38 (pc' := 41) rfl FL_X1_15 hr (by decide) rfl (r' := r + 2) rfl ?_
        refine V.il dX1_endBelow_41 (pc' := 43) rfl (j := 4) rfl ?_
        obtain ⟨c3, e⟩ := gd_s e
        refine V.iald dX1_endBelow_43 (pc' := 44) rfl (akX1_2 hr).1 (akX1_2 hr).2 (inb_t c3) ?_
        refine V.mmax dX1_endBelow_44 (pc' := 47) rfl (Gs_rm (by decide)) ML_X1_39 MS_imax MI_Math MC_imax (Nat.le_of_ble_eq_true rfl) ?_
        refine V.goto dX1_endBelow_47 (pc' := 51) (by decide) ?_
        refine V.pk [0, 1, 2, 4] rfl ?_
        exact vX1_endBelow_c51 k5 hk5 h r v1 v2 v4 (imax v3 (h.1 (r + 2) v4.toNatClampNeg)) hr q e
def sX1_endBelow_b5 : Nat → Hp → Nat → Int32 → Int32 → Int32 → Int32 → Option (Int32 × Hp)
  | 0 => fun _ _ _ _ _ _ => none
  | n + 1 => sX1_endBelow_c5 (sX1_endBelow_b5 n)
theorem vX1_endBelow_b5 : ∀ (n : Nat) (h : Hp) (r : Nat) (v1 : Int32) (v2 : Int32) (v3 : Int32) (v4 : Int32) (hr : ck r = 1) (q : (Int32 × Hp)), sX1_endBelow_b5 n h r v1 v2 v3 v4 = some q → V (Gs 1 (pI q)) mX1_endBelow (0, 0) 5 [(0, .ref r), (1, .int v1), (2, .int v2), (3, .int v3), (4, .int v4)] [] h
  | 0 => fun _ _ _ _ _ _ _ _ e => by cases e
  | n + 1 => fun h r v1 v2 v3 v4 hr q e => vX1_endBelow_c5 (sX1_endBelow_b5 n) (vX1_endBelow_b5 n) h r v1 v2 v3 v4 hr q e
def sX1_endBelow (h : Hp) (r : Nat) (a1 : Int32) (a2 : Int32) : Option (Int32 × Hp) :=
  gd (isC r 1) (sX1_endBelow_b5 FU h r a1 a2 (-1 : Int32) (0 : Int32))
set_option maxRecDepth 10000 in
theorem kX1_endBelow (h : Hp) (r : Nat) (a1 : Int32) (a2 : Int32) (q : (Int32 × Hp)) (e : sX1_endBelow h r a1 a2 = some q) : K 1 mX1_endBelow [.ref r, .int a1, .int a2] h (pI q) := by
  unfold sX1_endBelow at e
  obtain ⟨hr, e⟩ := gd_s e
  have hr := isC_t hr
  refine K.ofV (by decide) rfl (Nat.le_of_ble_eq_true rfl) ?_
  show V (Gs 1 (pI q)) mX1_endBelow (0, 0) 0 [(0, .ref r), (1, .int a1), (2, .int a2)] [] h
  refine V.iconst dX1_endBelow_0 (pc' := 1) rfl (v := -1) (by decide) ?_
  refine V.isq dX1_endBelow_1 (pc' := 2) rfl (by decide) rfl (L' := [(3, .int (-1 : Int32)), (0, .ref r), (1, .int a1), (2, .int a2)]) rfl ?_
  refine V.iconst dX1_endBelow_2 (pc' := 3) rfl (v := 0) (by decide) ?_
  refine V.is dX1_endBelow_3 (pc' := 5) rfl (by decide) rfl (L' := [(4, .int (0 : Int32)), (3, .int (-1 : Int32)), (0, .ref r), (1, .int a1), (2, .int a2)]) rfl ?_
  refine V.pk [2, 3, 4, 1, 0] rfl ?_
  exact vX1_endBelow_b5 FU h r a1 a2 (-1 : Int32) (0 : Int32) hr q e

-- X2_restOfKind (level 1)
theorem dX2_restOfKind_0 : decode cX2_restOfKind 0 = .ok (.iconst 0, 1) := by decide +kernel
theorem dX2_restOfKind_1 : decode cX2_restOfKind 1 = .ok (.istore_n 2, 1) := by decide +kernel
theorem dX2_restOfKind_2 : decode cX2_restOfKind 2 = .ok (.iconst 0, 1) := by decide +kernel
theorem dX2_restOfKind_3 : decode cX2_restOfKind 3 = .ok (.istore_n 3, 1) := by decide +kernel
theorem dX2_restOfKind_4 : decode cX2_restOfKind 4 = .ok (.iload_n 3, 1) := by decide +kernel
theorem dX2_restOfKind_5 : decode cX2_restOfKind 5 = .ok (.aload_n 0, 1) := by decide +kernel
theorem dX2_restOfKind_6 : decode cX2_restOfKind 6 = .ok (.getfield 15, 3) := by decide +kernel
theorem dX2_restOfKind_9 : decode cX2_restOfKind 9 = .ok (.if_icmp .ge 27, 3) := by decide +kernel
theorem dX2_restOfKind_12 : decode cX2_restOfKind 12 = .ok (.aload_n 0, 1) := by decide +kernel
theorem dX2_restOfKind_13 : decode cX2_restOfKind 13 = .ok (.getfield 18, 3) := by decide +kernel
theorem dX2_restOfKind_16 : decode cX2_restOfKind 16 = .ok (.iload_n 3, 1) := by decide +kernel
theorem dX2_restOfKind_17 : decode cX2_restOfKind 17 = .ok (.baload, 1) := by decide +kernel
theorem dX2_restOfKind_18 : decode cX2_restOfKind 18 = .ok (.iload_n 1, 1) := by decide +kernel
theorem dX2_restOfKind_19 : decode cX2_restOfKind 19 = .ok (.if_icmp .ne 11, 3) := by decide +kernel
theorem dX2_restOfKind_22 : decode cX2_restOfKind 22 = .ok (.iload_n 2, 1) := by decide +kernel
theorem dX2_restOfKind_23 : decode cX2_restOfKind 23 = .ok (.aload_n 0, 1) := by decide +kernel
theorem dX2_restOfKind_24 : decode cX2_restOfKind 24 = .ok (.iload_n 3, 1) := by decide +kernel
theorem dX2_restOfKind_25 : decode cX2_restOfKind 25 = .ok (.invokevirtual 93, 3) := by decide +kernel
theorem dX2_restOfKind_28 : decode cX2_restOfKind 28 = .ok (.iadd, 1) := by decide +kernel
theorem dX2_restOfKind_29 : decode cX2_restOfKind 29 = .ok (.istore_n 2, 1) := by decide +kernel
theorem dX2_restOfKind_30 : decode cX2_restOfKind 30 = .ok (.iinc 3 1, 3) := by decide +kernel
theorem dX2_restOfKind_33 : decode cX2_restOfKind 33 = .ok (.goto (-29), 3) := by decide +kernel
theorem dX2_restOfKind_36 : decode cX2_restOfKind 36 = .ok (.iload_n 2, 1) := by decide +kernel
theorem dX2_restOfKind_37 : decode cX2_restOfKind 37 = .ok (.ireturn, 1) := by decide +kernel
def sX2_restOfKind_c30 (k4 : Hp → Nat → Int32 → Int32 → Int32 → Option (Int32 × Hp)) (h : Hp) (r : Nat) (v1 : Int32) (v2 : Int32) (v3 : Int32) : Option (Int32 × Hp) :=
  nm (v3 + (1 : Int32)) fun x4 => k4 h r v1 v2 x4
set_option maxRecDepth 10000 in
theorem vX2_restOfKind_c30 (k4 : Hp → Nat → Int32 → Int32 → Int32 → Option (Int32 × Hp)) (hk4 : ∀ (h : Hp) (r : Nat) (v1 : Int32) (v2 : Int32) (v3 : Int32) (hr : ck r = 2) (q : (Int32 × Hp)), k4 h r v1 v2 v3 = some q → V (Gs 1 (pI q)) mX2_restOfKind (0, 0) 4 [(0, .ref r), (1, .int v1), (2, .int v2), (3, .int v3)] [] h) (h : Hp) (r : Nat) (v1 : Int32) (v2 : Int32) (v3 : Int32) (hr : ck r = 2) (q : (Int32 × Hp)) (e : sX2_restOfKind_c30 k4 h r v1 v2 v3 = some q) : V (Gs 1 (pI q)) mX2_restOfKind (0, 0) 30 [(0, .ref r), (1, .int v1), (2, .int v2), (3, .int v3)] [] h := by
  unfold sX2_restOfKind_c30 at e
  obtain ⟨x4, ex4, e⟩ := nm_s e
  refine V.iinc dX2_restOfKind_30 (pc' := 33) rfl (j := 3) rfl (v := 1) (by decide) (by decide) ex4 (L' := [(3, .int x4), (0, .ref r), (1, .int v1), (2, .int v2)]) rfl ?_
  refine V.goto dX2_restOfKind_33 (pc' := 4) (by decide) ?_
  refine V.pk [1, 2, 3, 0] rfl ?_
  exact hk4 h r v1 v2 x4 hr q e
def sX2_restOfKind_c4 (k4 : Hp → Nat → Int32 → Int32 → Int32 → Option (Int32 × Hp)) (h : Hp) (r : Nat) (v1 : Int32) (v2 : Int32) (v3 : Int32) : Option (Int32 × Hp) :=
  if (h.1 r 2) ≤ v3 then (some (v2, h)) else (gd (inb v3 10) (if (h.1 (r + 1) v3.toNatClampNeg) = v1 then ((sX2_rest h r v3).bind fun q2 => nm ((v2 + q2.1)) fun x3 => sX2_restOfKind_c30 k4 q2.2 r v1 x3 v3) else (sX2_restOfKind_c30 k4 h r v1 v2 v3)))
set_option maxRecDepth 10000 in
theorem vX2_restOfKind_c4 (k4 : Hp → Nat → Int32 → Int32 → Int32 → Option (Int32 × Hp)) (hk4 : ∀ (h : Hp) (r : Nat) (v1 : Int32) (v2 : Int32) (v3 : Int32) (hr : ck r = 2) (q : (Int32 × Hp)), k4 h r v1 v2 v3 = some q → V (Gs 1 (pI q)) mX2_restOfKind (0, 0) 4 [(0, .ref r), (1, .int v1), (2, .int v2), (3, .int v3)] [] h) (h : Hp) (r : Nat) (v1 : Int32) (v2 : Int32) (v3 : Int32) (hr : ck r = 2) (q : (Int32 × Hp)) (e : sX2_restOfKind_c4 k4 h r v1 v2 v3 = some q) : V (Gs 1 (pI q)) mX2_restOfKind (0, 0) 4 [(0, .ref r), (1, .int v1), (2, .int v2), (3, .int v3)] [] h := by
  unfold sX2_restOfKind_c4 at e
  refine V.ilq dX2_restOfKind_4 (pc' := 5) rfl (j := 3) rfl ?_
  refine V.alq dX2_restOfKind_5 (pc' := 6) rfl (j := 0) rfl ?_
  refine V.getf dX2_restOfKind_6 (pc' := 9) rfl FL_X2_15 hr (by decide) rfl ?_
  refine V.ic_ge dX2_restOfKind_9 (pc' := 12) rfl (tgt := 36) (by decide) (fun c => ?_) (fun c => ?_)
  · rw [if_pos c] at e
    refine V.ilq dX2_restOfKind_36 (pc' := 37) rfl (j := 2) rfl ?_
    exact V.iret dX2_restOfKind_37 rfl (fnI e)
  · rw [if_neg c] at e
    refine V.alq dX2_restOfKind_12 (pc' := 13) rfl (j := 0) rfl ?_
    refine V.getr dX2_restOfKind_13 (pc' := 16) rfl FL_X2_18 hr (by decide) rfl (r' := r + 1) rfl ?_
    refine V.ilq dX2_restOfKind_16 (pc' := 17) rfl (j := 3) rfl ?_
    obtain ⟨c1, e⟩ := gd_s e
    refine V.zald dX2_restOfKind_17 (pc' := 18) rfl (akX2_1 hr).1 (akX2_1 hr).2 (inb_t c1) ?_
    refine V.ilq dX2_restOfKind_18 (pc' := 19) rfl (j := 1) rfl ?_
    refine V.ic_ne dX2_restOfKind_19 (pc' := 22) rfl (tgt := 30) (by decide) (fun c => ?_) (fun c => ?_)
    · rw [if_neg c] at e
      exact vX2_restOfKind_c30 k4 hk4 h r v1 v2 v3 hr q e
    · rw [if_pos c] at e
      refine V.ilq dX2_restOfKind_22 (pc' := 23) rfl (j := 2) rfl ?_
      refine V.alq dX2_restOfKind_23 (pc' := 24) rfl (j := 0) rfl ?_
      refine V.ilq dX2_restOfKind_24 (pc' := 25) rfl (j := 3) rfl ?_
      obtain ⟨q2, eq2, e⟩ := bd_s e
      refine V.callVi dX2_restOfKind_25 (pc' := 28) rfl CV_X2_93 (as := [.int v3]) (kX2_rest h r v3 q2 eq2) (Gs_rm (by decide)) hr (by decide) rfl (Nat.le_of_ble_eq_true rfl) rfl ?_
      refine V.iadd dX2_restOfKind_28 (pc' := 29) rfl ?_
      obtain ⟨x3, ex3, e⟩ := nm_s e
      refine V.isq dX2_restOfKind_29 (pc' := 30) rfl (by decide) ex3 (L' := [(2, .int x3), (0, .ref r), (1, .int v1), (3, .int v3)]) rfl ?_
      refine V.pk [1, 2, 0, 3] rfl ?_
      exact vX2_restOfKind_c30 k4 hk4 q2.2 r v1 x3 v3 hr q e
def sX2_restOfKind_b4 : Nat → Hp → Nat → Int32 → Int32 → Int32 → Option (Int32 × Hp)
  | 0 => fun _ _ _ _ _ => none
  | n + 1 => sX2_restOfKind_c4 (sX2_restOfKind_b4 n)
theorem vX2_restOfKind_b4 : ∀ (n : Nat) (h : Hp) (r : Nat) (v1 : Int32) (v2 : Int32) (v3 : Int32) (hr : ck r = 2) (q : (Int32 × Hp)), sX2_restOfKind_b4 n h r v1 v2 v3 = some q → V (Gs 1 (pI q)) mX2_restOfKind (0, 0) 4 [(0, .ref r), (1, .int v1), (2, .int v2), (3, .int v3)] [] h
  | 0 => fun _ _ _ _ _ _ _ e => by cases e
  | n + 1 => fun h r v1 v2 v3 hr q e => vX2_restOfKind_c4 (sX2_restOfKind_b4 n) (vX2_restOfKind_b4 n) h r v1 v2 v3 hr q e
def sX2_restOfKind (h : Hp) (r : Nat) (a1 : Int32) : Option (Int32 × Hp) :=
  gd (isC r 2) (sX2_restOfKind_b4 FU h r a1 (0 : Int32) (0 : Int32))
set_option maxRecDepth 10000 in
theorem kX2_restOfKind (h : Hp) (r : Nat) (a1 : Int32) (q : (Int32 × Hp)) (e : sX2_restOfKind h r a1 = some q) : K 1 mX2_restOfKind [.ref r, .int a1] h (pI q) := by
  unfold sX2_restOfKind at e
  obtain ⟨hr, e⟩ := gd_s e
  have hr := isC_t hr
  refine K.ofV (by decide) rfl (Nat.le_of_ble_eq_true rfl) ?_
  show V (Gs 1 (pI q)) mX2_restOfKind (0, 0) 0 [(0, .ref r), (1, .int a1)] [] h
  refine V.iconst dX2_restOfKind_0 (pc' := 1) rfl (v := 0) (by decide) ?_
  refine V.isq dX2_restOfKind_1 (pc' := 2) rfl (by decide) rfl (L' := [(2, .int (0 : Int32)), (0, .ref r), (1, .int a1)]) rfl ?_
  refine V.iconst dX2_restOfKind_2 (pc' := 3) rfl (v := 0) (by decide) ?_
  refine V.isq dX2_restOfKind_3 (pc' := 4) rfl (by decide) rfl (L' := [(3, .int (0 : Int32)), (2, .int (0 : Int32)), (0, .ref r), (1, .int a1)]) rfl ?_
  refine V.pk [2, 3, 1, 0] rfl ?_
  exact vX2_restOfKind_b4 FU h r a1 (0 : Int32) (0 : Int32) hr q e

-- X2_allPaired (level 1)
theorem dX2_allPaired_0 : decode cX2_allPaired 0 = .ok (.iconst 1, 1) := by decide +kernel
theorem dX2_allPaired_1 : decode cX2_allPaired 1 = .ok (.istore_n 2, 1) := by decide +kernel
theorem dX2_allPaired_2 : decode cX2_allPaired 2 = .ok (.iload_n 2, 1) := by decide +kernel
theorem dX2_allPaired_3 : decode cX2_allPaired 3 = .ok (.bipush 20, 2) := by decide +kernel
theorem dX2_allPaired_5 : decode cX2_allPaired 5 = .ok (.if_icmp .gt 34, 3) := by decide +kernel
theorem dX2_allPaired_8 : decode cX2_allPaired 8 = .ok (.aload_n 0, 1) := by decide +kernel
theorem dX2_allPaired_9 : decode cX2_allPaired 9 = .ok (.iload_n 1, 1) := by decide +kernel
theorem dX2_allPaired_10 : decode cX2_allPaired 10 = .ok (.iload_n 2, 1) := by decide +kernel
theorem dX2_allPaired_11 : decode cX2_allPaired 11 = .ok (.invokevirtual 96, 3) := by decide +kernel
theorem dX2_allPaired_14 : decode cX2_allPaired 14 = .ok (.aload_n 0, 1) := by decide +kernel
theorem dX2_allPaired_15 : decode cX2_allPaired 15 = .ok (.iload_n 1, 1) := by decide +kernel
theorem dX2_allPaired_16 : decode cX2_allPaired 16 = .ok (.ifCond .ne 7, 3) := by decide +kernel
theorem dX2_allPaired_19 : decode cX2_allPaired 19 = .ok (.iconst 1, 1) := by decide +kernel
theorem dX2_allPaired_20 : decode cX2_allPaired 20 = .ok (.goto 4, 3) := by decide +kernel
theorem dX2_allPaired_23 : decode cX2_allPaired 23 = .ok (.iconst 0, 1) := by decide +kernel
theorem dX2_allPaired_24 : decode cX2_allPaired 24 = .ok (.iload_n 2, 1) := by decide +kernel
theorem dX2_allPaired_25 : decode cX2_allPaired 25 = .ok (.invokevirtual 96, 3) := by decide +kernel
theorem dX2_allPaired_28 : decode cX2_allPaired 28 = .ok (.if_icmp .le 5, 3) := by decide +kernel
theorem dX2_allPaired_31 : decode cX2_allPaired 31 = .ok (.iconst 0, 1) := by decide +kernel
theorem dX2_allPaired_32 : decode cX2_allPaired 32 = .ok (.ireturn, 1) := by decide +kernel
theorem dX2_allPaired_33 : decode cX2_allPaired 33 = .ok (.iinc 2 1, 3) := by decide +kernel
theorem dX2_allPaired_36 : decode cX2_allPaired 36 = .ok (.goto (-34), 3) := by decide +kernel
theorem dX2_allPaired_39 : decode cX2_allPaired 39 = .ok (.iconst 1, 1) := by decide +kernel
theorem dX2_allPaired_40 : decode cX2_allPaired 40 = .ok (.ireturn, 1) := by decide +kernel
def sX2_allPaired_c24 (k2 : Hp → Nat → Int32 → Int32 → Option (Int32 × Hp)) (h : Hp) (r : Nat) (v1 : Int32) (v2 : Int32) (t0 : Int32) (t2 : Int32) : Option (Int32 × Hp) :=
  (sX2_arriving h r t0 v2).bind fun q2 => if t2 ≤ q2.1 then (nm (v2 + (1 : Int32)) fun x3 => k2 q2.2 r v1 x3) else (some ((0 : Int32), q2.2))
set_option maxRecDepth 10000 in
theorem vX2_allPaired_c24 (k2 : Hp → Nat → Int32 → Int32 → Option (Int32 × Hp)) (hk2 : ∀ (h : Hp) (r : Nat) (v1 : Int32) (v2 : Int32) (hr : ck r = 2) (q : (Int32 × Hp)), k2 h r v1 v2 = some q → V (Gs 1 (pI q)) mX2_allPaired (0, 0) 2 [(0, .ref r), (1, .int v1), (2, .int v2)] [] h) (h : Hp) (r : Nat) (v1 : Int32) (v2 : Int32) (t0 : Int32) (t2 : Int32) (hr : ck r = 2) (q : (Int32 × Hp)) (e : sX2_allPaired_c24 k2 h r v1 v2 t0 t2 = some q) : V (Gs 1 (pI q)) mX2_allPaired (0, 0) 24 [(0, .ref r), (1, .int v1), (2, .int v2)] [.int t0, .ref r, .int t2] h := by
  unfold sX2_allPaired_c24 at e
  refine V.ilq dX2_allPaired_24 (pc' := 25) rfl (j := 2) rfl ?_
  obtain ⟨q2, eq2, e⟩ := bd_s e
  refine V.callVi dX2_allPaired_25 (pc' := 28) rfl CV_X2_96 (as := [.int t0, .int v2]) (kX2_arriving h r t0 v2 q2 eq2) (Gs_rm (by decide)) hr (by decide) rfl (Nat.le_of_ble_eq_true rfl) rfl ?_
  refine V.ic_le dX2_allPaired_28 (pc' := 31) rfl (tgt := 33) (by decide) (fun c => ?_) (fun c => ?_)
  · rw [if_pos c] at e
    obtain ⟨x3, ex3, e⟩ := nm_s e
    refine V.iinc dX2_allPaired_33 (pc' := 36) rfl (j := 2) rfl (v := 1) (by decide) (by decide) ex3 (L' := [(2, .int x3), (0, .ref r), (1, .int v1)]) rfl ?_
    refine V.goto dX2_allPaired_36 (pc' := 2) (by decide) ?_
    refine V.pk [1, 2, 0] rfl ?_
    exact hk2 q2.2 r v1 x3 hr q e
  · rw [if_neg c] at e
    refine V.iconst dX2_allPaired_31 (pc' := 32) rfl (v := 0) (by decide) ?_
    exact V.zret dX2_allPaired_32 rfl (Or.inl rfl) (fnI e)
def sX2_allPaired_c2 (k2 : Hp → Nat → Int32 → Int32 → Option (Int32 × Hp)) (h : Hp) (r : Nat) (v1 : Int32) (v2 : Int32) : Option (Int32 × Hp) :=
  if (20 : Int32) < v2 then (some ((1 : Int32), h)) else ((sX2_arriving h r v1 v2).bind fun q1 => if v1 = 0 then (sX2_allPaired_c24 k2 q1.2 r v1 v2 (1 : Int32) q1.1) else (sX2_allPaired_c24 k2 q1.2 r v1 v2 (0 : Int32) q1.1))
set_option maxRecDepth 10000 in
theorem vX2_allPaired_c2 (k2 : Hp → Nat → Int32 → Int32 → Option (Int32 × Hp)) (hk2 : ∀ (h : Hp) (r : Nat) (v1 : Int32) (v2 : Int32) (hr : ck r = 2) (q : (Int32 × Hp)), k2 h r v1 v2 = some q → V (Gs 1 (pI q)) mX2_allPaired (0, 0) 2 [(0, .ref r), (1, .int v1), (2, .int v2)] [] h) (h : Hp) (r : Nat) (v1 : Int32) (v2 : Int32) (hr : ck r = 2) (q : (Int32 × Hp)) (e : sX2_allPaired_c2 k2 h r v1 v2 = some q) : V (Gs 1 (pI q)) mX2_allPaired (0, 0) 2 [(0, .ref r), (1, .int v1), (2, .int v2)] [] h := by
  unfold sX2_allPaired_c2 at e
  refine V.ilq dX2_allPaired_2 (pc' := 3) rfl (j := 2) rfl ?_
  refine V.bipush dX2_allPaired_3 (pc' := 5) rfl (v := 20) (by decide) ?_
  refine V.ic_gt dX2_allPaired_5 (pc' := 8) rfl (tgt := 39) (by decide) (fun c => ?_) (fun c => ?_)
  · rw [if_pos c] at e
    refine V.iconst dX2_allPaired_39 (pc' := 40) rfl (v := 1) (by decide) ?_
    exact V.zret dX2_allPaired_40 rfl (Or.inr rfl) (fnI e)
  · rw [if_neg c] at e
    refine V.alq dX2_allPaired_8 (pc' := 9) rfl (j := 0) rfl ?_
    refine V.ilq dX2_allPaired_9 (pc' := 10) rfl (j := 1) rfl ?_
    refine V.ilq dX2_allPaired_10 (pc' := 11) rfl (j := 2) rfl ?_
    obtain ⟨q1, eq1, e⟩ := bd_s e
    refine V.callVi dX2_allPaired_11 (pc' := 14) rfl CV_X2_96 (as := [.int v1, .int v2]) (kX2_arriving h r v1 v2 q1 eq1) (Gs_rm (by decide)) hr (by decide) rfl (Nat.le_of_ble_eq_true rfl) rfl ?_
    refine V.alq dX2_allPaired_14 (pc' := 15) rfl (j := 0) rfl ?_
    refine V.ilq dX2_allPaired_15 (pc' := 16) rfl (j := 1) rfl ?_
    refine V.if_ne dX2_allPaired_16 (pc' := 19) rfl (tgt := 23) (by decide) (fun c => ?_) (fun c => ?_)
    · rw [if_neg c] at e
      refine V.iconst dX2_allPaired_23 (pc' := 24) rfl (v := 0) (by decide) ?_
      exact vX2_allPaired_c24 k2 hk2 q1.2 r v1 v2 (0 : Int32) q1.1 hr q e
    · rw [if_pos c] at e
      refine V.iconst dX2_allPaired_19 (pc' := 20) rfl (v := 1) (by decide) ?_
      refine V.goto dX2_allPaired_20 (pc' := 24) (by decide) ?_
      exact vX2_allPaired_c24 k2 hk2 q1.2 r v1 v2 (1 : Int32) q1.1 hr q e
def sX2_allPaired_b2 : Nat → Hp → Nat → Int32 → Int32 → Option (Int32 × Hp)
  | 0 => fun _ _ _ _ => none
  | n + 1 => sX2_allPaired_c2 (sX2_allPaired_b2 n)
theorem vX2_allPaired_b2 : ∀ (n : Nat) (h : Hp) (r : Nat) (v1 : Int32) (v2 : Int32) (hr : ck r = 2) (q : (Int32 × Hp)), sX2_allPaired_b2 n h r v1 v2 = some q → V (Gs 1 (pI q)) mX2_allPaired (0, 0) 2 [(0, .ref r), (1, .int v1), (2, .int v2)] [] h
  | 0 => fun _ _ _ _ _ _ e => by cases e
  | n + 1 => fun h r v1 v2 hr q e => vX2_allPaired_c2 (sX2_allPaired_b2 n) (vX2_allPaired_b2 n) h r v1 v2 hr q e
def sX2_allPaired (h : Hp) (r : Nat) (a1 : Int32) : Option (Int32 × Hp) :=
  gd (isC r 2) (sX2_allPaired_b2 FU h r a1 (1 : Int32))
set_option maxRecDepth 10000 in
theorem kX2_allPaired (h : Hp) (r : Nat) (a1 : Int32) (q : (Int32 × Hp)) (e : sX2_allPaired h r a1 = some q) : K 1 mX2_allPaired [.ref r, .int a1] h (pI q) := by
  unfold sX2_allPaired at e
  obtain ⟨hr, e⟩ := gd_s e
  have hr := isC_t hr
  refine K.ofV (by decide) rfl (Nat.le_of_ble_eq_true rfl) ?_
  show V (Gs 1 (pI q)) mX2_allPaired (0, 0) 0 [(0, .ref r), (1, .int a1)] [] h
  refine V.iconst dX2_allPaired_0 (pc' := 1) rfl (v := 1) (by decide) ?_
  refine V.isq dX2_allPaired_1 (pc' := 2) rfl (by decide) rfl (L' := [(2, .int (1 : Int32)), (0, .ref r), (1, .int a1)]) rfl ?_
  refine V.pk [1, 2, 0] rfl ?_
  exact vX2_allPaired_b2 FU h r a1 (1 : Int32) hr q e

-- X2_width (level 1)
theorem dX2_width_0 : decode cX2_width 0 = .ok (.aload_n 0, 1) := by decide +kernel
theorem dX2_width_1 : decode cX2_width 1 = .ok (.getfield 29, 3) := by decide +kernel
theorem dX2_width_4 : decode cX2_width 4 = .ok (.iload_n 1, 1) := by decide +kernel
theorem dX2_width_5 : decode cX2_width 5 = .ok (.iaload, 1) := by decide +kernel
theorem dX2_width_6 : decode cX2_width 6 = .ok (.aload_n 0, 1) := by decide +kernel
theorem dX2_width_7 : decode cX2_width 7 = .ok (.getfield 29, 3) := by decide +kernel
theorem dX2_width_10 : decode cX2_width 10 = .ok (.iload_n 2, 1) := by decide +kernel
theorem dX2_width_11 : decode cX2_width 11 = .ok (.iaload, 1) := by decide +kernel
theorem dX2_width_12 : decode cX2_width 12 = .ok (.isub, 1) := by decide +kernel
theorem dX2_width_13 : decode cX2_width 13 = .ok (.aload_n 0, 1) := by decide +kernel
theorem dX2_width_14 : decode cX2_width 14 = .ok (.iload_n 1, 1) := by decide +kernel
theorem dX2_width_15 : decode cX2_width 15 = .ok (.iload_n 2, 1) := by decide +kernel
theorem dX2_width_16 : decode cX2_width 16 = .ok (.invokevirtual 100, 3) := by decide +kernel
theorem dX2_width_19 : decode cX2_width 19 = .ok (.imul, 1) := by decide +kernel
theorem dX2_width_20 : decode cX2_width 20 = .ok (.istore 5, 2) := by decide +kernel
theorem dX2_width_22 : decode cX2_width 22 = .ok (.iload 5, 2) := by decide +kernel
theorem dX2_width_24 : decode cX2_width 24 = .ok (.aload_n 0, 1) := by decide +kernel
theorem dX2_width_25 : decode cX2_width 25 = .ok (.getfield 65, 3) := by decide +kernel
theorem dX2_width_28 : decode cX2_width 28 = .ok (.iload_n 3, 1) := by decide +kernel
theorem dX2_width_29 : decode cX2_width 29 = .ok (.aload_n 0, 1) := by decide +kernel
theorem dX2_width_30 : decode cX2_width 30 = .ok (.getfield 25, 3) := by decide +kernel
theorem dX2_width_33 : decode cX2_width 33 = .ok (.iload_n 2, 1) := by decide +kernel
theorem dX2_width_34 : decode cX2_width 34 = .ok (.iaload, 1) := by decide +kernel
theorem dX2_width_35 : decode cX2_width 35 = .ok (.imul, 1) := by decide +kernel
theorem dX2_width_36 : decode cX2_width 36 = .ok (.iload 4, 2) := by decide +kernel
theorem dX2_width_38 : decode cX2_width 38 = .ok (.aload_n 0, 1) := by decide +kernel
theorem dX2_width_39 : decode cX2_width 39 = .ok (.getfield 25, 3) := by decide +kernel
theorem dX2_width_42 : decode cX2_width 42 = .ok (.iload_n 1, 1) := by decide +kernel
theorem dX2_width_43 : decode cX2_width 43 = .ok (.iaload, 1) := by decide +kernel
theorem dX2_width_44 : decode cX2_width 44 = .ok (.imul, 1) := by decide +kernel
theorem dX2_width_45 : decode cX2_width 45 = .ok (.isub, 1) := by decide +kernel
theorem dX2_width_46 : decode cX2_width 46 = .ok (.imul, 1) := by decide +kernel
theorem dX2_width_47 : decode cX2_width 47 = .ok (.iadd, 1) := by decide +kernel
theorem dX2_width_48 : decode cX2_width 48 = .ok (.ireturn, 1) := by decide +kernel
def sX2_width (h : Hp) (r : Nat) (a1 : Int32) (a2 : Int32) (a3 : Int32) (a4 : Int32) : Option (Int32 × Hp) :=
  gd (isC r 2) (gd (inb a1 10) (gd (inb a2 10) ((sX2_unit h r a1 a2).bind fun q3 => nm ((((h.1 (r + 4) a1.toNatClampNeg) - (h.1 (r + 4) a2.toNatClampNeg)) * q3.1)) fun x4 => gd (inb a2 10) (gd (inb a1 10) (some ((x4 + ((q3.2.1 r 0) * ((a3 * (q3.2.1 (r + 3) a2.toNatClampNeg)) - (a4 * (q3.2.1 (r + 3) a1.toNatClampNeg))))), q3.2))))))
set_option maxRecDepth 10000 in
theorem kX2_width (h : Hp) (r : Nat) (a1 : Int32) (a2 : Int32) (a3 : Int32) (a4 : Int32) (q : (Int32 × Hp)) (e : sX2_width h r a1 a2 a3 a4 = some q) : K 1 mX2_width [.ref r, .int a1, .int a2, .int a3, .int a4] h (pI q) := by
  unfold sX2_width at e
  obtain ⟨hr, e⟩ := gd_s e
  have hr := isC_t hr
  refine K.ofV (by decide) rfl (Nat.le_of_ble_eq_true rfl) ?_
  show V (Gs 1 (pI q)) mX2_width (0, 0) 0 [(0, .ref r), (1, .int a1), (2, .int a2), (3, .int a3), (4, .int a4)] [] h
  refine V.alq dX2_width_0 (pc' := 1) rfl (j := 0) rfl ?_
  refine V.getr dX2_width_1 (pc' := 4) rfl FL_X2_29 hr (by decide) rfl (r' := r + 4) rfl ?_
  refine V.ilq dX2_width_4 (pc' := 5) rfl (j := 1) rfl ?_
  obtain ⟨c1, e⟩ := gd_s e
  refine V.iald dX2_width_5 (pc' := 6) rfl (akX2_4 hr).1 (akX2_4 hr).2 (inb_t c1) ?_
  refine V.alq dX2_width_6 (pc' := 7) rfl (j := 0) rfl ?_
  refine V.getr dX2_width_7 (pc' := 10) rfl FL_X2_29 hr (by decide) rfl (r' := r + 4) rfl ?_
  refine V.ilq dX2_width_10 (pc' := 11) rfl (j := 2) rfl ?_
  obtain ⟨c2, e⟩ := gd_s e
  refine V.iald dX2_width_11 (pc' := 12) rfl (akX2_4 hr).1 (akX2_4 hr).2 (inb_t c2) ?_
  refine V.isub dX2_width_12 (pc' := 13) rfl ?_
  refine V.alq dX2_width_13 (pc' := 14) rfl (j := 0) rfl ?_
  refine V.ilq dX2_width_14 (pc' := 15) rfl (j := 1) rfl ?_
  refine V.ilq dX2_width_15 (pc' := 16) rfl (j := 2) rfl ?_
  obtain ⟨q3, eq3, e⟩ := bd_s e
  refine V.callVi dX2_width_16 (pc' := 19) rfl CV_X2_100 (as := [.int a1, .int a2]) (kX2_unit h r a1 a2 q3 eq3) (Gs_rm (by decide)) hr (by decide) rfl (Nat.le_of_ble_eq_true rfl) rfl ?_
  refine V.imul dX2_width_19 (pc' := 20) rfl ?_
  obtain ⟨x4, ex4, e⟩ := nm_s e
  refine V.is dX2_width_20 (pc' := 22) rfl (by decide) ex4 (L' := [(5, .int x4), (0, .ref r), (1, .int a1), (2, .int a2), (3, .int a3), (4, .int a4)]) rfl ?_
  refine V.il dX2_width_22 (pc' := 24) rfl (j := 0) rfl ?_
  refine V.alq dX2_width_24 (pc' := 25) rfl (j := 1) rfl ?_
  refine V.getf dX2_width_25 (pc' := 28) rfl FL_X2_65 hr (by decide) rfl ?_
  refine V.ilq dX2_width_28 (pc' := 29) rfl (j := 4) rfl ?_
  refine V.alq dX2_width_29 (pc' := 30) rfl (j := 1) rfl ?_
  refine V.getr dX2_width_30 (pc' := 33) rfl FL_X2_25 hr (by decide) rfl (r' := r + 3) rfl ?_
  refine V.ilq dX2_width_33 (pc' := 34) rfl (j := 3) rfl ?_
  obtain ⟨c5, e⟩ := gd_s e
  refine V.iald dX2_width_34 (pc' := 35) rfl (akX2_3 hr).1 (akX2_3 hr).2 (inb_t c5) ?_
  refine V.imul dX2_width_35 (pc' := 36) rfl ?_
  refine V.il dX2_width_36 (pc' := 38) rfl (j := 5) rfl ?_
  refine V.alq dX2_width_38 (pc' := 39) rfl (j := 1) rfl ?_
  refine V.getr dX2_width_39 (pc' := 42) rfl FL_X2_25 hr (by decide) rfl (r' := r + 3) rfl ?_
  refine V.ilq dX2_width_42 (pc' := 43) rfl (j := 2) rfl ?_
  obtain ⟨c6, e⟩ := gd_s e
  refine V.iald dX2_width_43 (pc' := 44) rfl (akX2_3 hr).1 (akX2_3 hr).2 (inb_t c6) ?_
  refine V.imul dX2_width_44 (pc' := 45) rfl ?_
  refine V.isub dX2_width_45 (pc' := 46) rfl ?_
  refine V.imul dX2_width_46 (pc' := 47) rfl ?_
  refine V.iadd dX2_width_47 (pc' := 48) rfl ?_
  exact V.iret dX2_width_48 rfl (fnI e)

-- X2_takeWanted (level 1)
theorem dX2_takeWanted_0 : decode cX2_takeWanted 0 = .ok (.aload_n 0, 1) := by decide +kernel
theorem dX2_takeWanted_1 : decode cX2_takeWanted 1 = .ok (.getfield 53, 3) := by decide +kernel
theorem dX2_takeWanted_4 : decode cX2_takeWanted 4 = .ok (.istore_n 1, 1) := by decide +kernel
theorem dX2_takeWanted_5 : decode cX2_takeWanted 5 = .ok (.aload_n 0, 1) := by decide +kernel
theorem dX2_takeWanted_6 : decode cX2_takeWanted 6 = .ok (.invokevirtual 90, 3) := by decide +kernel
theorem dX2_takeWanted_9 : decode cX2_takeWanted 9 = .ok (.iconst 0, 1) := by decide +kernel
theorem dX2_takeWanted_10 : decode cX2_takeWanted 10 = .ok (.istore_n 2, 1) := by decide +kernel
theorem dX2_takeWanted_11 : decode cX2_takeWanted 11 = .ok (.iload_n 2, 1) := by decide +kernel
theorem dX2_takeWanted_12 : decode cX2_takeWanted 12 = .ok (.iload_n 1, 1) := by decide +kernel
theorem dX2_takeWanted_13 : decode cX2_takeWanted 13 = .ok (.if_icmp .ge 40, 3) := by decide +kernel
theorem dX2_takeWanted_16 : decode cX2_takeWanted 16 = .ok (.aload_n 0, 1) := by decide +kernel
theorem dX2_takeWanted_17 : decode cX2_takeWanted 17 = .ok (.getfield 50, 3) := by decide +kernel
theorem dX2_takeWanted_20 : decode cX2_takeWanted 20 = .ok (.iload_n 2, 1) := by decide +kernel
theorem dX2_takeWanted_21 : decode cX2_takeWanted 21 = .ok (.iaload, 1) := by decide +kernel
theorem dX2_takeWanted_22 : decode cX2_takeWanted 22 = .ok (.ifCond .le 25, 3) := by decide +kernel
theorem dX2_takeWanted_25 : decode cX2_takeWanted 25 = .ok (.aload_n 0, 1) := by decide +kernel
theorem dX2_takeWanted_26 : decode cX2_takeWanted 26 = .ok (.aload_n 0, 1) := by decide +kernel
theorem dX2_takeWanted_27 : decode cX2_takeWanted 27 = .ok (.getfield 41, 3) := by decide +kernel
theorem dX2_takeWanted_30 : decode cX2_takeWanted 30 = .ok (.iload_n 2, 1) := by decide +kernel
theorem dX2_takeWanted_31 : decode cX2_takeWanted 31 = .ok (.iaload, 1) := by decide +kernel
theorem dX2_takeWanted_32 : decode cX2_takeWanted 32 = .ok (.aload_n 0, 1) := by decide +kernel
theorem dX2_takeWanted_33 : decode cX2_takeWanted 33 = .ok (.getfield 44, 3) := by decide +kernel
theorem dX2_takeWanted_36 : decode cX2_takeWanted 36 = .ok (.iload_n 2, 1) := by decide +kernel
theorem dX2_takeWanted_37 : decode cX2_takeWanted 37 = .ok (.iaload, 1) := by decide +kernel
theorem dX2_takeWanted_38 : decode cX2_takeWanted 38 = .ok (.aload_n 0, 1) := by decide +kernel
theorem dX2_takeWanted_39 : decode cX2_takeWanted 39 = .ok (.getfield 50, 3) := by decide +kernel
theorem dX2_takeWanted_42 : decode cX2_takeWanted 42 = .ok (.iload_n 2, 1) := by decide +kernel
theorem dX2_takeWanted_43 : decode cX2_takeWanted 43 = .ok (.iaload, 1) := by decide +kernel
theorem dX2_takeWanted_44 : decode cX2_takeWanted 44 = .ok (.invokevirtual 117, 3) := by decide +kernel
theorem dX2_takeWanted_47 : decode cX2_takeWanted 47 = .ok (.iinc 2 1, 3) := by decide +kernel
theorem dX2_takeWanted_50 : decode cX2_takeWanted 50 = .ok (.goto (-39), 3) := by decide +kernel
theorem dX2_takeWanted_53 : decode cX2_takeWanted 53 = .ok (.return_, 1) := by decide +kernel
def sX2_takeWanted_c47 (k11 : Hp → Nat → Int32 → Int32 → Option Hp) (h : Hp) (r : Nat) (v1 : Int32) (v2 : Int32) : Option Hp :=
  nm (v2 + (1 : Int32)) fun x8 => k11 h r v1 x8
set_option maxRecDepth 10000 in
theorem vX2_takeWanted_c47 (k11 : Hp → Nat → Int32 → Int32 → Option Hp) (hk11 : ∀ (h : Hp) (r : Nat) (v1 : Int32) (v2 : Int32) (hr : ck r = 2) (q : Hp), k11 h r v1 v2 = some q → V (Gs 1 (pV q)) mX2_takeWanted (0, 0) 11 [(0, .ref r), (1, .int v1), (2, .int v2)] [] h) (h : Hp) (r : Nat) (v1 : Int32) (v2 : Int32) (hr : ck r = 2) (q : Hp) (e : sX2_takeWanted_c47 k11 h r v1 v2 = some q) : V (Gs 1 (pV q)) mX2_takeWanted (0, 0) 47 [(0, .ref r), (1, .int v1), (2, .int v2)] [] h := by
  unfold sX2_takeWanted_c47 at e
  obtain ⟨x8, ex8, e⟩ := nm_s e
  refine V.iinc dX2_takeWanted_47 (pc' := 50) rfl (j := 2) rfl (v := 1) (by decide) (by decide) ex8 (L' := [(2, .int x8), (0, .ref r), (1, .int v1)]) rfl ?_
  refine V.goto dX2_takeWanted_50 (pc' := 11) (by decide) ?_
  refine V.pk [1, 2, 0] rfl ?_
  exact hk11 h r v1 x8 hr q e
def sX2_takeWanted_c11 (k11 : Hp → Nat → Int32 → Int32 → Option Hp) (h : Hp) (r : Nat) (v1 : Int32) (v2 : Int32) : Option Hp :=
  if v1 ≤ v2 then (some h) else (gd (inb v2 24) (if (h.1 (r + 11) v2.toNatClampNeg) ≤ 0 then (sX2_takeWanted_c47 k11 h r v1 v2) else (gd (inb v2 24) (gd (inb v2 24) (gd (inb v2 24) ((sX2_add h r (h.1 (r + 8) v2.toNatClampNeg) (h.1 (r + 9) v2.toNatClampNeg) (h.1 (r + 11) v2.toNatClampNeg)).bind fun q7 => sX2_takeWanted_c47 k11 q7 r v1 v2))))))
set_option maxRecDepth 10000 in
theorem vX2_takeWanted_c11 (k11 : Hp → Nat → Int32 → Int32 → Option Hp) (hk11 : ∀ (h : Hp) (r : Nat) (v1 : Int32) (v2 : Int32) (hr : ck r = 2) (q : Hp), k11 h r v1 v2 = some q → V (Gs 1 (pV q)) mX2_takeWanted (0, 0) 11 [(0, .ref r), (1, .int v1), (2, .int v2)] [] h) (h : Hp) (r : Nat) (v1 : Int32) (v2 : Int32) (hr : ck r = 2) (q : Hp) (e : sX2_takeWanted_c11 k11 h r v1 v2 = some q) : V (Gs 1 (pV q)) mX2_takeWanted (0, 0) 11 [(0, .ref r), (1, .int v1), (2, .int v2)] [] h := by
  unfold sX2_takeWanted_c11 at e
  refine V.ilq dX2_takeWanted_11 (pc' := 12) rfl (j := 2) rfl ?_
  refine V.ilq dX2_takeWanted_12 (pc' := 13) rfl (j := 1) rfl ?_
  refine V.ic_ge dX2_takeWanted_13 (pc' := 16) rfl (tgt := 53) (by decide) (fun c => ?_) (fun c => ?_)
  · rw [if_pos c] at e
    exact V.vret dX2_takeWanted_53 rfl (fnV e)
  · rw [if_neg c] at e
    refine V.alq dX2_takeWanted_16 (pc' := 17) rfl (j := 0) rfl ?_
    refine V.getr dX2_takeWanted_17 (pc' := 20) rfl FL_X2_50 hr (by decide) rfl (r' := r + 11) rfl ?_
    refine V.ilq dX2_takeWanted_20 (pc' := 21) rfl (j := 2) rfl ?_
    obtain ⟨c3, e⟩ := gd_s e
    refine V.iald dX2_takeWanted_21 (pc' := 22) rfl (akX2_11 hr).1 (akX2_11 hr).2 (inb_t c3) ?_
    refine V.if_le dX2_takeWanted_22 (pc' := 25) rfl (tgt := 47) (by decide) (fun c => ?_) (fun c => ?_)
    · rw [if_pos c] at e
      exact vX2_takeWanted_c47 k11 hk11 h r v1 v2 hr q e
    · rw [if_neg c] at e
      refine V.alq dX2_takeWanted_25 (pc' := 26) rfl (j := 0) rfl ?_
      refine V.alq dX2_takeWanted_26 (pc' := 27) rfl (j := 0) rfl ?_
      refine V.getr dX2_takeWanted_27 (pc' := 30) rfl FL_X2_41 hr (by decide) rfl (r' := r + 8) rfl ?_
      refine V.ilq dX2_takeWanted_30 (pc' := 31) rfl (j := 2) rfl ?_
      obtain ⟨c4, e⟩ := gd_s e
      refine V.iald dX2_takeWanted_31 (pc' := 32) rfl (akX2_8 hr).1 (akX2_8 hr).2 (inb_t c4) ?_
      refine V.alq dX2_takeWanted_32 (pc' := 33) rfl (j := 0) rfl ?_
      refine V.getr dX2_takeWanted_33 (pc' := 36) rfl FL_X2_44 hr (by decide) rfl (r' := r + 9) rfl ?_
      refine V.ilq dX2_takeWanted_36 (pc' := 37) rfl (j := 2) rfl ?_
      obtain ⟨c5, e⟩ := gd_s e
      refine V.iald dX2_takeWanted_37 (pc' := 38) rfl (akX2_9 hr).1 (akX2_9 hr).2 (inb_t c5) ?_
      refine V.alq dX2_takeWanted_38 (pc' := 39) rfl (j := 0) rfl ?_
      refine V.getr dX2_takeWanted_39 (pc' := 42) rfl FL_X2_50 hr (by decide) rfl (r' := r + 11) rfl ?_
      refine V.ilq dX2_takeWanted_42 (pc' := 43) rfl (j := 2) rfl ?_
      obtain ⟨c6, e⟩ := gd_s e
      refine V.iald dX2_takeWanted_43 (pc' := 44) rfl (akX2_11 hr).1 (akX2_11 hr).2 (inb_t c6) ?_
      obtain ⟨q7, eq7, e⟩ := bd_s e
      refine V.callVv dX2_takeWanted_44 (pc' := 47) rfl CV_X2_117 (as := [.int (h.1 (r + 8) v2.toNatClampNeg), .int (h.1 (r + 9) v2.toNatClampNeg), .int (h.1 (r + 11) v2.toNatClampNeg)]) (kX2_add h r (h.1 (r + 8) v2.toNatClampNeg) (h.1 (r + 9) v2.toNatClampNeg) (h.1 (r + 11) v2.toNatClampNeg) q7 eq7) (Gs_rm (by decide)) hr (by decide) rfl (Nat.le_of_ble_eq_true rfl) rfl ?_
      exact vX2_takeWanted_c47 k11 hk11 q7 r v1 v2 hr q e
def sX2_takeWanted_b11 : Nat → Hp → Nat → Int32 → Int32 → Option Hp
  | 0 => fun _ _ _ _ => none
  | n + 1 => sX2_takeWanted_c11 (sX2_takeWanted_b11 n)
theorem vX2_takeWanted_b11 : ∀ (n : Nat) (h : Hp) (r : Nat) (v1 : Int32) (v2 : Int32) (hr : ck r = 2) (q : Hp), sX2_takeWanted_b11 n h r v1 v2 = some q → V (Gs 1 (pV q)) mX2_takeWanted (0, 0) 11 [(0, .ref r), (1, .int v1), (2, .int v2)] [] h
  | 0 => fun _ _ _ _ _ _ e => by cases e
  | n + 1 => fun h r v1 v2 hr q e => vX2_takeWanted_c11 (sX2_takeWanted_b11 n) (vX2_takeWanted_b11 n) h r v1 v2 hr q e
def sX2_takeWanted (h : Hp) (r : Nat) : Option Hp :=
  gd (isC r 2) (nm ((h.1 r 14)) fun x1 => (sX2_empty h r).bind fun q2 => sX2_takeWanted_b11 FU q2 r x1 (0 : Int32))
set_option maxRecDepth 10000 in
theorem kX2_takeWanted (h : Hp) (r : Nat) (q : Hp) (e : sX2_takeWanted h r = some q) : K 1 mX2_takeWanted [.ref r] h (pV q) := by
  unfold sX2_takeWanted at e
  obtain ⟨hr, e⟩ := gd_s e
  have hr := isC_t hr
  refine K.ofV (by decide) rfl (Nat.le_of_ble_eq_true rfl) ?_
  show V (Gs 1 (pV q)) mX2_takeWanted (0, 0) 0 [(0, .ref r)] [] h
  refine V.alq dX2_takeWanted_0 (pc' := 1) rfl (j := 0) rfl ?_
  refine V.getf dX2_takeWanted_1 (pc' := 4) rfl FL_X2_53 hr (by decide) rfl ?_
  obtain ⟨x1, ex1, e⟩ := nm_s e
  refine V.isq dX2_takeWanted_4 (pc' := 5) rfl (by decide) ex1 (L' := [(1, .int x1), (0, .ref r)]) rfl ?_
  refine V.alq dX2_takeWanted_5 (pc' := 6) rfl (j := 1) rfl ?_
  obtain ⟨q2, eq2, e⟩ := bd_s e
  refine V.callVv dX2_takeWanted_6 (pc' := 9) rfl CV_X2_90 (as := []) (kX2_empty h r q2 eq2) (Gs_rm (by decide)) hr (by decide) rfl (Nat.le_of_ble_eq_true rfl) rfl ?_
  refine V.iconst dX2_takeWanted_9 (pc' := 10) rfl (v := 0) (by decide) ?_
  refine V.isq dX2_takeWanted_10 (pc' := 11) rfl (by decide) rfl (L' := [(2, .int (0 : Int32)), (1, .int x1), (0, .ref r)]) rfl ?_
  refine V.pk [2, 1, 0] rfl ?_
  exact vX2_takeWanted_b11 FU q2 r x1 (0 : Int32) hr q e

-- X2_markSteps (level 1)
theorem dX2_markSteps_0 : decode cX2_markSteps 0 = .ok (.aload_n 0, 1) := by decide +kernel
theorem dX2_markSteps_1 : decode cX2_markSteps 1 = .ok (.iconst (-1), 1) := by decide +kernel
theorem dX2_markSteps_2 : decode cX2_markSteps 2 = .ok (.invokevirtual 144, 3) := by decide +kernel
theorem dX2_markSteps_5 : decode cX2_markSteps 5 = .ok (.aload_n 0, 1) := by decide +kernel
theorem dX2_markSteps_6 : decode cX2_markSteps 6 = .ok (.getfield 62, 3) := by decide +kernel
theorem dX2_markSteps_9 : decode cX2_markSteps 9 = .ok (.aload_n 0, 1) := by decide +kernel
theorem dX2_markSteps_10 : decode cX2_markSteps 10 = .ok (.getfield 41, 3) := by decide +kernel
theorem dX2_markSteps_13 : decode cX2_markSteps 13 = .ok (.iload_n 1, 1) := by decide +kernel
theorem dX2_markSteps_14 : decode cX2_markSteps 14 = .ok (.iaload, 1) := by decide +kernel
theorem dX2_markSteps_15 : decode cX2_markSteps 15 = .ok (.iconst 0, 1) := by decide +kernel
theorem dX2_markSteps_16 : decode cX2_markSteps 16 = .ok (.iastore, 1) := by decide +kernel
theorem dX2_markSteps_17 : decode cX2_markSteps 17 = .ok (.iconst 1, 1) := by decide +kernel
theorem dX2_markSteps_18 : decode cX2_markSteps 18 = .ok (.istore_n 2, 1) := by decide +kernel
theorem dX2_markSteps_19 : decode cX2_markSteps 19 = .ok (.iload_n 2, 1) := by decide +kernel
theorem dX2_markSteps_20 : decode cX2_markSteps 20 = .ok (.aload_n 0, 1) := by decide +kernel
theorem dX2_markSteps_21 : decode cX2_markSteps 21 = .ok (.getfield 15, 3) := by decide +kernel
theorem dX2_markSteps_24 : decode cX2_markSteps 24 = .ok (.if_icmp .ge 64, 3) := by decide +kernel
theorem dX2_markSteps_27 : decode cX2_markSteps 27 = .ok (.iconst 0, 1) := by decide +kernel
theorem dX2_markSteps_28 : decode cX2_markSteps 28 = .ok (.istore_n 3, 1) := by decide +kernel
theorem dX2_markSteps_29 : decode cX2_markSteps 29 = .ok (.iload_n 3, 1) := by decide +kernel
theorem dX2_markSteps_30 : decode cX2_markSteps 30 = .ok (.aload_n 0, 1) := by decide +kernel
theorem dX2_markSteps_31 : decode cX2_markSteps 31 = .ok (.getfield 53, 3) := by decide +kernel
theorem dX2_markSteps_34 : decode cX2_markSteps 34 = .ok (.if_icmp .ge 48, 3) := by decide +kernel
theorem dX2_markSteps_37 : decode cX2_markSteps 37 = .ok (.iload_n 3, 1) := by decide +kernel
theorem dX2_markSteps_38 : decode cX2_markSteps 38 = .ok (.iload_n 1, 1) := by decide +kernel
theorem dX2_markSteps_39 : decode cX2_markSteps 39 = .ok (.if_icmp .eq 37, 3) := by decide +kernel
theorem dX2_markSteps_42 : decode cX2_markSteps 42 = .ok (.aload_n 0, 1) := by decide +kernel
theorem dX2_markSteps_43 : decode cX2_markSteps 43 = .ok (.aload_n 0, 1) := by decide +kernel
theorem dX2_markSteps_44 : decode cX2_markSteps 44 = .ok (.getfield 41, 3) := by decide +kernel
theorem dX2_markSteps_47 : decode cX2_markSteps 47 = .ok (.iload_n 3, 1) := by decide +kernel
theorem dX2_markSteps_48 : decode cX2_markSteps 48 = .ok (.iaload, 1) := by decide +kernel
theorem dX2_markSteps_49 : decode cX2_markSteps 49 = .ok (.aload_n 0, 1) := by decide +kernel
theorem dX2_markSteps_50 : decode cX2_markSteps 50 = .ok (.getfield 44, 3) := by decide +kernel
theorem dX2_markSteps_53 : decode cX2_markSteps 53 = .ok (.iload_n 3, 1) := by decide +kernel
theorem dX2_markSteps_54 : decode cX2_markSteps 54 = .ok (.iaload, 1) := by decide +kernel
theorem dX2_markSteps_55 : decode cX2_markSteps 55 = .ok (.iload_n 2, 1) := by decide +kernel
theorem dX2_markSteps_56 : decode cX2_markSteps 56 = .ok (.invokevirtual 147, 3) := by decide +kernel
theorem dX2_markSteps_59 : decode cX2_markSteps 59 = .ok (.aload_n 0, 1) := by decide +kernel
theorem dX2_markSteps_60 : decode cX2_markSteps 60 = .ok (.aload_n 0, 1) := by decide +kernel
theorem dX2_markSteps_61 : decode cX2_markSteps 61 = .ok (.getfield 44, 3) := by decide +kernel
theorem dX2_markSteps_64 : decode cX2_markSteps 64 = .ok (.iload_n 3, 1) := by decide +kernel
theorem dX2_markSteps_65 : decode cX2_markSteps 65 = .ok (.iaload, 1) := by decide +kernel
theorem dX2_markSteps_66 : decode cX2_markSteps 66 = .ok (.aload_n 0, 1) := by decide +kernel
theorem dX2_markSteps_67 : decode cX2_markSteps 67 = .ok (.getfield 41, 3) := by decide +kernel
theorem dX2_markSteps_70 : decode cX2_markSteps 70 = .ok (.iload_n 3, 1) := by decide +kernel
theorem dX2_markSteps_71 : decode cX2_markSteps 71 = .ok (.iaload, 1) := by decide +kernel
theorem dX2_markSteps_72 : decode cX2_markSteps 72 = .ok (.iload_n 2, 1) := by decide +kernel
theorem dX2_markSteps_73 : decode cX2_markSteps 73 = .ok (.invokevirtual 147, 3) := by decide +kernel
theorem dX2_markSteps_76 : decode cX2_markSteps 76 = .ok (.iinc 3 1, 3) := by decide +kernel
theorem dX2_markSteps_79 : decode cX2_markSteps 79 = .ok (.goto (-50), 3) := by decide +kernel
theorem dX2_markSteps_82 : decode cX2_markSteps 82 = .ok (.iinc 2 1, 3) := by decide +kernel
theorem dX2_markSteps_85 : decode cX2_markSteps 85 = .ok (.goto (-66), 3) := by decide +kernel
theorem dX2_markSteps_88 : decode cX2_markSteps 88 = .ok (.return_, 1) := by decide +kernel
def sX2_markSteps_c76 (k19 : Hp → Nat → Int32 → Int32 → Option Hp) (k29 : Hp → Nat → Int32 → Int32 → Int32 → Option Hp) (h : Hp) (r : Nat) (v1 : Int32) (v2 : Int32) (v3 : Int32) : Option Hp :=
  nm (v3 + (1 : Int32)) fun x12 => k29 h r v1 v2 x12
set_option maxRecDepth 10000 in
theorem vX2_markSteps_c76 (k19 : Hp → Nat → Int32 → Int32 → Option Hp) (hk19 : ∀ (h : Hp) (r : Nat) (v1 : Int32) (v2 : Int32) (hr : ck r = 2) (q : Hp), k19 h r v1 v2 = some q → V (Gs 1 (pV q)) mX2_markSteps (0, 0) 19 [(0, .ref r), (1, .int v1), (2, .int v2)] [] h) (k29 : Hp → Nat → Int32 → Int32 → Int32 → Option Hp) (hk29 : ∀ (h : Hp) (r : Nat) (v1 : Int32) (v2 : Int32) (v3 : Int32) (hr : ck r = 2) (q : Hp), k29 h r v1 v2 v3 = some q → V (Gs 1 (pV q)) mX2_markSteps (0, 0) 29 [(0, .ref r), (1, .int v1), (2, .int v2), (3, .int v3)] [] h) (h : Hp) (r : Nat) (v1 : Int32) (v2 : Int32) (v3 : Int32) (hr : ck r = 2) (q : Hp) (e : sX2_markSteps_c76 k19 k29 h r v1 v2 v3 = some q) : V (Gs 1 (pV q)) mX2_markSteps (0, 0) 76 [(0, .ref r), (1, .int v1), (2, .int v2), (3, .int v3)] [] h := by
  unfold sX2_markSteps_c76 at e
  obtain ⟨x12, ex12, e⟩ := nm_s e
  refine V.iinc dX2_markSteps_76 (pc' := 79) rfl (j := 3) rfl (v := 1) (by decide) (by decide) ex12 (L' := [(3, .int x12), (0, .ref r), (1, .int v1), (2, .int v2)]) rfl ?_
  refine V.goto dX2_markSteps_79 (pc' := 29) (by decide) ?_
  refine V.pk [1, 2, 3, 0] rfl ?_
  exact hk29 h r v1 v2 x12 hr q e
def sX2_markSteps_c29 (k19 : Hp → Nat → Int32 → Int32 → Option Hp) (k29 : Hp → Nat → Int32 → Int32 → Int32 → Option Hp) (h : Hp) (r : Nat) (v1 : Int32) (v2 : Int32) (v3 : Int32) : Option Hp :=
  if (h.1 r 14) ≤ v3 then (nm (v2 + (1 : Int32)) fun x5 => k19 h r v1 x5) else (if v3 = v1 then (sX2_markSteps_c76 k19 k29 h r v1 v2 v3) else (gd (inb v3 24) (gd (inb v3 24) ((sX2_markNext h r (h.1 (r + 8) v3.toNatClampNeg) (h.1 (r + 9) v3.toNatClampNeg) v2).bind fun q8 => gd (inb v3 24) (gd (inb v3 24) ((sX2_markNext q8 r (q8.1 (r + 9) v3.toNatClampNeg) (q8.1 (r + 8) v3.toNatClampNeg) v2).bind fun q11 => sX2_markSteps_c76 k19 k29 q11 r v1 v2 v3))))))
set_option maxRecDepth 10000 in
theorem vX2_markSteps_c29 (k19 : Hp → Nat → Int32 → Int32 → Option Hp) (hk19 : ∀ (h : Hp) (r : Nat) (v1 : Int32) (v2 : Int32) (hr : ck r = 2) (q : Hp), k19 h r v1 v2 = some q → V (Gs 1 (pV q)) mX2_markSteps (0, 0) 19 [(0, .ref r), (1, .int v1), (2, .int v2)] [] h) (k29 : Hp → Nat → Int32 → Int32 → Int32 → Option Hp) (hk29 : ∀ (h : Hp) (r : Nat) (v1 : Int32) (v2 : Int32) (v3 : Int32) (hr : ck r = 2) (q : Hp), k29 h r v1 v2 v3 = some q → V (Gs 1 (pV q)) mX2_markSteps (0, 0) 29 [(0, .ref r), (1, .int v1), (2, .int v2), (3, .int v3)] [] h) (h : Hp) (r : Nat) (v1 : Int32) (v2 : Int32) (v3 : Int32) (hr : ck r = 2) (q : Hp) (e : sX2_markSteps_c29 k19 k29 h r v1 v2 v3 = some q) : V (Gs 1 (pV q)) mX2_markSteps (0, 0) 29 [(0, .ref r), (1, .int v1), (2, .int v2), (3, .int v3)] [] h := by
  unfold sX2_markSteps_c29 at e
  refine V.ilq dX2_markSteps_29 (pc' := 30) rfl (j := 3) rfl ?_
  refine V.alq dX2_markSteps_30 (pc' := 31) rfl (j := 0) rfl ?_
  refine V.getf dX2_markSteps_31 (pc' := 34) rfl FL_X2_53 hr (by decide) rfl ?_
  refine V.ic_ge dX2_markSteps_34 (pc' := 37) rfl (tgt := 82) (by decide) (fun c => ?_) (fun c => ?_)
  · rw [if_pos c] at e
    obtain ⟨x5, ex5, e⟩ := nm_s e
    refine V.iinc dX2_markSteps_82 (pc' := 85) rfl (j := 2) rfl (v := 1) (by decide) (by decide) ex5 (L' := [(2, .int x5), (0, .ref r), (1, .int v1), (3, .int v3)]) rfl ?_
    refine V.goto dX2_markSteps_85 (pc' := 19) (by decide) ?_
    refine V.pk [1, 2, 0] rfl ?_
    exact hk19 h r v1 x5 hr q e
  · rw [if_neg c] at e
    refine V.ilq dX2_markSteps_37 (pc' := 38) rfl (j := 3) rfl ?_
    refine V.ilq dX2_markSteps_38 (pc' := 39) rfl (j := 1) rfl ?_
    refine V.ic_eq dX2_markSteps_39 (pc' := 42) rfl (tgt := 76) (by decide) (fun c => ?_) (fun c => ?_)
    · rw [if_pos c] at e
      exact vX2_markSteps_c76 k19 hk19 k29 hk29 h r v1 v2 v3 hr q e
    · rw [if_neg c] at e
      refine V.alq dX2_markSteps_42 (pc' := 43) rfl (j := 0) rfl ?_
      refine V.alq dX2_markSteps_43 (pc' := 44) rfl (j := 0) rfl ?_
      refine V.getr dX2_markSteps_44 (pc' := 47) rfl FL_X2_41 hr (by decide) rfl (r' := r + 8) rfl ?_
      refine V.ilq dX2_markSteps_47 (pc' := 48) rfl (j := 3) rfl ?_
      obtain ⟨c6, e⟩ := gd_s e
      refine V.iald dX2_markSteps_48 (pc' := 49) rfl (akX2_8 hr).1 (akX2_8 hr).2 (inb_t c6) ?_
      refine V.alq dX2_markSteps_49 (pc' := 50) rfl (j := 0) rfl ?_
      refine V.getr dX2_markSteps_50 (pc' := 53) rfl FL_X2_44 hr (by decide) rfl (r' := r + 9) rfl ?_
      refine V.ilq dX2_markSteps_53 (pc' := 54) rfl (j := 3) rfl ?_
      obtain ⟨c7, e⟩ := gd_s e
      refine V.iald dX2_markSteps_54 (pc' := 55) rfl (akX2_9 hr).1 (akX2_9 hr).2 (inb_t c7) ?_
      refine V.ilq dX2_markSteps_55 (pc' := 56) rfl (j := 2) rfl ?_
      obtain ⟨q8, eq8, e⟩ := bd_s e
      refine V.callVv dX2_markSteps_56 (pc' := 59) rfl CV_X2_147 (as := [.int (h.1 (r + 8) v3.toNatClampNeg), .int (h.1 (r + 9) v3.toNatClampNeg), .int v2]) (kX2_markNext h r (h.1 (r + 8) v3.toNatClampNeg) (h.1 (r + 9) v3.toNatClampNeg) v2 q8 eq8) (Gs_rm (by decide)) hr (by decide) rfl (Nat.le_of_ble_eq_true rfl) rfl ?_
      refine V.alq dX2_markSteps_59 (pc' := 60) rfl (j := 0) rfl ?_
      refine V.alq dX2_markSteps_60 (pc' := 61) rfl (j := 0) rfl ?_
      refine V.getr dX2_markSteps_61 (pc' := 64) rfl FL_X2_44 hr (by decide) rfl (r' := r + 9) rfl ?_
      refine V.ilq dX2_markSteps_64 (pc' := 65) rfl (j := 3) rfl ?_
      obtain ⟨c9, e⟩ := gd_s e
      refine V.iald dX2_markSteps_65 (pc' := 66) rfl (akX2_9 hr).1 (akX2_9 hr).2 (inb_t c9) ?_
      refine V.alq dX2_markSteps_66 (pc' := 67) rfl (j := 0) rfl ?_
      refine V.getr dX2_markSteps_67 (pc' := 70) rfl FL_X2_41 hr (by decide) rfl (r' := r + 8) rfl ?_
      refine V.ilq dX2_markSteps_70 (pc' := 71) rfl (j := 3) rfl ?_
      obtain ⟨c10, e⟩ := gd_s e
      refine V.iald dX2_markSteps_71 (pc' := 72) rfl (akX2_8 hr).1 (akX2_8 hr).2 (inb_t c10) ?_
      refine V.ilq dX2_markSteps_72 (pc' := 73) rfl (j := 2) rfl ?_
      obtain ⟨q11, eq11, e⟩ := bd_s e
      refine V.callVv dX2_markSteps_73 (pc' := 76) rfl CV_X2_147 (as := [.int (q8.1 (r + 9) v3.toNatClampNeg), .int (q8.1 (r + 8) v3.toNatClampNeg), .int v2]) (kX2_markNext q8 r (q8.1 (r + 9) v3.toNatClampNeg) (q8.1 (r + 8) v3.toNatClampNeg) v2 q11 eq11) (Gs_rm (by decide)) hr (by decide) rfl (Nat.le_of_ble_eq_true rfl) rfl ?_
      exact vX2_markSteps_c76 k19 hk19 k29 hk29 q11 r v1 v2 v3 hr q e
def sX2_markSteps_b29 (k19 : Hp → Nat → Int32 → Int32 → Option Hp) : Nat → Hp → Nat → Int32 → Int32 → Int32 → Option Hp
  | 0 => fun _ _ _ _ _ => none
  | n + 1 => sX2_markSteps_c29 k19 (sX2_markSteps_b29 k19 n)
theorem vX2_markSteps_b29 (k19 : Hp → Nat → Int32 → Int32 → Option Hp) (hk19 : ∀ (h : Hp) (r : Nat) (v1 : Int32) (v2 : Int32) (hr : ck r = 2) (q : Hp), k19 h r v1 v2 = some q → V (Gs 1 (pV q)) mX2_markSteps (0, 0) 19 [(0, .ref r), (1, .int v1), (2, .int v2)] [] h) : ∀ (n : Nat) (h : Hp) (r : Nat) (v1 : Int32) (v2 : Int32) (v3 : Int32) (hr : ck r = 2) (q : Hp), sX2_markSteps_b29 k19 n h r v1 v2 v3 = some q → V (Gs 1 (pV q)) mX2_markSteps (0, 0) 29 [(0, .ref r), (1, .int v1), (2, .int v2), (3, .int v3)] [] h
  | 0 => fun _ _ _ _ _ _ _ e => by cases e
  | n + 1 => fun h r v1 v2 v3 hr q e => vX2_markSteps_c29 k19 hk19 (sX2_markSteps_b29 k19 n) (vX2_markSteps_b29 k19 hk19 n) h r v1 v2 v3 hr q e
def sX2_markSteps_c19 (k19 : Hp → Nat → Int32 → Int32 → Option Hp) (h : Hp) (r : Nat) (v1 : Int32) (v2 : Int32) : Option Hp :=
  if (h.1 r 2) ≤ v2 then (some h) else (sX2_markSteps_b29 k19 FU h r v1 v2 (0 : Int32))
set_option maxRecDepth 10000 in
theorem vX2_markSteps_c19 (k19 : Hp → Nat → Int32 → Int32 → Option Hp) (hk19 : ∀ (h : Hp) (r : Nat) (v1 : Int32) (v2 : Int32) (hr : ck r = 2) (q : Hp), k19 h r v1 v2 = some q → V (Gs 1 (pV q)) mX2_markSteps (0, 0) 19 [(0, .ref r), (1, .int v1), (2, .int v2)] [] h) (h : Hp) (r : Nat) (v1 : Int32) (v2 : Int32) (hr : ck r = 2) (q : Hp) (e : sX2_markSteps_c19 k19 h r v1 v2 = some q) : V (Gs 1 (pV q)) mX2_markSteps (0, 0) 19 [(0, .ref r), (1, .int v1), (2, .int v2)] [] h := by
  unfold sX2_markSteps_c19 at e
  refine V.ilq dX2_markSteps_19 (pc' := 20) rfl (j := 2) rfl ?_
  refine V.alq dX2_markSteps_20 (pc' := 21) rfl (j := 0) rfl ?_
  refine V.getf dX2_markSteps_21 (pc' := 24) rfl FL_X2_15 hr (by decide) rfl ?_
  refine V.ic_ge dX2_markSteps_24 (pc' := 27) rfl (tgt := 88) (by decide) (fun c => ?_) (fun c => ?_)
  · rw [if_pos c] at e
    exact V.vret dX2_markSteps_88 rfl (fnV e)
  · rw [if_neg c] at e
    refine V.iconst dX2_markSteps_27 (pc' := 28) rfl (v := 0) (by decide) ?_
    refine V.isq dX2_markSteps_28 (pc' := 29) rfl (by decide) rfl (L' := [(3, .int (0 : Int32)), (0, .ref r), (1, .int v1), (2, .int v2)]) rfl ?_
    refine V.pk [1, 2, 3, 0] rfl ?_
    exact vX2_markSteps_b29 k19 hk19 FU h r v1 v2 (0 : Int32) hr q e
def sX2_markSteps_b19 : Nat → Hp → Nat → Int32 → Int32 → Option Hp
  | 0 => fun _ _ _ _ => none
  | n + 1 => sX2_markSteps_c19 (sX2_markSteps_b19 n)
theorem vX2_markSteps_b19 : ∀ (n : Nat) (h : Hp) (r : Nat) (v1 : Int32) (v2 : Int32) (hr : ck r = 2) (q : Hp), sX2_markSteps_b19 n h r v1 v2 = some q → V (Gs 1 (pV q)) mX2_markSteps (0, 0) 19 [(0, .ref r), (1, .int v1), (2, .int v2)] [] h
  | 0 => fun _ _ _ _ _ _ e => by cases e
  | n + 1 => fun h r v1 v2 hr q e => vX2_markSteps_c19 (sX2_markSteps_b19 n) (vX2_markSteps_b19 n) h r v1 v2 hr q e
def sX2_markSteps (h : Hp) (r : Nat) (a1 : Int32) : Option Hp :=
  gd (isC r 2) ((sX2_markAll h r (-1 : Int32)).bind fun q1 => gd (inb a1 24) (gd (inb (q1.1 (r + 8) a1.toNatClampNeg) 10) (nm (u1 q1 (r + 13) (q1.1 (r + 8) a1.toNatClampNeg).toNatClampNeg (0 : Int32)) fun h4 => sX2_markSteps_b19 FU h4 r a1 (1 : Int32))))
set_option maxRecDepth 10000 in
theorem kX2_markSteps (h : Hp) (r : Nat) (a1 : Int32) (q : Hp) (e : sX2_markSteps h r a1 = some q) : K 1 mX2_markSteps [.ref r, .int a1] h (pV q) := by
  unfold sX2_markSteps at e
  obtain ⟨hr, e⟩ := gd_s e
  have hr := isC_t hr
  refine K.ofV (by decide) rfl (Nat.le_of_ble_eq_true rfl) ?_
  show V (Gs 1 (pV q)) mX2_markSteps (0, 0) 0 [(0, .ref r), (1, .int a1)] [] h
  refine V.alq dX2_markSteps_0 (pc' := 1) rfl (j := 0) rfl ?_
  refine V.iconst dX2_markSteps_1 (pc' := 2) rfl (v := -1) (by decide) ?_
  obtain ⟨q1, eq1, e⟩ := bd_s e
  refine V.callVv dX2_markSteps_2 (pc' := 5) rfl CV_X2_144 (as := [.int (-1 : Int32)]) (kX2_markAll h r (-1 : Int32) q1 eq1) (Gs_rm (by decide)) hr (by decide) rfl (Nat.le_of_ble_eq_true rfl) rfl ?_
  refine V.alq dX2_markSteps_5 (pc' := 6) rfl (j := 0) rfl ?_
  refine V.getr dX2_markSteps_6 (pc' := 9) rfl FL_X2_62 hr (by decide) rfl (r' := r + 13) rfl ?_
  refine V.alq dX2_markSteps_9 (pc' := 10) rfl (j := 0) rfl ?_
  refine V.getr dX2_markSteps_10 (pc' := 13) rfl FL_X2_41 hr (by decide) rfl (r' := r + 8) rfl ?_
  refine V.ilq dX2_markSteps_13 (pc' := 14) rfl (j := 1) rfl ?_
  obtain ⟨c2, e⟩ := gd_s e
  refine V.iald dX2_markSteps_14 (pc' := 15) rfl (akX2_8 hr).1 (akX2_8 hr).2 (inb_t c2) ?_
  refine V.iconst dX2_markSteps_15 (pc' := 16) rfl (v := 0) (by decide) ?_
  obtain ⟨c3, e⟩ := gd_s e
  obtain ⟨h4, eh4, e⟩ := nm_s e
  refine V.iast dX2_markSteps_16 (pc' := 17) rfl (akX2_13 hr).1 (akX2_13 hr).2 (inb_t c3) eh4 ?_
  refine V.iconst dX2_markSteps_17 (pc' := 18) rfl (v := 1) (by decide) ?_
  refine V.isq dX2_markSteps_18 (pc' := 19) rfl (by decide) rfl (L' := [(2, .int (1 : Int32)), (0, .ref r), (1, .int a1)]) rfl ?_
  refine V.pk [1, 2, 0] rfl ?_
  exact vX2_markSteps_b19 FU h4 r a1 (1 : Int32) hr q e

-- X2_firstTowards (level 1)
theorem dX2_firstTowards_0 : decode cX2_firstTowards 0 = .ok (.iconst 0, 1) := by decide +kernel
theorem dX2_firstTowards_1 : decode cX2_firstTowards 1 = .ok (.istore 4, 2) := by decide +kernel
theorem dX2_firstTowards_3 : decode cX2_firstTowards 3 = .ok (.iload 4, 2) := by decide +kernel
theorem dX2_firstTowards_5 : decode cX2_firstTowards 5 = .ok (.aload_n 0, 1) := by decide +kernel
theorem dX2_firstTowards_6 : decode cX2_firstTowards 6 = .ok (.getfield 53, 3) := by decide +kernel
theorem dX2_firstTowards_9 : decode cX2_firstTowards 9 = .ok (.if_icmp .ge 68, 3) := by decide +kernel
theorem dX2_firstTowards_12 : decode cX2_firstTowards 12 = .ok (.aload_n 0, 1) := by decide +kernel
theorem dX2_firstTowards_13 : decode cX2_firstTowards 13 = .ok (.getfield 41, 3) := by decide +kernel
theorem dX2_firstTowards_16 : decode cX2_firstTowards 16 = .ok (.iload 4, 2) := by decide +kernel
theorem dX2_firstTowards_18 : decode cX2_firstTowards 18 = .ok (.iaload, 1) := by decide +kernel
theorem dX2_firstTowards_19 : decode cX2_firstTowards 19 = .ok (.iload_n 2, 1) := by decide +kernel
theorem dX2_firstTowards_20 : decode cX2_firstTowards 20 = .ok (.if_icmp .eq 14, 3) := by decide +kernel
theorem dX2_firstTowards_23 : decode cX2_firstTowards 23 = .ok (.aload_n 0, 1) := by decide +kernel
theorem dX2_firstTowards_24 : decode cX2_firstTowards 24 = .ok (.getfield 44, 3) := by decide +kernel
theorem dX2_firstTowards_27 : decode cX2_firstTowards 27 = .ok (.iload 4, 2) := by decide +kernel
theorem dX2_firstTowards_29 : decode cX2_firstTowards 29 = .ok (.iaload, 1) := by decide +kernel
theorem dX2_firstTowards_30 : decode cX2_firstTowards 30 = .ok (.iload_n 2, 1) := by decide +kernel
theorem dX2_firstTowards_31 : decode cX2_firstTowards 31 = .ok (.if_icmp .ne 7, 3) := by decide +kernel
theorem dX2_firstTowards_34 : decode cX2_firstTowards 34 = .ok (.iconst 1, 1) := by decide +kernel
theorem dX2_firstTowards_35 : decode cX2_firstTowards 35 = .ok (.goto 4, 3) := by decide +kernel
theorem dX2_firstTowards_38 : decode cX2_firstTowards 38 = .ok (.iconst 0, 1) := by decide +kernel
theorem dX2_firstTowards_39 : decode cX2_firstTowards 39 = .ok (.istore 5, 2) := by decide +kernel
theorem dX2_firstTowards_41 : decode cX2_firstTowards 41 = .ok (.iload 4, 2) := by decide +kernel
theorem dX2_firstTowards_43 : decode cX2_firstTowards 43 = .ok (.iload_n 1, 1) := by decide +kernel
theorem dX2_firstTowards_44 : decode cX2_firstTowards 44 = .ok (.if_icmp .eq 27, 3) := by decide +kernel
theorem dX2_firstTowards_47 : decode cX2_firstTowards 47 = .ok (.iload 5, 2) := by decide +kernel
theorem dX2_firstTowards_49 : decode cX2_firstTowards 49 = .ok (.ifCond .eq 22, 3) := by decide +kernel
theorem dX2_firstTowards_52 : decode cX2_firstTowards 52 = .ok (.aload_n 0, 1) := by decide +kernel
theorem dX2_firstTowards_53 : decode cX2_firstTowards 53 = .ok (.getfield 62, 3) := by decide +kernel
theorem dX2_firstTowards_56 : decode cX2_firstTowards 56 = .ok (.aload_n 0, 1) := by decide +kernel
theorem dX2_firstTowards_57 : decode cX2_firstTowards 57 = .ok (.iload 4, 2) := by decide +kernel
theorem dX2_firstTowards_59 : decode cX2_firstTowards 59 = .ok (.iload_n 2, 1) := by decide +kernel
theorem dX2_firstTowards_60 : decode cX2_firstTowards 60 = .ok (.invokevirtual 141, 3) := by decide +kernel
theorem dX2_firstTowards_63 : decode cX2_firstTowards 63 = .ok (.iaload, 1) := by decide +kernel
theorem dX2_firstTowards_64 : decode cX2_firstTowards 64 = .ok (.iload_n 3, 1) := by decide +kernel
theorem dX2_firstTowards_65 : decode cX2_firstTowards 65 = .ok (.if_icmp .ne 6, 3) := by decide +kernel
theorem dX2_firstTowards_68 : decode cX2_firstTowards 68 = .ok (.iload 4, 2) := by decide +kernel
theorem dX2_firstTowards_70 : decode cX2_firstTowards 70 = .ok (.ireturn, 1) := by decide +kernel
theorem dX2_firstTowards_71 : decode cX2_firstTowards 71 = .ok (.iinc 4 1, 3) := by decide +kernel
theorem dX2_firstTowards_74 : decode cX2_firstTowards 74 = .ok (.goto (-71), 3) := by decide +kernel
theorem dX2_firstTowards_77 : decode cX2_firstTowards 77 = .ok (.iconst (-1), 1) := by decide +kernel
theorem dX2_firstTowards_78 : decode cX2_firstTowards 78 = .ok (.ireturn, 1) := by decide +kernel
def sX2_firstTowards_c71 (k3 : Hp → Nat → Int32 → Int32 → Int32 → Int32 → Option (Int32 × Hp)) (h : Hp) (r : Nat) (v1 : Int32) (v2 : Int32) (v3 : Int32) (v4 : Int32) : Option (Int32 × Hp) :=
  nm (v4 + (1 : Int32)) fun x5 => k3 h r v1 v2 v3 x5
set_option maxRecDepth 10000 in
theorem vX2_firstTowards_c71 (k3 : Hp → Nat → Int32 → Int32 → Int32 → Int32 → Option (Int32 × Hp)) (hk3 : ∀ (h : Hp) (r : Nat) (v1 : Int32) (v2 : Int32) (v3 : Int32) (v4 : Int32) (hr : ck r = 2) (q : (Int32 × Hp)), k3 h r v1 v2 v3 v4 = some q → V (Gs 1 (pI q)) mX2_firstTowards (0, 0) 3 [(0, .ref r), (1, .int v1), (2, .int v2), (3, .int v3), (4, .int v4)] [] h) (h : Hp) (r : Nat) (v1 : Int32) (v2 : Int32) (v3 : Int32) (v4 : Int32) (hr : ck r = 2) (q : (Int32 × Hp)) (e : sX2_firstTowards_c71 k3 h r v1 v2 v3 v4 = some q) : V (Gs 1 (pI q)) mX2_firstTowards (0, 0) 71 [(0, .ref r), (1, .int v1), (2, .int v2), (3, .int v3), (4, .int v4)] [] h := by
  unfold sX2_firstTowards_c71 at e
  obtain ⟨x5, ex5, e⟩ := nm_s e
  refine V.iinc dX2_firstTowards_71 (pc' := 74) rfl (j := 4) rfl (v := 1) (by decide) (by decide) ex5 (L' := [(4, .int x5), (0, .ref r), (1, .int v1), (2, .int v2), (3, .int v3)]) rfl ?_
  refine V.goto dX2_firstTowards_74 (pc' := 3) (by decide) ?_
  refine V.pk [1, 2, 3, 4, 0] rfl ?_
  exact hk3 h r v1 v2 v3 x5 hr q e
def sX2_firstTowards_c39 (k3 : Hp → Nat → Int32 → Int32 → Int32 → Int32 → Option (Int32 × Hp)) (h : Hp) (r : Nat) (v1 : Int32) (v2 : Int32) (v3 : Int32) (v4 : Int32) (t0 : Int32) : Option (Int32 × Hp) :=
  if v4 = v1 then (sX2_firstTowards_c71 k3 h r v1 v2 v3 v4) else (if t0 = 0 then (sX2_firstTowards_c71 k3 h r v1 v2 v3 v4) else ((sX2_otherEnd h r v4 v2).bind fun q3 => gd (inb q3.1 10) (if (q3.2.1 (r + 13) q3.1.toNatClampNeg) = v3 then (some (v4, q3.2)) else (sX2_firstTowards_c71 k3 q3.2 r v1 v2 v3 v4))))
set_option maxRecDepth 10000 in
theorem vX2_firstTowards_c39 (k3 : Hp → Nat → Int32 → Int32 → Int32 → Int32 → Option (Int32 × Hp)) (hk3 : ∀ (h : Hp) (r : Nat) (v1 : Int32) (v2 : Int32) (v3 : Int32) (v4 : Int32) (hr : ck r = 2) (q : (Int32 × Hp)), k3 h r v1 v2 v3 v4 = some q → V (Gs 1 (pI q)) mX2_firstTowards (0, 0) 3 [(0, .ref r), (1, .int v1), (2, .int v2), (3, .int v3), (4, .int v4)] [] h) (h : Hp) (r : Nat) (v1 : Int32) (v2 : Int32) (v3 : Int32) (v4 : Int32) (t0 : Int32) (hr : ck r = 2) (q : (Int32 × Hp)) (e : sX2_firstTowards_c39 k3 h r v1 v2 v3 v4 t0 = some q) : V (Gs 1 (pI q)) mX2_firstTowards (0, 0) 39 [(0, .ref r), (1, .int v1), (2, .int v2), (3, .int v3), (4, .int v4)] [.int t0] h := by
  unfold sX2_firstTowards_c39 at e
  refine V.is dX2_firstTowards_39 (pc' := 41) rfl (by decide) rfl (L' := [(5, .int t0), (0, .ref r), (1, .int v1), (2, .int v2), (3, .int v3), (4, .int v4)]) rfl ?_
  refine V.il dX2_firstTowards_41 (pc' := 43) rfl (j := 5) rfl ?_
  refine V.ilq dX2_firstTowards_43 (pc' := 44) rfl (j := 2) rfl ?_
  refine V.ic_eq dX2_firstTowards_44 (pc' := 47) rfl (tgt := 71) (by decide) (fun c => ?_) (fun c => ?_)
  · rw [if_pos c] at e
    refine V.pk [1, 2, 3, 4, 5] rfl ?_
    exact vX2_firstTowards_c71 k3 hk3 h r v1 v2 v3 v4 hr q e
  · rw [if_neg c] at e
    refine V.il dX2_firstTowards_47 (pc' := 49) rfl (j := 0) rfl ?_
    refine V.if_eq dX2_firstTowards_49 (pc' := 52) rfl (tgt := 71) (by decide) (fun c => ?_) (fun c => ?_)
    · rw [if_pos c] at e
      refine V.pk [1, 2, 3, 4, 5] rfl ?_
      exact vX2_firstTowards_c71 k3 hk3 h r v1 v2 v3 v4 hr q e
    · rw [if_neg c] at e
      refine V.alq dX2_firstTowards_52 (pc' := 53) rfl (j := 1) rfl ?_
      refine V.getr dX2_firstTowards_53 (pc' := 56) rfl FL_X2_62 hr (by decide) rfl (r' := r + 13) rfl ?_
      refine V.alq dX2_firstTowards_56 (pc' := 57) rfl (j := 1) rfl ?_
      refine V.il dX2_firstTowards_57 (pc' := 59) rfl (j := 5) rfl ?_
      refine V.ilq dX2_firstTowards_59 (pc' := 60) rfl (j := 3) rfl ?_
      obtain ⟨q3, eq3, e⟩ := bd_s e
      refine V.callVi dX2_firstTowards_60 (pc' := 63) rfl CV_X2_141 (as := [.int v4, .int v2]) (kX2_otherEnd h r v4 v2 q3 eq3) (Gs_rm (by decide)) hr (by decide) rfl (Nat.le_of_ble_eq_true rfl) rfl ?_
      obtain ⟨c4, e⟩ := gd_s e
      refine V.iald dX2_firstTowards_63 (pc' := 64) rfl (akX2_13 hr).1 (akX2_13 hr).2 (inb_t c4) ?_
      refine V.ilq dX2_firstTowards_64 (pc' := 65) rfl (j := 4) rfl ?_
      refine V.ic_ne dX2_firstTowards_65 (pc' := 68) rfl (tgt := 71) (by decide) (fun c => ?_) (fun c => ?_)
      · rw [if_neg c] at e
        refine V.pk [1, 2, 3, 4, 5] rfl ?_
        exact vX2_firstTowards_c71 k3 hk3 q3.2 r v1 v2 v3 v4 hr q e
      · rw [if_pos c] at e
        refine V.il dX2_firstTowards_68 (pc' := 70) rfl (j := 5) rfl ?_
        exact V.iret dX2_firstTowards_70 rfl (fnI e)
def sX2_firstTowards_c34 (k3 : Hp → Nat → Int32 → Int32 → Int32 → Int32 → Option (Int32 × Hp)) (h : Hp) (r : Nat) (v1 : Int32) (v2 : Int32) (v3 : Int32) (v4 : Int32) : Option (Int32 × Hp) :=
  sX2_firstTowards_c39 k3 h r v1 v2 v3 v4 (1 : Int32)
set_option maxRecDepth 10000 in
theorem vX2_firstTowards_c34 (k3 : Hp → Nat → Int32 → Int32 → Int32 → Int32 → Option (Int32 × Hp)) (hk3 : ∀ (h : Hp) (r : Nat) (v1 : Int32) (v2 : Int32) (v3 : Int32) (v4 : Int32) (hr : ck r = 2) (q : (Int32 × Hp)), k3 h r v1 v2 v3 v4 = some q → V (Gs 1 (pI q)) mX2_firstTowards (0, 0) 3 [(0, .ref r), (1, .int v1), (2, .int v2), (3, .int v3), (4, .int v4)] [] h) (h : Hp) (r : Nat) (v1 : Int32) (v2 : Int32) (v3 : Int32) (v4 : Int32) (hr : ck r = 2) (q : (Int32 × Hp)) (e : sX2_firstTowards_c34 k3 h r v1 v2 v3 v4 = some q) : V (Gs 1 (pI q)) mX2_firstTowards (0, 0) 34 [(0, .ref r), (1, .int v1), (2, .int v2), (3, .int v3), (4, .int v4)] [] h := by
  unfold sX2_firstTowards_c34 at e
  refine V.iconst dX2_firstTowards_34 (pc' := 35) rfl (v := 1) (by decide) ?_
  refine V.goto dX2_firstTowards_35 (pc' := 39) (by decide) ?_
  exact vX2_firstTowards_c39 k3 hk3 h r v1 v2 v3 v4 (1 : Int32) hr q e
def sX2_firstTowards_c3 (k3 : Hp → Nat → Int32 → Int32 → Int32 → Int32 → Option (Int32 × Hp)) (h : Hp) (r : Nat) (v1 : Int32) (v2 : Int32) (v3 : Int32) (v4 : Int32) : Option (Int32 × Hp) :=
  if (h.1 r 14) ≤ v4 then (some ((-1 : Int32), h)) else (gd (inb v4 24) (if (h.1 (r + 8) v4.toNatClampNeg) = v2 then (sX2_firstTowards_c34 k3 h r v1 v2 v3 v4) else (gd (inb v4 24) (if (h.1 (r + 9) v4.toNatClampNeg) = v2 then (sX2_firstTowards_c34 k3 h r v1 v2 v3 v4) else (sX2_firstTowards_c39 k3 h r v1 v2 v3 v4 (0 : Int32))))))
set_option maxRecDepth 10000 in
theorem vX2_firstTowards_c3 (k3 : Hp → Nat → Int32 → Int32 → Int32 → Int32 → Option (Int32 × Hp)) (hk3 : ∀ (h : Hp) (r : Nat) (v1 : Int32) (v2 : Int32) (v3 : Int32) (v4 : Int32) (hr : ck r = 2) (q : (Int32 × Hp)), k3 h r v1 v2 v3 v4 = some q → V (Gs 1 (pI q)) mX2_firstTowards (0, 0) 3 [(0, .ref r), (1, .int v1), (2, .int v2), (3, .int v3), (4, .int v4)] [] h) (h : Hp) (r : Nat) (v1 : Int32) (v2 : Int32) (v3 : Int32) (v4 : Int32) (hr : ck r = 2) (q : (Int32 × Hp)) (e : sX2_firstTowards_c3 k3 h r v1 v2 v3 v4 = some q) : V (Gs 1 (pI q)) mX2_firstTowards (0, 0) 3 [(0, .ref r), (1, .int v1), (2, .int v2), (3, .int v3), (4, .int v4)] [] h := by
  unfold sX2_firstTowards_c3 at e
  refine V.il dX2_firstTowards_3 (pc' := 5) rfl (j := 4) rfl ?_
  refine V.alq dX2_firstTowards_5 (pc' := 6) rfl (j := 0) rfl ?_
  refine V.getf dX2_firstTowards_6 (pc' := 9) rfl FL_X2_53 hr (by decide) rfl ?_
  refine V.ic_ge dX2_firstTowards_9 (pc' := 12) rfl (tgt := 77) (by decide) (fun c => ?_) (fun c => ?_)
  · rw [if_pos c] at e
    refine V.iconst dX2_firstTowards_77 (pc' := 78) rfl (v := -1) (by decide) ?_
    exact V.iret dX2_firstTowards_78 rfl (fnI e)
  · rw [if_neg c] at e
    refine V.alq dX2_firstTowards_12 (pc' := 13) rfl (j := 0) rfl ?_
    refine V.getr dX2_firstTowards_13 (pc' := 16) rfl FL_X2_41 hr (by decide) rfl (r' := r + 8) rfl ?_
    refine V.il dX2_firstTowards_16 (pc' := 18) rfl (j := 4) rfl ?_
    obtain ⟨c1, e⟩ := gd_s e
    refine V.iald dX2_firstTowards_18 (pc' := 19) rfl (akX2_8 hr).1 (akX2_8 hr).2 (inb_t c1) ?_
    refine V.ilq dX2_firstTowards_19 (pc' := 20) rfl (j := 2) rfl ?_
    refine V.ic_eq dX2_firstTowards_20 (pc' := 23) rfl (tgt := 34) (by decide) (fun c => ?_) (fun c => ?_)
    · rw [if_pos c] at e
      exact vX2_firstTowards_c34 k3 hk3 h r v1 v2 v3 v4 hr q e
    · rw [if_neg c] at e
      refine V.alq dX2_firstTowards_23 (pc' := 24) rfl (j := 0) rfl ?_
      refine V.getr dX2_firstTowards_24 (pc' := 27) rfl FL_X2_44 hr (by decide) rfl (r' := r + 9) rfl ?_
      refine V.il dX2_firstTowards_27 (pc' := 29) rfl (j := 4) rfl ?_
      obtain ⟨c2, e⟩ := gd_s e
      refine V.iald dX2_firstTowards_29 (pc' := 30) rfl (akX2_9 hr).1 (akX2_9 hr).2 (inb_t c2) ?_
      refine V.ilq dX2_firstTowards_30 (pc' := 31) rfl (j := 2) rfl ?_
      refine V.ic_ne dX2_firstTowards_31 (pc' := 34) rfl (tgt := 38) (by decide) (fun c => ?_) (fun c => ?_)
      · rw [if_neg c] at e
        refine V.iconst dX2_firstTowards_38 (pc' := 39) rfl (v := 0) (by decide) ?_
        exact vX2_firstTowards_c39 k3 hk3 h r v1 v2 v3 v4 (0 : Int32) hr q e
      · rw [if_pos c] at e
        exact vX2_firstTowards_c34 k3 hk3 h r v1 v2 v3 v4 hr q e
def sX2_firstTowards_b3 : Nat → Hp → Nat → Int32 → Int32 → Int32 → Int32 → Option (Int32 × Hp)
  | 0 => fun _ _ _ _ _ _ => none
  | n + 1 => sX2_firstTowards_c3 (sX2_firstTowards_b3 n)
theorem vX2_firstTowards_b3 : ∀ (n : Nat) (h : Hp) (r : Nat) (v1 : Int32) (v2 : Int32) (v3 : Int32) (v4 : Int32) (hr : ck r = 2) (q : (Int32 × Hp)), sX2_firstTowards_b3 n h r v1 v2 v3 v4 = some q → V (Gs 1 (pI q)) mX2_firstTowards (0, 0) 3 [(0, .ref r), (1, .int v1), (2, .int v2), (3, .int v3), (4, .int v4)] [] h
  | 0 => fun _ _ _ _ _ _ _ _ e => by cases e
  | n + 1 => fun h r v1 v2 v3 v4 hr q e => vX2_firstTowards_c3 (sX2_firstTowards_b3 n) (vX2_firstTowards_b3 n) h r v1 v2 v3 v4 hr q e
def sX2_firstTowards (h : Hp) (r : Nat) (a1 : Int32) (a2 : Int32) (a3 : Int32) : Option (Int32 × Hp) :=
  gd (isC r 2) (sX2_firstTowards_b3 FU h r a1 a2 a3 (0 : Int32))
set_option maxRecDepth 10000 in
theorem kX2_firstTowards (h : Hp) (r : Nat) (a1 : Int32) (a2 : Int32) (a3 : Int32) (q : (Int32 × Hp)) (e : sX2_firstTowards h r a1 a2 a3 = some q) : K 1 mX2_firstTowards [.ref r, .int a1, .int a2, .int a3] h (pI q) := by
  unfold sX2_firstTowards at e
  obtain ⟨hr, e⟩ := gd_s e
  have hr := isC_t hr
  refine K.ofV (by decide) rfl (Nat.le_of_ble_eq_true rfl) ?_
  show V (Gs 1 (pI q)) mX2_firstTowards (0, 0) 0 [(0, .ref r), (1, .int a1), (2, .int a2), (3, .int a3)] [] h
  refine V.iconst dX2_firstTowards_0 (pc' := 1) rfl (v := 0) (by decide) ?_
  refine V.is dX2_firstTowards_1 (pc' := 3) rfl (by decide) rfl (L' := [(4, .int (0 : Int32)), (0, .ref r), (1, .int a1), (2, .int a2), (3, .int a3)]) rfl ?_
  refine V.pk [1, 2, 3, 4, 0] rfl ?_
  exact vX2_firstTowards_b3 FU h r a1 a2 a3 (0 : Int32) hr q e

-- X2_wantRoundRing (level 1)
theorem dX2_wantRoundRing_0 : decode cX2_wantRoundRing 0 = .ok (.aload_n 0, 1) := by decide +kernel
theorem dX2_wantRoundRing_1 : decode cX2_wantRoundRing 1 = .ok (.getfield 47, 3) := by decide +kernel
theorem dX2_wantRoundRing_4 : decode cX2_wantRoundRing 4 = .ok (.aload_n 0, 1) := by decide +kernel
theorem dX2_wantRoundRing_5 : decode cX2_wantRoundRing 5 = .ok (.getfield 56, 3) := by decide +kernel
theorem dX2_wantRoundRing_8 : decode cX2_wantRoundRing 8 = .ok (.iconst 0, 1) := by decide +kernel
theorem dX2_wantRoundRing_9 : decode cX2_wantRoundRing 9 = .ok (.iaload, 1) := by decide +kernel
theorem dX2_wantRoundRing_10 : decode cX2_wantRoundRing 10 = .ok (.iaload, 1) := by decide +kernel
theorem dX2_wantRoundRing_11 : decode cX2_wantRoundRing 11 = .ok (.istore_n 1, 1) := by decide +kernel
theorem dX2_wantRoundRing_12 : decode cX2_wantRoundRing 12 = .ok (.aload_n 0, 1) := by decide +kernel
theorem dX2_wantRoundRing_13 : decode cX2_wantRoundRing 13 = .ok (.invokevirtual 150, 3) := by decide +kernel
theorem dX2_wantRoundRing_16 : decode cX2_wantRoundRing 16 = .ok (.aload_n 0, 1) := by decide +kernel
theorem dX2_wantRoundRing_17 : decode cX2_wantRoundRing 17 = .ok (.getfield 50, 3) := by decide +kernel
theorem dX2_wantRoundRing_20 : decode cX2_wantRoundRing 20 = .ok (.aload_n 0, 1) := by decide +kernel
theorem dX2_wantRoundRing_21 : decode cX2_wantRoundRing 21 = .ok (.getfield 56, 3) := by decide +kernel
theorem dX2_wantRoundRing_24 : decode cX2_wantRoundRing 24 = .ok (.iconst 0, 1) := by decide +kernel
theorem dX2_wantRoundRing_25 : decode cX2_wantRoundRing 25 = .ok (.iaload, 1) := by decide +kernel
theorem dX2_wantRoundRing_26 : decode cX2_wantRoundRing 26 = .ok (.iconst 0, 1) := by decide +kernel
theorem dX2_wantRoundRing_27 : decode cX2_wantRoundRing 27 = .ok (.iastore, 1) := by decide +kernel
theorem dX2_wantRoundRing_28 : decode cX2_wantRoundRing 28 = .ok (.iconst 1, 1) := by decide +kernel
theorem dX2_wantRoundRing_29 : decode cX2_wantRoundRing 29 = .ok (.istore_n 2, 1) := by decide +kernel
theorem dX2_wantRoundRing_30 : decode cX2_wantRoundRing 30 = .ok (.iload_n 2, 1) := by decide +kernel
theorem dX2_wantRoundRing_31 : decode cX2_wantRoundRing 31 = .ok (.aload_n 0, 1) := by decide +kernel
theorem dX2_wantRoundRing_32 : decode cX2_wantRoundRing 32 = .ok (.getfield 59, 3) := by decide +kernel
theorem dX2_wantRoundRing_35 : decode cX2_wantRoundRing 35 = .ok (.if_icmp .ge 49, 3) := by decide +kernel
theorem dX2_wantRoundRing_38 : decode cX2_wantRoundRing 38 = .ok (.aload_n 0, 1) := by decide +kernel
theorem dX2_wantRoundRing_39 : decode cX2_wantRoundRing 39 = .ok (.getfield 56, 3) := by decide +kernel
theorem dX2_wantRoundRing_42 : decode cX2_wantRoundRing 42 = .ok (.iload_n 2, 1) := by decide +kernel
theorem dX2_wantRoundRing_43 : decode cX2_wantRoundRing 43 = .ok (.iaload, 1) := by decide +kernel
theorem dX2_wantRoundRing_44 : decode cX2_wantRoundRing 44 = .ok (.istore_n 3, 1) := by decide +kernel
theorem dX2_wantRoundRing_45 : decode cX2_wantRoundRing 45 = .ok (.aload_n 0, 1) := by decide +kernel
theorem dX2_wantRoundRing_46 : decode cX2_wantRoundRing 46 = .ok (.getfield 50, 3) := by decide +kernel
theorem dX2_wantRoundRing_49 : decode cX2_wantRoundRing 49 = .ok (.iload_n 3, 1) := by decide +kernel
theorem dX2_wantRoundRing_50 : decode cX2_wantRoundRing 50 = .ok (.dup2, 1) := by decide +kernel
theorem dX2_wantRoundRing_51 : decode cX2_wantRoundRing 51 = .ok (.iaload, 1) := by decide +kernel
theorem dX2_wantRoundRing_52 : decode cX2_wantRoundRing 52 = .ok (.iload_n 2, 1) := by decide +kernel
theorem dX2_wantRoundRing_53 : decode cX2_wantRoundRing 53 = .ok (.iconst 2, 1) := by decide +kernel
theorem dX2_wantRoundRing_54 : decode cX2_wantRoundRing 54 = .ok (.irem, 1) := by decide +kernel
theorem dX2_wantRoundRing_55 : decode cX2_wantRoundRing 55 = .ok (.iconst 1, 1) := by decide +kernel
theorem dX2_wantRoundRing_56 : decode cX2_wantRoundRing 56 = .ok (.if_icmp .ne 7, 3) := by decide +kernel
theorem dX2_wantRoundRing_59 : decode cX2_wantRoundRing 59 = .ok (.iload_n 1, 1) := by decide +kernel
theorem dX2_wantRoundRing_60 : decode cX2_wantRoundRing 60 = .ok (.goto 5, 3) := by decide +kernel
theorem dX2_wantRoundRing_63 : decode cX2_wantRoundRing 63 = .ok (.iload_n 1, 1) := by decide +kernel
theorem dX2_wantRoundRing_64 : decode cX2_wantRoundRing 64 = .ok (.ineg, 1) := by decide +kernel
theorem dX2_wantRoundRing_65 : decode cX2_wantRoundRing 65 = .ok (.iadd, 1) := by decide +kernel
theorem dX2_wantRoundRing_66 : decode cX2_wantRoundRing 66 = .ok (.iastore, 1) := by decide +kernel
theorem dX2_wantRoundRing_67 : decode cX2_wantRoundRing 67 = .ok (.aload_n 0, 1) := by decide +kernel
theorem dX2_wantRoundRing_68 : decode cX2_wantRoundRing 68 = .ok (.getfield 50, 3) := by decide +kernel
theorem dX2_wantRoundRing_71 : decode cX2_wantRoundRing 71 = .ok (.iload_n 3, 1) := by decide +kernel
theorem dX2_wantRoundRing_72 : decode cX2_wantRoundRing 72 = .ok (.iaload, 1) := by decide +kernel
theorem dX2_wantRoundRing_73 : decode cX2_wantRoundRing 73 = .ok (.ifCond .ge 5, 3) := by decide +kernel
theorem dX2_wantRoundRing_76 : decode cX2_wantRoundRing 76 = .ok (.iload_n 3, 1) := by decide +kernel
theorem dX2_wantRoundRing_77 : decode cX2_wantRoundRing 77 = .ok (.ireturn, 1) := by decide +kernel
theorem dX2_wantRoundRing_78 : decode cX2_wantRoundRing 78 = .ok (.iinc 2 1, 3) := by decide +kernel
theorem dX2_wantRoundRing_81 : decode cX2_wantRoundRing 81 = .ok (.goto (-51), 3) := by decide +kernel
theorem dX2_wantRoundRing_84 : decode cX2_wantRoundRing 84 = .ok (.iconst (-1), 1) := by decide +kernel
theorem dX2_wantRoundRing_85 : decode cX2_wantRoundRing 85 = .ok (.ireturn, 1) := by decide +kernel
def sX2_wantRoundRing_c65 (k30 : Hp → Nat → Int32 → Int32 → Option (Int32 × Hp)) (h : Hp) (r : Nat) (v1 : Int32) (v2 : Int32) (v3 : Int32) (t0 : Int32) (t1 : Int32) (t2 : Int32) : Option (Int32 × Hp) :=
  gd (inb t2 24) (nm (u1 h (r + 11) t2.toNatClampNeg (t1 + t0)) fun h10 => gd (inb v3 24) (if 0 ≤ (h10.1 (r + 11) v3.toNatClampNeg) then (nm (v2 + (1 : Int32)) fun x12 => k30 h10 r v1 x12) else (some (v3, h10))))
set_option maxRecDepth 10000 in
theorem vX2_wantRoundRing_c65 (k30 : Hp → Nat → Int32 → Int32 → Option (Int32 × Hp)) (hk30 : ∀ (h : Hp) (r : Nat) (v1 : Int32) (v2 : Int32) (hr : ck r = 2) (q : (Int32 × Hp)), k30 h r v1 v2 = some q → V (Gs 1 (pI q)) mX2_wantRoundRing (0, 0) 30 [(0, .ref r), (1, .int v1), (2, .int v2)] [] h) (h : Hp) (r : Nat) (v1 : Int32) (v2 : Int32) (v3 : Int32) (t0 : Int32) (t1 : Int32) (t2 : Int32) (hr : ck r = 2) (q : (Int32 × Hp)) (e : sX2_wantRoundRing_c65 k30 h r v1 v2 v3 t0 t1 t2 = some q) : V (Gs 1 (pI q)) mX2_wantRoundRing (0, 0) 65 [(0, .ref r), (1, .int v1), (2, .int v2), (3, .int v3)] [.int t0, .int t1, .int t2, .ref (r + 11)] h := by
  unfold sX2_wantRoundRing_c65 at e
  refine V.iadd dX2_wantRoundRing_65 (pc' := 66) rfl ?_
  obtain ⟨c9, e⟩ := gd_s e
  obtain ⟨h10, eh10, e⟩ := nm_s e
  refine V.iast dX2_wantRoundRing_66 (pc' := 67) rfl (akX2_11 hr).1 (akX2_11 hr).2 (inb_t c9) eh10 ?_
  refine V.alq dX2_wantRoundRing_67 (pc' := 68) rfl (j := 0) rfl ?_
  refine V.getr dX2_wantRoundRing_68 (pc' := 71) rfl FL_X2_50 hr (by decide) rfl (r' := r + 11) rfl ?_
  refine V.ilq dX2_wantRoundRing_71 (pc' := 72) rfl (j := 3) rfl ?_
  obtain ⟨c11, e⟩ := gd_s e
  refine V.iald dX2_wantRoundRing_72 (pc' := 73) rfl (akX2_11 hr).1 (akX2_11 hr).2 (inb_t c11) ?_
  refine V.if_ge dX2_wantRoundRing_73 (pc' := 76) rfl (tgt := 78) (by decide) (fun c => ?_) (fun c => ?_)
  · rw [if_pos c] at e
    obtain ⟨x12, ex12, e⟩ := nm_s e
    refine V.iinc dX2_wantRoundRing_78 (pc' := 81) rfl (j := 2) rfl (v := 1) (by decide) (by decide) ex12 (L' := [(2, .int x12), (0, .ref r), (1, .int v1), (3, .int v3)]) rfl ?_
    refine V.goto dX2_wantRoundRing_81 (pc' := 30) (by decide) ?_
    refine V.pk [1, 2, 0] rfl ?_
    exact hk30 h10 r v1 x12 hr q e
  · rw [if_neg c] at e
    refine V.ilq dX2_wantRoundRing_76 (pc' := 77) rfl (j := 3) rfl ?_
    exact V.iret dX2_wantRoundRing_77 rfl (fnI e)
def sX2_wantRoundRing_c30 (k30 : Hp → Nat → Int32 → Int32 → Option (Int32 × Hp)) (h : Hp) (r : Nat) (v1 : Int32) (v2 : Int32) : Option (Int32 × Hp) :=
  if (h.1 r 16) ≤ v2 then (some ((-1 : Int32), h)) else (gd (inb v2 10) (nm ((h.1 (r + 12) v2.toNatClampNeg)) fun x7 => gd (inb x7 24) (if (v2 - v2 / (2 : Int32) * (2 : Int32)) = (1 : Int32) then (sX2_wantRoundRing_c65 k30 h r v1 v2 x7 v1 (h.1 (r + 11) x7.toNatClampNeg) x7) else (sX2_wantRoundRing_c65 k30 h r v1 v2 x7 (-v1) (h.1 (r + 11) x7.toNatClampNeg) x7))))
set_option maxRecDepth 10000 in
theorem vX2_wantRoundRing_c30 (k30 : Hp → Nat → Int32 → Int32 → Option (Int32 × Hp)) (hk30 : ∀ (h : Hp) (r : Nat) (v1 : Int32) (v2 : Int32) (hr : ck r = 2) (q : (Int32 × Hp)), k30 h r v1 v2 = some q → V (Gs 1 (pI q)) mX2_wantRoundRing (0, 0) 30 [(0, .ref r), (1, .int v1), (2, .int v2)] [] h) (h : Hp) (r : Nat) (v1 : Int32) (v2 : Int32) (hr : ck r = 2) (q : (Int32 × Hp)) (e : sX2_wantRoundRing_c30 k30 h r v1 v2 = some q) : V (Gs 1 (pI q)) mX2_wantRoundRing (0, 0) 30 [(0, .ref r), (1, .int v1), (2, .int v2)] [] h := by
  unfold sX2_wantRoundRing_c30 at e
  refine V.ilq dX2_wantRoundRing_30 (pc' := 31) rfl (j := 2) rfl ?_
  refine V.alq dX2_wantRoundRing_31 (pc' := 32) rfl (j := 0) rfl ?_
  refine V.getf dX2_wantRoundRing_32 (pc' := 35) rfl FL_X2_59 hr (by decide) rfl ?_
  refine V.ic_ge dX2_wantRoundRing_35 (pc' := 38) rfl (tgt := 84) (by decide) (fun c => ?_) (fun c => ?_)
  · rw [if_pos c] at e
    refine V.iconst dX2_wantRoundRing_84 (pc' := 85) rfl (v := -1) (by decide) ?_
    exact V.iret dX2_wantRoundRing_85 rfl (fnI e)
  · rw [if_neg c] at e
    refine V.alq dX2_wantRoundRing_38 (pc' := 39) rfl (j := 0) rfl ?_
    refine V.getr dX2_wantRoundRing_39 (pc' := 42) rfl FL_X2_56 hr (by decide) rfl (r' := r + 12) rfl ?_
    refine V.ilq dX2_wantRoundRing_42 (pc' := 43) rfl (j := 2) rfl ?_
    obtain ⟨c6, e⟩ := gd_s e
    refine V.iald dX2_wantRoundRing_43 (pc' := 44) rfl (akX2_12 hr).1 (akX2_12 hr).2 (inb_t c6) ?_
    obtain ⟨x7, ex7, e⟩ := nm_s e
    refine V.isq dX2_wantRoundRing_44 (pc' := 45) rfl (by decide) ex7 (L' := [(3, .int x7), (0, .ref r), (1, .int v1), (2, .int v2)]) rfl ?_
    refine V.alq dX2_wantRoundRing_45 (pc' := 46) rfl (j := 1) rfl ?_
    refine V.getr dX2_wantRoundRing_46 (pc' := 49) rfl FL_X2_50 hr (by decide) rfl (r' := r + 11) rfl ?_
    refine V.ilq dX2_wantRoundRing_49 (pc' := 50) rfl (j := 0) rfl ?_
    refine V.dup2 dX2_wantRoundRing_50 (pc' := 51) rfl rfl rfl ?_
    obtain ⟨c8, e⟩ := gd_s e
    refine V.iald dX2_wantRoundRing_51 (pc' := 52) rfl (akX2_11 hr).1 (akX2_11 hr).2 (inb_t c8) ?_
    refine V.ilq dX2_wantRoundRing_52 (pc' := 53) rfl (j := 3) rfl ?_
    refine V.iconst dX2_wantRoundRing_53 (pc' := 54) rfl (v := 2) (by decide) ?_
    refine V.irem dX2_wantRoundRing_54 (pc' := 55) rfl (by decide) ?_
    refine V.iconst dX2_wantRoundRing_55 (pc' := 56) rfl (v := 1) (by decide) ?_
    refine V.ic_ne dX2_wantRoundRing_56 (pc' := 59) rfl (tgt := 63) (by decide) (fun c => ?_) (fun c => ?_)
    · rw [if_neg c] at e
      refine V.ilq dX2_wantRoundRing_63 (pc' := 64) rfl (j := 2) rfl ?_
      refine V.ineg dX2_wantRoundRing_64 (pc' := 65) rfl ?_
      refine V.pk [1, 2, 3, 0] rfl ?_
      exact vX2_wantRoundRing_c65 k30 hk30 h r v1 v2 x7 (-v1) (h.1 (r + 11) x7.toNatClampNeg) x7 hr q e
    · rw [if_pos c] at e
      refine V.ilq dX2_wantRoundRing_59 (pc' := 60) rfl (j := 2) rfl ?_
      refine V.goto dX2_wantRoundRing_60 (pc' := 65) (by decide) ?_
      refine V.pk [1, 2, 3, 0] rfl ?_
      exact vX2_wantRoundRing_c65 k30 hk30 h r v1 v2 x7 v1 (h.1 (r + 11) x7.toNatClampNeg) x7 hr q e
def sX2_wantRoundRing_b30 : Nat → Hp → Nat → Int32 → Int32 → Option (Int32 × Hp)
  | 0 => fun _ _ _ _ => none
  | n + 1 => sX2_wantRoundRing_c30 (sX2_wantRoundRing_b30 n)
theorem vX2_wantRoundRing_b30 : ∀ (n : Nat) (h : Hp) (r : Nat) (v1 : Int32) (v2 : Int32) (hr : ck r = 2) (q : (Int32 × Hp)), sX2_wantRoundRing_b30 n h r v1 v2 = some q → V (Gs 1 (pI q)) mX2_wantRoundRing (0, 0) 30 [(0, .ref r), (1, .int v1), (2, .int v2)] [] h
  | 0 => fun _ _ _ _ _ _ e => by cases e
  | n + 1 => fun h r v1 v2 hr q e => vX2_wantRoundRing_c30 (sX2_wantRoundRing_b30 n) (vX2_wantRoundRing_b30 n) h r v1 v2 hr q e
def sX2_wantRoundRing (h : Hp) (r : Nat) : Option (Int32 × Hp) :=
  gd (isC r 2) (gd (inb (h.1 (r + 12) (0 : Int32).toNatClampNeg) 24) (nm ((h.1 (r + 10) (h.1 (r + 12) (0 : Int32).toNatClampNeg).toNatClampNeg)) fun x2 => (sX2_wantAsIs h r).bind fun q3 => gd (inb (q3.1 (r + 12) (0 : Int32).toNatClampNeg) 24) (nm (u1 q3 (r + 11) (q3.1 (r + 12) (0 : Int32).toNatClampNeg).toNatClampNeg (0 : Int32)) fun h5 => sX2_wantRoundRing_b30 FU h5 r x2 (1 : Int32))))
set_option maxRecDepth 10000 in
theorem kX2_wantRoundRing (h : Hp) (r : Nat) (q : (Int32 × Hp)) (e : sX2_wantRoundRing h r = some q) : K 1 mX2_wantRoundRing [.ref r] h (pI q) := by
  unfold sX2_wantRoundRing at e
  obtain ⟨hr, e⟩ := gd_s e
  have hr := isC_t hr
  refine K.ofV (by decide) rfl (Nat.le_of_ble_eq_true rfl) ?_
  show V (Gs 1 (pI q)) mX2_wantRoundRing (0, 0) 0 [(0, .ref r)] [] h
  refine V.alq dX2_wantRoundRing_0 (pc' := 1) rfl (j := 0) rfl ?_
  refine V.getr dX2_wantRoundRing_1 (pc' := 4) rfl FL_X2_47 hr (by decide) rfl (r' := r + 10) rfl ?_
  refine V.alq dX2_wantRoundRing_4 (pc' := 5) rfl (j := 0) rfl ?_
  refine V.getr dX2_wantRoundRing_5 (pc' := 8) rfl FL_X2_56 hr (by decide) rfl (r' := r + 12) rfl ?_
  refine V.iconst dX2_wantRoundRing_8 (pc' := 9) rfl (v := 0) (by decide) ?_
  refine V.iald dX2_wantRoundRing_9 (pc' := 10) rfl (akX2_12 hr).1 (akX2_12 hr).2 (inb_t (by decide)) ?_
  obtain ⟨c1, e⟩ := gd_s e
  refine V.iald dX2_wantRoundRing_10 (pc' := 11) rfl (akX2_10 hr).1 (akX2_10 hr).2 (inb_t c1) ?_
  obtain ⟨x2, ex2, e⟩ := nm_s e
  refine V.isq dX2_wantRoundRing_11 (pc' := 12) rfl (by decide) ex2 (L' := [(1, .int x2), (0, .ref r)]) rfl ?_
  refine V.alq dX2_wantRoundRing_12 (pc' := 13) rfl (j := 1) rfl ?_
  obtain ⟨q3, eq3, e⟩ := bd_s e
  refine V.callVv dX2_wantRoundRing_13 (pc' := 16) rfl CV_X2_150 (as := []) (kX2_wantAsIs h r q3 eq3) (Gs_rm (by decide)) hr (by decide) rfl (Nat.le_of_ble_eq_true rfl) rfl ?_
  refine V.alq dX2_wantRoundRing_16 (pc' := 17) rfl (j := 1) rfl ?_
  refine V.getr dX2_wantRoundRing_17 (pc' := 20) rfl FL_X2_50 hr (by decide) rfl (r' := r + 11) rfl ?_
  refine V.alq dX2_wantRoundRing_20 (pc' := 21) rfl (j := 1) rfl ?_
  refine V.getr dX2_wantRoundRing_21 (pc' := 24) rfl FL_X2_56 hr (by decide) rfl (r' := r + 12) rfl ?_
  refine V.iconst dX2_wantRoundRing_24 (pc' := 25) rfl (v := 0) (by decide) ?_
  refine V.iald dX2_wantRoundRing_25 (pc' := 26) rfl (akX2_12 hr).1 (akX2_12 hr).2 (inb_t (by decide)) ?_
  refine V.iconst dX2_wantRoundRing_26 (pc' := 27) rfl (v := 0) (by decide) ?_
  obtain ⟨c4, e⟩ := gd_s e
  obtain ⟨h5, eh5, e⟩ := nm_s e
  refine V.iast dX2_wantRoundRing_27 (pc' := 28) rfl (akX2_11 hr).1 (akX2_11 hr).2 (inb_t c4) eh5 ?_
  refine V.iconst dX2_wantRoundRing_28 (pc' := 29) rfl (v := 1) (by decide) ?_
  refine V.isq dX2_wantRoundRing_29 (pc' := 30) rfl (by decide) rfl (L' := [(2, .int (1 : Int32)), (1, .int x2), (0, .ref r)]) rfl ?_
  refine V.pk [2, 1, 0] rfl ?_
  exact vX2_wantRoundRing_b30 FU h5 r x2 (1 : Int32) hr q e

-- X3_readNumber (level 1)
theorem dX3_readNumber_0 : decode cX3_readNumber 0 = .ok (.aload_n 0, 1) := by decide +kernel
theorem dX3_readNumber_1 : decode cX3_readNumber 1 = .ok (.getfield 19, 3) := by decide +kernel
theorem dX3_readNumber_4 : decode cX3_readNumber 4 = .ok (.istore 4, 2) := by decide +kernel
theorem dX3_readNumber_6 : decode cX3_readNumber 6 = .ok (.aload_n 0, 1) := by decide +kernel
theorem dX3_readNumber_7 : decode cX3_readNumber 7 = .ok (.iconst 0, 1) := by decide +kernel
theorem dX3_readNumber_8 : decode cX3_readNumber 8 = .ok (.putfield 22, 3) := by decide +kernel
theorem dX3_readNumber_11 : decode cX3_readNumber 11 = .ok (.aload_n 0, 1) := by decide +kernel
theorem dX3_readNumber_12 : decode cX3_readNumber 12 = .ok (.getfield 19, 3) := by decide +kernel
theorem dX3_readNumber_15 : decode cX3_readNumber 15 = .ok (.iload 4, 2) := by decide +kernel
theorem dX3_readNumber_17 : decode cX3_readNumber 17 = .ok (.isub, 1) := by decide +kernel
theorem dX3_readNumber_18 : decode cX3_readNumber 18 = .ok (.iload_n 1, 1) := by decide +kernel
theorem dX3_readNumber_19 : decode cX3_readNumber 19 = .ok (.if_icmp .ge 47, 3) := by decide +kernel
theorem dX3_readNumber_22 : decode cX3_readNumber 22 = .ok (.aload_n 0, 1) := by decide +kernel
theorem dX3_readNumber_23 : decode cX3_readNumber 23 = .ok (.invokevirtual 53, 3) := by decide +kernel
theorem dX3_readNumber_26 : decode cX3_readNumber 26 = .ok (.ifCond .eq 40, 3) := by decide +kernel
theorem dX3_readNumber_29 : decode cX3_readNumber 29 = .ok (.aload_n 0, 1) := by decide +kernel
theorem dX3_readNumber_30 : decode cX3_readNumber 30 = .ok (.bipush 10, 2) := by decide +kernel
theorem dX3_readNumber_32 : decode cX3_readNumber 32 = .ok (.aload_n 0, 1) := by decide +kernel
theorem dX3_readNumber_33 : decode cX3_readNumber 33 = .ok (.getfield 22, 3) := by decide +kernel
theorem dX3_readNumber_36 : decode cX3_readNumber 36 = .ok (.imul, 1) := by decide +kernel
theorem dX3_readNumber_37 : decode cX3_readNumber 37 = .ok (.aload_n 0, 1) := by decide +kernel
theorem dX3_readNumber_38 : decode cX3_readNumber 38 = .ok (.getfield 9, 3) := by decide +kernel
theorem dX3_readNumber_41 : decode cX3_readNumber 41 = .ok (.aload_n 0, 1) := by decide +kernel
theorem dX3_readNumber_42 : decode cX3_readNumber 42 = .ok (.getfield 19, 3) := by decide +kernel
theorem dX3_readNumber_45 : decode cX3_readNumber 45 = .ok (.iaload, 1) := by decide +kernel
theorem dX3_readNumber_46 : decode cX3_readNumber 46 = .ok (.iadd, 1) := by decide +kernel
theorem dX3_readNumber_47 : decode cX3_readNumber 47 = .ok (.bipush 48, 2) := by decide +kernel
theorem dX3_readNumber_49 : decode cX3_readNumber 49 = .ok (.isub, 1) := by decide +kernel
theorem dX3_readNumber_50 : decode cX3_readNumber 50 = .ok (.putfield 22, 3) := by decide +kernel
theorem dX3_readNumber_53 : decode cX3_readNumber 53 = .ok (.aload_n 0, 1) := by decide +kernel
theorem dX3_readNumber_54 : decode cX3_readNumber 54 = .ok (.dup, 1) := by decide +kernel
theorem dX3_readNumber_55 : decode cX3_readNumber 55 = .ok (.getfield 19, 3) := by decide +kernel
theorem dX3_readNumber_58 : decode cX3_readNumber 58 = .ok (.iconst 1, 1) := by decide +kernel
theorem dX3_readNumber_59 : decode cX3_readNumber 59 = .ok (.iadd, 1) := by decide +kernel
theorem dX3_readNumber_60 : decode cX3_readNumber 60 = .ok (.putfield 19, 3) := by decide +kernel
theorem dX3_readNumber_63 : decode cX3_readNumber 63 = .ok (.goto (-52), 3) := by decide +kernel
theorem dX3_readNumber_66 : decode cX3_readNumber 66 = .ok (.aload_n 0, 1) := by decide +kernel
theorem dX3_readNumber_67 : decode cX3_readNumber 67 = .ok (.getfield 19, 3) := by decide +kernel
theorem dX3_readNumber_70 : decode cX3_readNumber 70 = .ok (.iload 4, 2) := by decide +kernel
theorem dX3_readNumber_72 : decode cX3_readNumber 72 = .ok (.if_icmp .eq 21, 3) := by decide +kernel
theorem dX3_readNumber_75 : decode cX3_readNumber 75 = .ok (.aload_n 0, 1) := by decide +kernel
theorem dX3_readNumber_76 : decode cX3_readNumber 76 = .ok (.getfield 19, 3) := by decide +kernel
theorem dX3_readNumber_79 : decode cX3_readNumber 79 = .ok (.iload 4, 2) := by decide +kernel
theorem dX3_readNumber_81 : decode cX3_readNumber 81 = .ok (.isub, 1) := by decide +kernel
theorem dX3_readNumber_82 : decode cX3_readNumber 82 = .ok (.iload_n 1, 1) := by decide +kernel
theorem dX3_readNumber_83 : decode cX3_readNumber 83 = .ok (.if_icmp .ne 19, 3) := by decide +kernel
theorem dX3_readNumber_86 : decode cX3_readNumber 86 = .ok (.aload_n 0, 1) := by decide +kernel
theorem dX3_readNumber_87 : decode cX3_readNumber 87 = .ok (.invokevirtual 53, 3) := by decide +kernel
theorem dX3_readNumber_90 : decode cX3_readNumber 90 = .ok (.ifCond .eq 12, 3) := by decide +kernel
theorem dX3_readNumber_93 : decode cX3_readNumber 93 = .ok (.aload_n 0, 1) := by decide +kernel
theorem dX3_readNumber_94 : decode cX3_readNumber 94 = .ok (.aload_n 0, 1) := by decide +kernel
theorem dX3_readNumber_95 : decode cX3_readNumber 95 = .ok (.getfield 19, 3) := by decide +kernel
theorem dX3_readNumber_98 : decode cX3_readNumber 98 = .ok (.invokevirtual 41, 3) := by decide +kernel
theorem dX3_readNumber_101 : decode cX3_readNumber 101 = .ok (.ireturn, 1) := by decide +kernel
theorem dX3_readNumber_102 : decode cX3_readNumber 102 = .ok (.aload_n 0, 1) := by decide +kernel
theorem dX3_readNumber_103 : decode cX3_readNumber 103 = .ok (.getfield 22, 3) := by decide +kernel
theorem dX3_readNumber_106 : decode cX3_readNumber 106 = .ok (.iload_n 2, 1) := by decide +kernel
theorem dX3_readNumber_107 : decode cX3_readNumber 107 = .ok (.if_icmp .lt 11, 3) := by decide +kernel
theorem dX3_readNumber_110 : decode cX3_readNumber 110 = .ok (.aload_n 0, 1) := by decide +kernel
theorem dX3_readNumber_111 : decode cX3_readNumber 111 = .ok (.getfield 22, 3) := by decide +kernel
theorem dX3_readNumber_114 : decode cX3_readNumber 114 = .ok (.iload_n 3, 1) := by decide +kernel
theorem dX3_readNumber_115 : decode cX3_readNumber 115 = .ok (.if_icmp .le 16, 3) := by decide +kernel
theorem dX3_readNumber_118 : decode cX3_readNumber 118 = .ok (.aload_n 0, 1) := by decide +kernel
theorem dX3_readNumber_119 : decode cX3_readNumber 119 = .ok (.aload_n 0, 1) := by decide +kernel
theorem dX3_readNumber_120 : decode cX3_readNumber 120 = .ok (.getfield 19, 3) := by decide +kernel
theorem dX3_readNumber_123 : decode cX3_readNumber 123 = .ok (.iconst 1, 1) := by decide +kernel
theorem dX3_readNumber_124 : decode cX3_readNumber 124 = .ok (.isub, 1) := by decide +kernel
theorem dX3_readNumber_125 : decode cX3_readNumber 125 = .ok (.invokevirtual 41, 3) := by decide +kernel
theorem dX3_readNumber_128 : decode cX3_readNumber 128 = .ok (.ifCond .eq 7, 3) := by decide +kernel
theorem dX3_readNumber_131 : decode cX3_readNumber 131 = .ok (.iconst 1, 1) := by decide +kernel
theorem dX3_readNumber_132 : decode cX3_readNumber 132 = .ok (.goto 4, 3) := by decide +kernel
theorem dX3_readNumber_135 : decode cX3_readNumber 135 = .ok (.iconst 0, 1) := by decide +kernel
theorem dX3_readNumber_136 : decode cX3_readNumber 136 = .ok (.ireturn, 1) := by decide +kernel
def sX3_readNumber_c93 (h : Hp) : Option (Int32 × Hp) :=
  (sX3_failAt h (h.1 2 2)).bind fun q10 => gd (zb q10.1) (some (q10.1, q10.2))
set_option maxRecDepth 10000 in
theorem vX3_readNumber_c93 (h : Hp) (q : (Int32 × Hp)) (e : sX3_readNumber_c93 h = some q) : V (Gs 1 (pI q)) mX3_readNumber (0, 0) 93 [(0, .ref 2)] [] h := by
  unfold sX3_readNumber_c93 at e
  refine V.alq dX3_readNumber_93 (pc' := 94) rfl (j := 0) rfl ?_
  refine V.alq dX3_readNumber_94 (pc' := 95) rfl (j := 0) rfl ?_
  refine V.getf dX3_readNumber_95 (pc' := 98) rfl FL_X3_19 rfl (by decide) rfl ?_
  obtain ⟨q10, eq10, e⟩ := bd_s e
  refine V.callVi dX3_readNumber_98 (pc' := 101) rfl CV_X3_41 (as := [.int (h.1 2 2)]) (kX3_failAt h (h.1 2 2) q10 eq10) (Gs_rm (by decide)) rfl (by decide) rfl (Nat.le_of_ble_eq_true rfl) rfl ?_
  obtain ⟨c11, e⟩ := gd_s e
  exact V.zret dX3_readNumber_101 rfl (zb_t c11) (fnI e)
def sX3_readNumber_c136 (h : Hp) (t0 : Int32) : Option (Int32 × Hp) :=
  gd (zb t0) (some (t0, h))
set_option maxRecDepth 10000 in
theorem vX3_readNumber_c136 (h : Hp) (t0 : Int32) (q : (Int32 × Hp)) (e : sX3_readNumber_c136 h t0 = some q) : V (Gs 1 (pI q)) mX3_readNumber (0, 0) 136 [] [.int t0] h := by
  unfold sX3_readNumber_c136 at e
  obtain ⟨c8, e⟩ := gd_s e
  exact V.zret dX3_readNumber_136 rfl (zb_t c8) (fnI e)
def sX3_readNumber_c131 (h : Hp) : Option (Int32 × Hp) :=
  sX3_readNumber_c136 h (1 : Int32)
set_option maxRecDepth 10000 in
theorem vX3_readNumber_c131 (h : Hp) (q : (Int32 × Hp)) (e : sX3_readNumber_c131 h = some q) : V (Gs 1 (pI q)) mX3_readNumber (0, 0) 131 [] [] h := by
  unfold sX3_readNumber_c131 at e
  refine V.iconst dX3_readNumber_131 (pc' := 132) rfl (v := 1) (by decide) ?_
  refine V.goto dX3_readNumber_132 (pc' := 136) (by decide) ?_
  exact vX3_readNumber_c136 h (1 : Int32) q e
def sX3_readNumber_c118 (h : Hp) : Option (Int32 × Hp) :=
  (sX3_failAt h ((h.1 2 2) - (1 : Int32))).bind fun q9 => if q9.1 = 0 then (sX3_readNumber_c136 q9.2 (0 : Int32)) else (sX3_readNumber_c131 q9.2)
set_option maxRecDepth 10000 in
theorem vX3_readNumber_c118 (h : Hp) (q : (Int32 × Hp)) (e : sX3_readNumber_c118 h = some q) : V (Gs 1 (pI q)) mX3_readNumber (0, 0) 118 [(0, .ref 2)] [] h := by
  unfold sX3_readNumber_c118 at e
  refine V.alq dX3_readNumber_118 (pc' := 119) rfl (j := 0) rfl ?_
  refine V.alq dX3_readNumber_119 (pc' := 120) rfl (j := 0) rfl ?_
  refine V.getf dX3_readNumber_120 (pc' := 123) rfl FL_X3_19 rfl (by decide) rfl ?_
  refine V.iconst dX3_readNumber_123 (pc' := 124) rfl (v := 1) (by decide) ?_
  refine V.isub dX3_readNumber_124 (pc' := 125) rfl ?_
  obtain ⟨q9, eq9, e⟩ := bd_s e
  refine V.callVi dX3_readNumber_125 (pc' := 128) rfl CV_X3_41 (as := [.int ((h.1 2 2) - (1 : Int32))]) (kX3_failAt h ((h.1 2 2) - (1 : Int32)) q9 eq9) (Gs_rm (by decide)) rfl (by decide) rfl (Nat.le_of_ble_eq_true rfl) rfl ?_
  refine V.if_eq dX3_readNumber_128 (pc' := 131) rfl (tgt := 135) (by decide) (fun c => ?_) (fun c => ?_)
  · rw [if_pos c] at e
    refine V.iconst dX3_readNumber_135 (pc' := 136) rfl (v := 0) (by decide) ?_
    refine V.pk [] rfl ?_
    exact vX3_readNumber_c136 q9.2 (0 : Int32) q e
  · rw [if_neg c] at e
    refine V.pk [] rfl ?_
    exact vX3_readNumber_c131 q9.2 q e
def sX3_readNumber_c102 (h : Hp) (v2 : Int32) (v3 : Int32) : Option (Int32 × Hp) :=
  if (h.1 2 3) < v2 then (sX3_readNumber_c118 h) else (if (h.1 2 3) ≤ v3 then (sX3_readNumber_c131 h) else (sX3_readNumber_c118 h))
set_option maxRecDepth 10000 in
theorem vX3_readNumber_c102 (h : Hp) (v2 : Int32) (v3 : Int32) (q : (Int32 × Hp)) (e : sX3_readNumber_c102 h v2 v3 = some q) : V (Gs 1 (pI q)) mX3_readNumber (0, 0) 102 [(0, .ref 2), (2, .int v2), (3, .int v3)] [] h := by
  unfold sX3_readNumber_c102 at e
  refine V.alq dX3_readNumber_102 (pc' := 103) rfl (j := 0) rfl ?_
  refine V.getf dX3_readNumber_103 (pc' := 106) rfl FL_X3_22 rfl (by decide) rfl ?_
  refine V.ilq dX3_readNumber_106 (pc' := 107) rfl (j := 1) rfl ?_
  refine V.ic_lt dX3_readNumber_107 (pc' := 110) rfl (tgt := 118) (by decide) (fun c => ?_) (fun c => ?_)
  · rw [if_pos c] at e
    refine V.pk [0] rfl ?_
    exact vX3_readNumber_c118 h q e
  · rw [if_neg c] at e
    refine V.alq dX3_readNumber_110 (pc' := 111) rfl (j := 0) rfl ?_
    refine V.getf dX3_readNumber_111 (pc' := 114) rfl FL_X3_22 rfl (by decide) rfl ?_
    refine V.ilq dX3_readNumber_114 (pc' := 115) rfl (j := 2) rfl ?_
    refine V.ic_le dX3_readNumber_115 (pc' := 118) rfl (tgt := 131) (by decide) (fun c => ?_) (fun c => ?_)
    · rw [if_pos c] at e
      refine V.pk [] rfl ?_
      exact vX3_readNumber_c131 h q e
    · rw [if_neg c] at e
      refine V.pk [0] rfl ?_
      exact vX3_readNumber_c118 h q e
def sX3_readNumber_c66 (h : Hp) (v1 : Int32) (v2 : Int32) (v3 : Int32) (v4 : Int32) : Option (Int32 × Hp) :=
  if (h.1 2 2) = v4 then (sX3_readNumber_c93 h) else (if ((h.1 2 2) - v4) = v1 then ((sX3_isDigitHere h).bind fun q7 => if q7.1 = 0 then (sX3_readNumber_c102 q7.2 v2 v3) else (sX3_readNumber_c93 q7.2)) else (sX3_readNumber_c102 h v2 v3))
set_option maxRecDepth 10000 in
theorem vX3_readNumber_c66 (h : Hp) (v1 : Int32) (v2 : Int32) (v3 : Int32) (v4 : Int32) (q : (Int32 × Hp)) (e : sX3_readNumber_c66 h v1 v2 v3 v4 = some q) : V (Gs 1 (pI q)) mX3_readNumber (0, 0) 66 [(0, .ref 2), (1, .int v1), (2, .int v2), (3, .int v3), (4, .int v4)] [] h := by
  unfold sX3_readNumber_c66 at e
  refine V.alq dX3_readNumber_66 (pc' := 67) rfl (j := 0) rfl ?_
  refine V.getf dX3_readNumber_67 (pc' := 70) rfl FL_X3_19 rfl (by decide) rfl ?_
  refine V.il dX3_readNumber_70 (pc' := 72) rfl (j := 4) rfl ?_
  refine V.ic_eq dX3_readNumber_72 (pc' := 75) rfl (tgt := 93) (by decide) (fun c => ?_) (fun c => ?_)
  · rw [if_pos c] at e
    refine V.pk [0] rfl ?_
    exact vX3_readNumber_c93 h q e
  · rw [if_neg c] at e
    refine V.alq dX3_readNumber_75 (pc' := 76) rfl (j := 0) rfl ?_
    refine V.getf dX3_readNumber_76 (pc' := 79) rfl FL_X3_19 rfl (by decide) rfl ?_
    refine V.il dX3_readNumber_79 (pc' := 81) rfl (j := 4) rfl ?_
    refine V.isub dX3_readNumber_81 (pc' := 82) rfl ?_
    refine V.ilq dX3_readNumber_82 (pc' := 83) rfl (j := 1) rfl ?_
    refine V.ic_ne dX3_readNumber_83 (pc' := 86) rfl (tgt := 102) (by decide) (fun c => ?_) (fun c => ?_)
    · rw [if_neg c] at e
      refine V.pk [0, 2, 3] rfl ?_
      exact vX3_readNumber_c102 h v2 v3 q e
    · rw [if_pos c] at e
      refine V.alq dX3_readNumber_86 (pc' := 87) rfl (j := 0) rfl ?_
      obtain ⟨q7, eq7, e⟩ := bd_s e
      refine V.callVi dX3_readNumber_87 (pc' := 90) rfl CV_X3_53 (as := []) (kX3_isDigitHere h q7 eq7) (Gs_rm (by decide)) rfl (by decide) rfl (Nat.le_of_ble_eq_true rfl) rfl ?_
      refine V.if_eq dX3_readNumber_90 (pc' := 93) rfl (tgt := 102) (by decide) (fun c => ?_) (fun c => ?_)
      · rw [if_pos c] at e
        refine V.pk [0, 2, 3] rfl ?_
        exact vX3_readNumber_c102 q7.2 v2 v3 q e
      · rw [if_neg c] at e
        refine V.pk [0] rfl ?_
        exact vX3_readNumber_c93 q7.2 q e
def sX3_readNumber_c11 (k11 : Hp → Int32 → Int32 → Int32 → Int32 → Option (Int32 × Hp)) (h : Hp) (v1 : Int32) (v2 : Int32) (v3 : Int32) (v4 : Int32) : Option (Int32 × Hp) :=
  if v1 ≤ ((h.1 2 2) - v4) then (sX3_readNumber_c66 h v1 v2 v3 v4) else ((sX3_isDigitHere h).bind fun q3 => if q3.1 = 0 then (sX3_readNumber_c66 q3.2 v1 v2 v3 v4) else (gd (inb (q3.2.1 2 2) 120) (nm (u1 q3.2 2 3 ((((10 : Int32) * (q3.2.1 2 3)) + (q3.2.1 3 (q3.2.1 2 2).toNatClampNeg)) - (48 : Int32))) fun h5 => nm (u1 h5 2 2 ((h5.1 2 2) + (1 : Int32))) fun h6 => k11 h6 v1 v2 v3 v4)))
set_option maxRecDepth 10000 in
theorem vX3_readNumber_c11 (k11 : Hp → Int32 → Int32 → Int32 → Int32 → Option (Int32 × Hp)) (hk11 : ∀ (h : Hp) (v1 : Int32) (v2 : Int32) (v3 : Int32) (v4 : Int32) (q : (Int32 × Hp)), k11 h v1 v2 v3 v4 = some q → V (Gs 1 (pI q)) mX3_readNumber (0, 0) 11 [(0, .ref 2), (1, .int v1), (2, .int v2), (3, .int v3), (4, .int v4)] [] h) (h : Hp) (v1 : Int32) (v2 : Int32) (v3 : Int32) (v4 : Int32) (q : (Int32 × Hp)) (e : sX3_readNumber_c11 k11 h v1 v2 v3 v4 = some q) : V (Gs 1 (pI q)) mX3_readNumber (0, 0) 11 [(0, .ref 2), (1, .int v1), (2, .int v2), (3, .int v3), (4, .int v4)] [] h := by
  unfold sX3_readNumber_c11 at e
  refine V.alq dX3_readNumber_11 (pc' := 12) rfl (j := 0) rfl ?_
  refine V.getf dX3_readNumber_12 (pc' := 15) rfl FL_X3_19 rfl (by decide) rfl ?_
  refine V.il dX3_readNumber_15 (pc' := 17) rfl (j := 4) rfl ?_
  refine V.isub dX3_readNumber_17 (pc' := 18) rfl ?_
  refine V.ilq dX3_readNumber_18 (pc' := 19) rfl (j := 1) rfl ?_
  refine V.ic_ge dX3_readNumber_19 (pc' := 22) rfl (tgt := 66) (by decide) (fun c => ?_) (fun c => ?_)
  · rw [if_pos c] at e
    exact vX3_readNumber_c66 h v1 v2 v3 v4 q e
  · rw [if_neg c] at e
    refine V.alq dX3_readNumber_22 (pc' := 23) rfl (j := 0) rfl ?_
    obtain ⟨q3, eq3, e⟩ := bd_s e
    refine V.callVi dX3_readNumber_23 (pc' := 26) rfl CV_X3_53 (as := []) (kX3_isDigitHere h q3 eq3) (Gs_rm (by decide)) rfl (by decide) rfl (Nat.le_of_ble_eq_true rfl) rfl ?_
    refine V.if_eq dX3_readNumber_26 (pc' := 29) rfl (tgt := 66) (by decide) (fun c => ?_) (fun c => ?_)
    · rw [if_pos c] at e
      exact vX3_readNumber_c66 q3.2 v1 v2 v3 v4 q e
    · rw [if_neg c] at e
      refine V.alq dX3_readNumber_29 (pc' := 30) rfl (j := 0) rfl ?_
      refine V.bipush dX3_readNumber_30 (pc' := 32) rfl (v := 10) (by decide) ?_
      refine V.alq dX3_readNumber_32 (pc' := 33) rfl (j := 0) rfl ?_
      refine V.getf dX3_readNumber_33 (pc' := 36) rfl FL_X3_22 rfl (by decide) rfl ?_
      refine V.imul dX3_readNumber_36 (pc' := 37) rfl ?_
      refine V.alq dX3_readNumber_37 (pc' := 38) rfl (j := 0) rfl ?_
      refine V.getr dX3_readNumber_38 (pc' := 41) rfl FL_X3_9 rfl (by decide) rfl (r' := 3) rfl ?_
      refine V.alq dX3_readNumber_41 (pc' := 42) rfl (j := 0) rfl ?_
      refine V.getf dX3_readNumber_42 (pc' := 45) rfl FL_X3_19 rfl (by decide) rfl ?_
      obtain ⟨c4, e⟩ := gd_s e
      refine V.iald dX3_readNumber_45 (pc' := 46) rfl rfl rfl (inb_t c4) ?_
      refine V.iadd dX3_readNumber_46 (pc' := 47) rfl ?_
      refine V.bipush dX3_readNumber_47 (pc' := 49) rfl (v := 48) (by decide) ?_
      refine V.isub dX3_readNumber_49 (pc' := 50) rfl ?_
      obtain ⟨h5, eh5, e⟩ := nm_s e
      refine V.putf dX3_readNumber_50 (pc' := 53) rfl FP_X3_22 rfl (by decide) rfl eh5 ?_
      refine V.alq dX3_readNumber_53 (pc' := 54) rfl (j := 0) rfl ?_
      refine V.dup dX3_readNumber_54 (pc' := 55) rfl rfl ?_
      refine V.getf dX3_readNumber_55 (pc' := 58) rfl FL_X3_19 rfl (by decide) rfl ?_
      refine V.iconst dX3_readNumber_58 (pc' := 59) rfl (v := 1) (by decide) ?_
      refine V.iadd dX3_readNumber_59 (pc' := 60) rfl ?_
      obtain ⟨h6, eh6, e⟩ := nm_s e
      refine V.putf dX3_readNumber_60 (pc' := 63) rfl FP_X3_19 rfl (by decide) rfl eh6 ?_
      refine V.goto dX3_readNumber_63 (pc' := 11) (by decide) ?_
      exact hk11 h6 v1 v2 v3 v4 q e
def sX3_readNumber_b11 : Nat → Hp → Int32 → Int32 → Int32 → Int32 → Option (Int32 × Hp)
  | 0 => fun _ _ _ _ _ => none
  | n + 1 => sX3_readNumber_c11 (sX3_readNumber_b11 n)
theorem vX3_readNumber_b11 : ∀ (n : Nat) (h : Hp) (v1 : Int32) (v2 : Int32) (v3 : Int32) (v4 : Int32) (q : (Int32 × Hp)), sX3_readNumber_b11 n h v1 v2 v3 v4 = some q → V (Gs 1 (pI q)) mX3_readNumber (0, 0) 11 [(0, .ref 2), (1, .int v1), (2, .int v2), (3, .int v3), (4, .int v4)] [] h
  | 0 => fun _ _ _ _ _ _ e => by cases e
  | n + 1 => fun h v1 v2 v3 v4 q e => vX3_readNumber_c11 (sX3_readNumber_b11 n) (vX3_readNumber_b11 n) h v1 v2 v3 v4 q e
def sX3_readNumber (h : Hp) (a1 : Int32) (a2 : Int32) (a3 : Int32) : Option (Int32 × Hp) :=
  nm ((h.1 2 2)) fun x1 => nm (u1 h 2 3 (0 : Int32)) fun h2 => sX3_readNumber_b11 FU h2 a1 a2 a3 x1
set_option maxRecDepth 10000 in
theorem kX3_readNumber (h : Hp) (a1 : Int32) (a2 : Int32) (a3 : Int32) (q : (Int32 × Hp)) (e : sX3_readNumber h a1 a2 a3 = some q) : K 1 mX3_readNumber [.ref 2, .int a1, .int a2, .int a3] h (pI q) := by
  unfold sX3_readNumber at e
  refine K.ofV (by decide) rfl (Nat.le_of_ble_eq_true rfl) ?_
  show V (Gs 1 (pI q)) mX3_readNumber (0, 0) 0 [(0, .ref 2), (1, .int a1), (2, .int a2), (3, .int a3)] [] h
  refine V.alq dX3_readNumber_0 (pc' := 1) rfl (j := 0) rfl ?_
  refine V.getf dX3_readNumber_1 (pc' := 4) rfl FL_X3_19 rfl (by decide) rfl ?_
  obtain ⟨x1, ex1, e⟩ := nm_s e
  refine V.is dX3_readNumber_4 (pc' := 6) rfl (by decide) ex1 (L' := [(4, .int x1), (0, .ref 2), (1, .int a1), (2, .int a2), (3, .int a3)]) rfl ?_
  refine V.alq dX3_readNumber_6 (pc' := 7) rfl (j := 1) rfl ?_
  refine V.iconst dX3_readNumber_7 (pc' := 8) rfl (v := 0) (by decide) ?_
  obtain ⟨h2, eh2, e⟩ := nm_s e
  refine V.putf dX3_readNumber_8 (pc' := 11) rfl FP_X3_22 rfl (by decide) rfl eh2 ?_
  refine V.pk [1, 2, 3, 4, 0] rfl ?_
  exact vX3_readNumber_b11 FU h2 a1 a2 a3 x1 q e
