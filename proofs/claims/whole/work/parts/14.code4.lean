-- X1_howManyAt (level 2)
theorem dX1_howManyAt_0 : decode cX1_howManyAt 0 = .ok (.iconst 0, 1) := by decide +kernel
theorem dX1_howManyAt_1 : decode cX1_howManyAt 1 = .ok (.istore_n 3, 1) := by decide +kernel
theorem dX1_howManyAt_2 : decode cX1_howManyAt 2 = .ok (.iconst 0, 1) := by decide +kernel
theorem dX1_howManyAt_3 : decode cX1_howManyAt 3 = .ok (.istore 4, 2) := by decide +kernel
theorem dX1_howManyAt_5 : decode cX1_howManyAt 5 = .ok (.iload 4, 2) := by decide +kernel
theorem dX1_howManyAt_7 : decode cX1_howManyAt 7 = .ok (.aload_n 0, 1) := by decide +kernel
theorem dX1_howManyAt_8 : decode cX1_howManyAt 8 = .ok (.getfield 25, 3) := by decide +kernel
theorem dX1_howManyAt_11 : decode cX1_howManyAt 11 = .ok (.if_icmp .ge 43, 3) := by decide +kernel
theorem dX1_howManyAt_14 : decode cX1_howManyAt 14 = .ok (.aload_n 0, 1) := by decide +kernel
theorem dX1_howManyAt_15 : decode cX1_howManyAt 15 = .ok (.getfield 9, 3) := by decide +kernel
theorem dX1_howManyAt_18 : decode cX1_howManyAt 18 = .ok (.iload 4, 2) := by decide +kernel
theorem dX1_howManyAt_20 : decode cX1_howManyAt 20 = .ok (.baload, 1) := by decide +kernel
theorem dX1_howManyAt_21 : decode cX1_howManyAt 21 = .ok (.iload_n 1, 1) := by decide +kernel
theorem dX1_howManyAt_22 : decode cX1_howManyAt 22 = .ok (.if_icmp .ne 26, 3) := by decide +kernel
theorem dX1_howManyAt_25 : decode cX1_howManyAt 25 = .ok (.aload_n 0, 1) := by decide +kernel
theorem dX1_howManyAt_26 : decode cX1_howManyAt 26 = .ok (.iload 4, 2) := by decide +kernel
theorem dX1_howManyAt_28 : decode cX1_howManyAt 28 = .ok (.invokevirtual 46, 3) := by decide +kernel
theorem dX1_howManyAt_31 : decode cX1_howManyAt 31 = .ok (.iload_n 2, 1) := by decide +kernel
theorem dX1_howManyAt_32 : decode cX1_howManyAt 32 = .ok (.if_icmp .gt 16, 3) := by decide +kernel
theorem dX1_howManyAt_35 : decode cX1_howManyAt 35 = .ok (.aload_n 0, 1) := by decide +kernel
theorem dX1_howManyAt_36 : decode cX1_howManyAt 36 = .ok (.iload 4, 2) := by decide +kernel
theorem dX1_howManyAt_38 : decode cX1_howManyAt 38 = .ok (.invokevirtual 42, 3) := by decide +kernel
theorem dX1_howManyAt_41 : decode cX1_howManyAt 41 = .ok (.iload_n 2, 1) := by decide +kernel
theorem dX1_howManyAt_42 : decode cX1_howManyAt 42 = .ok (.if_icmp .lt 6, 3) := by decide +kernel
theorem dX1_howManyAt_45 : decode cX1_howManyAt 45 = .ok (.iinc 3 1, 3) := by decide +kernel
theorem dX1_howManyAt_48 : decode cX1_howManyAt 48 = .ok (.iinc 4 1, 3) := by decide +kernel
theorem dX1_howManyAt_51 : decode cX1_howManyAt 51 = .ok (.goto (-46), 3) := by decide +kernel
theorem dX1_howManyAt_54 : decode cX1_howManyAt 54 = .ok (.iload_n 3, 1) := by decide +kernel
theorem dX1_howManyAt_55 : decode cX1_howManyAt 55 = .ok (.ireturn, 1) := by decide +kernel
def sX1_howManyAt_c48 (k5 : Hp → Nat → Int32 → Int32 → Int32 → Int32 → Option (Int32 × Hp)) (h : Hp) (r : Nat) (v1 : Int32) (v2 : Int32) (v3 : Int32) (v4 : Int32) : Option (Int32 × Hp) :=
  nm (v4 + (1 : Int32)) fun x5 => k5 h r v1 v2 v3 x5
set_option maxRecDepth 10000 in
theorem vX1_howManyAt_c48 (k5 : Hp → Nat → Int32 → Int32 → Int32 → Int32 → Option (Int32 × Hp)) (hk5 : ∀ (h : Hp) (r : Nat) (v1 : Int32) (v2 : Int32) (v3 : Int32) (v4 : Int32) (hr : ck r = 1) (q : (Int32 × Hp)), k5 h r v1 v2 v3 v4 = some q → V (Gs 2 (pI q)) mX1_howManyAt (0, 0) 5 [(0, .ref r), (1, .int v1), (2, .int v2), (3, .int v3), (4, .int v4)] [] h) (h : Hp) (r : Nat) (v1 : Int32) (v2 : Int32) (v3 : Int32) (v4 : Int32) (hr : ck r = 1) (q : (Int32 × Hp)) (e : sX1_howManyAt_c48 k5 h r v1 v2 v3 v4 = some q) : V (Gs 2 (pI q)) mX1_howManyAt (0, 0) 48 [(0, .ref r), (1, .int v1), (2, .int v2), (3, .int v3), (4, .int v4)] [] h := by
  unfold sX1_howManyAt_c48 at e
  obtain ⟨x5, ex5, e⟩ := nm_s e
  refine V.iinc dX1_howManyAt_48 (pc' := 51) rfl (j := 4) rfl (v := 1) (by decide) (by decide) ex5 (L' := [(4, .int x5), (0, .ref r), (1, .int v1), (2, .int v2), (3, .int v3)]) rfl ?_
  refine V.goto dX1_howManyAt_51 (pc' := 5) (by decide) ?_
  refine V.pk [1, 2, 3, 4, 0] rfl ?_
  exact hk5 h r v1 v2 v3 x5 hr q e
def sX1_howManyAt_c5 (k5 : Hp → Nat → Int32 → Int32 → Int32 → Int32 → Option (Int32 × Hp)) (h : Hp) (r : Nat) (v1 : Int32) (v2 : Int32) (v3 : Int32) (v4 : Int32) : Option (Int32 × Hp) :=
  if (h.1 r 4) ≤ v4 then (some (v3, h)) else (gd (inb v4 10) (if (h.1 (r + 1) v4.toNatClampNeg) = v1 then ((sX1_low h r v4).bind fun q2 => if v2 < q2.1 then (sX1_howManyAt_c48 k5 q2.2 r v1 v2 v3 v4) else ((sX1_high q2.2 r v4).bind fun q3 => if q3.1 < v2 then (sX1_howManyAt_c48 k5 q3.2 r v1 v2 v3 v4) else (nm (v3 + (1 : Int32)) fun x4 => sX1_howManyAt_c48 k5 q3.2 r v1 v2 x4 v4))) else (sX1_howManyAt_c48 k5 h r v1 v2 v3 v4)))
set_option maxRecDepth 10000 in
theorem vX1_howManyAt_c5 (k5 : Hp → Nat → Int32 → Int32 → Int32 → Int32 → Option (Int32 × Hp)) (hk5 : ∀ (h : Hp) (r : Nat) (v1 : Int32) (v2 : Int32) (v3 : Int32) (v4 : Int32) (hr : ck r = 1) (q : (Int32 × Hp)), k5 h r v1 v2 v3 v4 = some q → V (Gs 2 (pI q)) mX1_howManyAt (0, 0) 5 [(0, .ref r), (1, .int v1), (2, .int v2), (3, .int v3), (4, .int v4)] [] h) (h : Hp) (r : Nat) (v1 : Int32) (v2 : Int32) (v3 : Int32) (v4 : Int32) (hr : ck r = 1) (q : (Int32 × Hp)) (e : sX1_howManyAt_c5 k5 h r v1 v2 v3 v4 = some q) : V (Gs 2 (pI q)) mX1_howManyAt (0, 0) 5 [(0, .ref r), (1, .int v1), (2, .int v2), (3, .int v3), (4, .int v4)] [] h := by
  unfold sX1_howManyAt_c5 at e
  refine V.il dX1_howManyAt_5 (pc' := 7) rfl (j := 4) rfl ?_
  refine V.alq dX1_howManyAt_7 (pc' := 8) rfl (j := 0) rfl ?_
  refine V.getf dX1_howManyAt_8 (pc' := 11) rfl FL_X1_25 hr (by decide) rfl ?_
  refine V.ic_ge dX1_howManyAt_11 (pc' := 14) rfl (tgt := 54) (by decide) (fun c => ?_) (fun c => ?_)
  · rw [if_pos c] at e
    refine V.ilq dX1_howManyAt_54 (pc' := 55) rfl (j := 3) rfl ?_
    exact V.iret dX1_howManyAt_55 rfl (fnI e)
  · rw [if_neg c] at e
    refine V.alq dX1_howManyAt_14 (pc' := 15) rfl (j := 0) rfl ?_
    refine V.getr dX1_howManyAt_15 (pc' := 18) rfl FL_X1_9 hr (by decide) rfl (r' := r + 1) rfl ?_
    refine V.il dX1_howManyAt_18 (pc' := 20) rfl (j := 4) rfl ?_
    obtain ⟨c1, e⟩ := gd_s e
    refine V.zald dX1_howManyAt_20 (pc' := 21) rfl (akX1_1 hr).1 (akX1_1 hr).2 (inb_t c1) ?_
    refine V.ilq dX1_howManyAt_21 (pc' := 22) rfl (j := 1) rfl ?_
    refine V.ic_ne dX1_howManyAt_22 (pc' := 25) rfl (tgt := 48) (by decide) (fun c => ?_) (fun c => ?_)
    · rw [if_neg c] at e
      exact vX1_howManyAt_c48 k5 hk5 h r v1 v2 v3 v4 hr q e
    · rw [if_pos c] at e
      refine V.alq dX1_howManyAt_25 (pc' := 26) rfl (j := 0) rfl ?_
      refine V.il dX1_howManyAt_26 (pc' := 28) rfl (j := 4) rfl ?_
      obtain ⟨q2, eq2, e⟩ := bd_s e
      refine V.callVi dX1_howManyAt_28 (pc' := 31) rfl CV_X1_46 (as := [.int v4]) (kX1_low h r v4 q2 eq2) (Gs_rm (by decide)) hr (by decide) rfl (Nat.le_of_ble_eq_true rfl) rfl ?_
      refine V.ilq dX1_howManyAt_31 (pc' := 32) rfl (j := 2) rfl ?_
      refine V.ic_gt dX1_howManyAt_32 (pc' := 35) rfl (tgt := 48) (by decide) (fun c => ?_) (fun c => ?_)
      · rw [if_pos c] at e
        exact vX1_howManyAt_c48 k5 hk5 q2.2 r v1 v2 v3 v4 hr q e
      · rw [if_neg c] at e
        refine V.alq dX1_howManyAt_35 (pc' := 36) rfl (j := 0) rfl ?_
        refine V.il dX1_howManyAt_36 (pc' := 38) rfl (j := 4) rfl ?_
        obtain ⟨q3, eq3, e⟩ := bd_s e
        refine V.callVi dX1_howManyAt_38 (pc' := 41) rfl CV_X1_42 (as := [.int v4]) (kX1_high q2.2 r v4 q3 eq3) (Gs_rm (by decide)) hr (by decide) rfl (Nat.le_of_ble_eq_true rfl) rfl ?_
        refine V.ilq dX1_howManyAt_41 (pc' := 42) rfl (j := 2) rfl ?_
        refine V.ic_lt dX1_howManyAt_42 (pc' := 45) rfl (tgt := 48) (by decide) (fun c => ?_) (fun c => ?_)
        · rw [if_pos c] at e
          exact vX1_howManyAt_c48 k5 hk5 q3.2 r v1 v2 v3 v4 hr q e
        · rw [if_neg c] at e
          obtain ⟨x4, ex4, e⟩ := nm_s e
          refine V.iinc dX1_howManyAt_45 (pc' := 48) rfl (j := 3) rfl (v := 1) (by decide) (by decide) ex4 (L' := [(3, .int x4), (0, .ref r), (1, .int v1), (2, .int v2), (4, .int v4)]) rfl ?_
          refine V.pk [1, 2, 3, 0, 4] rfl ?_
          exact vX1_howManyAt_c48 k5 hk5 q3.2 r v1 v2 x4 v4 hr q e
def sX1_howManyAt_b5 : Nat → Hp → Nat → Int32 → Int32 → Int32 → Int32 → Option (Int32 × Hp)
  | 0 => fun _ _ _ _ _ _ => none
  | n + 1 => sX1_howManyAt_c5 (sX1_howManyAt_b5 n)
theorem vX1_howManyAt_b5 : ∀ (n : Nat) (h : Hp) (r : Nat) (v1 : Int32) (v2 : Int32) (v3 : Int32) (v4 : Int32) (hr : ck r = 1) (q : (Int32 × Hp)), sX1_howManyAt_b5 n h r v1 v2 v3 v4 = some q → V (Gs 2 (pI q)) mX1_howManyAt (0, 0) 5 [(0, .ref r), (1, .int v1), (2, .int v2), (3, .int v3), (4, .int v4)] [] h
  | 0 => fun _ _ _ _ _ _ _ _ e => by cases e
  | n + 1 => fun h r v1 v2 v3 v4 hr q e => vX1_howManyAt_c5 (sX1_howManyAt_b5 n) (vX1_howManyAt_b5 n) h r v1 v2 v3 v4 hr q e
def sX1_howManyAt (h : Hp) (r : Nat) (a1 : Int32) (a2 : Int32) : Option (Int32 × Hp) :=
  gd (isC r 1) (sX1_howManyAt_b5 FU h r a1 a2 (0 : Int32) (0 : Int32))
set_option maxRecDepth 10000 in
theorem kX1_howManyAt (h : Hp) (r : Nat) (a1 : Int32) (a2 : Int32) (q : (Int32 × Hp)) (e : sX1_howManyAt h r a1 a2 = some q) : K 2 mX1_howManyAt [.ref r, .int a1, .int a2] h (pI q) := by
  unfold sX1_howManyAt at e
  obtain ⟨hr, e⟩ := gd_s e
  have hr := isC_t hr
  refine K.ofV (by decide) rfl (Nat.le_of_ble_eq_true rfl) ?_
  show V (Gs 2 (pI q)) mX1_howManyAt (0, 0) 0 [(0, .ref r), (1, .int a1), (2, .int a2)] [] h
  refine V.iconst dX1_howManyAt_0 (pc' := 1) rfl (v := 0) (by decide) ?_
  refine V.isq dX1_howManyAt_1 (pc' := 2) rfl (by decide) rfl (L' := [(3, .int (0 : Int32)), (0, .ref r), (1, .int a1), (2, .int a2)]) rfl ?_
  refine V.iconst dX1_howManyAt_2 (pc' := 3) rfl (v := 0) (by decide) ?_
  refine V.is dX1_howManyAt_3 (pc' := 5) rfl (by decide) rfl (L' := [(4, .int (0 : Int32)), (3, .int (0 : Int32)), (0, .ref r), (1, .int a1), (2, .int a2)]) rfl ?_
  refine V.pk [2, 3, 4, 1, 0] rfl ?_
  exact vX1_howManyAt_b5 FU h r a1 a2 (0 : Int32) (0 : Int32) hr q e

-- X1_capThrough (level 2)
theorem dX1_capThrough_0 : decode cX1_capThrough 0 = .ok (.iconst 0, 1) := by decide +kernel
theorem dX1_capThrough_1 : decode cX1_capThrough 1 = .ok (.istore 4, 2) := by decide +kernel
theorem dX1_capThrough_3 : decode cX1_capThrough 3 = .ok (.iconst 0, 1) := by decide +kernel
theorem dX1_capThrough_4 : decode cX1_capThrough 4 = .ok (.istore 5, 2) := by decide +kernel
theorem dX1_capThrough_6 : decode cX1_capThrough 6 = .ok (.iload 5, 2) := by decide +kernel
theorem dX1_capThrough_8 : decode cX1_capThrough 8 = .ok (.aload_n 0, 1) := by decide +kernel
theorem dX1_capThrough_9 : decode cX1_capThrough 9 = .ok (.getfield 25, 3) := by decide +kernel
theorem dX1_capThrough_12 : decode cX1_capThrough 12 = .ok (.if_icmp .ge 52, 3) := by decide +kernel
theorem dX1_capThrough_15 : decode cX1_capThrough 15 = .ok (.aload_n 0, 1) := by decide +kernel
theorem dX1_capThrough_16 : decode cX1_capThrough 16 = .ok (.getfield 9, 3) := by decide +kernel
theorem dX1_capThrough_19 : decode cX1_capThrough 19 = .ok (.iload 5, 2) := by decide +kernel
theorem dX1_capThrough_21 : decode cX1_capThrough 21 = .ok (.baload, 1) := by decide +kernel
theorem dX1_capThrough_22 : decode cX1_capThrough 22 = .ok (.iload_n 1, 1) := by decide +kernel
theorem dX1_capThrough_23 : decode cX1_capThrough 23 = .ok (.if_icmp .ne 35, 3) := by decide +kernel
theorem dX1_capThrough_26 : decode cX1_capThrough 26 = .ok (.aload_n 0, 1) := by decide +kernel
theorem dX1_capThrough_27 : decode cX1_capThrough 27 = .ok (.iload 5, 2) := by decide +kernel
theorem dX1_capThrough_29 : decode cX1_capThrough 29 = .ok (.invokevirtual 46, 3) := by decide +kernel
theorem dX1_capThrough_32 : decode cX1_capThrough 32 = .ok (.iload_n 2, 1) := by decide +kernel
theorem dX1_capThrough_33 : decode cX1_capThrough 33 = .ok (.if_icmp .gt 25, 3) := by decide +kernel
theorem dX1_capThrough_36 : decode cX1_capThrough 36 = .ok (.aload_n 0, 1) := by decide +kernel
theorem dX1_capThrough_37 : decode cX1_capThrough 37 = .ok (.iload 5, 2) := by decide +kernel
theorem dX1_capThrough_39 : decode cX1_capThrough 39 = .ok (.invokevirtual 42, 3) := by decide +kernel
theorem dX1_capThrough_42 : decode cX1_capThrough 42 = .ok (.iload_n 3, 1) := by decide +kernel
theorem dX1_capThrough_43 : decode cX1_capThrough 43 = .ok (.if_icmp .lt 15, 3) := by decide +kernel
theorem dX1_capThrough_46 : decode cX1_capThrough 46 = .ok (.iload 4, 2) := by decide +kernel
theorem dX1_capThrough_48 : decode cX1_capThrough 48 = .ok (.aload_n 0, 1) := by decide +kernel
theorem dX1_capThrough_49 : decode cX1_capThrough 49 = .ok (.getfield 22, 3) := by decide +kernel
theorem dX1_capThrough_52 : decode cX1_capThrough 52 = .ok (.iload 5, 2) := by decide +kernel
theorem dX1_capThrough_54 : decode cX1_capThrough 54 = .ok (.iaload, 1) := by decide +kernel
theorem dX1_capThrough_55 : decode cX1_capThrough 55 = .ok (.iadd, 1) := by decide +kernel
theorem dX1_capThrough_56 : decode cX1_capThrough 56 = .ok (.istore 4, 2) := by decide +kernel
theorem dX1_capThrough_58 : decode cX1_capThrough 58 = .ok (.iinc 5 1, 3) := by decide +kernel
theorem dX1_capThrough_61 : decode cX1_capThrough 61 = .ok (.goto (-55), 3) := by decide +kernel
theorem dX1_capThrough_64 : decode cX1_capThrough 64 = .ok (.iload 4, 2) := by decide +kernel
theorem dX1_capThrough_66 : decode cX1_capThrough 66 = .ok (.ireturn, 1) := by decide +kernel
def sX1_capThrough_c58 (k6 : Hp → Nat → Int32 → Int32 → Int32 → Int32 → Int32 → Option (Int32 × Hp)) (h : Hp) (r : Nat) (v1 : Int32) (v2 : Int32) (v3 : Int32) (v4 : Int32) (v5 : Int32) : Option (Int32 × Hp) :=
  nm (v5 + (1 : Int32)) fun x6 => k6 h r v1 v2 v3 v4 x6
set_option maxRecDepth 10000 in
theorem vX1_capThrough_c58 (k6 : Hp → Nat → Int32 → Int32 → Int32 → Int32 → Int32 → Option (Int32 × Hp)) (hk6 : ∀ (h : Hp) (r : Nat) (v1 : Int32) (v2 : Int32) (v3 : Int32) (v4 : Int32) (v5 : Int32) (hr : ck r = 1) (q : (Int32 × Hp)), k6 h r v1 v2 v3 v4 v5 = some q → V (Gs 2 (pI q)) mX1_capThrough (0, 0) 6 [(0, .ref r), (1, .int v1), (2, .int v2), (3, .int v3), (4, .int v4), (5, .int v5)] [] h) (h : Hp) (r : Nat) (v1 : Int32) (v2 : Int32) (v3 : Int32) (v4 : Int32) (v5 : Int32) (hr : ck r = 1) (q : (Int32 × Hp)) (e : sX1_capThrough_c58 k6 h r v1 v2 v3 v4 v5 = some q) : V (Gs 2 (pI q)) mX1_capThrough (0, 0) 58 [(0, .ref r), (1, .int v1), (2, .int v2), (3, .int v3), (4, .int v4), (5, .int v5)] [] h := by
  unfold sX1_capThrough_c58 at e
  obtain ⟨x6, ex6, e⟩ := nm_s e
  refine V.iinc dX1_capThrough_58 (pc' := 61) rfl (j := 5) rfl (v := 1) (by decide) (by decide) ex6 (L' := [(5, .int x6), (0, .ref r), (1, .int v1), (2, .int v2), (3, .int v3), (4, .int v4)]) rfl ?_
  refine V.goto dX1_capThrough_61 (pc' := 6) (by decide) ?_
  refine V.pk [1, 2, 3, 4, 5, 0] rfl ?_
  exact hk6 h r v1 v2 v3 v4 x6 hr q e
def sX1_capThrough_c6 (k6 : Hp → Nat → Int32 → Int32 → Int32 → Int32 → Int32 → Option (Int32 × Hp)) (h : Hp) (r : Nat) (v1 : Int32) (v2 : Int32) (v3 : Int32) (v4 : Int32) (v5 : Int32) : Option (Int32 × Hp) :=
  if (h.1 r 4) ≤ v5 then (some (v4, h)) else (gd (inb v5 10) (if (h.1 (r + 1) v5.toNatClampNeg) = v1 then ((sX1_low h r v5).bind fun q2 => if v2 < q2.1 then (sX1_capThrough_c58 k6 q2.2 r v1 v2 v3 v4 v5) else ((sX1_high q2.2 r v5).bind fun q3 => if q3.1 < v3 then (sX1_capThrough_c58 k6 q3.2 r v1 v2 v3 v4 v5) else (gd (inb v5 10) (nm ((v4 + (q3.2.1 (r + 4) v5.toNatClampNeg))) fun x5 => sX1_capThrough_c58 k6 q3.2 r v1 v2 v3 x5 v5)))) else (sX1_capThrough_c58 k6 h r v1 v2 v3 v4 v5)))
set_option maxRecDepth 10000 in
theorem vX1_capThrough_c6 (k6 : Hp → Nat → Int32 → Int32 → Int32 → Int32 → Int32 → Option (Int32 × Hp)) (hk6 : ∀ (h : Hp) (r : Nat) (v1 : Int32) (v2 : Int32) (v3 : Int32) (v4 : Int32) (v5 : Int32) (hr : ck r = 1) (q : (Int32 × Hp)), k6 h r v1 v2 v3 v4 v5 = some q → V (Gs 2 (pI q)) mX1_capThrough (0, 0) 6 [(0, .ref r), (1, .int v1), (2, .int v2), (3, .int v3), (4, .int v4), (5, .int v5)] [] h) (h : Hp) (r : Nat) (v1 : Int32) (v2 : Int32) (v3 : Int32) (v4 : Int32) (v5 : Int32) (hr : ck r = 1) (q : (Int32 × Hp)) (e : sX1_capThrough_c6 k6 h r v1 v2 v3 v4 v5 = some q) : V (Gs 2 (pI q)) mX1_capThrough (0, 0) 6 [(0, .ref r), (1, .int v1), (2, .int v2), (3, .int v3), (4, .int v4), (5, .int v5)] [] h := by
  unfold sX1_capThrough_c6 at e
  refine V.il dX1_capThrough_6 (pc' := 8) rfl (j := 5) rfl ?_
  refine V.alq dX1_capThrough_8 (pc' := 9) rfl (j := 0) rfl ?_
  refine V.getf dX1_capThrough_9 (pc' := 12) rfl FL_X1_25 hr (by decide) rfl ?_
  refine V.ic_ge dX1_capThrough_12 (pc' := 15) rfl (tgt := 64) (by decide) (fun c => ?_) (fun c => ?_)
  · rw [if_pos c] at e
    refine V.il dX1_capThrough_64 (pc' := 66) rfl (j := 4) rfl ?_
    exact V.iret dX1_capThrough_66 rfl (fnI e)
  · rw [if_neg c] at e
    refine V.alq dX1_capThrough_15 (pc' := 16) rfl (j := 0) rfl ?_
    refine V.getr dX1_capThrough_16 (pc' := 19) rfl FL_X1_9 hr (by decide) rfl (r' := r + 1) rfl ?_
    refine V.il dX1_capThrough_19 (pc' := 21) rfl (j := 5) rfl ?_
    obtain ⟨c1, e⟩ := gd_s e
    refine V.zald dX1_capThrough_21 (pc' := 22) rfl (akX1_1 hr).1 (akX1_1 hr).2 (inb_t c1) ?_
    refine V.ilq dX1_capThrough_22 (pc' := 23) rfl (j := 1) rfl ?_
    refine V.ic_ne dX1_capThrough_23 (pc' := 26) rfl (tgt := 58) (by decide) (fun c => ?_) (fun c => ?_)
    · rw [if_neg c] at e
      exact vX1_capThrough_c58 k6 hk6 h r v1 v2 v3 v4 v5 hr q e
    · rw [if_pos c] at e
      refine V.alq dX1_capThrough_26 (pc' := 27) rfl (j := 0) rfl ?_
      refine V.il dX1_capThrough_27 (pc' := 29) rfl (j := 5) rfl ?_
      obtain ⟨q2, eq2, e⟩ := bd_s e
      refine V.callVi dX1_capThrough_29 (pc' := 32) rfl CV_X1_46 (as := [.int v5]) (kX1_low h r v5 q2 eq2) (Gs_rm (by decide)) hr (by decide) rfl (Nat.le_of_ble_eq_true rfl) rfl ?_
      refine V.ilq dX1_capThrough_32 (pc' := 33) rfl (j := 2) rfl ?_
      refine V.ic_gt dX1_capThrough_33 (pc' := 36) rfl (tgt := 58) (by decide) (fun c => ?_) (fun c => ?_)
      · rw [if_pos c] at e
        exact vX1_capThrough_c58 k6 hk6 q2.2 r v1 v2 v3 v4 v5 hr q e
      · rw [if_neg c] at e
        refine V.alq dX1_capThrough_36 (pc' := 37) rfl (j := 0) rfl ?_
        refine V.il dX1_capThrough_37 (pc' := 39) rfl (j := 5) rfl ?_
        obtain ⟨q3, eq3, e⟩ := bd_s e
        refine V.callVi dX1_capThrough_39 (pc' := 42) rfl CV_X1_42 (as := [.int v5]) (kX1_high q2.2 r v5 q3 eq3) (Gs_rm (by decide)) hr (by decide) rfl (Nat.le_of_ble_eq_true rfl) rfl ?_
        refine V.ilq dX1_capThrough_42 (pc' := 43) rfl (j := 3) rfl ?_
        refine V.ic_lt dX1_capThrough_43 (pc' := 46) rfl (tgt := 58) (by decide) (fun c => ?_) (fun c => ?_)
        · rw [if_pos c] at e
          exact vX1_capThrough_c58 k6 hk6 q3.2 r v1 v2 v3 v4 v5 hr q e
        · rw [if_neg c] at e
          refine V.il dX1_capThrough_46 (pc' := 48) rfl (j := 4) rfl ?_
          refine V.alq dX1_capThrough_48 (pc' := 49) rfl (j := 0) rfl ?_
          refine V.getr dX1_capThrough_49 (pc' := 52) rfl FL_X1_22 hr (by decide) rfl (r' := r + 4) rfl ?_
          refine V.il dX1_capThrough_52 (pc' := 54) rfl (j := 5) rfl ?_
          obtain ⟨c4, e⟩ := gd_s e
          refine V.iald dX1_capThrough_54 (pc' := 55) rfl (akX1_4 hr).1 (akX1_4 hr).2 (inb_t c4) ?_
          refine V.iadd dX1_capThrough_55 (pc' := 56) rfl ?_
          obtain ⟨x5, ex5, e⟩ := nm_s e
          refine V.is dX1_capThrough_56 (pc' := 58) rfl (by decide) ex5 (L' := [(4, .int x5), (0, .ref r), (1, .int v1), (2, .int v2), (3, .int v3), (5, .int v5)]) rfl ?_
          refine V.pk [1, 2, 3, 4, 0, 5] rfl ?_
          exact vX1_capThrough_c58 k6 hk6 q3.2 r v1 v2 v3 x5 v5 hr q e
def sX1_capThrough_b6 : Nat → Hp → Nat → Int32 → Int32 → Int32 → Int32 → Int32 → Option (Int32 × Hp)
  | 0 => fun _ _ _ _ _ _ _ => none
  | n + 1 => sX1_capThrough_c6 (sX1_capThrough_b6 n)
theorem vX1_capThrough_b6 : ∀ (n : Nat) (h : Hp) (r : Nat) (v1 : Int32) (v2 : Int32) (v3 : Int32) (v4 : Int32) (v5 : Int32) (hr : ck r = 1) (q : (Int32 × Hp)), sX1_capThrough_b6 n h r v1 v2 v3 v4 v5 = some q → V (Gs 2 (pI q)) mX1_capThrough (0, 0) 6 [(0, .ref r), (1, .int v1), (2, .int v2), (3, .int v3), (4, .int v4), (5, .int v5)] [] h
  | 0 => fun _ _ _ _ _ _ _ _ _ e => by cases e
  | n + 1 => fun h r v1 v2 v3 v4 v5 hr q e => vX1_capThrough_c6 (sX1_capThrough_b6 n) (vX1_capThrough_b6 n) h r v1 v2 v3 v4 v5 hr q e
def sX1_capThrough (h : Hp) (r : Nat) (a1 : Int32) (a2 : Int32) (a3 : Int32) : Option (Int32 × Hp) :=
  gd (isC r 1) (sX1_capThrough_b6 FU h r a1 a2 a3 (0 : Int32) (0 : Int32))
set_option maxRecDepth 10000 in
theorem kX1_capThrough (h : Hp) (r : Nat) (a1 : Int32) (a2 : Int32) (a3 : Int32) (q : (Int32 × Hp)) (e : sX1_capThrough h r a1 a2 a3 = some q) : K 2 mX1_capThrough [.ref r, .int a1, .int a2, .int a3] h (pI q) := by
  unfold sX1_capThrough at e
  obtain ⟨hr, e⟩ := gd_s e
  have hr := isC_t hr
  refine K.ofV (by decide) rfl (Nat.le_of_ble_eq_true rfl) ?_
  show V (Gs 2 (pI q)) mX1_capThrough (0, 0) 0 [(0, .ref r), (1, .int a1), (2, .int a2), (3, .int a3)] [] h
  refine V.iconst dX1_capThrough_0 (pc' := 1) rfl (v := 0) (by decide) ?_
  refine V.is dX1_capThrough_1 (pc' := 3) rfl (by decide) rfl (L' := [(4, .int (0 : Int32)), (0, .ref r), (1, .int a1), (2, .int a2), (3, .int a3)]) rfl ?_
  refine V.iconst dX1_capThrough_3 (pc' := 4) rfl (v := 0) (by decide) ?_
  refine V.is dX1_capThrough_4 (pc' := 6) rfl (by decide) rfl (L' := [(5, .int (0 : Int32)), (4, .int (0 : Int32)), (0, .ref r), (1, .int a1), (2, .int a2), (3, .int a3)]) rfl ?_
  refine V.pk [2, 3, 4, 5, 1, 0] rfl ?_
  exact vX1_capThrough_b6 FU h r a1 a2 a3 (0 : Int32) (0 : Int32) hr q e

-- X2_lay (level 2)
theorem dX2_lay_0 : decode cX2_lay 0 = .ok (.aload_n 0, 1) := by decide +kernel
theorem dX2_lay_1 : decode cX2_lay 1 = .ok (.iload_n 3, 1) := by decide +kernel
theorem dX2_lay_2 : decode cX2_lay 2 = .ok (.putfield 9, 3) := by decide +kernel
theorem dX2_lay_5 : decode cX2_lay 5 = .ok (.aload_n 0, 1) := by decide +kernel
theorem dX2_lay_6 : decode cX2_lay 6 = .ok (.aload_n 1, 1) := by decide +kernel
theorem dX2_lay_7 : decode cX2_lay 7 = .ok (.getfield 68, 3) := by decide +kernel
theorem dX2_lay_10 : decode cX2_lay 10 = .ok (.putfield 15, 3) := by decide +kernel
theorem dX2_lay_13 : decode cX2_lay 13 = .ok (.iconst 0, 1) := by decide +kernel
theorem dX2_lay_14 : decode cX2_lay 14 = .ok (.istore 4, 2) := by decide +kernel
theorem dX2_lay_16 : decode cX2_lay 16 = .ok (.iload 4, 2) := by decide +kernel
theorem dX2_lay_18 : decode cX2_lay 18 = .ok (.aload_n 0, 1) := by decide +kernel
theorem dX2_lay_19 : decode cX2_lay 19 = .ok (.getfield 15, 3) := by decide +kernel
theorem dX2_lay_22 : decode cX2_lay 22 = .ok (.if_icmp .ge 228, 3) := by decide +kernel
theorem dX2_lay_25 : decode cX2_lay 25 = .ok (.aload_n 0, 1) := by decide +kernel
theorem dX2_lay_26 : decode cX2_lay 26 = .ok (.getfield 18, 3) := by decide +kernel
theorem dX2_lay_29 : decode cX2_lay 29 = .ok (.iload 4, 2) := by decide +kernel
theorem dX2_lay_31 : decode cX2_lay 31 = .ok (.aload_n 1, 1) := by decide +kernel
theorem dX2_lay_32 : decode cX2_lay 32 = .ok (.getfield 71, 3) := by decide +kernel
theorem dX2_lay_35 : decode cX2_lay 35 = .ok (.iload 4, 2) := by decide +kernel
theorem dX2_lay_37 : decode cX2_lay 37 = .ok (.baload, 1) := by decide +kernel
theorem dX2_lay_38 : decode cX2_lay 38 = .ok (.bastore, 1) := by decide +kernel
theorem dX2_lay_39 : decode cX2_lay 39 = .ok (.aload_n 0, 1) := by decide +kernel
theorem dX2_lay_40 : decode cX2_lay 40 = .ok (.getfield 25, 3) := by decide +kernel
theorem dX2_lay_43 : decode cX2_lay 43 = .ok (.iload 4, 2) := by decide +kernel
theorem dX2_lay_45 : decode cX2_lay 45 = .ok (.aload_n 1, 1) := by decide +kernel
theorem dX2_lay_46 : decode cX2_lay 46 = .ok (.getfield 73, 3) := by decide +kernel
theorem dX2_lay_49 : decode cX2_lay 49 = .ok (.iload 4, 2) := by decide +kernel
theorem dX2_lay_51 : decode cX2_lay 51 = .ok (.iaload, 1) := by decide +kernel
theorem dX2_lay_52 : decode cX2_lay 52 = .ok (.iastore, 1) := by decide +kernel
theorem dX2_lay_53 : decode cX2_lay 53 = .ok (.aload_n 1, 1) := by decide +kernel
theorem dX2_lay_54 : decode cX2_lay 54 = .ok (.getfield 71, 3) := by decide +kernel
theorem dX2_lay_57 : decode cX2_lay 57 = .ok (.iload 4, 2) := by decide +kernel
theorem dX2_lay_59 : decode cX2_lay 59 = .ok (.baload, 1) := by decide +kernel
theorem dX2_lay_60 : decode cX2_lay 60 = .ok (.ifCond .eq 9, 3) := by decide +kernel
theorem dX2_lay_63 : decode cX2_lay 63 = .ok (.iload_n 2, 1) := by decide +kernel
theorem dX2_lay_64 : decode cX2_lay 64 = .ok (.iload_n 3, 1) := by decide +kernel
theorem dX2_lay_65 : decode cX2_lay 65 = .ok (.iadd, 1) := by decide +kernel
theorem dX2_lay_66 : decode cX2_lay 66 = .ok (.goto 4, 3) := by decide +kernel
theorem dX2_lay_69 : decode cX2_lay 69 = .ok (.iload_n 2, 1) := by decide +kernel
theorem dX2_lay_70 : decode cX2_lay 70 = .ok (.istore 5, 2) := by decide +kernel
theorem dX2_lay_72 : decode cX2_lay 72 = .ok (.aload_n 0, 1) := by decide +kernel
theorem dX2_lay_73 : decode cX2_lay 73 = .ok (.getfield 65, 3) := by decide +kernel
theorem dX2_lay_76 : decode cX2_lay 76 = .ok (.ifCond .le 17, 3) := by decide +kernel
theorem dX2_lay_79 : decode cX2_lay 79 = .ok (.aload_n 1, 1) := by decide +kernel
theorem dX2_lay_80 : decode cX2_lay 80 = .ok (.iload 4, 2) := by decide +kernel
theorem dX2_lay_82 : decode cX2_lay 82 = .ok (.invokevirtual 74, 3) := by decide +kernel
theorem dX2_lay_85 : decode cX2_lay 85 = .ok (.iload 5, 2) := by decide +kernel
theorem dX2_lay_87 : decode cX2_lay 87 = .ok (.invokestatic 78, 3) := by decide +kernel
theorem dX2_lay_90 : decode cX2_lay 90 = .ok (.goto 14, 3) := by decide +kernel
theorem dX2_lay_93 : decode cX2_lay 93 = .ok (.aload_n 1, 1) := by decide +kernel
theorem dX2_lay_94 : decode cX2_lay 94 = .ok (.iload 4, 2) := by decide +kernel
theorem dX2_lay_96 : decode cX2_lay 96 = .ok (.invokevirtual 84, 3) := by decide +kernel
theorem dX2_lay_99 : decode cX2_lay 99 = .ok (.iload 5, 2) := by decide +kernel
theorem dX2_lay_101 : decode cX2_lay 101 = .ok (.invokestatic 87, 3) := by decide +kernel
theorem dX2_lay_104 : decode cX2_lay 104 = .ok (.istore 6, 2) := by decide +kernel
theorem dX2_lay_106 : decode cX2_lay 106 = .ok (.aload_n 0, 1) := by decide +kernel
theorem dX2_lay_107 : decode cX2_lay 107 = .ok (.getfield 65, 3) := by decide +kernel
theorem dX2_lay_110 : decode cX2_lay 110 = .ok (.ifCond .le 12, 3) := by decide +kernel
theorem dX2_lay_113 : decode cX2_lay 113 = .ok (.aload_n 1, 1) := by decide +kernel
theorem dX2_lay_114 : decode cX2_lay 114 = .ok (.iload 4, 2) := by decide +kernel
theorem dX2_lay_116 : decode cX2_lay 116 = .ok (.invokevirtual 84, 3) := by decide +kernel
theorem dX2_lay_119 : decode cX2_lay 119 = .ok (.goto 9, 3) := by decide +kernel
theorem dX2_lay_122 : decode cX2_lay 122 = .ok (.aload_n 1, 1) := by decide +kernel
theorem dX2_lay_123 : decode cX2_lay 123 = .ok (.iload 4, 2) := by decide +kernel
theorem dX2_lay_125 : decode cX2_lay 125 = .ok (.invokevirtual 74, 3) := by decide +kernel
theorem dX2_lay_128 : decode cX2_lay 128 = .ok (.istore 7, 2) := by decide +kernel
theorem dX2_lay_130 : decode cX2_lay 130 = .ok (.aload_n 0, 1) := by decide +kernel
theorem dX2_lay_131 : decode cX2_lay 131 = .ok (.getfield 65, 3) := by decide +kernel
theorem dX2_lay_134 : decode cX2_lay 134 = .ok (.iload 7, 2) := by decide +kernel
theorem dX2_lay_136 : decode cX2_lay 136 = .ok (.iload 6, 2) := by decide +kernel
theorem dX2_lay_138 : decode cX2_lay 138 = .ok (.isub, 1) := by decide +kernel
theorem dX2_lay_139 : decode cX2_lay 139 = .ok (.imul, 1) := by decide +kernel
theorem dX2_lay_140 : decode cX2_lay 140 = .ok (.ifCond .le 7, 3) := by decide +kernel
theorem dX2_lay_143 : decode cX2_lay 143 = .ok (.iconst 1, 1) := by decide +kernel
theorem dX2_lay_144 : decode cX2_lay 144 = .ok (.goto 4, 3) := by decide +kernel
theorem dX2_lay_147 : decode cX2_lay 147 = .ok (.iconst 0, 1) := by decide +kernel
theorem dX2_lay_148 : decode cX2_lay 148 = .ok (.istore 8, 2) := by decide +kernel
theorem dX2_lay_150 : decode cX2_lay 150 = .ok (.aload_n 0, 1) := by decide +kernel
theorem dX2_lay_151 : decode cX2_lay 151 = .ok (.getfield 29, 3) := by decide +kernel
theorem dX2_lay_154 : decode cX2_lay 154 = .ok (.iload 4, 2) := by decide +kernel
theorem dX2_lay_156 : decode cX2_lay 156 = .ok (.iload 8, 2) := by decide +kernel
theorem dX2_lay_158 : decode cX2_lay 158 = .ok (.ifCond .eq 8, 3) := by decide +kernel
theorem dX2_lay_161 : decode cX2_lay 161 = .ok (.iload 6, 2) := by decide +kernel
theorem dX2_lay_163 : decode cX2_lay 163 = .ok (.goto 4, 3) := by decide +kernel
theorem dX2_lay_166 : decode cX2_lay 166 = .ok (.iconst 0, 1) := by decide +kernel
theorem dX2_lay_167 : decode cX2_lay 167 = .ok (.iastore, 1) := by decide +kernel
theorem dX2_lay_168 : decode cX2_lay 168 = .ok (.aload_n 0, 1) := by decide +kernel
theorem dX2_lay_169 : decode cX2_lay 169 = .ok (.getfield 32, 3) := by decide +kernel
theorem dX2_lay_172 : decode cX2_lay 172 = .ok (.iload 4, 2) := by decide +kernel
theorem dX2_lay_174 : decode cX2_lay 174 = .ok (.iload 8, 2) := by decide +kernel
theorem dX2_lay_176 : decode cX2_lay 176 = .ok (.ifCond .eq 8, 3) := by decide +kernel
theorem dX2_lay_179 : decode cX2_lay 179 = .ok (.iload 7, 2) := by decide +kernel
theorem dX2_lay_181 : decode cX2_lay 181 = .ok (.goto 4, 3) := by decide +kernel
theorem dX2_lay_184 : decode cX2_lay 184 = .ok (.iconst 0, 1) := by decide +kernel
theorem dX2_lay_185 : decode cX2_lay 185 = .ok (.iastore, 1) := by decide +kernel
theorem dX2_lay_186 : decode cX2_lay 186 = .ok (.aload_n 0, 1) := by decide +kernel
theorem dX2_lay_187 : decode cX2_lay 187 = .ok (.getfield 35, 3) := by decide +kernel
theorem dX2_lay_190 : decode cX2_lay 190 = .ok (.iload 4, 2) := by decide +kernel
theorem dX2_lay_192 : decode cX2_lay 192 = .ok (.iload 8, 2) := by decide +kernel
theorem dX2_lay_194 : decode cX2_lay 194 = .ok (.ifCond .eq 24, 3) := by decide +kernel
theorem dX2_lay_197 : decode cX2_lay 197 = .ok (.aload_n 0, 1) := by decide +kernel
theorem dX2_lay_198 : decode cX2_lay 198 = .ok (.getfield 25, 3) := by decide +kernel
theorem dX2_lay_201 : decode cX2_lay 201 = .ok (.iload 4, 2) := by decide +kernel
theorem dX2_lay_203 : decode cX2_lay 203 = .ok (.iaload, 1) := by decide +kernel
theorem dX2_lay_204 : decode cX2_lay 204 = .ok (.aload_n 0, 1) := by decide +kernel
theorem dX2_lay_205 : decode cX2_lay 205 = .ok (.getfield 65, 3) := by decide +kernel
theorem dX2_lay_208 : decode cX2_lay 208 = .ok (.imul, 1) := by decide +kernel
theorem dX2_lay_209 : decode cX2_lay 209 = .ok (.iload 7, 2) := by decide +kernel
theorem dX2_lay_211 : decode cX2_lay 211 = .ok (.iload 6, 2) := by decide +kernel
theorem dX2_lay_213 : decode cX2_lay 213 = .ok (.isub, 1) := by decide +kernel
theorem dX2_lay_214 : decode cX2_lay 214 = .ok (.imul, 1) := by decide +kernel
theorem dX2_lay_215 : decode cX2_lay 215 = .ok (.goto 4, 3) := by decide +kernel
theorem dX2_lay_218 : decode cX2_lay 218 = .ok (.iconst 0, 1) := by decide +kernel
theorem dX2_lay_219 : decode cX2_lay 219 = .ok (.iastore, 1) := by decide +kernel
theorem dX2_lay_220 : decode cX2_lay 220 = .ok (.aload_n 0, 1) := by decide +kernel
theorem dX2_lay_221 : decode cX2_lay 221 = .ok (.getfield 22, 3) := by decide +kernel
theorem dX2_lay_224 : decode cX2_lay 224 = .ok (.iload 4, 2) := by decide +kernel
theorem dX2_lay_226 : decode cX2_lay 226 = .ok (.iload 8, 2) := by decide +kernel
theorem dX2_lay_228 : decode cX2_lay 228 = .ok (.ifCond .eq 14, 3) := by decide +kernel
theorem dX2_lay_231 : decode cX2_lay 231 = .ok (.iload 6, 2) := by decide +kernel
theorem dX2_lay_233 : decode cX2_lay 233 = .ok (.iload 5, 2) := by decide +kernel
theorem dX2_lay_235 : decode cX2_lay 235 = .ok (.if_icmp .ne 7, 3) := by decide +kernel
theorem dX2_lay_238 : decode cX2_lay 238 = .ok (.iconst 1, 1) := by decide +kernel
theorem dX2_lay_239 : decode cX2_lay 239 = .ok (.goto 4, 3) := by decide +kernel
theorem dX2_lay_242 : decode cX2_lay 242 = .ok (.iconst 0, 1) := by decide +kernel
theorem dX2_lay_243 : decode cX2_lay 243 = .ok (.bastore, 1) := by decide +kernel
theorem dX2_lay_244 : decode cX2_lay 244 = .ok (.iinc 4 1, 3) := by decide +kernel
theorem dX2_lay_247 : decode cX2_lay 247 = .ok (.goto (-231), 3) := by decide +kernel
theorem dX2_lay_250 : decode cX2_lay 250 = .ok (.aload_n 0, 1) := by decide +kernel
theorem dX2_lay_251 : decode cX2_lay 251 = .ok (.invokevirtual 90, 3) := by decide +kernel
theorem dX2_lay_254 : decode cX2_lay 254 = .ok (.return_, 1) := by decide +kernel
def sX2_lay_c243 (k16 : Hp → Nat → Nat → Int32 → Int32 → Int32 → Option Hp) (h : Hp) (r : Nat) (a1 : Nat) (v2 : Int32) (v3 : Int32) (v4 : Int32) (t0 : Int32) (t1 : Int32) : Option Hp :=
  gd (inb t1 10) (nm (u1 h (r + 2) t1.toNatClampNeg (vp_nar .boolean t0)) fun h23 => nm (v4 + (1 : Int32)) fun x24 => k16 h23 r a1 v2 v3 x24)
set_option maxRecDepth 10000 in
theorem vX2_lay_c243 (k16 : Hp → Nat → Nat → Int32 → Int32 → Int32 → Option Hp) (hk16 : ∀ (h : Hp) (r : Nat) (a1 : Nat) (v2 : Int32) (v3 : Int32) (v4 : Int32) (hr : ck r = 2) (ha1 : ck a1 = 1) (q : Hp), k16 h r a1 v2 v3 v4 = some q → V (Gs 2 (pV q)) mX2_lay (0, 0) 16 [(0, .ref r), (1, .ref a1), (2, .int v2), (3, .int v3), (4, .int v4)] [] h) (h : Hp) (r : Nat) (a1 : Nat) (v2 : Int32) (v3 : Int32) (v4 : Int32) (t0 : Int32) (t1 : Int32) (hr : ck r = 2) (ha1 : ck a1 = 1) (q : Hp) (e : sX2_lay_c243 k16 h r a1 v2 v3 v4 t0 t1 = some q) : V (Gs 2 (pV q)) mX2_lay (0, 0) 243 [(0, .ref r), (1, .ref a1), (2, .int v2), (3, .int v3), (4, .int v4)] [.int t0, .int t1, .ref (r + 2)] h := by
  unfold sX2_lay_c243 at e
  obtain ⟨c22, e⟩ := gd_s e
  obtain ⟨h23, eh23, e⟩ := nm_s e
  refine V.zast dX2_lay_243 (pc' := 244) rfl (akX2_2 hr).1 (akX2_2 hr).2 (inb_t c22) eh23 ?_
  obtain ⟨x24, ex24, e⟩ := nm_s e
  refine V.iinc dX2_lay_244 (pc' := 247) rfl (j := 4) rfl (v := 1) (by decide) (by decide) ex24 (L' := [(4, .int x24), (0, .ref r), (1, .ref a1), (2, .int v2), (3, .int v3)]) rfl ?_
  refine V.goto dX2_lay_247 (pc' := 16) (by decide) ?_
  refine V.pk [1, 2, 3, 4, 0] rfl ?_
  exact hk16 h23 r a1 v2 v3 x24 hr ha1 q e
def sX2_lay_c242 (k16 : Hp → Nat → Nat → Int32 → Int32 → Int32 → Option Hp) (h : Hp) (r : Nat) (a1 : Nat) (v2 : Int32) (v3 : Int32) (v4 : Int32) (t0 : Int32) : Option Hp :=
  sX2_lay_c243 k16 h r a1 v2 v3 v4 (0 : Int32) t0
set_option maxRecDepth 10000 in
theorem vX2_lay_c242 (k16 : Hp → Nat → Nat → Int32 → Int32 → Int32 → Option Hp) (hk16 : ∀ (h : Hp) (r : Nat) (a1 : Nat) (v2 : Int32) (v3 : Int32) (v4 : Int32) (hr : ck r = 2) (ha1 : ck a1 = 1) (q : Hp), k16 h r a1 v2 v3 v4 = some q → V (Gs 2 (pV q)) mX2_lay (0, 0) 16 [(0, .ref r), (1, .ref a1), (2, .int v2), (3, .int v3), (4, .int v4)] [] h) (h : Hp) (r : Nat) (a1 : Nat) (v2 : Int32) (v3 : Int32) (v4 : Int32) (t0 : Int32) (hr : ck r = 2) (ha1 : ck a1 = 1) (q : Hp) (e : sX2_lay_c242 k16 h r a1 v2 v3 v4 t0 = some q) : V (Gs 2 (pV q)) mX2_lay (0, 0) 242 [(0, .ref r), (1, .ref a1), (2, .int v2), (3, .int v3), (4, .int v4)] [.int t0, .ref (r + 2)] h := by
  unfold sX2_lay_c242 at e
  refine V.iconst dX2_lay_242 (pc' := 243) rfl (v := 0) (by decide) ?_
  exact vX2_lay_c243 k16 hk16 h r a1 v2 v3 v4 (0 : Int32) t0 hr ha1 q e
def sX2_lay_c219 (k16 : Hp → Nat → Nat → Int32 → Int32 → Int32 → Option Hp) (h : Hp) (r : Nat) (a1 : Nat) (v2 : Int32) (v3 : Int32) (v4 : Int32) (v5 : Int32) (v6 : Int32) (v8 : Int32) (t0 : Int32) (t1 : Int32) : Option Hp :=
  gd (inb t1 10) (nm (u1 h (r + 6) t1.toNatClampNeg t0) fun h21 => if v8 = 0 then (sX2_lay_c242 k16 h21 r a1 v2 v3 v4 v4) else (if v6 = v5 then (sX2_lay_c243 k16 h21 r a1 v2 v3 v4 (1 : Int32) v4) else (sX2_lay_c242 k16 h21 r a1 v2 v3 v4 v4)))
set_option maxRecDepth 10000 in
theorem vX2_lay_c219 (k16 : Hp → Nat → Nat → Int32 → Int32 → Int32 → Option Hp) (hk16 : ∀ (h : Hp) (r : Nat) (a1 : Nat) (v2 : Int32) (v3 : Int32) (v4 : Int32) (hr : ck r = 2) (ha1 : ck a1 = 1) (q : Hp), k16 h r a1 v2 v3 v4 = some q → V (Gs 2 (pV q)) mX2_lay (0, 0) 16 [(0, .ref r), (1, .ref a1), (2, .int v2), (3, .int v3), (4, .int v4)] [] h) (h : Hp) (r : Nat) (a1 : Nat) (v2 : Int32) (v3 : Int32) (v4 : Int32) (v5 : Int32) (v6 : Int32) (v8 : Int32) (t0 : Int32) (t1 : Int32) (hr : ck r = 2) (ha1 : ck a1 = 1) (q : Hp) (e : sX2_lay_c219 k16 h r a1 v2 v3 v4 v5 v6 v8 t0 t1 = some q) : V (Gs 2 (pV q)) mX2_lay (0, 0) 219 [(0, .ref r), (1, .ref a1), (2, .int v2), (3, .int v3), (4, .int v4), (5, .int v5), (6, .int v6), (8, .int v8)] [.int t0, .int t1, .ref (r + 6)] h := by
  unfold sX2_lay_c219 at e
  obtain ⟨c20, e⟩ := gd_s e
  obtain ⟨h21, eh21, e⟩ := nm_s e
  refine V.iast dX2_lay_219 (pc' := 220) rfl (akX2_6 hr).1 (akX2_6 hr).2 (inb_t c20) eh21 ?_
  refine V.alq dX2_lay_220 (pc' := 221) rfl (j := 0) rfl ?_
  refine V.getr dX2_lay_221 (pc' := 224) rfl FL_X2_22 hr (by decide) rfl (r' := r + 2) rfl ?_
  refine V.il dX2_lay_224 (pc' := 226) rfl (j := 4) rfl ?_
  refine V.il dX2_lay_226 (pc' := 228) rfl (j := 7) rfl ?_
  refine V.if_eq dX2_lay_228 (pc' := 231) rfl (tgt := 242) (by decide) (fun c => ?_) (fun c => ?_)
  · rw [if_pos c] at e
    refine V.pk [0, 1, 2, 3, 4] rfl ?_
    exact vX2_lay_c242 k16 hk16 h21 r a1 v2 v3 v4 v4 hr ha1 q e
  · rw [if_neg c] at e
    refine V.il dX2_lay_231 (pc' := 233) rfl (j := 6) rfl ?_
    refine V.il dX2_lay_233 (pc' := 235) rfl (j := 5) rfl ?_
    refine V.ic_ne dX2_lay_235 (pc' := 238) rfl (tgt := 242) (by decide) (fun c => ?_) (fun c => ?_)
    · rw [if_neg c] at e
      refine V.pk [0, 1, 2, 3, 4] rfl ?_
      exact vX2_lay_c242 k16 hk16 h21 r a1 v2 v3 v4 v4 hr ha1 q e
    · rw [if_pos c] at e
      refine V.iconst dX2_lay_238 (pc' := 239) rfl (v := 1) (by decide) ?_
      refine V.goto dX2_lay_239 (pc' := 243) (by decide) ?_
      refine V.pk [0, 1, 2, 3, 4] rfl ?_
      exact vX2_lay_c243 k16 hk16 h21 r a1 v2 v3 v4 (1 : Int32) v4 hr ha1 q e
def sX2_lay_c185 (k16 : Hp → Nat → Nat → Int32 → Int32 → Int32 → Option Hp) (h : Hp) (r : Nat) (a1 : Nat) (v2 : Int32) (v3 : Int32) (v4 : Int32) (v5 : Int32) (v6 : Int32) (v7 : Int32) (v8 : Int32) (t0 : Int32) (t1 : Int32) : Option Hp :=
  gd (inb t1 10) (nm (u1 h (r + 5) t1.toNatClampNeg t0) fun h18 => if v8 = 0 then (sX2_lay_c219 k16 h18 r a1 v2 v3 v4 v5 v6 v8 (0 : Int32) v4) else (gd (inb v4 10) (sX2_lay_c219 k16 h18 r a1 v2 v3 v4 v5 v6 v8 (((h18.1 (r + 3) v4.toNatClampNeg) * (h18.1 r 0)) * (v7 - v6)) v4)))
set_option maxRecDepth 10000 in
theorem vX2_lay_c185 (k16 : Hp → Nat → Nat → Int32 → Int32 → Int32 → Option Hp) (hk16 : ∀ (h : Hp) (r : Nat) (a1 : Nat) (v2 : Int32) (v3 : Int32) (v4 : Int32) (hr : ck r = 2) (ha1 : ck a1 = 1) (q : Hp), k16 h r a1 v2 v3 v4 = some q → V (Gs 2 (pV q)) mX2_lay (0, 0) 16 [(0, .ref r), (1, .ref a1), (2, .int v2), (3, .int v3), (4, .int v4)] [] h) (h : Hp) (r : Nat) (a1 : Nat) (v2 : Int32) (v3 : Int32) (v4 : Int32) (v5 : Int32) (v6 : Int32) (v7 : Int32) (v8 : Int32) (t0 : Int32) (t1 : Int32) (hr : ck r = 2) (ha1 : ck a1 = 1) (q : Hp) (e : sX2_lay_c185 k16 h r a1 v2 v3 v4 v5 v6 v7 v8 t0 t1 = some q) : V (Gs 2 (pV q)) mX2_lay (0, 0) 185 [(0, .ref r), (1, .ref a1), (2, .int v2), (3, .int v3), (4, .int v4), (5, .int v5), (6, .int v6), (7, .int v7), (8, .int v8)] [.int t0, .int t1, .ref (r + 5)] h := by
  unfold sX2_lay_c185 at e
  obtain ⟨c17, e⟩ := gd_s e
  obtain ⟨h18, eh18, e⟩ := nm_s e
  refine V.iast dX2_lay_185 (pc' := 186) rfl (akX2_5 hr).1 (akX2_5 hr).2 (inb_t c17) eh18 ?_
  refine V.alq dX2_lay_186 (pc' := 187) rfl (j := 0) rfl ?_
  refine V.getr dX2_lay_187 (pc' := 190) rfl FL_X2_35 hr (by decide) rfl (r' := r + 6) rfl ?_
  refine V.il dX2_lay_190 (pc' := 192) rfl (j := 4) rfl ?_
  refine V.il dX2_lay_192 (pc' := 194) rfl (j := 8) rfl ?_
  refine V.if_eq dX2_lay_194 (pc' := 197) rfl (tgt := 218) (by decide) (fun c => ?_) (fun c => ?_)
  · rw [if_pos c] at e
    refine V.iconst dX2_lay_218 (pc' := 219) rfl (v := 0) (by decide) ?_
    refine V.pk [0, 1, 2, 3, 4, 5, 6, 8] rfl ?_
    exact vX2_lay_c219 k16 hk16 h18 r a1 v2 v3 v4 v5 v6 v8 (0 : Int32) v4 hr ha1 q e
  · rw [if_neg c] at e
    refine V.alq dX2_lay_197 (pc' := 198) rfl (j := 0) rfl ?_
    refine V.getr dX2_lay_198 (pc' := 201) rfl FL_X2_25 hr (by decide) rfl (r' := r + 3) rfl ?_
    refine V.il dX2_lay_201 (pc' := 203) rfl (j := 4) rfl ?_
    obtain ⟨c19, e⟩ := gd_s e
    refine V.iald dX2_lay_203 (pc' := 204) rfl (akX2_3 hr).1 (akX2_3 hr).2 (inb_t c19) ?_
    refine V.alq dX2_lay_204 (pc' := 205) rfl (j := 0) rfl ?_
    refine V.getf dX2_lay_205 (pc' := 208) rfl FL_X2_65 hr (by decide) rfl ?_
    refine V.imul dX2_lay_208 (pc' := 209) rfl ?_
    refine V.il dX2_lay_209 (pc' := 211) rfl (j := 7) rfl ?_
    refine V.il dX2_lay_211 (pc' := 213) rfl (j := 6) rfl ?_
    refine V.isub dX2_lay_213 (pc' := 214) rfl ?_
    refine V.imul dX2_lay_214 (pc' := 215) rfl ?_
    refine V.goto dX2_lay_215 (pc' := 219) (by decide) ?_
    refine V.pk [0, 1, 2, 3, 4, 5, 6, 8] rfl ?_
    exact vX2_lay_c219 k16 hk16 h18 r a1 v2 v3 v4 v5 v6 v8 (((h18.1 (r + 3) v4.toNatClampNeg) * (h18.1 r 0)) * (v7 - v6)) v4 hr ha1 q e
def sX2_lay_c167 (k16 : Hp → Nat → Nat → Int32 → Int32 → Int32 → Option Hp) (h : Hp) (r : Nat) (a1 : Nat) (v2 : Int32) (v3 : Int32) (v4 : Int32) (v5 : Int32) (v6 : Int32) (v7 : Int32) (v8 : Int32) (t0 : Int32) (t1 : Int32) : Option Hp :=
  gd (inb t1 10) (nm (u1 h (r + 4) t1.toNatClampNeg t0) fun h16 => if v8 = 0 then (sX2_lay_c185 k16 h16 r a1 v2 v3 v4 v5 v6 v7 v8 (0 : Int32) v4) else (sX2_lay_c185 k16 h16 r a1 v2 v3 v4 v5 v6 v7 v8 v7 v4))
set_option maxRecDepth 10000 in
theorem vX2_lay_c167 (k16 : Hp → Nat → Nat → Int32 → Int32 → Int32 → Option Hp) (hk16 : ∀ (h : Hp) (r : Nat) (a1 : Nat) (v2 : Int32) (v3 : Int32) (v4 : Int32) (hr : ck r = 2) (ha1 : ck a1 = 1) (q : Hp), k16 h r a1 v2 v3 v4 = some q → V (Gs 2 (pV q)) mX2_lay (0, 0) 16 [(0, .ref r), (1, .ref a1), (2, .int v2), (3, .int v3), (4, .int v4)] [] h) (h : Hp) (r : Nat) (a1 : Nat) (v2 : Int32) (v3 : Int32) (v4 : Int32) (v5 : Int32) (v6 : Int32) (v7 : Int32) (v8 : Int32) (t0 : Int32) (t1 : Int32) (hr : ck r = 2) (ha1 : ck a1 = 1) (q : Hp) (e : sX2_lay_c167 k16 h r a1 v2 v3 v4 v5 v6 v7 v8 t0 t1 = some q) : V (Gs 2 (pV q)) mX2_lay (0, 0) 167 [(0, .ref r), (1, .ref a1), (2, .int v2), (3, .int v3), (4, .int v4), (5, .int v5), (6, .int v6), (7, .int v7), (8, .int v8)] [.int t0, .int t1, .ref (r + 4)] h := by
  unfold sX2_lay_c167 at e
  obtain ⟨c15, e⟩ := gd_s e
  obtain ⟨h16, eh16, e⟩ := nm_s e
  refine V.iast dX2_lay_167 (pc' := 168) rfl (akX2_4 hr).1 (akX2_4 hr).2 (inb_t c15) eh16 ?_
  refine V.alq dX2_lay_168 (pc' := 169) rfl (j := 0) rfl ?_
  refine V.getr dX2_lay_169 (pc' := 172) rfl FL_X2_32 hr (by decide) rfl (r' := r + 5) rfl ?_
  refine V.il dX2_lay_172 (pc' := 174) rfl (j := 4) rfl ?_
  refine V.il dX2_lay_174 (pc' := 176) rfl (j := 8) rfl ?_
  refine V.if_eq dX2_lay_176 (pc' := 179) rfl (tgt := 184) (by decide) (fun c => ?_) (fun c => ?_)
  · rw [if_pos c] at e
    refine V.iconst dX2_lay_184 (pc' := 185) rfl (v := 0) (by decide) ?_
    exact vX2_lay_c185 k16 hk16 h16 r a1 v2 v3 v4 v5 v6 v7 v8 (0 : Int32) v4 hr ha1 q e
  · rw [if_neg c] at e
    refine V.il dX2_lay_179 (pc' := 181) rfl (j := 7) rfl ?_
    refine V.goto dX2_lay_181 (pc' := 185) (by decide) ?_
    exact vX2_lay_c185 k16 hk16 h16 r a1 v2 v3 v4 v5 v6 v7 v8 v7 v4 hr ha1 q e
def sX2_lay_c148 (k16 : Hp → Nat → Nat → Int32 → Int32 → Int32 → Option Hp) (h : Hp) (r : Nat) (a1 : Nat) (v2 : Int32) (v3 : Int32) (v4 : Int32) (v5 : Int32) (v6 : Int32) (v7 : Int32) (t0 : Int32) : Option Hp :=
  if t0 = 0 then (sX2_lay_c167 k16 h r a1 v2 v3 v4 v5 v6 v7 t0 (0 : Int32) v4) else (sX2_lay_c167 k16 h r a1 v2 v3 v4 v5 v6 v7 t0 v6 v4)
set_option maxRecDepth 10000 in
theorem vX2_lay_c148 (k16 : Hp → Nat → Nat → Int32 → Int32 → Int32 → Option Hp) (hk16 : ∀ (h : Hp) (r : Nat) (a1 : Nat) (v2 : Int32) (v3 : Int32) (v4 : Int32) (hr : ck r = 2) (ha1 : ck a1 = 1) (q : Hp), k16 h r a1 v2 v3 v4 = some q → V (Gs 2 (pV q)) mX2_lay (0, 0) 16 [(0, .ref r), (1, .ref a1), (2, .int v2), (3, .int v3), (4, .int v4)] [] h) (h : Hp) (r : Nat) (a1 : Nat) (v2 : Int32) (v3 : Int32) (v4 : Int32) (v5 : Int32) (v6 : Int32) (v7 : Int32) (t0 : Int32) (hr : ck r = 2) (ha1 : ck a1 = 1) (q : Hp) (e : sX2_lay_c148 k16 h r a1 v2 v3 v4 v5 v6 v7 t0 = some q) : V (Gs 2 (pV q)) mX2_lay (0, 0) 148 [(0, .ref r), (1, .ref a1), (2, .int v2), (3, .int v3), (4, .int v4), (5, .int v5), (6, .int v6), (7, .int v7)] [.int t0] h := by
  unfold sX2_lay_c148 at e
  refine V.is dX2_lay_148 (pc' := 150) rfl (by decide) rfl (L' := [(8, .int t0), (0, .ref r), (1, .ref a1), (2, .int v2), (3, .int v3), (4, .int v4), (5, .int v5), (6, .int v6), (7, .int v7)]) rfl ?_
  refine V.alq dX2_lay_150 (pc' := 151) rfl (j := 1) rfl ?_
  refine V.getr dX2_lay_151 (pc' := 154) rfl FL_X2_29 hr (by decide) rfl (r' := r + 4) rfl ?_
  refine V.il dX2_lay_154 (pc' := 156) rfl (j := 5) rfl ?_
  refine V.il dX2_lay_156 (pc' := 158) rfl (j := 0) rfl ?_
  refine V.if_eq dX2_lay_158 (pc' := 161) rfl (tgt := 166) (by decide) (fun c => ?_) (fun c => ?_)
  · rw [if_pos c] at e
    refine V.iconst dX2_lay_166 (pc' := 167) rfl (v := 0) (by decide) ?_
    refine V.pk [1, 2, 3, 4, 5, 6, 7, 8, 0] rfl ?_
    exact vX2_lay_c167 k16 hk16 h r a1 v2 v3 v4 v5 v6 v7 t0 (0 : Int32) v4 hr ha1 q e
  · rw [if_neg c] at e
    refine V.il dX2_lay_161 (pc' := 163) rfl (j := 7) rfl ?_
    refine V.goto dX2_lay_163 (pc' := 167) (by decide) ?_
    refine V.pk [1, 2, 3, 4, 5, 6, 7, 8, 0] rfl ?_
    exact vX2_lay_c167 k16 hk16 h r a1 v2 v3 v4 v5 v6 v7 t0 v6 v4 hr ha1 q e
def sX2_lay_c128 (k16 : Hp → Nat → Nat → Int32 → Int32 → Int32 → Option Hp) (h : Hp) (r : Nat) (a1 : Nat) (v2 : Int32) (v3 : Int32) (v4 : Int32) (v5 : Int32) (v6 : Int32) (t0 : Int32) : Option Hp :=
  if ((h.1 r 0) * (t0 - v6)) ≤ 0 then (sX2_lay_c148 k16 h r a1 v2 v3 v4 v5 v6 t0 (0 : Int32)) else (sX2_lay_c148 k16 h r a1 v2 v3 v4 v5 v6 t0 (1 : Int32))
set_option maxRecDepth 10000 in
theorem vX2_lay_c128 (k16 : Hp → Nat → Nat → Int32 → Int32 → Int32 → Option Hp) (hk16 : ∀ (h : Hp) (r : Nat) (a1 : Nat) (v2 : Int32) (v3 : Int32) (v4 : Int32) (hr : ck r = 2) (ha1 : ck a1 = 1) (q : Hp), k16 h r a1 v2 v3 v4 = some q → V (Gs 2 (pV q)) mX2_lay (0, 0) 16 [(0, .ref r), (1, .ref a1), (2, .int v2), (3, .int v3), (4, .int v4)] [] h) (h : Hp) (r : Nat) (a1 : Nat) (v2 : Int32) (v3 : Int32) (v4 : Int32) (v5 : Int32) (v6 : Int32) (t0 : Int32) (hr : ck r = 2) (ha1 : ck a1 = 1) (q : Hp) (e : sX2_lay_c128 k16 h r a1 v2 v3 v4 v5 v6 t0 = some q) : V (Gs 2 (pV q)) mX2_lay (0, 0) 128 [(0, .ref r), (1, .ref a1), (2, .int v2), (3, .int v3), (4, .int v4), (5, .int v5), (6, .int v6)] [.int t0] h := by
  unfold sX2_lay_c128 at e
  refine V.is dX2_lay_128 (pc' := 130) rfl (by decide) rfl (L' := [(7, .int t0), (0, .ref r), (1, .ref a1), (2, .int v2), (3, .int v3), (4, .int v4), (5, .int v5), (6, .int v6)]) rfl ?_
  refine V.alq dX2_lay_130 (pc' := 131) rfl (j := 1) rfl ?_
  refine V.getf dX2_lay_131 (pc' := 134) rfl FL_X2_65 hr (by decide) rfl ?_
  refine V.il dX2_lay_134 (pc' := 136) rfl (j := 0) rfl ?_
  refine V.il dX2_lay_136 (pc' := 138) rfl (j := 7) rfl ?_
  refine V.isub dX2_lay_138 (pc' := 139) rfl ?_
  refine V.imul dX2_lay_139 (pc' := 140) rfl ?_
  refine V.if_le dX2_lay_140 (pc' := 143) rfl (tgt := 147) (by decide) (fun c => ?_) (fun c => ?_)
  · rw [if_pos c] at e
    refine V.iconst dX2_lay_147 (pc' := 148) rfl (v := 0) (by decide) ?_
    refine V.pk [1, 2, 3, 4, 5, 6, 7, 0] rfl ?_
    exact vX2_lay_c148 k16 hk16 h r a1 v2 v3 v4 v5 v6 t0 (0 : Int32) hr ha1 q e
  · rw [if_neg c] at e
    refine V.iconst dX2_lay_143 (pc' := 144) rfl (v := 1) (by decide) ?_
    refine V.goto dX2_lay_144 (pc' := 148) (by decide) ?_
    refine V.pk [1, 2, 3, 4, 5, 6, 7, 0] rfl ?_
    exact vX2_lay_c148 k16 hk16 h r a1 v2 v3 v4 v5 v6 t0 (1 : Int32) hr ha1 q e
def sX2_lay_c104 (k16 : Hp → Nat → Nat → Int32 → Int32 → Int32 → Option Hp) (h : Hp) (r : Nat) (a1 : Nat) (v2 : Int32) (v3 : Int32) (v4 : Int32) (v5 : Int32) (t0 : Int32) : Option Hp :=
  if (h.1 r 0) ≤ 0 then ((sX1_low h a1 v4).bind fun q13 => sX2_lay_c128 k16 q13.2 r a1 v2 v3 v4 v5 t0 q13.1) else ((sX1_high h a1 v4).bind fun q14 => sX2_lay_c128 k16 q14.2 r a1 v2 v3 v4 v5 t0 q14.1)
set_option maxRecDepth 10000 in
theorem vX2_lay_c104 (k16 : Hp → Nat → Nat → Int32 → Int32 → Int32 → Option Hp) (hk16 : ∀ (h : Hp) (r : Nat) (a1 : Nat) (v2 : Int32) (v3 : Int32) (v4 : Int32) (hr : ck r = 2) (ha1 : ck a1 = 1) (q : Hp), k16 h r a1 v2 v3 v4 = some q → V (Gs 2 (pV q)) mX2_lay (0, 0) 16 [(0, .ref r), (1, .ref a1), (2, .int v2), (3, .int v3), (4, .int v4)] [] h) (h : Hp) (r : Nat) (a1 : Nat) (v2 : Int32) (v3 : Int32) (v4 : Int32) (v5 : Int32) (t0 : Int32) (hr : ck r = 2) (ha1 : ck a1 = 1) (q : Hp) (e : sX2_lay_c104 k16 h r a1 v2 v3 v4 v5 t0 = some q) : V (Gs 2 (pV q)) mX2_lay (0, 0) 104 [(0, .ref r), (1, .ref a1), (2, .int v2), (3, .int v3), (4, .int v4), (5, .int v5)] [.int t0] h := by
  unfold sX2_lay_c104 at e
  refine V.is dX2_lay_104 (pc' := 106) rfl (by decide) rfl (L' := [(6, .int t0), (0, .ref r), (1, .ref a1), (2, .int v2), (3, .int v3), (4, .int v4), (5, .int v5)]) rfl ?_
  refine V.alq dX2_lay_106 (pc' := 107) rfl (j := 1) rfl ?_
  refine V.getf dX2_lay_107 (pc' := 110) rfl FL_X2_65 hr (by decide) rfl ?_
  refine V.if_le dX2_lay_110 (pc' := 113) rfl (tgt := 122) (by decide) (fun c => ?_) (fun c => ?_)
  · rw [if_pos c] at e
    refine V.alq dX2_lay_122 (pc' := 123) rfl (j := 2) rfl ?_
    refine V.il dX2_lay_123 (pc' := 125) rfl (j := 5) rfl ?_
    obtain ⟨q13, eq13, e⟩ := bd_s e
    refine V.callVi dX2_lay_125 (pc' := 128) rfl CV_X2_74 (as := [.int v4]) (kX1_low h a1 v4 q13 eq13) (Gs_rm (by decide)) ha1 (by decide) rfl (Nat.le_of_ble_eq_true rfl) rfl ?_
    refine V.pk [1, 2, 3, 4, 5, 6, 0] rfl ?_
    exact vX2_lay_c128 k16 hk16 q13.2 r a1 v2 v3 v4 v5 t0 q13.1 hr ha1 q e
  · rw [if_neg c] at e
    refine V.alq dX2_lay_113 (pc' := 114) rfl (j := 2) rfl ?_
    refine V.il dX2_lay_114 (pc' := 116) rfl (j := 5) rfl ?_
    obtain ⟨q14, eq14, e⟩ := bd_s e
    refine V.callVi dX2_lay_116 (pc' := 119) rfl CV_X2_84 (as := [.int v4]) (kX1_high h a1 v4 q14 eq14) (Gs_rm (by decide)) ha1 (by decide) rfl (Nat.le_of_ble_eq_true rfl) rfl ?_
    refine V.goto dX2_lay_119 (pc' := 128) (by decide) ?_
    refine V.pk [1, 2, 3, 4, 5, 6, 0] rfl ?_
    exact vX2_lay_c128 k16 hk16 q14.2 r a1 v2 v3 v4 v5 t0 q14.1 hr ha1 q e
def sX2_lay_c70 (k16 : Hp → Nat → Nat → Int32 → Int32 → Int32 → Option Hp) (h : Hp) (r : Nat) (a1 : Nat) (v2 : Int32) (v3 : Int32) (v4 : Int32) (t0 : Int32) : Option Hp :=
  if (h.1 r 0) ≤ 0 then ((sX1_high h a1 v4).bind fun q11 => sX2_lay_c104 k16 q11.2 r a1 v2 v3 v4 t0 (imin q11.1 t0)) else ((sX1_low h a1 v4).bind fun q12 => sX2_lay_c104 k16 q12.2 r a1 v2 v3 v4 t0 (imax q12.1 t0))
set_option maxRecDepth 10000 in
theorem vX2_lay_c70 (k16 : Hp → Nat → Nat → Int32 → Int32 → Int32 → Option Hp) (hk16 : ∀ (h : Hp) (r : Nat) (a1 : Nat) (v2 : Int32) (v3 : Int32) (v4 : Int32) (hr : ck r = 2) (ha1 : ck a1 = 1) (q : Hp), k16 h r a1 v2 v3 v4 = some q → V (Gs 2 (pV q)) mX2_lay (0, 0) 16 [(0, .ref r), (1, .ref a1), (2, .int v2), (3, .int v3), (4, .int v4)] [] h) (h : Hp) (r : Nat) (a1 : Nat) (v2 : Int32) (v3 : Int32) (v4 : Int32) (t0 : Int32) (hr : ck r = 2) (ha1 : ck a1 = 1) (q : Hp) (e : sX2_lay_c70 k16 h r a1 v2 v3 v4 t0 = some q) : V (Gs 2 (pV q)) mX2_lay (0, 0) 70 [(0, .ref r), (1, .ref a1), (2, .int v2), (3, .int v3), (4, .int v4)] [.int t0] h := by
  unfold sX2_lay_c70 at e
  refine V.is dX2_lay_70 (pc' := 72) rfl (by decide) rfl (L' := [(5, .int t0), (0, .ref r), (1, .ref a1), (2, .int v2), (3, .int v3), (4, .int v4)]) rfl ?_
  refine V.alq dX2_lay_72 (pc' := 73) rfl (j := 1) rfl ?_
  refine V.getf dX2_lay_73 (pc' := 76) rfl FL_X2_65 hr (by decide) rfl ?_
  refine V.if_le dX2_lay_76 (pc' := 79) rfl (tgt := 93) (by decide) (fun c => ?_) (fun c => ?_)
  · rw [if_pos c] at e
    refine V.alq dX2_lay_93 (pc' := 94) rfl (j := 2) rfl ?_
    refine V.il dX2_lay_94 (pc' := 96) rfl (j := 5) rfl ?_
    obtain ⟨q11, eq11, e⟩ := bd_s e
    refine V.callVi dX2_lay_96 (pc' := 99) rfl CV_X2_84 (as := [.int v4]) (kX1_high h a1 v4 q11 eq11) (Gs_rm (by decide)) ha1 (by decide) rfl (Nat.le_of_ble_eq_true rfl) rfl ?_
    refine V.il dX2_lay_99 (pc' := 101) rfl (j := 0) rfl ?_
    refine V.mmin dX2_lay_101 (pc' := 104) rfl (Gs_rm (by decide)) ML_X2_87 MS_imin MI_Math MC_imin (Nat.le_of_ble_eq_true rfl) ?_
    refine V.pk [1, 2, 3, 4, 5, 0] rfl ?_
    exact vX2_lay_c104 k16 hk16 q11.2 r a1 v2 v3 v4 t0 (imin q11.1 t0) hr ha1 q e
  · rw [if_neg c] at e
    refine V.alq dX2_lay_79 (pc' := 80) rfl (j := 2) rfl ?_
    refine V.il dX2_lay_80 (pc' := 82) rfl (j := 5) rfl ?_
    obtain ⟨q12, eq12, e⟩ := bd_s e
    refine V.callVi dX2_lay_82 (pc' := 85) rfl CV_X2_74 (as := [.int v4]) (kX1_low h a1 v4 q12 eq12) (Gs_rm (by decide)) ha1 (by decide) rfl (Nat.le_of_ble_eq_true rfl) rfl ?_
    refine V.il dX2_lay_85 (pc' := 87) rfl (j := 0) rfl ?_
    refine V.mmax dX2_lay_87 (pc' := 90) rfl (Gs_rm (by decide)) ML_X2_78 MS_imax MI_Math MC_imax (Nat.le_of_ble_eq_true rfl) ?_
    refine V.goto dX2_lay_90 (pc' := 104) (by decide) ?_
    refine V.pk [1, 2, 3, 4, 5, 0] rfl ?_
    exact vX2_lay_c104 k16 hk16 q12.2 r a1 v2 v3 v4 t0 (imax q12.1 t0) hr ha1 q e
def sX2_lay_c16 (k16 : Hp → Nat → Nat → Int32 → Int32 → Int32 → Option Hp) (h : Hp) (r : Nat) (a1 : Nat) (v2 : Int32) (v3 : Int32) (v4 : Int32) : Option Hp :=
  if (h.1 r 2) ≤ v4 then ((sX2_empty h r).bind fun q3 => some q3) else (gd (inb v4 10) (gd (inb v4 10) (nm (u1 h (r + 1) v4.toNatClampNeg (vp_nar .boolean (h.1 (a1 + 1) v4.toNatClampNeg))) fun h6 => gd (inb v4 10) (gd (inb v4 10) (nm (u1 h6 (r + 3) v4.toNatClampNeg (h6.1 (a1 + 4) v4.toNatClampNeg)) fun h9 => gd (inb v4 10) (if (h9.1 (a1 + 1) v4.toNatClampNeg) = 0 then (sX2_lay_c70 k16 h9 r a1 v2 v3 v4 v2) else (sX2_lay_c70 k16 h9 r a1 v2 v3 v4 (v2 + v3))))))))
set_option maxRecDepth 10000 in
theorem vX2_lay_c16 (k16 : Hp → Nat → Nat → Int32 → Int32 → Int32 → Option Hp) (hk16 : ∀ (h : Hp) (r : Nat) (a1 : Nat) (v2 : Int32) (v3 : Int32) (v4 : Int32) (hr : ck r = 2) (ha1 : ck a1 = 1) (q : Hp), k16 h r a1 v2 v3 v4 = some q → V (Gs 2 (pV q)) mX2_lay (0, 0) 16 [(0, .ref r), (1, .ref a1), (2, .int v2), (3, .int v3), (4, .int v4)] [] h) (h : Hp) (r : Nat) (a1 : Nat) (v2 : Int32) (v3 : Int32) (v4 : Int32) (hr : ck r = 2) (ha1 : ck a1 = 1) (q : Hp) (e : sX2_lay_c16 k16 h r a1 v2 v3 v4 = some q) : V (Gs 2 (pV q)) mX2_lay (0, 0) 16 [(0, .ref r), (1, .ref a1), (2, .int v2), (3, .int v3), (4, .int v4)] [] h := by
  unfold sX2_lay_c16 at e
  refine V.il dX2_lay_16 (pc' := 18) rfl (j := 4) rfl ?_
  refine V.alq dX2_lay_18 (pc' := 19) rfl (j := 0) rfl ?_
  refine V.getf dX2_lay_19 (pc' := 22) rfl FL_X2_15 hr (by decide) rfl ?_
  refine V.ic_ge dX2_lay_22 (pc' := 25) rfl (tgt := 250) (by decide) (fun c => ?_) (fun c => ?_)
  · rw [if_pos c] at e
    refine V.alq dX2_lay_250 (pc' := 251) rfl (j := 0) rfl ?_
    obtain ⟨q3, eq3, e⟩ := bd_s e
    refine V.callVv dX2_lay_251 (pc' := 254) rfl CV_X2_90 (as := []) (kX2_empty h r q3 eq3) (Gs_rm (by decide)) hr (by decide) rfl (Nat.le_of_ble_eq_true rfl) rfl ?_
    exact V.vret dX2_lay_254 rfl (fnV e)
  · rw [if_neg c] at e
    refine V.alq dX2_lay_25 (pc' := 26) rfl (j := 0) rfl ?_
    refine V.getr dX2_lay_26 (pc' := 29) rfl FL_X2_18 hr (by decide) rfl (r' := r + 1) rfl ?_
    refine V.il dX2_lay_29 (pc' := 31) rfl (j := 4) rfl ?_
    refine V.alq dX2_lay_31 (pc' := 32) rfl (j := 1) rfl ?_
    refine V.getr dX2_lay_32 (pc' := 35) rfl FL_X2_71 ha1 (by decide) rfl (r' := a1 + 1) rfl ?_
    refine V.il dX2_lay_35 (pc' := 37) rfl (j := 4) rfl ?_
    obtain ⟨c4, e⟩ := gd_s e
    refine V.zald dX2_lay_37 (pc' := 38) rfl (akX1_1 ha1).1 (akX1_1 ha1).2 (inb_t c4) ?_
    obtain ⟨c5, e⟩ := gd_s e
    obtain ⟨h6, eh6, e⟩ := nm_s e
    refine V.zast dX2_lay_38 (pc' := 39) rfl (akX2_1 hr).1 (akX2_1 hr).2 (inb_t c5) eh6 ?_
    refine V.alq dX2_lay_39 (pc' := 40) rfl (j := 0) rfl ?_
    refine V.getr dX2_lay_40 (pc' := 43) rfl FL_X2_25 hr (by decide) rfl (r' := r + 3) rfl ?_
    refine V.il dX2_lay_43 (pc' := 45) rfl (j := 4) rfl ?_
    refine V.alq dX2_lay_45 (pc' := 46) rfl (j := 1) rfl ?_
    refine V.getr dX2_lay_46 (pc' := 49) rfl FL_X2_73 ha1 (by decide) rfl (r' := a1 + 4) rfl ?_
    refine V.il dX2_lay_49 (pc' := 51) rfl (j := 4) rfl ?_
    obtain ⟨c7, e⟩ := gd_s e
    refine V.iald dX2_lay_51 (pc' := 52) rfl (akX1_4 ha1).1 (akX1_4 ha1).2 (inb_t c7) ?_
    obtain ⟨c8, e⟩ := gd_s e
    obtain ⟨h9, eh9, e⟩ := nm_s e
    refine V.iast dX2_lay_52 (pc' := 53) rfl (akX2_3 hr).1 (akX2_3 hr).2 (inb_t c8) eh9 ?_
    refine V.alq dX2_lay_53 (pc' := 54) rfl (j := 1) rfl ?_
    refine V.getr dX2_lay_54 (pc' := 57) rfl FL_X2_71 ha1 (by decide) rfl (r' := a1 + 1) rfl ?_
    refine V.il dX2_lay_57 (pc' := 59) rfl (j := 4) rfl ?_
    obtain ⟨c10, e⟩ := gd_s e
    refine V.zald dX2_lay_59 (pc' := 60) rfl (akX1_1 ha1).1 (akX1_1 ha1).2 (inb_t c10) ?_
    refine V.if_eq dX2_lay_60 (pc' := 63) rfl (tgt := 69) (by decide) (fun c => ?_) (fun c => ?_)
    · rw [if_pos c] at e
      refine V.ilq dX2_lay_69 (pc' := 70) rfl (j := 2) rfl ?_
      exact vX2_lay_c70 k16 hk16 h9 r a1 v2 v3 v4 v2 hr ha1 q e
    · rw [if_neg c] at e
      refine V.ilq dX2_lay_63 (pc' := 64) rfl (j := 2) rfl ?_
      refine V.ilq dX2_lay_64 (pc' := 65) rfl (j := 3) rfl ?_
      refine V.iadd dX2_lay_65 (pc' := 66) rfl ?_
      refine V.goto dX2_lay_66 (pc' := 70) (by decide) ?_
      exact vX2_lay_c70 k16 hk16 h9 r a1 v2 v3 v4 (v2 + v3) hr ha1 q e
def sX2_lay_b16 : Nat → Hp → Nat → Nat → Int32 → Int32 → Int32 → Option Hp
  | 0 => fun _ _ _ _ _ _ => none
  | n + 1 => sX2_lay_c16 (sX2_lay_b16 n)
theorem vX2_lay_b16 : ∀ (n : Nat) (h : Hp) (r : Nat) (a1 : Nat) (v2 : Int32) (v3 : Int32) (v4 : Int32) (hr : ck r = 2) (ha1 : ck a1 = 1) (q : Hp), sX2_lay_b16 n h r a1 v2 v3 v4 = some q → V (Gs 2 (pV q)) mX2_lay (0, 0) 16 [(0, .ref r), (1, .ref a1), (2, .int v2), (3, .int v3), (4, .int v4)] [] h
  | 0 => fun _ _ _ _ _ _ _ _ _ e => by cases e
  | n + 1 => fun h r a1 v2 v3 v4 hr ha1 q e => vX2_lay_c16 (sX2_lay_b16 n) (vX2_lay_b16 n) h r a1 v2 v3 v4 hr ha1 q e
def sX2_lay (h : Hp) (r : Nat) (a1 : Nat) (a2 : Int32) (a3 : Int32) : Option Hp :=
  gd (isC r 2) (gd (isC a1 1) (nm (u1 h r 1 a3) fun h1 => nm (u1 h1 r 2 (h1.1 a1 4)) fun h2 => sX2_lay_b16 FU h2 r a1 a2 a3 (0 : Int32)))
set_option maxRecDepth 10000 in
theorem kX2_lay (h : Hp) (r : Nat) (a1 : Nat) (a2 : Int32) (a3 : Int32) (q : Hp) (e : sX2_lay h r a1 a2 a3 = some q) : K 2 mX2_lay [.ref r, .ref a1, .int a2, .int a3] h (pV q) := by
  unfold sX2_lay at e
  obtain ⟨hr, e⟩ := gd_s e
  have hr := isC_t hr
  obtain ⟨ha1, e⟩ := gd_s e
  have ha1 := isC_t ha1
  refine K.ofV (by decide) rfl (Nat.le_of_ble_eq_true rfl) ?_
  show V (Gs 2 (pV q)) mX2_lay (0, 0) 0 [(0, .ref r), (1, .ref a1), (2, .int a2), (3, .int a3)] [] h
  refine V.alq dX2_lay_0 (pc' := 1) rfl (j := 0) rfl ?_
  refine V.ilq dX2_lay_1 (pc' := 2) rfl (j := 3) rfl ?_
  obtain ⟨h1, eh1, e⟩ := nm_s e
  refine V.putf dX2_lay_2 (pc' := 5) rfl FP_X2_9 hr (by decide) rfl eh1 ?_
  refine V.alq dX2_lay_5 (pc' := 6) rfl (j := 0) rfl ?_
  refine V.alq dX2_lay_6 (pc' := 7) rfl (j := 1) rfl ?_
  refine V.getf dX2_lay_7 (pc' := 10) rfl FL_X2_68 ha1 (by decide) rfl ?_
  obtain ⟨h2, eh2, e⟩ := nm_s e
  refine V.putf dX2_lay_10 (pc' := 13) rfl FP_X2_15 hr (by decide) rfl eh2 ?_
  refine V.iconst dX2_lay_13 (pc' := 14) rfl (v := 0) (by decide) ?_
  refine V.is dX2_lay_14 (pc' := 16) rfl (by decide) rfl (L' := [(4, .int (0 : Int32)), (0, .ref r), (1, .ref a1), (2, .int a2), (3, .int a3)]) rfl ?_
  refine V.pk [1, 2, 3, 4, 0] rfl ?_
  exact vX2_lay_b16 FU h2 r a1 a2 a3 (0 : Int32) hr ha1 q e

-- X2_spare (level 2)
theorem dX2_spare_0 : decode cX2_spare 0 = .ok (.aload_n 0, 1) := by decide +kernel
theorem dX2_spare_1 : decode cX2_spare 1 = .ok (.iload_n 1, 1) := by decide +kernel
theorem dX2_spare_2 : decode cX2_spare 2 = .ok (.iload_n 2, 1) := by decide +kernel
theorem dX2_spare_3 : decode cX2_spare 3 = .ok (.iload_n 3, 1) := by decide +kernel
theorem dX2_spare_4 : decode cX2_spare 4 = .ok (.iload 4, 2) := by decide +kernel
theorem dX2_spare_6 : decode cX2_spare 6 = .ok (.invokevirtual 103, 3) := by decide +kernel
theorem dX2_spare_9 : decode cX2_spare 9 = .ok (.aload_n 0, 1) := by decide +kernel
theorem dX2_spare_10 : decode cX2_spare 10 = .ok (.getfield 9, 3) := by decide +kernel
theorem dX2_spare_13 : decode cX2_spare 13 = .ok (.aload_n 0, 1) := by decide +kernel
theorem dX2_spare_14 : decode cX2_spare 14 = .ok (.iload_n 1, 1) := by decide +kernel
theorem dX2_spare_15 : decode cX2_spare 15 = .ok (.iload_n 2, 1) := by decide +kernel
theorem dX2_spare_16 : decode cX2_spare 16 = .ok (.invokevirtual 100, 3) := by decide +kernel
theorem dX2_spare_19 : decode cX2_spare 19 = .ok (.imul, 1) := by decide +kernel
theorem dX2_spare_20 : decode cX2_spare 20 = .ok (.isub, 1) := by decide +kernel
theorem dX2_spare_21 : decode cX2_spare 21 = .ok (.ireturn, 1) := by decide +kernel
def sX2_spare (h : Hp) (r : Nat) (a1 : Int32) (a2 : Int32) (a3 : Int32) (a4 : Int32) : Option (Int32 × Hp) :=
  gd (isC r 2) ((sX2_width h r a1 a2 a3 a4).bind fun q1 => (sX2_unit q1.2 r a1 a2).bind fun q2 => some ((q1.1 - ((q1.2.1 r 1) * q2.1)), q2.2))
set_option maxRecDepth 10000 in
theorem kX2_spare (h : Hp) (r : Nat) (a1 : Int32) (a2 : Int32) (a3 : Int32) (a4 : Int32) (q : (Int32 × Hp)) (e : sX2_spare h r a1 a2 a3 a4 = some q) : K 2 mX2_spare [.ref r, .int a1, .int a2, .int a3, .int a4] h (pI q) := by
  unfold sX2_spare at e
  obtain ⟨hr, e⟩ := gd_s e
  have hr := isC_t hr
  refine K.ofV (by decide) rfl (Nat.le_of_ble_eq_true rfl) ?_
  show V (Gs 2 (pI q)) mX2_spare (0, 0) 0 [(0, .ref r), (1, .int a1), (2, .int a2), (3, .int a3), (4, .int a4)] [] h
  refine V.alq dX2_spare_0 (pc' := 1) rfl (j := 0) rfl ?_
  refine V.ilq dX2_spare_1 (pc' := 2) rfl (j := 1) rfl ?_
  refine V.ilq dX2_spare_2 (pc' := 3) rfl (j := 2) rfl ?_
  refine V.ilq dX2_spare_3 (pc' := 4) rfl (j := 3) rfl ?_
  refine V.il dX2_spare_4 (pc' := 6) rfl (j := 4) rfl ?_
  obtain ⟨q1, eq1, e⟩ := bd_s e
  refine V.callVi dX2_spare_6 (pc' := 9) rfl CV_X2_103 (as := [.int a1, .int a2, .int a3, .int a4]) (kX2_width h r a1 a2 a3 a4 q1 eq1) (Gs_rm (by decide)) hr (by decide) rfl (Nat.le_of_ble_eq_true rfl) rfl ?_
  refine V.alq dX2_spare_9 (pc' := 10) rfl (j := 0) rfl ?_
  refine V.getf dX2_spare_10 (pc' := 13) rfl FL_X2_9 hr (by decide) rfl ?_
  refine V.alq dX2_spare_13 (pc' := 14) rfl (j := 0) rfl ?_
  refine V.ilq dX2_spare_14 (pc' := 15) rfl (j := 1) rfl ?_
  refine V.ilq dX2_spare_15 (pc' := 16) rfl (j := 2) rfl ?_
  obtain ⟨q2, eq2, e⟩ := bd_s e
  refine V.callVi dX2_spare_16 (pc' := 19) rfl CV_X2_100 (as := [.int a1, .int a2]) (kX2_unit q1.2 r a1 a2 q2 eq2) (Gs_rm (by decide)) hr (by decide) rfl (Nat.le_of_ble_eq_true rfl) rfl ?_
  refine V.imul dX2_spare_19 (pc' := 20) rfl ?_
  refine V.isub dX2_spare_20 (pc' := 21) rfl ?_
  exact V.iret dX2_spare_21 rfl (fnI e)

-- X2_widthOf (level 2)
theorem dX2_widthOf_0 : decode cX2_widthOf 0 = .ok (.iload_n 2, 1) := by decide +kernel
theorem dX2_widthOf_1 : decode cX2_widthOf 1 = .ok (.ifCond .eq 12, 3) := by decide +kernel
theorem dX2_widthOf_4 : decode cX2_widthOf 4 = .ok (.aload_n 0, 1) := by decide +kernel
theorem dX2_widthOf_5 : decode cX2_widthOf 5 = .ok (.getfield 47, 3) := by decide +kernel
theorem dX2_widthOf_8 : decode cX2_widthOf 8 = .ok (.iload_n 1, 1) := by decide +kernel
theorem dX2_widthOf_9 : decode cX2_widthOf 9 = .ok (.iaload, 1) := by decide +kernel
theorem dX2_widthOf_10 : decode cX2_widthOf 10 = .ok (.goto 4, 3) := by decide +kernel
theorem dX2_widthOf_13 : decode cX2_widthOf 13 = .ok (.iconst 0, 1) := by decide +kernel
theorem dX2_widthOf_14 : decode cX2_widthOf 14 = .ok (.istore_n 3, 1) := by decide +kernel
theorem dX2_widthOf_15 : decode cX2_widthOf 15 = .ok (.aload_n 0, 1) := by decide +kernel
theorem dX2_widthOf_16 : decode cX2_widthOf 16 = .ok (.getfield 41, 3) := by decide +kernel
theorem dX2_widthOf_19 : decode cX2_widthOf 19 = .ok (.iload_n 1, 1) := by decide +kernel
theorem dX2_widthOf_20 : decode cX2_widthOf 20 = .ok (.iaload, 1) := by decide +kernel
theorem dX2_widthOf_21 : decode cX2_widthOf 21 = .ok (.istore 4, 2) := by decide +kernel
theorem dX2_widthOf_23 : decode cX2_widthOf 23 = .ok (.aload_n 0, 1) := by decide +kernel
theorem dX2_widthOf_24 : decode cX2_widthOf 24 = .ok (.getfield 44, 3) := by decide +kernel
theorem dX2_widthOf_27 : decode cX2_widthOf 27 = .ok (.iload_n 1, 1) := by decide +kernel
theorem dX2_widthOf_28 : decode cX2_widthOf 28 = .ok (.iaload, 1) := by decide +kernel
theorem dX2_widthOf_29 : decode cX2_widthOf 29 = .ok (.istore 5, 2) := by decide +kernel
theorem dX2_widthOf_31 : decode cX2_widthOf 31 = .ok (.aload_n 0, 1) := by decide +kernel
theorem dX2_widthOf_32 : decode cX2_widthOf 32 = .ok (.iload 4, 2) := by decide +kernel
theorem dX2_widthOf_34 : decode cX2_widthOf 34 = .ok (.iload 5, 2) := by decide +kernel
theorem dX2_widthOf_36 : decode cX2_widthOf 36 = .ok (.aload_n 0, 1) := by decide +kernel
theorem dX2_widthOf_37 : decode cX2_widthOf 37 = .ok (.aload_n 0, 1) := by decide +kernel
theorem dX2_widthOf_38 : decode cX2_widthOf 38 = .ok (.getfield 47, 3) := by decide +kernel
theorem dX2_widthOf_41 : decode cX2_widthOf 41 = .ok (.iload_n 1, 1) := by decide +kernel
theorem dX2_widthOf_42 : decode cX2_widthOf 42 = .ok (.iload 4, 2) := by decide +kernel
theorem dX2_widthOf_44 : decode cX2_widthOf 44 = .ok (.invokevirtual 121, 3) := by decide +kernel
theorem dX2_widthOf_47 : decode cX2_widthOf 47 = .ok (.iload_n 3, 1) := by decide +kernel
theorem dX2_widthOf_48 : decode cX2_widthOf 48 = .ok (.iadd, 1) := by decide +kernel
theorem dX2_widthOf_49 : decode cX2_widthOf 49 = .ok (.aload_n 0, 1) := by decide +kernel
theorem dX2_widthOf_50 : decode cX2_widthOf 50 = .ok (.aload_n 0, 1) := by decide +kernel
theorem dX2_widthOf_51 : decode cX2_widthOf 51 = .ok (.getfield 47, 3) := by decide +kernel
theorem dX2_widthOf_54 : decode cX2_widthOf 54 = .ok (.iload_n 1, 1) := by decide +kernel
theorem dX2_widthOf_55 : decode cX2_widthOf 55 = .ok (.iload 5, 2) := by decide +kernel
theorem dX2_widthOf_57 : decode cX2_widthOf 57 = .ok (.invokevirtual 121, 3) := by decide +kernel
theorem dX2_widthOf_60 : decode cX2_widthOf 60 = .ok (.iload_n 3, 1) := by decide +kernel
theorem dX2_widthOf_61 : decode cX2_widthOf 61 = .ok (.iadd, 1) := by decide +kernel
theorem dX2_widthOf_62 : decode cX2_widthOf 62 = .ok (.invokevirtual 103, 3) := by decide +kernel
theorem dX2_widthOf_65 : decode cX2_widthOf 65 = .ok (.ireturn, 1) := by decide +kernel
def sX2_widthOf_c14 (h : Hp) (r : Nat) (v1 : Int32) (t0 : Int32) : Option (Int32 × Hp) :=
  gd (inb v1 24) (nm ((h.1 (r + 8) v1.toNatClampNeg)) fun x3 => gd (inb v1 24) (nm ((h.1 (r + 9) v1.toNatClampNeg)) fun x5 => (sX2_sumAhead h r (r + 10) v1 x3).bind fun q6 => (sX2_sumAhead q6.2 r (r + 10) v1 x5).bind fun q7 => (sX2_width q7.2 r x3 x5 (q6.1 + t0) (q7.1 + t0)).bind fun q8 => some (q8.1, q8.2)))
set_option maxRecDepth 10000 in
theorem vX2_widthOf_c14 (h : Hp) (r : Nat) (v1 : Int32) (t0 : Int32) (hr : ck r = 2) (q : (Int32 × Hp)) (e : sX2_widthOf_c14 h r v1 t0 = some q) : V (Gs 2 (pI q)) mX2_widthOf (0, 0) 14 [(0, .ref r), (1, .int v1)] [.int t0] h := by
  unfold sX2_widthOf_c14 at e
  refine V.isq dX2_widthOf_14 (pc' := 15) rfl (by decide) rfl (L' := [(3, .int t0), (0, .ref r), (1, .int v1)]) rfl ?_
  refine V.alq dX2_widthOf_15 (pc' := 16) rfl (j := 1) rfl ?_
  refine V.getr dX2_widthOf_16 (pc' := 19) rfl FL_X2_41 hr (by decide) rfl (r' := r + 8) rfl ?_
  refine V.ilq dX2_widthOf_19 (pc' := 20) rfl (j := 2) rfl ?_
  obtain ⟨c2, e⟩ := gd_s e
  refine V.iald dX2_widthOf_20 (pc' := 21) rfl (akX2_8 hr).1 (akX2_8 hr).2 (inb_t c2) ?_
  obtain ⟨x3, ex3, e⟩ := nm_s e
  refine V.is dX2_widthOf_21 (pc' := 23) rfl (by decide) ex3 (L' := [(4, .int x3), (3, .int t0), (0, .ref r), (1, .int v1)]) rfl ?_
  refine V.alq dX2_widthOf_23 (pc' := 24) rfl (j := 2) rfl ?_
  refine V.getr dX2_widthOf_24 (pc' := 27) rfl FL_X2_44 hr (by decide) rfl (r' := r + 9) rfl ?_
  refine V.ilq dX2_widthOf_27 (pc' := 28) rfl (j := 3) rfl ?_
  obtain ⟨c4, e⟩ := gd_s e
  refine V.iald dX2_widthOf_28 (pc' := 29) rfl (akX2_9 hr).1 (akX2_9 hr).2 (inb_t c4) ?_
  obtain ⟨x5, ex5, e⟩ := nm_s e
  refine V.is dX2_widthOf_29 (pc' := 31) rfl (by decide) ex5 (L' := [(5, .int x5), (4, .int x3), (3, .int t0), (0, .ref r), (1, .int v1)]) rfl ?_
  refine V.alq dX2_widthOf_31 (pc' := 32) rfl (j := 3) rfl ?_
  refine V.il dX2_widthOf_32 (pc' := 34) rfl (j := 1) rfl ?_
  refine V.il dX2_widthOf_34 (pc' := 36) rfl (j := 0) rfl ?_
  refine V.alq dX2_widthOf_36 (pc' := 37) rfl (j := 3) rfl ?_
  refine V.alq dX2_widthOf_37 (pc' := 38) rfl (j := 3) rfl ?_
  refine V.getr dX2_widthOf_38 (pc' := 41) rfl FL_X2_47 hr (by decide) rfl (r' := r + 10) rfl ?_
  refine V.ilq dX2_widthOf_41 (pc' := 42) rfl (j := 4) rfl ?_
  refine V.il dX2_widthOf_42 (pc' := 44) rfl (j := 1) rfl ?_
  obtain ⟨q6, eq6, e⟩ := bd_s e
  refine V.callVi dX2_widthOf_44 (pc' := 47) rfl CV_X2_121 (as := [.ref (r + 10), .int v1, .int x3]) (kX2_sumAhead h r (r + 10) v1 x3 q6 eq6) (Gs_rm (by decide)) hr (by decide) rfl (Nat.le_of_ble_eq_true rfl) rfl ?_
  refine V.ilq dX2_widthOf_47 (pc' := 48) rfl (j := 2) rfl ?_
  refine V.iadd dX2_widthOf_48 (pc' := 49) rfl ?_
  refine V.alq dX2_widthOf_49 (pc' := 50) rfl (j := 3) rfl ?_
  refine V.alq dX2_widthOf_50 (pc' := 51) rfl (j := 3) rfl ?_
  refine V.getr dX2_widthOf_51 (pc' := 54) rfl FL_X2_47 hr (by decide) rfl (r' := r + 10) rfl ?_
  refine V.ilq dX2_widthOf_54 (pc' := 55) rfl (j := 4) rfl ?_
  refine V.il dX2_widthOf_55 (pc' := 57) rfl (j := 0) rfl ?_
  obtain ⟨q7, eq7, e⟩ := bd_s e
  refine V.callVi dX2_widthOf_57 (pc' := 60) rfl CV_X2_121 (as := [.ref (r + 10), .int v1, .int x5]) (kX2_sumAhead q6.2 r (r + 10) v1 x5 q7 eq7) (Gs_rm (by decide)) hr (by decide) rfl (Nat.le_of_ble_eq_true rfl) rfl ?_
  refine V.ilq dX2_widthOf_60 (pc' := 61) rfl (j := 2) rfl ?_
  refine V.iadd dX2_widthOf_61 (pc' := 62) rfl ?_
  obtain ⟨q8, eq8, e⟩ := bd_s e
  refine V.callVi dX2_widthOf_62 (pc' := 65) rfl CV_X2_103 (as := [.int x3, .int x5, .int (q6.1 + t0), .int (q7.1 + t0)]) (kX2_width q7.2 r x3 x5 (q6.1 + t0) (q7.1 + t0) q8 eq8) (Gs_rm (by decide)) hr (by decide) rfl (Nat.le_of_ble_eq_true rfl) rfl ?_
  exact V.iret dX2_widthOf_65 rfl (fnI e)
def sX2_widthOf (h : Hp) (r : Nat) (a1 : Int32) (a2 : Int32) : Option (Int32 × Hp) :=
  gd (isC r 2) (if a2 = 0 then (sX2_widthOf_c14 h r a1 (0 : Int32)) else (gd (inb a1 24) (sX2_widthOf_c14 h r a1 (h.1 (r + 10) a1.toNatClampNeg))))
set_option maxRecDepth 10000 in
theorem kX2_widthOf (h : Hp) (r : Nat) (a1 : Int32) (a2 : Int32) (q : (Int32 × Hp)) (e : sX2_widthOf h r a1 a2 = some q) : K 2 mX2_widthOf [.ref r, .int a1, .int a2] h (pI q) := by
  unfold sX2_widthOf at e
  obtain ⟨hr, e⟩ := gd_s e
  have hr := isC_t hr
  refine K.ofV (by decide) rfl (Nat.le_of_ble_eq_true rfl) ?_
  show V (Gs 2 (pI q)) mX2_widthOf (0, 0) 0 [(0, .ref r), (1, .int a1), (2, .int a2)] [] h
  refine V.ilq dX2_widthOf_0 (pc' := 1) rfl (j := 2) rfl ?_
  refine V.if_eq dX2_widthOf_1 (pc' := 4) rfl (tgt := 13) (by decide) (fun c => ?_) (fun c => ?_)
  · rw [if_pos c] at e
    refine V.iconst dX2_widthOf_13 (pc' := 14) rfl (v := 0) (by decide) ?_
    refine V.pk [0, 1] rfl ?_
    exact vX2_widthOf_c14 h r a1 (0 : Int32) hr q e
  · rw [if_neg c] at e
    refine V.alq dX2_widthOf_4 (pc' := 5) rfl (j := 0) rfl ?_
    refine V.getr dX2_widthOf_5 (pc' := 8) rfl FL_X2_47 hr (by decide) rfl (r' := r + 10) rfl ?_
    refine V.ilq dX2_widthOf_8 (pc' := 9) rfl (j := 1) rfl ?_
    obtain ⟨c1, e⟩ := gd_s e
    refine V.iald dX2_widthOf_9 (pc' := 10) rfl (akX2_10 hr).1 (akX2_10 hr).2 (inb_t c1) ?_
    refine V.goto dX2_widthOf_10 (pc' := 14) (by decide) ?_
    refine V.pk [0, 1] rfl ?_
    exact vX2_widthOf_c14 h r a1 (h.1 (r + 10) a1.toNatClampNeg) hr q e

-- X2_findRing (level 2)
theorem dX2_findRing_0 : decode cX2_findRing 0 = .ok (.aload_n 0, 1) := by decide +kernel
theorem dX2_findRing_1 : decode cX2_findRing 1 = .ok (.iload_n 1, 1) := by decide +kernel
theorem dX2_findRing_2 : decode cX2_findRing 2 = .ok (.invokevirtual 133, 3) := by decide +kernel
theorem dX2_findRing_5 : decode cX2_findRing 5 = .ok (.aload_n 0, 1) := by decide +kernel
theorem dX2_findRing_6 : decode cX2_findRing 6 = .ok (.getfield 44, 3) := by decide +kernel
theorem dX2_findRing_9 : decode cX2_findRing 9 = .ok (.iload_n 1, 1) := by decide +kernel
theorem dX2_findRing_10 : decode cX2_findRing 10 = .ok (.iaload, 1) := by decide +kernel
theorem dX2_findRing_11 : decode cX2_findRing 11 = .ok (.istore_n 2, 1) := by decide +kernel
theorem dX2_findRing_12 : decode cX2_findRing 12 = .ok (.aload_n 0, 1) := by decide +kernel
theorem dX2_findRing_13 : decode cX2_findRing 13 = .ok (.getfield 56, 3) := by decide +kernel
theorem dX2_findRing_16 : decode cX2_findRing 16 = .ok (.iconst 0, 1) := by decide +kernel
theorem dX2_findRing_17 : decode cX2_findRing 17 = .ok (.iload_n 1, 1) := by decide +kernel
theorem dX2_findRing_18 : decode cX2_findRing 18 = .ok (.iastore, 1) := by decide +kernel
theorem dX2_findRing_19 : decode cX2_findRing 19 = .ok (.aload_n 0, 1) := by decide +kernel
theorem dX2_findRing_20 : decode cX2_findRing 20 = .ok (.iconst 1, 1) := by decide +kernel
theorem dX2_findRing_21 : decode cX2_findRing 21 = .ok (.putfield 59, 3) := by decide +kernel
theorem dX2_findRing_24 : decode cX2_findRing 24 = .ok (.aload_n 0, 1) := by decide +kernel
theorem dX2_findRing_25 : decode cX2_findRing 25 = .ok (.getfield 62, 3) := by decide +kernel
theorem dX2_findRing_28 : decode cX2_findRing 28 = .ok (.iload_n 2, 1) := by decide +kernel
theorem dX2_findRing_29 : decode cX2_findRing 29 = .ok (.iaload, 1) := by decide +kernel
theorem dX2_findRing_30 : decode cX2_findRing 30 = .ok (.istore_n 3, 1) := by decide +kernel
theorem dX2_findRing_31 : decode cX2_findRing 31 = .ok (.iload_n 3, 1) := by decide +kernel
theorem dX2_findRing_32 : decode cX2_findRing 32 = .ok (.ifCond .le 69, 3) := by decide +kernel
theorem dX2_findRing_35 : decode cX2_findRing 35 = .ok (.aload_n 0, 1) := by decide +kernel
theorem dX2_findRing_36 : decode cX2_findRing 36 = .ok (.getfield 59, 3) := by decide +kernel
theorem dX2_findRing_39 : decode cX2_findRing 39 = .ok (.aload_n 0, 1) := by decide +kernel
theorem dX2_findRing_40 : decode cX2_findRing 40 = .ok (.getfield 56, 3) := by decide +kernel
theorem dX2_findRing_43 : decode cX2_findRing 43 = .ok (.arraylength, 1) := by decide +kernel
theorem dX2_findRing_44 : decode cX2_findRing 44 = .ok (.if_icmp .ge 57, 3) := by decide +kernel
theorem dX2_findRing_47 : decode cX2_findRing 47 = .ok (.aload_n 0, 1) := by decide +kernel
theorem dX2_findRing_48 : decode cX2_findRing 48 = .ok (.iload_n 1, 1) := by decide +kernel
theorem dX2_findRing_49 : decode cX2_findRing 49 = .ok (.iload_n 2, 1) := by decide +kernel
theorem dX2_findRing_50 : decode cX2_findRing 50 = .ok (.iload_n 3, 1) := by decide +kernel
theorem dX2_findRing_51 : decode cX2_findRing 51 = .ok (.iconst 1, 1) := by decide +kernel
theorem dX2_findRing_52 : decode cX2_findRing 52 = .ok (.isub, 1) := by decide +kernel
theorem dX2_findRing_53 : decode cX2_findRing 53 = .ok (.invokevirtual 137, 3) := by decide +kernel
theorem dX2_findRing_56 : decode cX2_findRing 56 = .ok (.istore 4, 2) := by decide +kernel
theorem dX2_findRing_58 : decode cX2_findRing 58 = .ok (.iload 4, 2) := by decide +kernel
theorem dX2_findRing_60 : decode cX2_findRing 60 = .ok (.iconst (-1), 1) := by decide +kernel
theorem dX2_findRing_61 : decode cX2_findRing 61 = .ok (.if_icmp .ne 5, 3) := by decide +kernel
theorem dX2_findRing_64 : decode cX2_findRing 64 = .ok (.iconst 0, 1) := by decide +kernel
theorem dX2_findRing_65 : decode cX2_findRing 65 = .ok (.ireturn, 1) := by decide +kernel
theorem dX2_findRing_66 : decode cX2_findRing 66 = .ok (.aload_n 0, 1) := by decide +kernel
theorem dX2_findRing_67 : decode cX2_findRing 67 = .ok (.getfield 56, 3) := by decide +kernel
theorem dX2_findRing_70 : decode cX2_findRing 70 = .ok (.aload_n 0, 1) := by decide +kernel
theorem dX2_findRing_71 : decode cX2_findRing 71 = .ok (.getfield 59, 3) := by decide +kernel
theorem dX2_findRing_74 : decode cX2_findRing 74 = .ok (.iload 4, 2) := by decide +kernel
theorem dX2_findRing_76 : decode cX2_findRing 76 = .ok (.iastore, 1) := by decide +kernel
theorem dX2_findRing_77 : decode cX2_findRing 77 = .ok (.aload_n 0, 1) := by decide +kernel
theorem dX2_findRing_78 : decode cX2_findRing 78 = .ok (.dup, 1) := by decide +kernel
theorem dX2_findRing_79 : decode cX2_findRing 79 = .ok (.getfield 59, 3) := by decide +kernel
theorem dX2_findRing_82 : decode cX2_findRing 82 = .ok (.iconst 1, 1) := by decide +kernel
theorem dX2_findRing_83 : decode cX2_findRing 83 = .ok (.iadd, 1) := by decide +kernel
theorem dX2_findRing_84 : decode cX2_findRing 84 = .ok (.putfield 59, 3) := by decide +kernel
theorem dX2_findRing_87 : decode cX2_findRing 87 = .ok (.aload_n 0, 1) := by decide +kernel
theorem dX2_findRing_88 : decode cX2_findRing 88 = .ok (.iload 4, 2) := by decide +kernel
theorem dX2_findRing_90 : decode cX2_findRing 90 = .ok (.iload_n 2, 1) := by decide +kernel
theorem dX2_findRing_91 : decode cX2_findRing 91 = .ok (.invokevirtual 141, 3) := by decide +kernel
theorem dX2_findRing_94 : decode cX2_findRing 94 = .ok (.istore_n 2, 1) := by decide +kernel
theorem dX2_findRing_95 : decode cX2_findRing 95 = .ok (.iinc 3 (-1), 3) := by decide +kernel
theorem dX2_findRing_98 : decode cX2_findRing 98 = .ok (.goto (-67), 3) := by decide +kernel
theorem dX2_findRing_101 : decode cX2_findRing 101 = .ok (.iload_n 2, 1) := by decide +kernel
theorem dX2_findRing_102 : decode cX2_findRing 102 = .ok (.aload_n 0, 1) := by decide +kernel
theorem dX2_findRing_103 : decode cX2_findRing 103 = .ok (.getfield 41, 3) := by decide +kernel
theorem dX2_findRing_106 : decode cX2_findRing 106 = .ok (.iload_n 1, 1) := by decide +kernel
theorem dX2_findRing_107 : decode cX2_findRing 107 = .ok (.iaload, 1) := by decide +kernel
theorem dX2_findRing_108 : decode cX2_findRing 108 = .ok (.if_icmp .ne 7, 3) := by decide +kernel
theorem dX2_findRing_111 : decode cX2_findRing 111 = .ok (.iconst 1, 1) := by decide +kernel
theorem dX2_findRing_112 : decode cX2_findRing 112 = .ok (.goto 4, 3) := by decide +kernel
theorem dX2_findRing_115 : decode cX2_findRing 115 = .ok (.iconst 0, 1) := by decide +kernel
theorem dX2_findRing_116 : decode cX2_findRing 116 = .ok (.ireturn, 1) := by decide +kernel
def sX2_findRing_c116 (h : Hp) (t0 : Int32) : Option (Int32 × Hp) :=
  gd (zb t0) (some (t0, h))
set_option maxRecDepth 10000 in
theorem vX2_findRing_c116 (h : Hp) (t0 : Int32) (q : (Int32 × Hp)) (e : sX2_findRing_c116 h t0 = some q) : V (Gs 2 (pI q)) mX2_findRing (0, 0) 116 [] [.int t0] h := by
  unfold sX2_findRing_c116 at e
  obtain ⟨c15, e⟩ := gd_s e
  exact V.zret dX2_findRing_116 rfl (zb_t c15) (fnI e)
def sX2_findRing_c101 (h : Hp) (r : Nat) (v1 : Int32) (v2 : Int32) : Option (Int32 × Hp) :=
  gd (inb v1 24) (if v2 = (h.1 (r + 8) v1.toNatClampNeg) then (sX2_findRing_c116 h (1 : Int32)) else (sX2_findRing_c116 h (0 : Int32)))
set_option maxRecDepth 10000 in
theorem vX2_findRing_c101 (h : Hp) (r : Nat) (v1 : Int32) (v2 : Int32) (hr : ck r = 2) (q : (Int32 × Hp)) (e : sX2_findRing_c101 h r v1 v2 = some q) : V (Gs 2 (pI q)) mX2_findRing (0, 0) 101 [(0, .ref r), (1, .int v1), (2, .int v2)] [] h := by
  unfold sX2_findRing_c101 at e
  refine V.ilq dX2_findRing_101 (pc' := 102) rfl (j := 2) rfl ?_
  refine V.alq dX2_findRing_102 (pc' := 103) rfl (j := 0) rfl ?_
  refine V.getr dX2_findRing_103 (pc' := 106) rfl FL_X2_41 hr (by decide) rfl (r' := r + 8) rfl ?_
  refine V.ilq dX2_findRing_106 (pc' := 107) rfl (j := 1) rfl ?_
  obtain ⟨c14, e⟩ := gd_s e
  refine V.iald dX2_findRing_107 (pc' := 108) rfl (akX2_8 hr).1 (akX2_8 hr).2 (inb_t c14) ?_
  refine V.ic_ne dX2_findRing_108 (pc' := 111) rfl (tgt := 115) (by decide) (fun c => ?_) (fun c => ?_)
  · rw [if_neg c] at e
    refine V.iconst dX2_findRing_115 (pc' := 116) rfl (v := 0) (by decide) ?_
    refine V.pk [] rfl ?_
    exact vX2_findRing_c116 h (0 : Int32) q e
  · rw [if_pos c] at e
    refine V.iconst dX2_findRing_111 (pc' := 112) rfl (v := 1) (by decide) ?_
    refine V.goto dX2_findRing_112 (pc' := 116) (by decide) ?_
    refine V.pk [] rfl ?_
    exact vX2_findRing_c116 h (1 : Int32) q e
def sX2_findRing_c31 (k31 : Hp → Nat → Int32 → Int32 → Int32 → Option (Int32 × Hp)) (h : Hp) (r : Nat) (v1 : Int32) (v2 : Int32) (v3 : Int32) : Option (Int32 × Hp) :=
  if v3 ≤ 0 then (sX2_findRing_c101 h r v1 v2) else (if (10 : Int32) ≤ (h.1 r 16) then (sX2_findRing_c101 h r v1 v2) else ((sX2_firstTowards h r v1 v2 (v3 - (1 : Int32))).bind fun q8 => if q8.1 = (-1 : Int32) then (some ((0 : Int32), q8.2)) else (gd (inb (q8.2.1 r 16) 10) (nm (u1 q8.2 (r + 12) (q8.2.1 r 16).toNatClampNeg q8.1) fun h10 => nm (u1 h10 r 16 ((h10.1 r 16) + (1 : Int32))) fun h11 => (sX2_otherEnd h11 r q8.1 v2).bind fun q12 => nm (v3 + (-1 : Int32)) fun x13 => k31 q12.2 r v1 q12.1 x13))))
set_option maxRecDepth 10000 in
theorem vX2_findRing_c31 (k31 : Hp → Nat → Int32 → Int32 → Int32 → Option (Int32 × Hp)) (hk31 : ∀ (h : Hp) (r : Nat) (v1 : Int32) (v2 : Int32) (v3 : Int32) (hr : ck r = 2) (q : (Int32 × Hp)), k31 h r v1 v2 v3 = some q → V (Gs 2 (pI q)) mX2_findRing (0, 0) 31 [(0, .ref r), (1, .int v1), (2, .int v2), (3, .int v3)] [] h) (h : Hp) (r : Nat) (v1 : Int32) (v2 : Int32) (v3 : Int32) (hr : ck r = 2) (q : (Int32 × Hp)) (e : sX2_findRing_c31 k31 h r v1 v2 v3 = some q) : V (Gs 2 (pI q)) mX2_findRing (0, 0) 31 [(0, .ref r), (1, .int v1), (2, .int v2), (3, .int v3)] [] h := by
  unfold sX2_findRing_c31 at e
  refine V.ilq dX2_findRing_31 (pc' := 32) rfl (j := 3) rfl ?_
  refine V.if_le dX2_findRing_32 (pc' := 35) rfl (tgt := 101) (by decide) (fun c => ?_) (fun c => ?_)
  · rw [if_pos c] at e
    refine V.pk [0, 1, 2] rfl ?_
    exact vX2_findRing_c101 h r v1 v2 hr q e
  · rw [if_neg c] at e
    refine V.alq dX2_findRing_35 (pc' := 36) rfl (j := 0) rfl ?_
    refine V.getf dX2_findRing_36 (pc' := 39) rfl FL_X2_59 hr (by decide) rfl ?_
    refine V.alq dX2_findRing_39 (pc' := 40) rfl (j := 0) rfl ?_
    refine V.getr dX2_findRing_40 (pc' := 43) rfl FL_X2_56 hr (by decide) rfl (r' := r + 12) rfl ?_
    refine V.alenI dX2_findRing_43 (pc' := 44) rfl (akX2_12 hr).1 (v := 10) (by rw [(akX2_12 hr).2]; decide) ?_
    refine V.ic_ge dX2_findRing_44 (pc' := 47) rfl (tgt := 101) (by decide) (fun c => ?_) (fun c => ?_)
    · rw [if_pos c] at e
      refine V.pk [0, 1, 2] rfl ?_
      exact vX2_findRing_c101 h r v1 v2 hr q e
    · rw [if_neg c] at e
      refine V.alq dX2_findRing_47 (pc' := 48) rfl (j := 0) rfl ?_
      refine V.ilq dX2_findRing_48 (pc' := 49) rfl (j := 1) rfl ?_
      refine V.ilq dX2_findRing_49 (pc' := 50) rfl (j := 2) rfl ?_
      refine V.ilq dX2_findRing_50 (pc' := 51) rfl (j := 3) rfl ?_
      refine V.iconst dX2_findRing_51 (pc' := 52) rfl (v := 1) (by decide) ?_
      refine V.isub dX2_findRing_52 (pc' := 53) rfl ?_
      obtain ⟨q8, eq8, e⟩ := bd_s e
      refine V.callVi dX2_findRing_53 (pc' := 56) rfl CV_X2_137 (as := [.int v1, .int v2, .int (v3 - (1 : Int32))]) (kX2_firstTowards h r v1 v2 (v3 - (1 : Int32)) q8 eq8) (Gs_rm (by decide)) hr (by decide) rfl (Nat.le_of_ble_eq_true rfl) rfl ?_
      refine V.is dX2_findRing_56 (pc' := 58) rfl (by decide) rfl (L' := [(4, .int q8.1), (0, .ref r), (1, .int v1), (2, .int v2), (3, .int v3)]) rfl ?_
      refine V.il dX2_findRing_58 (pc' := 60) rfl (j := 0) rfl ?_
      refine V.iconst dX2_findRing_60 (pc' := 61) rfl (v := -1) (by decide) ?_
      refine V.ic_ne dX2_findRing_61 (pc' := 64) rfl (tgt := 66) (by decide) (fun c => ?_) (fun c => ?_)
      · rw [if_neg c] at e
        refine V.alq dX2_findRing_66 (pc' := 67) rfl (j := 1) rfl ?_
        refine V.getr dX2_findRing_67 (pc' := 70) rfl FL_X2_56 hr (by decide) rfl (r' := r + 12) rfl ?_
        refine V.alq dX2_findRing_70 (pc' := 71) rfl (j := 1) rfl ?_
        refine V.getf dX2_findRing_71 (pc' := 74) rfl FL_X2_59 hr (by decide) rfl ?_
        refine V.il dX2_findRing_74 (pc' := 76) rfl (j := 0) rfl ?_
        obtain ⟨c9, e⟩ := gd_s e
        obtain ⟨h10, eh10, e⟩ := nm_s e
        refine V.iast dX2_findRing_76 (pc' := 77) rfl (akX2_12 hr).1 (akX2_12 hr).2 (inb_t c9) eh10 ?_
        refine V.alq dX2_findRing_77 (pc' := 78) rfl (j := 1) rfl ?_
        refine V.dup dX2_findRing_78 (pc' := 79) rfl rfl ?_
        refine V.getf dX2_findRing_79 (pc' := 82) rfl FL_X2_59 hr (by decide) rfl ?_
        refine V.iconst dX2_findRing_82 (pc' := 83) rfl (v := 1) (by decide) ?_
        refine V.iadd dX2_findRing_83 (pc' := 84) rfl ?_
        obtain ⟨h11, eh11, e⟩ := nm_s e
        refine V.putf dX2_findRing_84 (pc' := 87) rfl FP_X2_59 hr (by decide) rfl eh11 ?_
        refine V.alq dX2_findRing_87 (pc' := 88) rfl (j := 1) rfl ?_
        refine V.il dX2_findRing_88 (pc' := 90) rfl (j := 0) rfl ?_
        refine V.ilq dX2_findRing_90 (pc' := 91) rfl (j := 3) rfl ?_
        obtain ⟨q12, eq12, e⟩ := bd_s e
        refine V.callVi dX2_findRing_91 (pc' := 94) rfl CV_X2_141 (as := [.int q8.1, .int v2]) (kX2_otherEnd h11 r q8.1 v2 q12 eq12) (Gs_rm (by decide)) hr (by decide) rfl (Nat.le_of_ble_eq_true rfl) rfl ?_
        refine V.isq dX2_findRing_94 (pc' := 95) rfl (by decide) rfl (L' := [(2, .int q12.1), (4, .int q8.1), (0, .ref r), (1, .int v1), (3, .int v3)]) rfl ?_
        obtain ⟨x13, ex13, e⟩ := nm_s e
        refine V.iinc dX2_findRing_95 (pc' := 98) rfl (j := 4) rfl (v := -1) (by decide) (by decide) ex13 (L' := [(3, .int x13), (2, .int q12.1), (4, .int q8.1), (0, .ref r), (1, .int v1)]) rfl ?_
        refine V.goto dX2_findRing_98 (pc' := 31) (by decide) ?_
        refine V.pk [3, 4, 1, 0] rfl ?_
        exact hk31 q12.2 r v1 q12.1 x13 hr q e
      · rw [if_pos c] at e
        refine V.iconst dX2_findRing_64 (pc' := 65) rfl (v := 0) (by decide) ?_
        exact V.zret dX2_findRing_65 rfl (Or.inl rfl) (fnI e)
def sX2_findRing_b31 : Nat → Hp → Nat → Int32 → Int32 → Int32 → Option (Int32 × Hp)
  | 0 => fun _ _ _ _ _ => none
  | n + 1 => sX2_findRing_c31 (sX2_findRing_b31 n)
theorem vX2_findRing_b31 : ∀ (n : Nat) (h : Hp) (r : Nat) (v1 : Int32) (v2 : Int32) (v3 : Int32) (hr : ck r = 2) (q : (Int32 × Hp)), sX2_findRing_b31 n h r v1 v2 v3 = some q → V (Gs 2 (pI q)) mX2_findRing (0, 0) 31 [(0, .ref r), (1, .int v1), (2, .int v2), (3, .int v3)] [] h
  | 0 => fun _ _ _ _ _ _ _ e => by cases e
  | n + 1 => fun h r v1 v2 v3 hr q e => vX2_findRing_c31 (sX2_findRing_b31 n) (vX2_findRing_b31 n) h r v1 v2 v3 hr q e
def sX2_findRing (h : Hp) (r : Nat) (a1 : Int32) : Option (Int32 × Hp) :=
  gd (isC r 2) ((sX2_markSteps h r a1).bind fun q1 => gd (inb a1 24) (nm ((q1.1 (r + 9) a1.toNatClampNeg)) fun x3 => nm (u1 q1 (r + 12) (0 : Int32).toNatClampNeg a1) fun h4 => nm (u1 h4 r 16 (1 : Int32)) fun h5 => gd (inb x3 10) (nm ((h5.1 (r + 13) x3.toNatClampNeg)) fun x7 => sX2_findRing_b31 FU h5 r a1 x3 x7)))
set_option maxRecDepth 10000 in
theorem kX2_findRing (h : Hp) (r : Nat) (a1 : Int32) (q : (Int32 × Hp)) (e : sX2_findRing h r a1 = some q) : K 2 mX2_findRing [.ref r, .int a1] h (pI q) := by
  unfold sX2_findRing at e
  obtain ⟨hr, e⟩ := gd_s e
  have hr := isC_t hr
  refine K.ofV (by decide) rfl (Nat.le_of_ble_eq_true rfl) ?_
  show V (Gs 2 (pI q)) mX2_findRing (0, 0) 0 [(0, .ref r), (1, .int a1)] [] h
  refine V.alq dX2_findRing_0 (pc' := 1) rfl (j := 0) rfl ?_
  refine V.ilq dX2_findRing_1 (pc' := 2) rfl (j := 1) rfl ?_
  obtain ⟨q1, eq1, e⟩ := bd_s e
  refine V.callVv dX2_findRing_2 (pc' := 5) rfl CV_X2_133 (as := [.int a1]) (kX2_markSteps h r a1 q1 eq1) (Gs_rm (by decide)) hr (by decide) rfl (Nat.le_of_ble_eq_true rfl) rfl ?_
  refine V.alq dX2_findRing_5 (pc' := 6) rfl (j := 0) rfl ?_
  refine V.getr dX2_findRing_6 (pc' := 9) rfl FL_X2_44 hr (by decide) rfl (r' := r + 9) rfl ?_
  refine V.ilq dX2_findRing_9 (pc' := 10) rfl (j := 1) rfl ?_
  obtain ⟨c2, e⟩ := gd_s e
  refine V.iald dX2_findRing_10 (pc' := 11) rfl (akX2_9 hr).1 (akX2_9 hr).2 (inb_t c2) ?_
  obtain ⟨x3, ex3, e⟩ := nm_s e
  refine V.isq dX2_findRing_11 (pc' := 12) rfl (by decide) ex3 (L' := [(2, .int x3), (0, .ref r), (1, .int a1)]) rfl ?_
  refine V.alq dX2_findRing_12 (pc' := 13) rfl (j := 1) rfl ?_
  refine V.getr dX2_findRing_13 (pc' := 16) rfl FL_X2_56 hr (by decide) rfl (r' := r + 12) rfl ?_
  refine V.iconst dX2_findRing_16 (pc' := 17) rfl (v := 0) (by decide) ?_
  refine V.ilq dX2_findRing_17 (pc' := 18) rfl (j := 2) rfl ?_
  obtain ⟨h4, eh4, e⟩ := nm_s e
  refine V.iast dX2_findRing_18 (pc' := 19) rfl (akX2_12 hr).1 (akX2_12 hr).2 (inb_t (by decide)) eh4 ?_
  refine V.alq dX2_findRing_19 (pc' := 20) rfl (j := 1) rfl ?_
  refine V.iconst dX2_findRing_20 (pc' := 21) rfl (v := 1) (by decide) ?_
  obtain ⟨h5, eh5, e⟩ := nm_s e
  refine V.putf dX2_findRing_21 (pc' := 24) rfl FP_X2_59 hr (by decide) rfl eh5 ?_
  refine V.alq dX2_findRing_24 (pc' := 25) rfl (j := 1) rfl ?_
  refine V.getr dX2_findRing_25 (pc' := 28) rfl FL_X2_62 hr (by decide) rfl (r' := r + 13) rfl ?_
  refine V.ilq dX2_findRing_28 (pc' := 29) rfl (j := 0) rfl ?_
  obtain ⟨c6, e⟩ := gd_s e
  refine V.iald dX2_findRing_29 (pc' := 30) rfl (akX2_13 hr).1 (akX2_13 hr).2 (inb_t c6) ?_
  obtain ⟨x7, ex7, e⟩ := nm_s e
  refine V.isq dX2_findRing_30 (pc' := 31) rfl (by decide) ex7 (L' := [(3, .int x7), (2, .int x3), (0, .ref r), (1, .int a1)]) rfl ?_
  refine V.pk [2, 3, 1, 0] rfl ?_
  exact vX2_findRing_b31 FU h5 r a1 x3 x7 hr q e

-- X3_readStream (level 2)
theorem dX3_readStream_0 : decode cX3_readStream 0 = .ok (.aload_n 0, 1) := by decide +kernel
theorem dX3_readStream_1 : decode cX3_readStream 1 = .ok (.bipush 104, 2) := by decide +kernel
theorem dX3_readStream_3 : decode cX3_readStream 3 = .ok (.invokevirtual 37, 3) := by decide +kernel
theorem dX3_readStream_6 : decode cX3_readStream 6 = .ok (.istore_n 2, 1) := by decide +kernel
theorem dX3_readStream_7 : decode cX3_readStream 7 = .ok (.iload_n 2, 1) := by decide +kernel
theorem dX3_readStream_8 : decode cX3_readStream 8 = .ok (.ifCond .ne 21, 3) := by decide +kernel
theorem dX3_readStream_11 : decode cX3_readStream 11 = .ok (.aload_n 0, 1) := by decide +kernel
theorem dX3_readStream_12 : decode cX3_readStream 12 = .ok (.bipush 99, 2) := by decide +kernel
theorem dX3_readStream_14 : decode cX3_readStream 14 = .ok (.invokevirtual 37, 3) := by decide +kernel
theorem dX3_readStream_17 : decode cX3_readStream 17 = .ok (.ifCond .ne 12, 3) := by decide +kernel
theorem dX3_readStream_20 : decode cX3_readStream 20 = .ok (.aload_n 0, 1) := by decide +kernel
theorem dX3_readStream_21 : decode cX3_readStream 21 = .ok (.aload_n 0, 1) := by decide +kernel
theorem dX3_readStream_22 : decode cX3_readStream 22 = .ok (.getfield 19, 3) := by decide +kernel
theorem dX3_readStream_25 : decode cX3_readStream 25 = .ok (.invokevirtual 41, 3) := by decide +kernel
theorem dX3_readStream_28 : decode cX3_readStream 28 = .ok (.ireturn, 1) := by decide +kernel
theorem dX3_readStream_29 : decode cX3_readStream 29 = .ok (.aload_n 0, 1) := by decide +kernel
theorem dX3_readStream_30 : decode cX3_readStream 30 = .ok (.iconst 3, 1) := by decide +kernel
theorem dX3_readStream_31 : decode cX3_readStream 31 = .ok (.iconst 0, 1) := by decide +kernel
theorem dX3_readStream_32 : decode cX3_readStream 32 = .ok (.sipush 500, 3) := by decide +kernel
theorem dX3_readStream_35 : decode cX3_readStream 35 = .ok (.invokevirtual 45, 3) := by decide +kernel
theorem dX3_readStream_38 : decode cX3_readStream 38 = .ok (.ifCond .ne 5, 3) := by decide +kernel
theorem dX3_readStream_41 : decode cX3_readStream 41 = .ok (.iconst 0, 1) := by decide +kernel
theorem dX3_readStream_42 : decode cX3_readStream 42 = .ok (.ireturn, 1) := by decide +kernel
theorem dX3_readStream_43 : decode cX3_readStream 43 = .ok (.aload_n 0, 1) := by decide +kernel
theorem dX3_readStream_44 : decode cX3_readStream 44 = .ok (.getfield 22, 3) := by decide +kernel
theorem dX3_readStream_47 : decode cX3_readStream 47 = .ok (.istore_n 3, 1) := by decide +kernel
theorem dX3_readStream_48 : decode cX3_readStream 48 = .ok (.aload_n 0, 1) := by decide +kernel
theorem dX3_readStream_49 : decode cX3_readStream 49 = .ok (.bipush 45, 2) := by decide +kernel
theorem dX3_readStream_51 : decode cX3_readStream 51 = .ok (.invokevirtual 37, 3) := by decide +kernel
theorem dX3_readStream_54 : decode cX3_readStream 54 = .ok (.ifCond .ne 12, 3) := by decide +kernel
theorem dX3_readStream_57 : decode cX3_readStream 57 = .ok (.aload_n 0, 1) := by decide +kernel
theorem dX3_readStream_58 : decode cX3_readStream 58 = .ok (.aload_n 0, 1) := by decide +kernel
theorem dX3_readStream_59 : decode cX3_readStream 59 = .ok (.getfield 19, 3) := by decide +kernel
theorem dX3_readStream_62 : decode cX3_readStream 62 = .ok (.invokevirtual 41, 3) := by decide +kernel
theorem dX3_readStream_65 : decode cX3_readStream 65 = .ok (.ireturn, 1) := by decide +kernel
theorem dX3_readStream_66 : decode cX3_readStream 66 = .ok (.iload_n 2, 1) := by decide +kernel
theorem dX3_readStream_67 : decode cX3_readStream 67 = .ok (.ifCond .eq 7, 3) := by decide +kernel
theorem dX3_readStream_70 : decode cX3_readStream 70 = .ok (.iconst 0, 1) := by decide +kernel
theorem dX3_readStream_71 : decode cX3_readStream 71 = .ok (.goto 6, 3) := by decide +kernel
theorem dX3_readStream_74 : decode cX3_readStream 74 = .ok (.iload_n 3, 1) := by decide +kernel
theorem dX3_readStream_75 : decode cX3_readStream 75 = .ok (.iconst 1, 1) := by decide +kernel
theorem dX3_readStream_76 : decode cX3_readStream 76 = .ok (.iadd, 1) := by decide +kernel
theorem dX3_readStream_77 : decode cX3_readStream 77 = .ok (.istore 4, 2) := by decide +kernel
theorem dX3_readStream_79 : decode cX3_readStream 79 = .ok (.iload_n 2, 1) := by decide +kernel
theorem dX3_readStream_80 : decode cX3_readStream 80 = .ok (.ifCond .eq 9, 3) := by decide +kernel
theorem dX3_readStream_83 : decode cX3_readStream 83 = .ok (.iload_n 3, 1) := by decide +kernel
theorem dX3_readStream_84 : decode cX3_readStream 84 = .ok (.iconst 1, 1) := by decide +kernel
theorem dX3_readStream_85 : decode cX3_readStream 85 = .ok (.isub, 1) := by decide +kernel
theorem dX3_readStream_86 : decode cX3_readStream 86 = .ok (.goto 6, 3) := by decide +kernel
theorem dX3_readStream_89 : decode cX3_readStream 89 = .ok (.sipush 500, 3) := by decide +kernel
theorem dX3_readStream_92 : decode cX3_readStream 92 = .ok (.istore 5, 2) := by decide +kernel
theorem dX3_readStream_94 : decode cX3_readStream 94 = .ok (.aload_n 0, 1) := by decide +kernel
theorem dX3_readStream_95 : decode cX3_readStream 95 = .ok (.iconst 3, 1) := by decide +kernel
theorem dX3_readStream_96 : decode cX3_readStream 96 = .ok (.iload 4, 2) := by decide +kernel
theorem dX3_readStream_98 : decode cX3_readStream 98 = .ok (.iload 5, 2) := by decide +kernel
theorem dX3_readStream_100 : decode cX3_readStream 100 = .ok (.invokevirtual 45, 3) := by decide +kernel
theorem dX3_readStream_103 : decode cX3_readStream 103 = .ok (.ifCond .ne 5, 3) := by decide +kernel
theorem dX3_readStream_106 : decode cX3_readStream 106 = .ok (.iconst 0, 1) := by decide +kernel
theorem dX3_readStream_107 : decode cX3_readStream 107 = .ok (.ireturn, 1) := by decide +kernel
theorem dX3_readStream_108 : decode cX3_readStream 108 = .ok (.aload_n 0, 1) := by decide +kernel
theorem dX3_readStream_109 : decode cX3_readStream 109 = .ok (.getfield 22, 3) := by decide +kernel
theorem dX3_readStream_112 : decode cX3_readStream 112 = .ok (.istore 6, 2) := by decide +kernel
theorem dX3_readStream_114 : decode cX3_readStream 114 = .ok (.aload_n 0, 1) := by decide +kernel
theorem dX3_readStream_115 : decode cX3_readStream 115 = .ok (.bipush 42, 2) := by decide +kernel
theorem dX3_readStream_117 : decode cX3_readStream 117 = .ok (.invokevirtual 37, 3) := by decide +kernel
theorem dX3_readStream_120 : decode cX3_readStream 120 = .ok (.ifCond .ne 12, 3) := by decide +kernel
theorem dX3_readStream_123 : decode cX3_readStream 123 = .ok (.aload_n 0, 1) := by decide +kernel
theorem dX3_readStream_124 : decode cX3_readStream 124 = .ok (.aload_n 0, 1) := by decide +kernel
theorem dX3_readStream_125 : decode cX3_readStream 125 = .ok (.getfield 19, 3) := by decide +kernel
theorem dX3_readStream_128 : decode cX3_readStream 128 = .ok (.invokevirtual 41, 3) := by decide +kernel
theorem dX3_readStream_131 : decode cX3_readStream 131 = .ok (.ireturn, 1) := by decide +kernel
theorem dX3_readStream_132 : decode cX3_readStream 132 = .ok (.aload_n 0, 1) := by decide +kernel
theorem dX3_readStream_133 : decode cX3_readStream 133 = .ok (.iconst 2, 1) := by decide +kernel
theorem dX3_readStream_134 : decode cX3_readStream 134 = .ok (.iconst 1, 1) := by decide +kernel
theorem dX3_readStream_135 : decode cX3_readStream 135 = .ok (.bipush 20, 2) := by decide +kernel
theorem dX3_readStream_137 : decode cX3_readStream 137 = .ok (.invokevirtual 45, 3) := by decide +kernel
theorem dX3_readStream_140 : decode cX3_readStream 140 = .ok (.ifCond .ne 5, 3) := by decide +kernel
theorem dX3_readStream_143 : decode cX3_readStream 143 = .ok (.iconst 0, 1) := by decide +kernel
theorem dX3_readStream_144 : decode cX3_readStream 144 = .ok (.ireturn, 1) := by decide +kernel
theorem dX3_readStream_145 : decode cX3_readStream 145 = .ok (.aload_n 1, 1) := by decide +kernel
theorem dX3_readStream_146 : decode cX3_readStream 146 = .ok (.iload_n 2, 1) := by decide +kernel
theorem dX3_readStream_147 : decode cX3_readStream 147 = .ok (.iload_n 3, 1) := by decide +kernel
theorem dX3_readStream_148 : decode cX3_readStream 148 = .ok (.iload 6, 2) := by decide +kernel
theorem dX3_readStream_150 : decode cX3_readStream 150 = .ok (.aload_n 0, 1) := by decide +kernel
theorem dX3_readStream_151 : decode cX3_readStream 151 = .ok (.getfield 22, 3) := by decide +kernel
theorem dX3_readStream_154 : decode cX3_readStream 154 = .ok (.invokevirtual 49, 3) := by decide +kernel
theorem dX3_readStream_157 : decode cX3_readStream 157 = .ok (.iconst 1, 1) := by decide +kernel
theorem dX3_readStream_158 : decode cX3_readStream 158 = .ok (.ireturn, 1) := by decide +kernel
def sX3_readStream_c92 (h : Hp) (a1 : Nat) (v2 : Int32) (v3 : Int32) (v4 : Int32) (t0 : Int32) : Option (Int32 × Hp) :=
  (sX3_readNumber h (3 : Int32) v4 t0).bind fun q10 => if q10.1 = 0 then (some ((0 : Int32), q10.2)) else (nm ((q10.2.1 2 3)) fun x11 => (sX3_readSign q10.2 (42 : Int32)).bind fun q12 => if q12.1 = 0 then ((sX3_failAt q12.2 (q12.2.1 2 2)).bind fun q15 => gd (zb q15.1) (some (q15.1, q15.2))) else ((sX3_readNumber q12.2 (2 : Int32) (1 : Int32) (20 : Int32)).bind fun q13 => if q13.1 = 0 then (some ((0 : Int32), q13.2)) else ((sX1_add q13.2 a1 v2 v3 x11 (q13.2.1 2 3)).bind fun q14 => some ((1 : Int32), q14))))
set_option maxRecDepth 10000 in
theorem vX3_readStream_c92 (h : Hp) (a1 : Nat) (v2 : Int32) (v3 : Int32) (v4 : Int32) (t0 : Int32) (ha1 : ck a1 = 1) (q : (Int32 × Hp)) (e : sX3_readStream_c92 h a1 v2 v3 v4 t0 = some q) : V (Gs 2 (pI q)) mX3_readStream (0, 0) 92 [(0, .ref 2), (1, .ref a1), (2, .int v2), (3, .int v3), (4, .int v4)] [.int t0] h := by
  unfold sX3_readStream_c92 at e
  refine V.is dX3_readStream_92 (pc' := 94) rfl (by decide) rfl (L' := [(5, .int t0), (0, .ref 2), (1, .ref a1), (2, .int v2), (3, .int v3), (4, .int v4)]) rfl ?_
  refine V.alq dX3_readStream_94 (pc' := 95) rfl (j := 1) rfl ?_
  refine V.iconst dX3_readStream_95 (pc' := 96) rfl (v := 3) (by decide) ?_
  refine V.il dX3_readStream_96 (pc' := 98) rfl (j := 5) rfl ?_
  refine V.il dX3_readStream_98 (pc' := 100) rfl (j := 0) rfl ?_
  obtain ⟨q10, eq10, e⟩ := bd_s e
  refine V.callVi dX3_readStream_100 (pc' := 103) rfl CV_X3_45 (as := [.int (3 : Int32), .int v4, .int t0]) (kX3_readNumber h (3 : Int32) v4 t0 q10 eq10) (Gs_rm (by decide)) rfl (by decide) rfl (Nat.le_of_ble_eq_true rfl) rfl ?_
  refine V.if_ne dX3_readStream_103 (pc' := 106) rfl (tgt := 108) (by decide) (fun c => ?_) (fun c => ?_)
  · rw [if_neg c] at e
    refine V.alq dX3_readStream_108 (pc' := 109) rfl (j := 1) rfl ?_
    refine V.getf dX3_readStream_109 (pc' := 112) rfl FL_X3_22 rfl (by decide) rfl ?_
    obtain ⟨x11, ex11, e⟩ := nm_s e
    refine V.is dX3_readStream_112 (pc' := 114) rfl (by decide) ex11 (L' := [(6, .int x11), (5, .int t0), (0, .ref 2), (1, .ref a1), (2, .int v2), (3, .int v3), (4, .int v4)]) rfl ?_
    refine V.alq dX3_readStream_114 (pc' := 115) rfl (j := 2) rfl ?_
    refine V.bipush dX3_readStream_115 (pc' := 117) rfl (v := 42) (by decide) ?_
    obtain ⟨q12, eq12, e⟩ := bd_s e
    refine V.callVi dX3_readStream_117 (pc' := 120) rfl CV_X3_37 (as := [.int (42 : Int32)]) (kX3_readSign q10.2 (42 : Int32) q12 eq12) (Gs_rm (by decide)) rfl (by decide) rfl (Nat.le_of_ble_eq_true rfl) rfl ?_
    refine V.if_ne dX3_readStream_120 (pc' := 123) rfl (tgt := 132) (by decide) (fun c => ?_) (fun c => ?_)
    · rw [if_neg c] at e
      refine V.alq dX3_readStream_132 (pc' := 133) rfl (j := 2) rfl ?_
      refine V.iconst dX3_readStream_133 (pc' := 134) rfl (v := 2) (by decide) ?_
      refine V.iconst dX3_readStream_134 (pc' := 135) rfl (v := 1) (by decide) ?_
      refine V.bipush dX3_readStream_135 (pc' := 137) rfl (v := 20) (by decide) ?_
      obtain ⟨q13, eq13, e⟩ := bd_s e
      refine V.callVi dX3_readStream_137 (pc' := 140) rfl CV_X3_45 (as := [.int (2 : Int32), .int (1 : Int32), .int (20 : Int32)]) (kX3_readNumber q12.2 (2 : Int32) (1 : Int32) (20 : Int32) q13 eq13) (Gs_rm (by decide)) rfl (by decide) rfl (Nat.le_of_ble_eq_true rfl) rfl ?_
      refine V.if_ne dX3_readStream_140 (pc' := 143) rfl (tgt := 145) (by decide) (fun c => ?_) (fun c => ?_)
      · rw [if_neg c] at e
        refine V.alq dX3_readStream_145 (pc' := 146) rfl (j := 3) rfl ?_
        refine V.ilq dX3_readStream_146 (pc' := 147) rfl (j := 4) rfl ?_
        refine V.ilq dX3_readStream_147 (pc' := 148) rfl (j := 5) rfl ?_
        refine V.il dX3_readStream_148 (pc' := 150) rfl (j := 0) rfl ?_
        refine V.alq dX3_readStream_150 (pc' := 151) rfl (j := 2) rfl ?_
        refine V.getf dX3_readStream_151 (pc' := 154) rfl FL_X3_22 rfl (by decide) rfl ?_
        obtain ⟨q14, eq14, e⟩ := bd_s e
        refine V.callVv dX3_readStream_154 (pc' := 157) rfl CV_X3_49 (as := [.int v2, .int v3, .int x11, .int (q13.2.1 2 3)]) (kX1_add q13.2 a1 v2 v3 x11 (q13.2.1 2 3) q14 eq14) (Gs_rm (by decide)) ha1 (by decide) rfl (Nat.le_of_ble_eq_true rfl) rfl ?_
        refine V.iconst dX3_readStream_157 (pc' := 158) rfl (v := 1) (by decide) ?_
        exact V.zret dX3_readStream_158 rfl (Or.inr rfl) (fnI e)
      · rw [if_pos c] at e
        refine V.iconst dX3_readStream_143 (pc' := 144) rfl (v := 0) (by decide) ?_
        exact V.zret dX3_readStream_144 rfl (Or.inl rfl) (fnI e)
    · rw [if_pos c] at e
      refine V.alq dX3_readStream_123 (pc' := 124) rfl (j := 2) rfl ?_
      refine V.alq dX3_readStream_124 (pc' := 125) rfl (j := 2) rfl ?_
      refine V.getf dX3_readStream_125 (pc' := 128) rfl FL_X3_19 rfl (by decide) rfl ?_
      obtain ⟨q15, eq15, e⟩ := bd_s e
      refine V.callVi dX3_readStream_128 (pc' := 131) rfl CV_X3_41 (as := [.int (q12.2.1 2 2)]) (kX3_failAt q12.2 (q12.2.1 2 2) q15 eq15) (Gs_rm (by decide)) rfl (by decide) rfl (Nat.le_of_ble_eq_true rfl) rfl ?_
      obtain ⟨c16, e⟩ := gd_s e
      exact V.zret dX3_readStream_131 rfl (zb_t c16) (fnI e)
  · rw [if_pos c] at e
    refine V.iconst dX3_readStream_106 (pc' := 107) rfl (v := 0) (by decide) ?_
    exact V.zret dX3_readStream_107 rfl (Or.inl rfl) (fnI e)
def sX3_readStream_c77 (h : Hp) (a1 : Nat) (v2 : Int32) (v3 : Int32) (t0 : Int32) : Option (Int32 × Hp) :=
  if v2 = 0 then (sX3_readStream_c92 h a1 v2 v3 t0 (500 : Int32)) else (sX3_readStream_c92 h a1 v2 v3 t0 (v3 - (1 : Int32)))
set_option maxRecDepth 10000 in
theorem vX3_readStream_c77 (h : Hp) (a1 : Nat) (v2 : Int32) (v3 : Int32) (t0 : Int32) (ha1 : ck a1 = 1) (q : (Int32 × Hp)) (e : sX3_readStream_c77 h a1 v2 v3 t0 = some q) : V (Gs 2 (pI q)) mX3_readStream (0, 0) 77 [(0, .ref 2), (1, .ref a1), (2, .int v2), (3, .int v3)] [.int t0] h := by
  unfold sX3_readStream_c77 at e
  refine V.is dX3_readStream_77 (pc' := 79) rfl (by decide) rfl (L' := [(4, .int t0), (0, .ref 2), (1, .ref a1), (2, .int v2), (3, .int v3)]) rfl ?_
  refine V.ilq dX3_readStream_79 (pc' := 80) rfl (j := 3) rfl ?_
  refine V.if_eq dX3_readStream_80 (pc' := 83) rfl (tgt := 89) (by decide) (fun c => ?_) (fun c => ?_)
  · rw [if_pos c] at e
    refine V.sipush dX3_readStream_89 (pc' := 92) rfl (v := 500) (by decide) ?_
    refine V.pk [1, 2, 3, 4, 0] rfl ?_
    exact vX3_readStream_c92 h a1 v2 v3 t0 (500 : Int32) ha1 q e
  · rw [if_neg c] at e
    refine V.ilq dX3_readStream_83 (pc' := 84) rfl (j := 4) rfl ?_
    refine V.iconst dX3_readStream_84 (pc' := 85) rfl (v := 1) (by decide) ?_
    refine V.isub dX3_readStream_85 (pc' := 86) rfl ?_
    refine V.goto dX3_readStream_86 (pc' := 92) (by decide) ?_
    refine V.pk [1, 2, 3, 4, 0] rfl ?_
    exact vX3_readStream_c92 h a1 v2 v3 t0 (v3 - (1 : Int32)) ha1 q e
def sX3_readStream_c29 (h : Hp) (a1 : Nat) (v2 : Int32) : Option (Int32 × Hp) :=
  (sX3_readNumber h (3 : Int32) (0 : Int32) (500 : Int32)).bind fun q5 => if q5.1 = 0 then (some ((0 : Int32), q5.2)) else (nm ((q5.2.1 2 3)) fun x6 => (sX3_readSign q5.2 (45 : Int32)).bind fun q7 => if q7.1 = 0 then ((sX3_failAt q7.2 (q7.2.1 2 2)).bind fun q8 => gd (zb q8.1) (some (q8.1, q8.2))) else (if v2 = 0 then (sX3_readStream_c77 q7.2 a1 v2 x6 (x6 + (1 : Int32))) else (sX3_readStream_c77 q7.2 a1 v2 x6 (0 : Int32))))
set_option maxRecDepth 10000 in
theorem vX3_readStream_c29 (h : Hp) (a1 : Nat) (v2 : Int32) (ha1 : ck a1 = 1) (q : (Int32 × Hp)) (e : sX3_readStream_c29 h a1 v2 = some q) : V (Gs 2 (pI q)) mX3_readStream (0, 0) 29 [(0, .ref 2), (1, .ref a1), (2, .int v2)] [] h := by
  unfold sX3_readStream_c29 at e
  refine V.alq dX3_readStream_29 (pc' := 30) rfl (j := 0) rfl ?_
  refine V.iconst dX3_readStream_30 (pc' := 31) rfl (v := 3) (by decide) ?_
  refine V.iconst dX3_readStream_31 (pc' := 32) rfl (v := 0) (by decide) ?_
  refine V.sipush dX3_readStream_32 (pc' := 35) rfl (v := 500) (by decide) ?_
  obtain ⟨q5, eq5, e⟩ := bd_s e
  refine V.callVi dX3_readStream_35 (pc' := 38) rfl CV_X3_45 (as := [.int (3 : Int32), .int (0 : Int32), .int (500 : Int32)]) (kX3_readNumber h (3 : Int32) (0 : Int32) (500 : Int32) q5 eq5) (Gs_rm (by decide)) rfl (by decide) rfl (Nat.le_of_ble_eq_true rfl) rfl ?_
  refine V.if_ne dX3_readStream_38 (pc' := 41) rfl (tgt := 43) (by decide) (fun c => ?_) (fun c => ?_)
  · rw [if_neg c] at e
    refine V.alq dX3_readStream_43 (pc' := 44) rfl (j := 0) rfl ?_
    refine V.getf dX3_readStream_44 (pc' := 47) rfl FL_X3_22 rfl (by decide) rfl ?_
    obtain ⟨x6, ex6, e⟩ := nm_s e
    refine V.isq dX3_readStream_47 (pc' := 48) rfl (by decide) ex6 (L' := [(3, .int x6), (0, .ref 2), (1, .ref a1), (2, .int v2)]) rfl ?_
    refine V.alq dX3_readStream_48 (pc' := 49) rfl (j := 1) rfl ?_
    refine V.bipush dX3_readStream_49 (pc' := 51) rfl (v := 45) (by decide) ?_
    obtain ⟨q7, eq7, e⟩ := bd_s e
    refine V.callVi dX3_readStream_51 (pc' := 54) rfl CV_X3_37 (as := [.int (45 : Int32)]) (kX3_readSign q5.2 (45 : Int32) q7 eq7) (Gs_rm (by decide)) rfl (by decide) rfl (Nat.le_of_ble_eq_true rfl) rfl ?_
    refine V.if_ne dX3_readStream_54 (pc' := 57) rfl (tgt := 66) (by decide) (fun c => ?_) (fun c => ?_)
    · rw [if_neg c] at e
      refine V.ilq dX3_readStream_66 (pc' := 67) rfl (j := 3) rfl ?_
      refine V.if_eq dX3_readStream_67 (pc' := 70) rfl (tgt := 74) (by decide) (fun c => ?_) (fun c => ?_)
      · rw [if_pos c] at e
        refine V.ilq dX3_readStream_74 (pc' := 75) rfl (j := 0) rfl ?_
        refine V.iconst dX3_readStream_75 (pc' := 76) rfl (v := 1) (by decide) ?_
        refine V.iadd dX3_readStream_76 (pc' := 77) rfl ?_
        refine V.pk [1, 2, 3, 0] rfl ?_
        exact vX3_readStream_c77 q7.2 a1 v2 x6 (x6 + (1 : Int32)) ha1 q e
      · rw [if_neg c] at e
        refine V.iconst dX3_readStream_70 (pc' := 71) rfl (v := 0) (by decide) ?_
        refine V.goto dX3_readStream_71 (pc' := 77) (by decide) ?_
        refine V.pk [1, 2, 3, 0] rfl ?_
        exact vX3_readStream_c77 q7.2 a1 v2 x6 (0 : Int32) ha1 q e
    · rw [if_pos c] at e
      refine V.alq dX3_readStream_57 (pc' := 58) rfl (j := 1) rfl ?_
      refine V.alq dX3_readStream_58 (pc' := 59) rfl (j := 1) rfl ?_
      refine V.getf dX3_readStream_59 (pc' := 62) rfl FL_X3_19 rfl (by decide) rfl ?_
      obtain ⟨q8, eq8, e⟩ := bd_s e
      refine V.callVi dX3_readStream_62 (pc' := 65) rfl CV_X3_41 (as := [.int (q7.2.1 2 2)]) (kX3_failAt q7.2 (q7.2.1 2 2) q8 eq8) (Gs_rm (by decide)) rfl (by decide) rfl (Nat.le_of_ble_eq_true rfl) rfl ?_
      obtain ⟨c9, e⟩ := gd_s e
      exact V.zret dX3_readStream_65 rfl (zb_t c9) (fnI e)
  · rw [if_pos c] at e
    refine V.iconst dX3_readStream_41 (pc' := 42) rfl (v := 0) (by decide) ?_
    exact V.zret dX3_readStream_42 rfl (Or.inl rfl) (fnI e)
def sX3_readStream (h : Hp) (a1 : Nat) : Option (Int32 × Hp) :=
  gd (isC a1 1) ((sX3_readSign h (104 : Int32)).bind fun q1 => if q1.1 = 0 then ((sX3_readSign q1.2 (99 : Int32)).bind fun q2 => if q2.1 = 0 then ((sX3_failAt q2.2 (q2.2.1 2 2)).bind fun q3 => gd (zb q3.1) (some (q3.1, q3.2))) else (sX3_readStream_c29 q2.2 a1 q1.1)) else (sX3_readStream_c29 q1.2 a1 q1.1))
set_option maxRecDepth 10000 in
theorem kX3_readStream (h : Hp) (a1 : Nat) (q : (Int32 × Hp)) (e : sX3_readStream h a1 = some q) : K 2 mX3_readStream [.ref 2, .ref a1] h (pI q) := by
  unfold sX3_readStream at e
  obtain ⟨ha1, e⟩ := gd_s e
  have ha1 := isC_t ha1
  refine K.ofV (by decide) rfl (Nat.le_of_ble_eq_true rfl) ?_
  show V (Gs 2 (pI q)) mX3_readStream (0, 0) 0 [(0, .ref 2), (1, .ref a1)] [] h
  refine V.alq dX3_readStream_0 (pc' := 1) rfl (j := 0) rfl ?_
  refine V.bipush dX3_readStream_1 (pc' := 3) rfl (v := 104) (by decide) ?_
  obtain ⟨q1, eq1, e⟩ := bd_s e
  refine V.callVi dX3_readStream_3 (pc' := 6) rfl CV_X3_37 (as := [.int (104 : Int32)]) (kX3_readSign h (104 : Int32) q1 eq1) (Gs_rm (by decide)) rfl (by decide) rfl (Nat.le_of_ble_eq_true rfl) rfl ?_
  refine V.isq dX3_readStream_6 (pc' := 7) rfl (by decide) rfl (L' := [(2, .int q1.1), (0, .ref 2), (1, .ref a1)]) rfl ?_
  refine V.ilq dX3_readStream_7 (pc' := 8) rfl (j := 0) rfl ?_
  refine V.if_ne dX3_readStream_8 (pc' := 11) rfl (tgt := 29) (by decide) (fun c => ?_) (fun c => ?_)
  · rw [if_neg c] at e
    refine V.pk [1, 2, 0] rfl ?_
    exact vX3_readStream_c29 q1.2 a1 q1.1 ha1 q e
  · rw [if_pos c] at e
    refine V.alq dX3_readStream_11 (pc' := 12) rfl (j := 1) rfl ?_
    refine V.bipush dX3_readStream_12 (pc' := 14) rfl (v := 99) (by decide) ?_
    obtain ⟨q2, eq2, e⟩ := bd_s e
    refine V.callVi dX3_readStream_14 (pc' := 17) rfl CV_X3_37 (as := [.int (99 : Int32)]) (kX3_readSign q1.2 (99 : Int32) q2 eq2) (Gs_rm (by decide)) rfl (by decide) rfl (Nat.le_of_ble_eq_true rfl) rfl ?_
    refine V.if_ne dX3_readStream_17 (pc' := 20) rfl (tgt := 29) (by decide) (fun c => ?_) (fun c => ?_)
    · rw [if_neg c] at e
      refine V.pk [1, 2, 0] rfl ?_
      exact vX3_readStream_c29 q2.2 a1 q1.1 ha1 q e
    · rw [if_pos c] at e
      refine V.alq dX3_readStream_20 (pc' := 21) rfl (j := 1) rfl ?_
      refine V.alq dX3_readStream_21 (pc' := 22) rfl (j := 1) rfl ?_
      refine V.getf dX3_readStream_22 (pc' := 25) rfl FL_X3_19 rfl (by decide) rfl ?_
      obtain ⟨q3, eq3, e⟩ := bd_s e
      refine V.callVi dX3_readStream_25 (pc' := 28) rfl CV_X3_41 (as := [.int (q2.2.1 2 2)]) (kX3_failAt q2.2 (q2.2.1 2 2) q3 eq3) (Gs_rm (by decide)) rfl (by decide) rfl (Nat.le_of_ble_eq_true rfl) rfl ?_
      obtain ⟨c4, e⟩ := gd_s e
      exact V.zret dX3_readStream_28 rfl (zb_t c4) (fnI e)

-- X4_tell_ (level 2)
theorem dX4_tell__0 : decode cX4_tell_ 0 = .ok (.aload_n 0, 1) := by decide +kernel
theorem dX4_tell__1 : decode cX4_tell_ 1 = .ok (.lload_n 1, 1) := by decide +kernel
theorem dX4_tell__2 : decode cX4_tell_ 2 = .ok (.invokevirtual 30, 3) := by decide +kernel
theorem dX4_tell__5 : decode cX4_tell_ 5 = .ok (.aload_n 0, 1) := by decide +kernel
theorem dX4_tell__6 : decode cX4_tell_ 6 = .ok (.lload_n 3, 1) := by decide +kernel
theorem dX4_tell__7 : decode cX4_tell_ 7 = .ok (.invokevirtual 23, 3) := by decide +kernel
theorem dX4_tell__10 : decode cX4_tell_ 10 = .ok (.return_, 1) := by decide +kernel
def sX4_tell_ (h : Hp) (a1 : Int64) (a3 : Int64) : Option Hp :=
  (sX4_tell h a1).bind fun q1 => (sX4_add q1 a3).bind fun q2 => some q2
set_option maxRecDepth 10000 in
theorem kX4_tell_ (h : Hp) (a1 : Int64) (a3 : Int64) (q : Hp) (e : sX4_tell_ h a1 a3 = some q) : K 2 mX4_tell_ [.ref 4, .long a1, .long a3] h (pV q) := by
  unfold sX4_tell_ at e
  refine K.ofV (by decide) rfl (Nat.le_of_ble_eq_true rfl) ?_
  show V (Gs 2 (pV q)) mX4_tell_ (0, 0) 0 [(0, .ref 4), (1, .long a1), (3, .long a3)] [] h
  refine V.alq dX4_tell__0 (pc' := 1) rfl (j := 0) rfl ?_
  refine V.llq dX4_tell__1 (pc' := 2) rfl (j := 1) rfl ?_
  obtain ⟨q1, eq1, e⟩ := bd_s e
  refine V.callVv dX4_tell__2 (pc' := 5) rfl CV_X4_30 (as := [.long a1]) (kX4_tell h a1 q1 eq1) (Gs_rm (by decide)) rfl (by decide) rfl (Nat.le_of_ble_eq_true rfl) rfl ?_
  refine V.alq dX4_tell__5 (pc' := 6) rfl (j := 0) rfl ?_
  refine V.llq dX4_tell__6 (pc' := 7) rfl (j := 2) rfl ?_
  obtain ⟨q2, eq2, e⟩ := bd_s e
  refine V.callVv dX4_tell__7 (pc' := 10) rfl CV_X4_23 (as := [.long a3]) (kX4_add q1 a3 q2 eq2) (Gs_rm (by decide)) rfl (by decide) rfl (Nat.le_of_ble_eq_true rfl) rfl ?_
  exact V.vret dX4_tell__10 rfl (fnV e)

-- X5_carry (level 2)
theorem dX5_carry_0 : decode cX5_carry 0 = .ok (.iload_n 1, 1) := by decide +kernel
theorem dX5_carry_1 : decode cX5_carry 1 = .ok (.bipush (-60), 2) := by decide +kernel
theorem dX5_carry_3 : decode cX5_carry 3 = .ok (.if_icmp .lt 10, 3) := by decide +kernel
theorem dX5_carry_6 : decode cX5_carry 6 = .ok (.iload_n 1, 1) := by decide +kernel
theorem dX5_carry_7 : decode cX5_carry 7 = .ok (.sipush 500, 3) := by decide +kernel
theorem dX5_carry_10 : decode cX5_carry 10 = .ok (.if_icmp .le 5, 3) := by decide +kernel
theorem dX5_carry_13 : decode cX5_carry 13 = .ok (.iconst (-1), 1) := by decide +kernel
theorem dX5_carry_14 : decode cX5_carry 14 = .ok (.ireturn, 1) := by decide +kernel
theorem dX5_carry_15 : decode cX5_carry 15 = .ok (.aload_n 0, 1) := by decide +kernel
theorem dX5_carry_16 : decode cX5_carry 16 = .ok (.getfield 36, 3) := by decide +kernel
theorem dX5_carry_19 : decode cX5_carry 19 = .ok (.iload_n 1, 1) := by decide +kernel
theorem dX5_carry_20 : decode cX5_carry 20 = .ok (.invokevirtual 175, 3) := by decide +kernel
theorem dX5_carry_23 : decode cX5_carry 23 = .ok (.ifCond .ne 6, 3) := by decide +kernel
theorem dX5_carry_26 : decode cX5_carry 26 = .ok (.bipush (-2), 2) := by decide +kernel
theorem dX5_carry_28 : decode cX5_carry 28 = .ok (.ireturn, 1) := by decide +kernel
theorem dX5_carry_29 : decode cX5_carry 29 = .ok (.aload_n 0, 1) := by decide +kernel
theorem dX5_carry_30 : decode cX5_carry 30 = .ok (.getfield 19, 3) := by decide +kernel
theorem dX5_carry_33 : decode cX5_carry 33 = .ok (.aload_n 0, 1) := by decide +kernel
theorem dX5_carry_34 : decode cX5_carry 34 = .ok (.getfield 36, 3) := by decide +kernel
theorem dX5_carry_37 : decode cX5_carry 37 = .ok (.iload_n 1, 1) := by decide +kernel
theorem dX5_carry_38 : decode cX5_carry 38 = .ok (.invokevirtual 178, 3) := by decide +kernel
theorem dX5_carry_41 : decode cX5_carry 41 = .ok (.i2l, 1) := by decide +kernel
theorem dX5_carry_42 : decode cX5_carry 42 = .ok (.invokevirtual 181, 3) := by decide +kernel
theorem dX5_carry_45 : decode cX5_carry 45 = .ok (.iconst 0, 1) := by decide +kernel
theorem dX5_carry_46 : decode cX5_carry 46 = .ok (.ireturn, 1) := by decide +kernel
def sX5_carry_c13 (h : Hp) : Option (Int32 × Hp) :=
  some ((-1 : Int32), h)
set_option maxRecDepth 10000 in
theorem vX5_carry_c13 (h : Hp) (q : (Int32 × Hp)) (e : sX5_carry_c13 h = some q) : V (Gs 2 (pI q)) mX5_carry (0, 0) 13 [] [] h := by
  unfold sX5_carry_c13 at e
  refine V.iconst dX5_carry_13 (pc' := 14) rfl (v := -1) (by decide) ?_
  exact V.iret dX5_carry_14 rfl (fnI e)
def sX5_carry (h : Hp) (a1 : Int32) : Option (Int32 × Hp) :=
  if a1 < (-60 : Int32) then (sX5_carry_c13 h) else (if a1 ≤ (500 : Int32) then ((sX0_spans h 16 a1).bind fun q1 => if q1.1 = 0 then (some ((-2 : Int32), q1.2)) else ((sX0_carryAt q1.2 16 a1).bind fun q2 => (sX4_tell q2.2 q2.1.toInt64).bind fun q3 => some ((0 : Int32), q3))) else (sX5_carry_c13 h))
set_option maxRecDepth 10000 in
theorem kX5_carry (h : Hp) (a1 : Int32) (q : (Int32 × Hp)) (e : sX5_carry h a1 = some q) : K 2 mX5_carry [.ref 1, .int a1] h (pI q) := by
  unfold sX5_carry at e
  refine K.ofV (by decide) rfl (Nat.le_of_ble_eq_true rfl) ?_
  show V (Gs 2 (pI q)) mX5_carry (0, 0) 0 [(0, .ref 1), (1, .int a1)] [] h
  refine V.ilq dX5_carry_0 (pc' := 1) rfl (j := 1) rfl ?_
  refine V.bipush dX5_carry_1 (pc' := 3) rfl (v := -60) (by decide) ?_
  refine V.ic_lt dX5_carry_3 (pc' := 6) rfl (tgt := 13) (by decide) (fun c => ?_) (fun c => ?_)
  · rw [if_pos c] at e
    refine V.pk [] rfl ?_
    exact vX5_carry_c13 h q e
  · rw [if_neg c] at e
    refine V.ilq dX5_carry_6 (pc' := 7) rfl (j := 1) rfl ?_
    refine V.sipush dX5_carry_7 (pc' := 10) rfl (v := 500) (by decide) ?_
    refine V.ic_le dX5_carry_10 (pc' := 13) rfl (tgt := 15) (by decide) (fun c => ?_) (fun c => ?_)
    · rw [if_pos c] at e
      refine V.alq dX5_carry_15 (pc' := 16) rfl (j := 0) rfl ?_
      refine V.getr dX5_carry_16 (pc' := 19) rfl FL_X5_36 rfl (by decide) rfl (r' := 16) rfl ?_
      refine V.ilq dX5_carry_19 (pc' := 20) rfl (j := 1) rfl ?_
      obtain ⟨q1, eq1, e⟩ := bd_s e
      refine V.callVi dX5_carry_20 (pc' := 23) rfl CV_X5_175 (as := [.int a1]) (kX0_spans h 16 a1 q1 eq1) (Gs_rm (by decide)) rfl (by decide) rfl (Nat.le_of_ble_eq_true rfl) rfl ?_
      refine V.if_ne dX5_carry_23 (pc' := 26) rfl (tgt := 29) (by decide) (fun c => ?_) (fun c => ?_)
      · rw [if_neg c] at e
        refine V.alq dX5_carry_29 (pc' := 30) rfl (j := 0) rfl ?_
        refine V.getr dX5_carry_30 (pc' := 33) rfl FL_X5_19 rfl (by decide) rfl (r' := 4) rfl ?_
        refine V.alq dX5_carry_33 (pc' := 34) rfl (j := 0) rfl ?_
        refine V.getr dX5_carry_34 (pc' := 37) rfl FL_X5_36 rfl (by decide) rfl (r' := 16) rfl ?_
        refine V.ilq dX5_carry_37 (pc' := 38) rfl (j := 1) rfl ?_
        obtain ⟨q2, eq2, e⟩ := bd_s e
        refine V.callVi dX5_carry_38 (pc' := 41) rfl CV_X5_178 (as := [.int a1]) (kX0_carryAt q1.2 16 a1 q2 eq2) (Gs_rm (by decide)) rfl (by decide) rfl (Nat.le_of_ble_eq_true rfl) rfl ?_
        refine V.i2l dX5_carry_41 (pc' := 42) rfl ?_
        obtain ⟨q3, eq3, e⟩ := bd_s e
        refine V.callVv dX5_carry_42 (pc' := 45) rfl CV_X5_181 (as := [.long q2.1.toInt64]) (kX4_tell q2.2 q2.1.toInt64 q3 eq3) (Gs_rm (by decide)) rfl (by decide) rfl (Nat.le_of_ble_eq_true rfl) rfl ?_
        refine V.iconst dX5_carry_45 (pc' := 46) rfl (v := 0) (by decide) ?_
        exact V.iret dX5_carry_46 rfl (fnI e)
      · rw [if_pos c] at e
        refine V.bipush dX5_carry_26 (pc' := 28) rfl (v := -2) (by decide) ?_
        exact V.iret dX5_carry_28 rfl (fnI e)
    · rw [if_neg c] at e
      refine V.pk [] rfl ?_
      exact vX5_carry_c13 h q e

-- X6_number (level 2)
theorem dX6_number_0 : decode cX6_number 0 = .ok (.aload_n 0, 1) := by decide +kernel
theorem dX6_number_1 : decode cX6_number 1 = .ok (.invokevirtual 47, 3) := by decide +kernel
theorem dX6_number_4 : decode cX6_number 4 = .ok (.ifCond .ne 5, 3) := by decide +kernel
theorem dX6_number_7 : decode cX6_number 7 = .ok (.iconst (-1), 1) := by decide +kernel
theorem dX6_number_8 : decode cX6_number 8 = .ok (.ireturn, 1) := by decide +kernel
theorem dX6_number_9 : decode cX6_number 9 = .ok (.iconst 0, 1) := by decide +kernel
theorem dX6_number_10 : decode cX6_number 10 = .ok (.istore_n 2, 1) := by decide +kernel
theorem dX6_number_11 : decode cX6_number 11 = .ok (.iconst 0, 1) := by decide +kernel
theorem dX6_number_12 : decode cX6_number 12 = .ok (.istore_n 3, 1) := by decide +kernel
theorem dX6_number_13 : decode cX6_number 13 = .ok (.aload_n 0, 1) := by decide +kernel
theorem dX6_number_14 : decode cX6_number 14 = .ok (.invokevirtual 47, 3) := by decide +kernel
theorem dX6_number_17 : decode cX6_number 17 = .ok (.ifCond .eq 44, 3) := by decide +kernel
theorem dX6_number_20 : decode cX6_number 20 = .ok (.iload_n 3, 1) := by decide +kernel
theorem dX6_number_21 : decode cX6_number 21 = .ok (.iload_n 1, 1) := by decide +kernel
theorem dX6_number_22 : decode cX6_number 22 = .ok (.if_icmp .ne 5, 3) := by decide +kernel
theorem dX6_number_25 : decode cX6_number 25 = .ok (.iconst (-1), 1) := by decide +kernel
theorem dX6_number_26 : decode cX6_number 26 = .ok (.ireturn, 1) := by decide +kernel
theorem dX6_number_27 : decode cX6_number 27 = .ok (.bipush 10, 2) := by decide +kernel
theorem dX6_number_29 : decode cX6_number 29 = .ok (.iload_n 2, 1) := by decide +kernel
theorem dX6_number_30 : decode cX6_number 30 = .ok (.imul, 1) := by decide +kernel
theorem dX6_number_31 : decode cX6_number 31 = .ok (.aload_n 0, 1) := by decide +kernel
theorem dX6_number_32 : decode cX6_number 32 = .ok (.getfield 25, 3) := by decide +kernel
theorem dX6_number_35 : decode cX6_number 35 = .ok (.aload_n 0, 1) := by decide +kernel
theorem dX6_number_36 : decode cX6_number 36 = .ok (.getfield 33, 3) := by decide +kernel
theorem dX6_number_39 : decode cX6_number 39 = .ok (.iaload, 1) := by decide +kernel
theorem dX6_number_40 : decode cX6_number 40 = .ok (.iadd, 1) := by decide +kernel
theorem dX6_number_41 : decode cX6_number 41 = .ok (.bipush 48, 2) := by decide +kernel
theorem dX6_number_43 : decode cX6_number 43 = .ok (.isub, 1) := by decide +kernel
theorem dX6_number_44 : decode cX6_number 44 = .ok (.istore_n 2, 1) := by decide +kernel
theorem dX6_number_45 : decode cX6_number 45 = .ok (.aload_n 0, 1) := by decide +kernel
theorem dX6_number_46 : decode cX6_number 46 = .ok (.dup, 1) := by decide +kernel
theorem dX6_number_47 : decode cX6_number 47 = .ok (.getfield 33, 3) := by decide +kernel
theorem dX6_number_50 : decode cX6_number 50 = .ok (.iconst 1, 1) := by decide +kernel
theorem dX6_number_51 : decode cX6_number 51 = .ok (.iadd, 1) := by decide +kernel
theorem dX6_number_52 : decode cX6_number 52 = .ok (.putfield 33, 3) := by decide +kernel
theorem dX6_number_55 : decode cX6_number 55 = .ok (.iinc 3 1, 3) := by decide +kernel
theorem dX6_number_58 : decode cX6_number 58 = .ok (.goto (-45), 3) := by decide +kernel
theorem dX6_number_61 : decode cX6_number 61 = .ok (.iload_n 2, 1) := by decide +kernel
theorem dX6_number_62 : decode cX6_number 62 = .ok (.ireturn, 1) := by decide +kernel
def sX6_number_c13 (k13 : Hp → Int32 → Int32 → Int32 → Option (Int32 × Hp)) (h : Hp) (v1 : Int32) (v2 : Int32) (v3 : Int32) : Option (Int32 × Hp) :=
  (sX6_isDigit h).bind fun q2 => if q2.1 = 0 then (some (v2, q2.2)) else (if v3 = v1 then (some ((-1 : Int32), q2.2)) else (gd (inb (q2.2.1 54 5) 120) (nm (((((10 : Int32) * v2) + (q2.2.1 56 (q2.2.1 54 5).toNatClampNeg)) - (48 : Int32))) fun x4 => nm (u1 q2.2 54 5 ((q2.2.1 54 5) + (1 : Int32))) fun h5 => nm (v3 + (1 : Int32)) fun x6 => k13 h5 v1 x4 x6)))
set_option maxRecDepth 10000 in
theorem vX6_number_c13 (k13 : Hp → Int32 → Int32 → Int32 → Option (Int32 × Hp)) (hk13 : ∀ (h : Hp) (v1 : Int32) (v2 : Int32) (v3 : Int32) (q : (Int32 × Hp)), k13 h v1 v2 v3 = some q → V (Gs 2 (pI q)) mX6_number (0, 0) 13 [(0, .ref 54), (1, .int v1), (2, .int v2), (3, .int v3)] [] h) (h : Hp) (v1 : Int32) (v2 : Int32) (v3 : Int32) (q : (Int32 × Hp)) (e : sX6_number_c13 k13 h v1 v2 v3 = some q) : V (Gs 2 (pI q)) mX6_number (0, 0) 13 [(0, .ref 54), (1, .int v1), (2, .int v2), (3, .int v3)] [] h := by
  unfold sX6_number_c13 at e
  refine V.alq dX6_number_13 (pc' := 14) rfl (j := 0) rfl ?_
  obtain ⟨q2, eq2, e⟩ := bd_s e
  refine V.callVi dX6_number_14 (pc' := 17) rfl CV_X6_47 (as := []) (kX6_isDigit h q2 eq2) (Gs_rm (by decide)) rfl (by decide) rfl (Nat.le_of_ble_eq_true rfl) rfl ?_
  refine V.if_eq dX6_number_17 (pc' := 20) rfl (tgt := 61) (by decide) (fun c => ?_) (fun c => ?_)
  · rw [if_pos c] at e
    refine V.ilq dX6_number_61 (pc' := 62) rfl (j := 2) rfl ?_
    exact V.iret dX6_number_62 rfl (fnI e)
  · rw [if_neg c] at e
    refine V.ilq dX6_number_20 (pc' := 21) rfl (j := 3) rfl ?_
    refine V.ilq dX6_number_21 (pc' := 22) rfl (j := 1) rfl ?_
    refine V.ic_ne dX6_number_22 (pc' := 25) rfl (tgt := 27) (by decide) (fun c => ?_) (fun c => ?_)
    · rw [if_neg c] at e
      refine V.bipush dX6_number_27 (pc' := 29) rfl (v := 10) (by decide) ?_
      refine V.ilq dX6_number_29 (pc' := 30) rfl (j := 2) rfl ?_
      refine V.imul dX6_number_30 (pc' := 31) rfl ?_
      refine V.alq dX6_number_31 (pc' := 32) rfl (j := 0) rfl ?_
      refine V.getr dX6_number_32 (pc' := 35) rfl FL_X6_25 rfl (by decide) rfl (r' := 56) rfl ?_
      refine V.alq dX6_number_35 (pc' := 36) rfl (j := 0) rfl ?_
      refine V.getf dX6_number_36 (pc' := 39) rfl FL_X6_33 rfl (by decide) rfl ?_
      obtain ⟨c3, e⟩ := gd_s e
      refine V.iald dX6_number_39 (pc' := 40) rfl rfl rfl (inb_t c3) ?_
      refine V.iadd dX6_number_40 (pc' := 41) rfl ?_
      refine V.bipush dX6_number_41 (pc' := 43) rfl (v := 48) (by decide) ?_
      refine V.isub dX6_number_43 (pc' := 44) rfl ?_
      obtain ⟨x4, ex4, e⟩ := nm_s e
      refine V.isq dX6_number_44 (pc' := 45) rfl (by decide) ex4 (L' := [(2, .int x4), (0, .ref 54), (1, .int v1), (3, .int v3)]) rfl ?_
      refine V.alq dX6_number_45 (pc' := 46) rfl (j := 1) rfl ?_
      refine V.dup dX6_number_46 (pc' := 47) rfl rfl ?_
      refine V.getf dX6_number_47 (pc' := 50) rfl FL_X6_33 rfl (by decide) rfl ?_
      refine V.iconst dX6_number_50 (pc' := 51) rfl (v := 1) (by decide) ?_
      refine V.iadd dX6_number_51 (pc' := 52) rfl ?_
      obtain ⟨h5, eh5, e⟩ := nm_s e
      refine V.putf dX6_number_52 (pc' := 55) rfl FP_X6_33 rfl (by decide) rfl eh5 ?_
      obtain ⟨x6, ex6, e⟩ := nm_s e
      refine V.iinc dX6_number_55 (pc' := 58) rfl (j := 3) rfl (v := 1) (by decide) (by decide) ex6 (L' := [(3, .int x6), (2, .int x4), (0, .ref 54), (1, .int v1)]) rfl ?_
      refine V.goto dX6_number_58 (pc' := 13) (by decide) ?_
      refine V.pk [2, 3, 1, 0] rfl ?_
      exact hk13 h5 v1 x4 x6 q e
    · rw [if_pos c] at e
      refine V.iconst dX6_number_25 (pc' := 26) rfl (v := -1) (by decide) ?_
      exact V.iret dX6_number_26 rfl (fnI e)
def sX6_number_b13 : Nat → Hp → Int32 → Int32 → Int32 → Option (Int32 × Hp)
  | 0 => fun _ _ _ _ => none
  | n + 1 => sX6_number_c13 (sX6_number_b13 n)
theorem vX6_number_b13 : ∀ (n : Nat) (h : Hp) (v1 : Int32) (v2 : Int32) (v3 : Int32) (q : (Int32 × Hp)), sX6_number_b13 n h v1 v2 v3 = some q → V (Gs 2 (pI q)) mX6_number (0, 0) 13 [(0, .ref 54), (1, .int v1), (2, .int v2), (3, .int v3)] [] h
  | 0 => fun _ _ _ _ _ e => by cases e
  | n + 1 => fun h v1 v2 v3 q e => vX6_number_c13 (sX6_number_b13 n) (vX6_number_b13 n) h v1 v2 v3 q e
def sX6_number (h : Hp) (a1 : Int32) : Option (Int32 × Hp) :=
  (sX6_isDigit h).bind fun q1 => if q1.1 = 0 then (some ((-1 : Int32), q1.2)) else (sX6_number_b13 FU q1.2 a1 (0 : Int32) (0 : Int32))
set_option maxRecDepth 10000 in
theorem kX6_number (h : Hp) (a1 : Int32) (q : (Int32 × Hp)) (e : sX6_number h a1 = some q) : K 2 mX6_number [.ref 54, .int a1] h (pI q) := by
  unfold sX6_number at e
  refine K.ofV (by decide) rfl (Nat.le_of_ble_eq_true rfl) ?_
  show V (Gs 2 (pI q)) mX6_number (0, 0) 0 [(0, .ref 54), (1, .int a1)] [] h
  refine V.alq dX6_number_0 (pc' := 1) rfl (j := 0) rfl ?_
  obtain ⟨q1, eq1, e⟩ := bd_s e
  refine V.callVi dX6_number_1 (pc' := 4) rfl CV_X6_47 (as := []) (kX6_isDigit h q1 eq1) (Gs_rm (by decide)) rfl (by decide) rfl (Nat.le_of_ble_eq_true rfl) rfl ?_
  refine V.if_ne dX6_number_4 (pc' := 7) rfl (tgt := 9) (by decide) (fun c => ?_) (fun c => ?_)
  · rw [if_neg c] at e
    refine V.iconst dX6_number_9 (pc' := 10) rfl (v := 0) (by decide) ?_
    refine V.isq dX6_number_10 (pc' := 11) rfl (by decide) rfl (L' := [(2, .int (0 : Int32)), (0, .ref 54), (1, .int a1)]) rfl ?_
    refine V.iconst dX6_number_11 (pc' := 12) rfl (v := 0) (by decide) ?_
    refine V.isq dX6_number_12 (pc' := 13) rfl (by decide) rfl (L' := [(3, .int (0 : Int32)), (2, .int (0 : Int32)), (0, .ref 54), (1, .int a1)]) rfl ?_
    refine V.pk [2, 3, 1, 0] rfl ?_
    exact vX6_number_b13 FU q1.2 a1 (0 : Int32) (0 : Int32) q e
  · rw [if_pos c] at e
    refine V.iconst dX6_number_7 (pc' := 8) rfl (v := -1) (by decide) ?_
    exact V.iret dX6_number_8 rfl (fnI e)

-- X6_canSet (level 2)
theorem dX6_canSet_0 : decode cX6_canSet 0 = .ok (.aload_n 0, 1) := by decide +kernel
theorem dX6_canSet_1 : decode cX6_canSet 1 = .ok (.iload_n 1, 1) := by decide +kernel
theorem dX6_canSet_2 : decode cX6_canSet 2 = .ok (.invokevirtual 137, 3) := by decide +kernel
theorem dX6_canSet_5 : decode cX6_canSet 5 = .ok (.ifCond .eq 51, 3) := by decide +kernel
theorem dX6_canSet_8 : decode cX6_canSet 8 = .ok (.iload_n 2, 1) := by decide +kernel
theorem dX6_canSet_9 : decode cX6_canSet 9 = .ok (.i2l, 1) := by decide +kernel
theorem dX6_canSet_10 : decode cX6_canSet 10 = .ok (.lconst 0, 1) := by decide +kernel
theorem dX6_canSet_11 : decode cX6_canSet 11 = .ok (.ldc2_w 140, 3) := by decide +kernel
theorem dX6_canSet_14 : decode cX6_canSet 14 = .ok (.invokestatic 29, 3) := by decide +kernel
theorem dX6_canSet_17 : decode cX6_canSet 17 = .ok (.ifCond .eq 39, 3) := by decide +kernel
theorem dX6_canSet_20 : decode cX6_canSet 20 = .ok (.iload_n 2, 1) := by decide +kernel
theorem dX6_canSet_21 : decode cX6_canSet 21 = .ok (.iconst 2, 1) := by decide +kernel
theorem dX6_canSet_22 : decode cX6_canSet 22 = .ok (.if_icmp .ne 18, 3) := by decide +kernel
theorem dX6_canSet_25 : decode cX6_canSet 25 = .ok (.iload_n 3, 1) := by decide +kernel
theorem dX6_canSet_26 : decode cX6_canSet 26 = .ok (.i2l, 1) := by decide +kernel
theorem dX6_canSet_27 : decode cX6_canSet 27 = .ok (.lconst 1, 1) := by decide +kernel
theorem dX6_canSet_28 : decode cX6_canSet 28 = .ok (.ldc2_w 126, 3) := by decide +kernel
theorem dX6_canSet_31 : decode cX6_canSet 31 = .ok (.invokestatic 29, 3) := by decide +kernel
theorem dX6_canSet_34 : decode cX6_canSet 34 = .ok (.ifCond .eq 22, 3) := by decide +kernel
theorem dX6_canSet_37 : decode cX6_canSet 37 = .ok (.goto 15, 3) := by decide +kernel
theorem dX6_canSet_40 : decode cX6_canSet 40 = .ok (.iload_n 3, 1) := by decide +kernel
theorem dX6_canSet_41 : decode cX6_canSet 41 = .ok (.i2l, 1) := by decide +kernel
theorem dX6_canSet_42 : decode cX6_canSet 42 = .ok (.lconst 0, 1) := by decide +kernel
theorem dX6_canSet_43 : decode cX6_canSet 43 = .ok (.ldc2_w 142, 3) := by decide +kernel
theorem dX6_canSet_46 : decode cX6_canSet 46 = .ok (.invokestatic 29, 3) := by decide +kernel
theorem dX6_canSet_49 : decode cX6_canSet 49 = .ok (.ifCond .eq 7, 3) := by decide +kernel
theorem dX6_canSet_52 : decode cX6_canSet 52 = .ok (.iconst 1, 1) := by decide +kernel
theorem dX6_canSet_53 : decode cX6_canSet 53 = .ok (.goto 4, 3) := by decide +kernel
theorem dX6_canSet_56 : decode cX6_canSet 56 = .ok (.iconst 0, 1) := by decide +kernel
theorem dX6_canSet_57 : decode cX6_canSet 57 = .ok (.ireturn, 1) := by decide +kernel
def sX6_canSet_c57 (h : Hp) (t0 : Int32) : Option (Int32 × Hp) :=
  gd (zb t0) (some (t0, h))
set_option maxRecDepth 10000 in
theorem vX6_canSet_c57 (h : Hp) (t0 : Int32) (q : (Int32 × Hp)) (e : sX6_canSet_c57 h t0 = some q) : V (Gs 2 (pI q)) mX6_canSet (0, 0) 57 [] [.int t0] h := by
  unfold sX6_canSet_c57 at e
  obtain ⟨c5, e⟩ := gd_s e
  exact V.zret dX6_canSet_57 rfl (zb_t c5) (fnI e)
def sX6_canSet_c52 (h : Hp) : Option (Int32 × Hp) :=
  sX6_canSet_c57 h (1 : Int32)
set_option maxRecDepth 10000 in
theorem vX6_canSet_c52 (h : Hp) (q : (Int32 × Hp)) (e : sX6_canSet_c52 h = some q) : V (Gs 2 (pI q)) mX6_canSet (0, 0) 52 [] [] h := by
  unfold sX6_canSet_c52 at e
  refine V.iconst dX6_canSet_52 (pc' := 53) rfl (v := 1) (by decide) ?_
  refine V.goto dX6_canSet_53 (pc' := 57) (by decide) ?_
  exact vX6_canSet_c57 h (1 : Int32) q e
def sX6_canSet_c56 (h : Hp) : Option (Int32 × Hp) :=
  sX6_canSet_c57 h (0 : Int32)
set_option maxRecDepth 10000 in
theorem vX6_canSet_c56 (h : Hp) (q : (Int32 × Hp)) (e : sX6_canSet_c56 h = some q) : V (Gs 2 (pI q)) mX6_canSet (0, 0) 56 [] [] h := by
  unfold sX6_canSet_c56 at e
  refine V.iconst dX6_canSet_56 (pc' := 57) rfl (v := 0) (by decide) ?_
  exact vX6_canSet_c57 h (0 : Int32) q e
def sX6_canSet (h : Hp) (a1 : Int32) (a2 : Int32) (a3 : Int32) : Option (Int32 × Hp) :=
  (sX6_isStream h a1).bind fun q1 => if q1.1 = 0 then (sX6_canSet_c56 q1.2) else ((sX6_in q1.2 a2.toInt64 (0 : Int64) (2 : Int64)).bind fun q2 => if q2.1 = 0 then (sX6_canSet_c56 q2.2) else (if a2 = (2 : Int32) then ((sX6_in q2.2 a3.toInt64 (1 : Int64) (20 : Int64)).bind fun q4 => if q4.1 = 0 then (sX6_canSet_c56 q4.2) else (sX6_canSet_c52 q4.2)) else ((sX6_in q2.2 a3.toInt64 (0 : Int64) (500 : Int64)).bind fun q3 => if q3.1 = 0 then (sX6_canSet_c56 q3.2) else (sX6_canSet_c52 q3.2))))
set_option maxRecDepth 10000 in
theorem kX6_canSet (h : Hp) (a1 : Int32) (a2 : Int32) (a3 : Int32) (q : (Int32 × Hp)) (e : sX6_canSet h a1 a2 a3 = some q) : K 2 mX6_canSet [.ref 54, .int a1, .int a2, .int a3] h (pI q) := by
  unfold sX6_canSet at e
  refine K.ofV (by decide) rfl (Nat.le_of_ble_eq_true rfl) ?_
  show V (Gs 2 (pI q)) mX6_canSet (0, 0) 0 [(0, .ref 54), (1, .int a1), (2, .int a2), (3, .int a3)] [] h
  refine V.alq dX6_canSet_0 (pc' := 1) rfl (j := 0) rfl ?_
  refine V.ilq dX6_canSet_1 (pc' := 2) rfl (j := 1) rfl ?_
  obtain ⟨q1, eq1, e⟩ := bd_s e
  refine V.callVi dX6_canSet_2 (pc' := 5) rfl CV_X6_137 (as := [.int a1]) (kX6_isStream h a1 q1 eq1) (Gs_rm (by decide)) rfl (by decide) rfl (Nat.le_of_ble_eq_true rfl) rfl ?_
  refine V.if_eq dX6_canSet_5 (pc' := 8) rfl (tgt := 56) (by decide) (fun c => ?_) (fun c => ?_)
  · rw [if_pos c] at e
    refine V.pk [] rfl ?_
    exact vX6_canSet_c56 q1.2 q e
  · rw [if_neg c] at e
    refine V.ilq dX6_canSet_8 (pc' := 9) rfl (j := 2) rfl ?_
    refine V.i2l dX6_canSet_9 (pc' := 10) rfl ?_
    refine V.lconst dX6_canSet_10 (pc' := 11) rfl (v := 0) (by decide) ?_
    refine V.ldc2 dX6_canSet_11 (pc' := 14) rfl (v := 2) (TBm 1048 (by decide +kernel) rfl) ?_
    obtain ⟨q2, eq2, e⟩ := bd_s e
    refine V.callSi dX6_canSet_14 (pc' := 17) rfl CS_X6_29 (as := [.long a2.toInt64, .long (0 : Int64), .long (2 : Int64)]) (kX6_in q1.2 a2.toInt64 (0 : Int64) (2 : Int64) q2 eq2) (Gs_rm (by decide)) rfl (Nat.le_of_ble_eq_true rfl) rfl ?_
    refine V.if_eq dX6_canSet_17 (pc' := 20) rfl (tgt := 56) (by decide) (fun c => ?_) (fun c => ?_)
    · rw [if_pos c] at e
      refine V.pk [] rfl ?_
      exact vX6_canSet_c56 q2.2 q e
    · rw [if_neg c] at e
      refine V.ilq dX6_canSet_20 (pc' := 21) rfl (j := 2) rfl ?_
      refine V.iconst dX6_canSet_21 (pc' := 22) rfl (v := 2) (by decide) ?_
      refine V.ic_ne dX6_canSet_22 (pc' := 25) rfl (tgt := 40) (by decide) (fun c => ?_) (fun c => ?_)
      · rw [if_neg c] at e
        refine V.ilq dX6_canSet_40 (pc' := 41) rfl (j := 3) rfl ?_
        refine V.i2l dX6_canSet_41 (pc' := 42) rfl ?_
        refine V.lconst dX6_canSet_42 (pc' := 43) rfl (v := 0) (by decide) ?_
        refine V.ldc2 dX6_canSet_43 (pc' := 46) rfl (v := 500) (TBm 1049 (by decide +kernel) rfl) ?_
        obtain ⟨q3, eq3, e⟩ := bd_s e
        refine V.callSi dX6_canSet_46 (pc' := 49) rfl CS_X6_29 (as := [.long a3.toInt64, .long (0 : Int64), .long (500 : Int64)]) (kX6_in q2.2 a3.toInt64 (0 : Int64) (500 : Int64) q3 eq3) (Gs_rm (by decide)) rfl (Nat.le_of_ble_eq_true rfl) rfl ?_
        refine V.if_eq dX6_canSet_49 (pc' := 52) rfl (tgt := 56) (by decide) (fun c => ?_) (fun c => ?_)
        · rw [if_pos c] at e
          refine V.pk [] rfl ?_
          exact vX6_canSet_c56 q3.2 q e
        · rw [if_neg c] at e
          refine V.pk [] rfl ?_
          exact vX6_canSet_c52 q3.2 q e
      · rw [if_pos c] at e
        refine V.ilq dX6_canSet_25 (pc' := 26) rfl (j := 3) rfl ?_
        refine V.i2l dX6_canSet_26 (pc' := 27) rfl ?_
        refine V.lconst dX6_canSet_27 (pc' := 28) rfl (v := 1) (by decide) ?_
        refine V.ldc2 dX6_canSet_28 (pc' := 31) rfl (v := 20) (TBm 1031 (by decide +kernel) rfl) ?_
        obtain ⟨q4, eq4, e⟩ := bd_s e
        refine V.callSi dX6_canSet_31 (pc' := 34) rfl CS_X6_29 (as := [.long a3.toInt64, .long (1 : Int64), .long (20 : Int64)]) (kX6_in q2.2 a3.toInt64 (1 : Int64) (20 : Int64) q4 eq4) (Gs_rm (by decide)) rfl (Nat.le_of_ble_eq_true rfl) rfl ?_
        refine V.if_eq dX6_canSet_34 (pc' := 37) rfl (tgt := 56) (by decide) (fun c => ?_) (fun c => ?_)
        · rw [if_pos c] at e
          refine V.pk [] rfl ?_
          exact vX6_canSet_c56 q4.2 q e
        · rw [if_neg c] at e
          refine V.goto dX6_canSet_37 (pc' := 52) (by decide) ?_
          refine V.pk [] rfl ?_
          exact vX6_canSet_c52 q4.2 q e

-- X6_splits (level 2)
theorem dX6_splits_0 : decode cX6_splits 0 = .ok (.aload_n 0, 1) := by decide +kernel
theorem dX6_splits_1 : decode cX6_splits 1 = .ok (.iconst 0, 1) := by decide +kernel
theorem dX6_splits_2 : decode cX6_splits 2 = .ok (.putfield 1, 3) := by decide +kernel
theorem dX6_splits_5 : decode cX6_splits 5 = .ok (.aload_n 0, 1) := by decide +kernel
theorem dX6_splits_6 : decode cX6_splits 6 = .ok (.iload_n 1, 1) := by decide +kernel
theorem dX6_splits_7 : decode cX6_splits 7 = .ok (.invokevirtual 137, 3) := by decide +kernel
theorem dX6_splits_10 : decode cX6_splits 10 = .ok (.ifCond .eq 21, 3) := by decide +kernel
theorem dX6_splits_13 : decode cX6_splits 13 = .ok (.iload_n 2, 1) := by decide +kernel
theorem dX6_splits_14 : decode cX6_splits 14 = .ok (.i2l, 1) := by decide +kernel
theorem dX6_splits_15 : decode cX6_splits 15 = .ok (.lconst 1, 1) := by decide +kernel
theorem dX6_splits_16 : decode cX6_splits 16 = .ok (.aload_n 0, 1) := by decide +kernel
theorem dX6_splits_17 : decode cX6_splits 17 = .ok (.getfield 63, 3) := by decide +kernel
theorem dX6_splits_20 : decode cX6_splits 20 = .ok (.iload_n 1, 1) := by decide +kernel
theorem dX6_splits_21 : decode cX6_splits 21 = .ok (.iaload, 1) := by decide +kernel
theorem dX6_splits_22 : decode cX6_splits 22 = .ok (.iconst 1, 1) := by decide +kernel
theorem dX6_splits_23 : decode cX6_splits 23 = .ok (.isub, 1) := by decide +kernel
theorem dX6_splits_24 : decode cX6_splits 24 = .ok (.i2l, 1) := by decide +kernel
theorem dX6_splits_25 : decode cX6_splits 25 = .ok (.invokestatic 29, 3) := by decide +kernel
theorem dX6_splits_28 : decode cX6_splits 28 = .ok (.ifCond .ne 5, 3) := by decide +kernel
theorem dX6_splits_31 : decode cX6_splits 31 = .ok (.iconst (-1), 1) := by decide +kernel
theorem dX6_splits_32 : decode cX6_splits 32 = .ok (.ireturn, 1) := by decide +kernel
theorem dX6_splits_33 : decode cX6_splits 33 = .ok (.aload_n 0, 1) := by decide +kernel
theorem dX6_splits_34 : decode cX6_splits 34 = .ok (.getfield 131, 3) := by decide +kernel
theorem dX6_splits_37 : decode cX6_splits 37 = .ok (.bipush 10, 2) := by decide +kernel
theorem dX6_splits_39 : decode cX6_splits 39 = .ok (.if_icmp .ne 6, 3) := by decide +kernel
theorem dX6_splits_42 : decode cX6_splits 42 = .ok (.bipush (-2), 2) := by decide +kernel
theorem dX6_splits_44 : decode cX6_splits 44 = .ok (.ireturn, 1) := by decide +kernel
theorem dX6_splits_45 : decode cX6_splits 45 = .ok (.aload_n 0, 1) := by decide +kernel
theorem dX6_splits_46 : decode cX6_splits 46 = .ok (.getfield 57, 3) := by decide +kernel
theorem dX6_splits_49 : decode cX6_splits 49 = .ok (.aload_n 0, 1) := by decide +kernel
theorem dX6_splits_50 : decode cX6_splits 50 = .ok (.getfield 131, 3) := by decide +kernel
theorem dX6_splits_53 : decode cX6_splits 53 = .ok (.aload_n 0, 1) := by decide +kernel
theorem dX6_splits_54 : decode cX6_splits 54 = .ok (.getfield 57, 3) := by decide +kernel
theorem dX6_splits_57 : decode cX6_splits 57 = .ok (.iload_n 1, 1) := by decide +kernel
theorem dX6_splits_58 : decode cX6_splits 58 = .ok (.iaload, 1) := by decide +kernel
theorem dX6_splits_59 : decode cX6_splits 59 = .ok (.iastore, 1) := by decide +kernel
theorem dX6_splits_60 : decode cX6_splits 60 = .ok (.aload_n 0, 1) := by decide +kernel
theorem dX6_splits_61 : decode cX6_splits 61 = .ok (.getfield 60, 3) := by decide +kernel
theorem dX6_splits_64 : decode cX6_splits 64 = .ok (.aload_n 0, 1) := by decide +kernel
theorem dX6_splits_65 : decode cX6_splits 65 = .ok (.getfield 131, 3) := by decide +kernel
theorem dX6_splits_68 : decode cX6_splits 68 = .ok (.aload_n 0, 1) := by decide +kernel
theorem dX6_splits_69 : decode cX6_splits 69 = .ok (.getfield 60, 3) := by decide +kernel
theorem dX6_splits_72 : decode cX6_splits 72 = .ok (.iload_n 1, 1) := by decide +kernel
theorem dX6_splits_73 : decode cX6_splits 73 = .ok (.iaload, 1) := by decide +kernel
theorem dX6_splits_74 : decode cX6_splits 74 = .ok (.iastore, 1) := by decide +kernel
theorem dX6_splits_75 : decode cX6_splits 75 = .ok (.aload_n 0, 1) := by decide +kernel
theorem dX6_splits_76 : decode cX6_splits 76 = .ok (.getfield 63, 3) := by decide +kernel
theorem dX6_splits_79 : decode cX6_splits 79 = .ok (.aload_n 0, 1) := by decide +kernel
theorem dX6_splits_80 : decode cX6_splits 80 = .ok (.getfield 131, 3) := by decide +kernel
theorem dX6_splits_83 : decode cX6_splits 83 = .ok (.iload_n 2, 1) := by decide +kernel
theorem dX6_splits_84 : decode cX6_splits 84 = .ok (.iastore, 1) := by decide +kernel
theorem dX6_splits_85 : decode cX6_splits 85 = .ok (.aload_n 0, 1) := by decide +kernel
theorem dX6_splits_86 : decode cX6_splits 86 = .ok (.getfield 63, 3) := by decide +kernel
theorem dX6_splits_89 : decode cX6_splits 89 = .ok (.iload_n 1, 1) := by decide +kernel
theorem dX6_splits_90 : decode cX6_splits 90 = .ok (.dup2, 1) := by decide +kernel
theorem dX6_splits_91 : decode cX6_splits 91 = .ok (.iaload, 1) := by decide +kernel
theorem dX6_splits_92 : decode cX6_splits 92 = .ok (.iload_n 2, 1) := by decide +kernel
theorem dX6_splits_93 : decode cX6_splits 93 = .ok (.isub, 1) := by decide +kernel
theorem dX6_splits_94 : decode cX6_splits 94 = .ok (.iastore, 1) := by decide +kernel
theorem dX6_splits_95 : decode cX6_splits 95 = .ok (.aload_n 0, 1) := by decide +kernel
theorem dX6_splits_96 : decode cX6_splits 96 = .ok (.dup, 1) := by decide +kernel
theorem dX6_splits_97 : decode cX6_splits 97 = .ok (.getfield 131, 3) := by decide +kernel
theorem dX6_splits_100 : decode cX6_splits 100 = .ok (.iconst 1, 1) := by decide +kernel
theorem dX6_splits_101 : decode cX6_splits 101 = .ok (.iadd, 1) := by decide +kernel
theorem dX6_splits_102 : decode cX6_splits 102 = .ok (.putfield 131, 3) := by decide +kernel
theorem dX6_splits_105 : decode cX6_splits 105 = .ok (.aload_n 0, 1) := by decide +kernel
theorem dX6_splits_106 : decode cX6_splits 106 = .ok (.invokevirtual 134, 3) := by decide +kernel
theorem dX6_splits_109 : decode cX6_splits 109 = .ok (.aload_n 0, 1) := by decide +kernel
theorem dX6_splits_110 : decode cX6_splits 110 = .ok (.getfield 131, 3) := by decide +kernel
theorem dX6_splits_113 : decode cX6_splits 113 = .ok (.iconst 1, 1) := by decide +kernel
theorem dX6_splits_114 : decode cX6_splits 114 = .ok (.isub, 1) := by decide +kernel
theorem dX6_splits_115 : decode cX6_splits 115 = .ok (.ireturn, 1) := by decide +kernel
def sX6_splits_c31 (h : Hp) : Option (Int32 × Hp) :=
  some ((-1 : Int32), h)
set_option maxRecDepth 10000 in
theorem vX6_splits_c31 (h : Hp) (q : (Int32 × Hp)) (e : sX6_splits_c31 h = some q) : V (Gs 2 (pI q)) mX6_splits (0, 0) 31 [] [] h := by
  unfold sX6_splits_c31 at e
  refine V.iconst dX6_splits_31 (pc' := 32) rfl (v := -1) (by decide) ?_
  exact V.iret dX6_splits_32 rfl (fnI e)
def sX6_splits (h : Hp) (a1 : Int32) (a2 : Int32) : Option (Int32 × Hp) :=
  nm (u1 h 54 0 (0 : Int32)) fun h1 => (sX6_isStream h1 a1).bind fun q2 => if q2.1 = 0 then (sX6_splits_c31 q2.2) else (gd (inb a1 10) ((sX6_in q2.2 a2.toInt64 (1 : Int64) (((q2.2.1 59 a1.toNatClampNeg) - (1 : Int32)).toInt64)).bind fun q4 => if q4.1 = 0 then (sX6_splits_c31 q4.2) else (if (q4.2.1 54 7) = (10 : Int32) then (some ((-2 : Int32), q4.2)) else (gd (inb a1 10) (gd (inb (q4.2.1 54 7) 10) (nm (u1 q4.2 57 (q4.2.1 54 7).toNatClampNeg (q4.2.1 57 a1.toNatClampNeg)) fun h7 => gd (inb a1 10) (gd (inb (h7.1 54 7) 10) (nm (u1 h7 58 (h7.1 54 7).toNatClampNeg (h7.1 58 a1.toNatClampNeg)) fun h10 => gd (inb (h10.1 54 7) 10) (nm (u1 h10 59 (h10.1 54 7).toNatClampNeg a2) fun h12 => gd (inb a1 10) (gd (inb a1 10) (nm (u1 h12 59 a1.toNatClampNeg ((h12.1 59 a1.toNatClampNeg) - a2)) fun h15 => nm (u1 h15 54 7 ((h15.1 54 7) + (1 : Int32))) fun h16 => (sX6_allGo h16).bind fun q17 => some (((q17.1 54 7) - (1 : Int32)), q17))))))))))))
set_option maxRecDepth 10000 in
theorem kX6_splits (h : Hp) (a1 : Int32) (a2 : Int32) (q : (Int32 × Hp)) (e : sX6_splits h a1 a2 = some q) : K 2 mX6_splits [.ref 54, .int a1, .int a2] h (pI q) := by
  unfold sX6_splits at e
  refine K.ofV (by decide) rfl (Nat.le_of_ble_eq_true rfl) ?_
  show V (Gs 2 (pI q)) mX6_splits (0, 0) 0 [(0, .ref 54), (1, .int a1), (2, .int a2)] [] h
  refine V.alq dX6_splits_0 (pc' := 1) rfl (j := 0) rfl ?_
  refine V.iconst dX6_splits_1 (pc' := 2) rfl (v := 0) (by decide) ?_
  obtain ⟨h1, eh1, e⟩ := nm_s e
  refine V.putf dX6_splits_2 (pc' := 5) rfl FP_X6_1 rfl (by decide) rfl eh1 ?_
  refine V.alq dX6_splits_5 (pc' := 6) rfl (j := 0) rfl ?_
  refine V.ilq dX6_splits_6 (pc' := 7) rfl (j := 1) rfl ?_
  obtain ⟨q2, eq2, e⟩ := bd_s e
  refine V.callVi dX6_splits_7 (pc' := 10) rfl CV_X6_137 (as := [.int a1]) (kX6_isStream h1 a1 q2 eq2) (Gs_rm (by decide)) rfl (by decide) rfl (Nat.le_of_ble_eq_true rfl) rfl ?_
  refine V.if_eq dX6_splits_10 (pc' := 13) rfl (tgt := 31) (by decide) (fun c => ?_) (fun c => ?_)
  · rw [if_pos c] at e
    refine V.pk [] rfl ?_
    exact vX6_splits_c31 q2.2 q e
  · rw [if_neg c] at e
    refine V.ilq dX6_splits_13 (pc' := 14) rfl (j := 2) rfl ?_
    refine V.i2l dX6_splits_14 (pc' := 15) rfl ?_
    refine V.lconst dX6_splits_15 (pc' := 16) rfl (v := 1) (by decide) ?_
    refine V.alq dX6_splits_16 (pc' := 17) rfl (j := 0) rfl ?_
    refine V.getr dX6_splits_17 (pc' := 20) rfl FL_X6_63 rfl (by decide) rfl (r' := 59) rfl ?_
    refine V.ilq dX6_splits_20 (pc' := 21) rfl (j := 1) rfl ?_
    obtain ⟨c3, e⟩ := gd_s e
    refine V.iald dX6_splits_21 (pc' := 22) rfl rfl rfl (inb_t c3) ?_
    refine V.iconst dX6_splits_22 (pc' := 23) rfl (v := 1) (by decide) ?_
    refine V.isub dX6_splits_23 (pc' := 24) rfl ?_
    refine V.i2l dX6_splits_24 (pc' := 25) rfl ?_
    obtain ⟨q4, eq4, e⟩ := bd_s e
    refine V.callSi dX6_splits_25 (pc' := 28) rfl CS_X6_29 (as := [.long a2.toInt64, .long (1 : Int64), .long (((q2.2.1 59 a1.toNatClampNeg) - (1 : Int32)).toInt64)]) (kX6_in q2.2 a2.toInt64 (1 : Int64) (((q2.2.1 59 a1.toNatClampNeg) - (1 : Int32)).toInt64) q4 eq4) (Gs_rm (by decide)) rfl (Nat.le_of_ble_eq_true rfl) rfl ?_
    refine V.if_ne dX6_splits_28 (pc' := 31) rfl (tgt := 33) (by decide) (fun c => ?_) (fun c => ?_)
    · rw [if_neg c] at e
      refine V.alq dX6_splits_33 (pc' := 34) rfl (j := 0) rfl ?_
      refine V.getf dX6_splits_34 (pc' := 37) rfl FL_X6_131 rfl (by decide) rfl ?_
      refine V.bipush dX6_splits_37 (pc' := 39) rfl (v := 10) (by decide) ?_
      refine V.ic_ne dX6_splits_39 (pc' := 42) rfl (tgt := 45) (by decide) (fun c => ?_) (fun c => ?_)
      · rw [if_neg c] at e
        refine V.alq dX6_splits_45 (pc' := 46) rfl (j := 0) rfl ?_
        refine V.getr dX6_splits_46 (pc' := 49) rfl FL_X6_57 rfl (by decide) rfl (r' := 57) rfl ?_
        refine V.alq dX6_splits_49 (pc' := 50) rfl (j := 0) rfl ?_
        refine V.getf dX6_splits_50 (pc' := 53) rfl FL_X6_131 rfl (by decide) rfl ?_
        refine V.alq dX6_splits_53 (pc' := 54) rfl (j := 0) rfl ?_
        refine V.getr dX6_splits_54 (pc' := 57) rfl FL_X6_57 rfl (by decide) rfl (r' := 57) rfl ?_
        refine V.ilq dX6_splits_57 (pc' := 58) rfl (j := 1) rfl ?_
        obtain ⟨c5, e⟩ := gd_s e
        refine V.iald dX6_splits_58 (pc' := 59) rfl rfl rfl (inb_t c5) ?_
        obtain ⟨c6, e⟩ := gd_s e
        obtain ⟨h7, eh7, e⟩ := nm_s e
        refine V.iast dX6_splits_59 (pc' := 60) rfl rfl rfl (inb_t c6) eh7 ?_
        refine V.alq dX6_splits_60 (pc' := 61) rfl (j := 0) rfl ?_
        refine V.getr dX6_splits_61 (pc' := 64) rfl FL_X6_60 rfl (by decide) rfl (r' := 58) rfl ?_
        refine V.alq dX6_splits_64 (pc' := 65) rfl (j := 0) rfl ?_
        refine V.getf dX6_splits_65 (pc' := 68) rfl FL_X6_131 rfl (by decide) rfl ?_
        refine V.alq dX6_splits_68 (pc' := 69) rfl (j := 0) rfl ?_
        refine V.getr dX6_splits_69 (pc' := 72) rfl FL_X6_60 rfl (by decide) rfl (r' := 58) rfl ?_
        refine V.ilq dX6_splits_72 (pc' := 73) rfl (j := 1) rfl ?_
        obtain ⟨c8, e⟩ := gd_s e
        refine V.iald dX6_splits_73 (pc' := 74) rfl rfl rfl (inb_t c8) ?_
        obtain ⟨c9, e⟩ := gd_s e
        obtain ⟨h10, eh10, e⟩ := nm_s e
        refine V.iast dX6_splits_74 (pc' := 75) rfl rfl rfl (inb_t c9) eh10 ?_
        refine V.alq dX6_splits_75 (pc' := 76) rfl (j := 0) rfl ?_
        refine V.getr dX6_splits_76 (pc' := 79) rfl FL_X6_63 rfl (by decide) rfl (r' := 59) rfl ?_
        refine V.alq dX6_splits_79 (pc' := 80) rfl (j := 0) rfl ?_
        refine V.getf dX6_splits_80 (pc' := 83) rfl FL_X6_131 rfl (by decide) rfl ?_
        refine V.ilq dX6_splits_83 (pc' := 84) rfl (j := 2) rfl ?_
        obtain ⟨c11, e⟩ := gd_s e
        obtain ⟨h12, eh12, e⟩ := nm_s e
        refine V.iast dX6_splits_84 (pc' := 85) rfl rfl rfl (inb_t c11) eh12 ?_
        refine V.alq dX6_splits_85 (pc' := 86) rfl (j := 0) rfl ?_
        refine V.getr dX6_splits_86 (pc' := 89) rfl FL_X6_63 rfl (by decide) rfl (r' := 59) rfl ?_
        refine V.ilq dX6_splits_89 (pc' := 90) rfl (j := 1) rfl ?_
        refine V.dup2 dX6_splits_90 (pc' := 91) rfl rfl rfl ?_
        obtain ⟨c13, e⟩ := gd_s e
        refine V.iald dX6_splits_91 (pc' := 92) rfl rfl rfl (inb_t c13) ?_
        refine V.ilq dX6_splits_92 (pc' := 93) rfl (j := 2) rfl ?_
        refine V.isub dX6_splits_93 (pc' := 94) rfl ?_
        obtain ⟨c14, e⟩ := gd_s e
        obtain ⟨h15, eh15, e⟩ := nm_s e
        refine V.iast dX6_splits_94 (pc' := 95) rfl rfl rfl (inb_t c14) eh15 ?_
        refine V.alq dX6_splits_95 (pc' := 96) rfl (j := 0) rfl ?_
        refine V.dup dX6_splits_96 (pc' := 97) rfl rfl ?_
        refine V.getf dX6_splits_97 (pc' := 100) rfl FL_X6_131 rfl (by decide) rfl ?_
        refine V.iconst dX6_splits_100 (pc' := 101) rfl (v := 1) (by decide) ?_
        refine V.iadd dX6_splits_101 (pc' := 102) rfl ?_
        obtain ⟨h16, eh16, e⟩ := nm_s e
        refine V.putf dX6_splits_102 (pc' := 105) rfl FP_X6_131 rfl (by decide) rfl eh16 ?_
        refine V.alq dX6_splits_105 (pc' := 106) rfl (j := 0) rfl ?_
        obtain ⟨q17, eq17, e⟩ := bd_s e
        refine V.callVv dX6_splits_106 (pc' := 109) rfl CV_X6_134 (as := []) (kX6_allGo h16 q17 eq17) (Gs_rm (by decide)) rfl (by decide) rfl (Nat.le_of_ble_eq_true rfl) rfl ?_
        refine V.alq dX6_splits_109 (pc' := 110) rfl (j := 0) rfl ?_
        refine V.getf dX6_splits_110 (pc' := 113) rfl FL_X6_131 rfl (by decide) rfl ?_
        refine V.iconst dX6_splits_113 (pc' := 114) rfl (v := 1) (by decide) ?_
        refine V.isub dX6_splits_114 (pc' := 115) rfl ?_
        exact V.iret dX6_splits_115 rfl (fnI e)
      · rw [if_pos c] at e
        refine V.bipush dX6_splits_42 (pc' := 44) rfl (v := -2) (by decide) ?_
        exact V.iret dX6_splits_44 rfl (fnI e)
    · rw [if_pos c] at e
      refine V.pk [] rfl ?_
      exact vX6_splits_c31 q4.2 q e

-- X6_drops (level 2)
theorem dX6_drops_0 : decode cX6_drops 0 = .ok (.aload_n 0, 1) := by decide +kernel
theorem dX6_drops_1 : decode cX6_drops 1 = .ok (.iconst 0, 1) := by decide +kernel
theorem dX6_drops_2 : decode cX6_drops 2 = .ok (.putfield 1, 3) := by decide +kernel
theorem dX6_drops_5 : decode cX6_drops 5 = .ok (.aload_n 0, 1) := by decide +kernel
theorem dX6_drops_6 : decode cX6_drops 6 = .ok (.iload_n 1, 1) := by decide +kernel
theorem dX6_drops_7 : decode cX6_drops 7 = .ok (.invokevirtual 137, 3) := by decide +kernel
theorem dX6_drops_10 : decode cX6_drops 10 = .ok (.ifCond .ne 5, 3) := by decide +kernel
theorem dX6_drops_13 : decode cX6_drops 13 = .ok (.iconst (-1), 1) := by decide +kernel
theorem dX6_drops_14 : decode cX6_drops 14 = .ok (.ireturn, 1) := by decide +kernel
theorem dX6_drops_15 : decode cX6_drops 15 = .ok (.aload_n 0, 1) := by decide +kernel
theorem dX6_drops_16 : decode cX6_drops 16 = .ok (.iload_n 1, 1) := by decide +kernel
theorem dX6_drops_17 : decode cX6_drops 17 = .ok (.invokevirtual 164, 3) := by decide +kernel
theorem dX6_drops_20 : decode cX6_drops 20 = .ok (.aload_n 0, 1) := by decide +kernel
theorem dX6_drops_21 : decode cX6_drops 21 = .ok (.invokevirtual 134, 3) := by decide +kernel
theorem dX6_drops_24 : decode cX6_drops 24 = .ok (.aload_n 0, 1) := by decide +kernel
theorem dX6_drops_25 : decode cX6_drops 25 = .ok (.getfield 131, 3) := by decide +kernel
theorem dX6_drops_28 : decode cX6_drops 28 = .ok (.ireturn, 1) := by decide +kernel
def sX6_drops (h : Hp) (a1 : Int32) : Option (Int32 × Hp) :=
  nm (u1 h 54 0 (0 : Int32)) fun h1 => (sX6_isStream h1 a1).bind fun q2 => if q2.1 = 0 then (some ((-1 : Int32), q2.2)) else ((sX6_takesOut q2.2 a1).bind fun q3 => (sX6_allGo q3).bind fun q4 => some ((q4.1 54 7), q4))
set_option maxRecDepth 10000 in
theorem kX6_drops (h : Hp) (a1 : Int32) (q : (Int32 × Hp)) (e : sX6_drops h a1 = some q) : K 2 mX6_drops [.ref 54, .int a1] h (pI q) := by
  unfold sX6_drops at e
  refine K.ofV (by decide) rfl (Nat.le_of_ble_eq_true rfl) ?_
  show V (Gs 2 (pI q)) mX6_drops (0, 0) 0 [(0, .ref 54), (1, .int a1)] [] h
  refine V.alq dX6_drops_0 (pc' := 1) rfl (j := 0) rfl ?_
  refine V.iconst dX6_drops_1 (pc' := 2) rfl (v := 0) (by decide) ?_
  obtain ⟨h1, eh1, e⟩ := nm_s e
  refine V.putf dX6_drops_2 (pc' := 5) rfl FP_X6_1 rfl (by decide) rfl eh1 ?_
  refine V.alq dX6_drops_5 (pc' := 6) rfl (j := 0) rfl ?_
  refine V.ilq dX6_drops_6 (pc' := 7) rfl (j := 1) rfl ?_
  obtain ⟨q2, eq2, e⟩ := bd_s e
  refine V.callVi dX6_drops_7 (pc' := 10) rfl CV_X6_137 (as := [.int a1]) (kX6_isStream h1 a1 q2 eq2) (Gs_rm (by decide)) rfl (by decide) rfl (Nat.le_of_ble_eq_true rfl) rfl ?_
  refine V.if_ne dX6_drops_10 (pc' := 13) rfl (tgt := 15) (by decide) (fun c => ?_) (fun c => ?_)
  · rw [if_neg c] at e
    refine V.alq dX6_drops_15 (pc' := 16) rfl (j := 0) rfl ?_
    refine V.ilq dX6_drops_16 (pc' := 17) rfl (j := 1) rfl ?_
    obtain ⟨q3, eq3, e⟩ := bd_s e
    refine V.callVv dX6_drops_17 (pc' := 20) rfl CV_X6_164 (as := [.int a1]) (kX6_takesOut q2.2 a1 q3 eq3) (Gs_rm (by decide)) rfl (by decide) rfl (Nat.le_of_ble_eq_true rfl) rfl ?_
    refine V.alq dX6_drops_20 (pc' := 21) rfl (j := 0) rfl ?_
    obtain ⟨q4, eq4, e⟩ := bd_s e
    refine V.callVv dX6_drops_21 (pc' := 24) rfl CV_X6_134 (as := []) (kX6_allGo q3 q4 eq4) (Gs_rm (by decide)) rfl (by decide) rfl (Nat.le_of_ble_eq_true rfl) rfl ?_
    refine V.alq dX6_drops_24 (pc' := 25) rfl (j := 0) rfl ?_
    refine V.getf dX6_drops_25 (pc' := 28) rfl FL_X6_131 rfl (by decide) rfl ?_
    exact V.iret dX6_drops_28 rfl (fnI e)
  · rw [if_pos c] at e
    refine V.iconst dX6_drops_13 (pc' := 14) rfl (v := -1) (by decide) ?_
    exact V.iret dX6_drops_14 rfl (fnI e)

-- X6_heatOf (level 2)
theorem dX6_heatOf_0 : decode cX6_heatOf 0 = .ok (.aload_n 0, 1) := by decide +kernel
theorem dX6_heatOf_1 : decode cX6_heatOf 1 = .ok (.getfield 63, 3) := by decide +kernel
theorem dX6_heatOf_4 : decode cX6_heatOf 4 = .ok (.iload_n 1, 1) := by decide +kernel
theorem dX6_heatOf_5 : decode cX6_heatOf 5 = .ok (.iaload, 1) := by decide +kernel
theorem dX6_heatOf_6 : decode cX6_heatOf 6 = .ok (.aload_n 0, 1) := by decide +kernel
theorem dX6_heatOf_7 : decode cX6_heatOf 7 = .ok (.iload_n 1, 1) := by decide +kernel
theorem dX6_heatOf_8 : decode cX6_heatOf 8 = .ok (.invokevirtual 176, 3) := by decide +kernel
theorem dX6_heatOf_11 : decode cX6_heatOf 11 = .ok (.aload_n 0, 1) := by decide +kernel
theorem dX6_heatOf_12 : decode cX6_heatOf 12 = .ok (.iload_n 1, 1) := by decide +kernel
theorem dX6_heatOf_13 : decode cX6_heatOf 13 = .ok (.invokevirtual 179, 3) := by decide +kernel
theorem dX6_heatOf_16 : decode cX6_heatOf 16 = .ok (.isub, 1) := by decide +kernel
theorem dX6_heatOf_17 : decode cX6_heatOf 17 = .ok (.imul, 1) := by decide +kernel
theorem dX6_heatOf_18 : decode cX6_heatOf 18 = .ok (.ireturn, 1) := by decide +kernel
def sX6_heatOf (h : Hp) (a1 : Int32) : Option (Int32 × Hp) :=
  gd (inb a1 10) ((sX6_high h a1).bind fun q2 => (sX6_low q2.2 a1).bind fun q3 => some (((h.1 59 a1.toNatClampNeg) * (q2.1 - q3.1)), q3.2))
set_option maxRecDepth 10000 in
theorem kX6_heatOf (h : Hp) (a1 : Int32) (q : (Int32 × Hp)) (e : sX6_heatOf h a1 = some q) : K 2 mX6_heatOf [.ref 54, .int a1] h (pI q) := by
  unfold sX6_heatOf at e
  refine K.ofV (by decide) rfl (Nat.le_of_ble_eq_true rfl) ?_
  show V (Gs 2 (pI q)) mX6_heatOf (0, 0) 0 [(0, .ref 54), (1, .int a1)] [] h
  refine V.alq dX6_heatOf_0 (pc' := 1) rfl (j := 0) rfl ?_
  refine V.getr dX6_heatOf_1 (pc' := 4) rfl FL_X6_63 rfl (by decide) rfl (r' := 59) rfl ?_
  refine V.ilq dX6_heatOf_4 (pc' := 5) rfl (j := 1) rfl ?_
  obtain ⟨c1, e⟩ := gd_s e
  refine V.iald dX6_heatOf_5 (pc' := 6) rfl rfl rfl (inb_t c1) ?_
  refine V.alq dX6_heatOf_6 (pc' := 7) rfl (j := 0) rfl ?_
  refine V.ilq dX6_heatOf_7 (pc' := 8) rfl (j := 1) rfl ?_
  obtain ⟨q2, eq2, e⟩ := bd_s e
  refine V.callVi dX6_heatOf_8 (pc' := 11) rfl CV_X6_176 (as := [.int a1]) (kX6_high h a1 q2 eq2) (Gs_rm (by decide)) rfl (by decide) rfl (Nat.le_of_ble_eq_true rfl) rfl ?_
  refine V.alq dX6_heatOf_11 (pc' := 12) rfl (j := 0) rfl ?_
  refine V.ilq dX6_heatOf_12 (pc' := 13) rfl (j := 1) rfl ?_
  obtain ⟨q3, eq3, e⟩ := bd_s e
  refine V.callVi dX6_heatOf_13 (pc' := 16) rfl CV_X6_179 (as := [.int a1]) (kX6_low q2.2 a1 q3 eq3) (Gs_rm (by decide)) rfl (by decide) rfl (Nat.le_of_ble_eq_true rfl) rfl ?_
  refine V.isub dX6_heatOf_16 (pc' := 17) rfl ?_
  refine V.imul dX6_heatOf_17 (pc' := 18) rfl ?_
  exact V.iret dX6_heatOf_18 rfl (fnI e)

-- X6_through (level 2)
theorem dX6_through_0 : decode cX6_through 0 = .ok (.iconst 0, 1) := by decide +kernel
theorem dX6_through_1 : decode cX6_through 1 = .ok (.istore 4, 2) := by decide +kernel
theorem dX6_through_3 : decode cX6_through 3 = .ok (.iconst 0, 1) := by decide +kernel
theorem dX6_through_4 : decode cX6_through 4 = .ok (.istore 5, 2) := by decide +kernel
theorem dX6_through_6 : decode cX6_through 6 = .ok (.iload 5, 2) := by decide +kernel
theorem dX6_through_8 : decode cX6_through 8 = .ok (.aload_n 0, 1) := by decide +kernel
theorem dX6_through_9 : decode cX6_through 9 = .ok (.getfield 131, 3) := by decide +kernel
theorem dX6_through_12 : decode cX6_through 12 = .ok (.if_icmp .ge 81, 3) := by decide +kernel
theorem dX6_through_15 : decode cX6_through 15 = .ok (.aload_n 0, 1) := by decide +kernel
theorem dX6_through_16 : decode cX6_through 16 = .ok (.iload 5, 2) := by decide +kernel
theorem dX6_through_18 : decode cX6_through 18 = .ok (.invokevirtual 144, 3) := by decide +kernel
theorem dX6_through_21 : decode cX6_through 21 = .ok (.iload_n 1, 1) := by decide +kernel
theorem dX6_through_22 : decode cX6_through 22 = .ok (.if_icmp .ne 41, 3) := by decide +kernel
theorem dX6_through_25 : decode cX6_through 25 = .ok (.aload_n 0, 1) := by decide +kernel
theorem dX6_through_26 : decode cX6_through 26 = .ok (.iload 5, 2) := by decide +kernel
theorem dX6_through_28 : decode cX6_through 28 = .ok (.invokevirtual 179, 3) := by decide +kernel
theorem dX6_through_31 : decode cX6_through 31 = .ok (.aload_n 0, 1) := by decide +kernel
theorem dX6_through_32 : decode cX6_through 32 = .ok (.iload 5, 2) := by decide +kernel
theorem dX6_through_34 : decode cX6_through 34 = .ok (.invokevirtual 190, 3) := by decide +kernel
theorem dX6_through_37 : decode cX6_through 37 = .ok (.isub, 1) := by decide +kernel
theorem dX6_through_38 : decode cX6_through 38 = .ok (.iload_n 3, 1) := by decide +kernel
theorem dX6_through_39 : decode cX6_through 39 = .ok (.if_icmp .gt 24, 3) := by decide +kernel
theorem dX6_through_42 : decode cX6_through 42 = .ok (.aload_n 0, 1) := by decide +kernel
theorem dX6_through_43 : decode cX6_through 43 = .ok (.iload 5, 2) := by decide +kernel
theorem dX6_through_45 : decode cX6_through 45 = .ok (.invokevirtual 176, 3) := by decide +kernel
theorem dX6_through_48 : decode cX6_through 48 = .ok (.aload_n 0, 1) := by decide +kernel
theorem dX6_through_49 : decode cX6_through 49 = .ok (.iload 5, 2) := by decide +kernel
theorem dX6_through_51 : decode cX6_through 51 = .ok (.invokevirtual 190, 3) := by decide +kernel
theorem dX6_through_54 : decode cX6_through 54 = .ok (.isub, 1) := by decide +kernel
theorem dX6_through_55 : decode cX6_through 55 = .ok (.iload_n 2, 1) := by decide +kernel
theorem dX6_through_56 : decode cX6_through 56 = .ok (.if_icmp .lt 7, 3) := by decide +kernel
theorem dX6_through_59 : decode cX6_through 59 = .ok (.iconst 1, 1) := by decide +kernel
theorem dX6_through_60 : decode cX6_through 60 = .ok (.goto 4, 3) := by decide +kernel
theorem dX6_through_63 : decode cX6_through 63 = .ok (.iconst 0, 1) := by decide +kernel
theorem dX6_through_64 : decode cX6_through 64 = .ok (.istore 6, 2) := by decide +kernel
theorem dX6_through_66 : decode cX6_through 66 = .ok (.iload 4, 2) := by decide +kernel
theorem dX6_through_68 : decode cX6_through 68 = .ok (.iload 6, 2) := by decide +kernel
theorem dX6_through_70 : decode cX6_through 70 = .ok (.ifCond .eq 13, 3) := by decide +kernel
theorem dX6_through_73 : decode cX6_through 73 = .ok (.aload_n 0, 1) := by decide +kernel
theorem dX6_through_74 : decode cX6_through 74 = .ok (.getfield 63, 3) := by decide +kernel
theorem dX6_through_77 : decode cX6_through 77 = .ok (.iload 5, 2) := by decide +kernel
theorem dX6_through_79 : decode cX6_through 79 = .ok (.iaload, 1) := by decide +kernel
theorem dX6_through_80 : decode cX6_through 80 = .ok (.goto 4, 3) := by decide +kernel
theorem dX6_through_83 : decode cX6_through 83 = .ok (.iconst 0, 1) := by decide +kernel
theorem dX6_through_84 : decode cX6_through 84 = .ok (.iadd, 1) := by decide +kernel
theorem dX6_through_85 : decode cX6_through 85 = .ok (.istore 4, 2) := by decide +kernel
theorem dX6_through_87 : decode cX6_through 87 = .ok (.iinc 5 1, 3) := by decide +kernel
theorem dX6_through_90 : decode cX6_through 90 = .ok (.goto (-84), 3) := by decide +kernel
theorem dX6_through_93 : decode cX6_through 93 = .ok (.iload 4, 2) := by decide +kernel
theorem dX6_through_95 : decode cX6_through 95 = .ok (.ireturn, 1) := by decide +kernel
def sX6_through_c84 (k6 : Hp → Int32 → Int32 → Int32 → Int32 → Int32 → Option (Int32 × Hp)) (h : Hp) (v1 : Int32) (v2 : Int32) (v3 : Int32) (v5 : Int32) (t0 : Int32) (t1 : Int32) : Option (Int32 × Hp) :=
  nm ((t1 + t0)) fun x7 => nm (v5 + (1 : Int32)) fun x8 => k6 h v1 v2 v3 x7 x8
set_option maxRecDepth 10000 in
theorem vX6_through_c84 (k6 : Hp → Int32 → Int32 → Int32 → Int32 → Int32 → Option (Int32 × Hp)) (hk6 : ∀ (h : Hp) (v1 : Int32) (v2 : Int32) (v3 : Int32) (v4 : Int32) (v5 : Int32) (q : (Int32 × Hp)), k6 h v1 v2 v3 v4 v5 = some q → V (Gs 2 (pI q)) mX6_through (0, 0) 6 [(0, .ref 54), (1, .int v1), (2, .int v2), (3, .int v3), (4, .int v4), (5, .int v5)] [] h) (h : Hp) (v1 : Int32) (v2 : Int32) (v3 : Int32) (v5 : Int32) (t0 : Int32) (t1 : Int32) (q : (Int32 × Hp)) (e : sX6_through_c84 k6 h v1 v2 v3 v5 t0 t1 = some q) : V (Gs 2 (pI q)) mX6_through (0, 0) 84 [(0, .ref 54), (1, .int v1), (2, .int v2), (3, .int v3), (5, .int v5)] [.int t0, .int t1] h := by
  unfold sX6_through_c84 at e
  refine V.iadd dX6_through_84 (pc' := 85) rfl ?_
  obtain ⟨x7, ex7, e⟩ := nm_s e
  refine V.is dX6_through_85 (pc' := 87) rfl (by decide) ex7 (L' := [(4, .int x7), (0, .ref 54), (1, .int v1), (2, .int v2), (3, .int v3), (5, .int v5)]) rfl ?_
  obtain ⟨x8, ex8, e⟩ := nm_s e
  refine V.iinc dX6_through_87 (pc' := 90) rfl (j := 5) rfl (v := 1) (by decide) (by decide) ex8 (L' := [(5, .int x8), (4, .int x7), (0, .ref 54), (1, .int v1), (2, .int v2), (3, .int v3)]) rfl ?_
  refine V.goto dX6_through_90 (pc' := 6) (by decide) ?_
  refine V.pk [2, 3, 4, 5, 1, 0] rfl ?_
  exact hk6 h v1 v2 v3 x7 x8 q e
def sX6_through_c64 (k6 : Hp → Int32 → Int32 → Int32 → Int32 → Int32 → Option (Int32 × Hp)) (h : Hp) (v1 : Int32) (v2 : Int32) (v3 : Int32) (v4 : Int32) (v5 : Int32) (t0 : Int32) : Option (Int32 × Hp) :=
  if t0 = 0 then (sX6_through_c84 k6 h v1 v2 v3 v5 (0 : Int32) v4) else (gd (inb v5 10) (sX6_through_c84 k6 h v1 v2 v3 v5 (h.1 59 v5.toNatClampNeg) v4))
set_option maxRecDepth 10000 in
theorem vX6_through_c64 (k6 : Hp → Int32 → Int32 → Int32 → Int32 → Int32 → Option (Int32 × Hp)) (hk6 : ∀ (h : Hp) (v1 : Int32) (v2 : Int32) (v3 : Int32) (v4 : Int32) (v5 : Int32) (q : (Int32 × Hp)), k6 h v1 v2 v3 v4 v5 = some q → V (Gs 2 (pI q)) mX6_through (0, 0) 6 [(0, .ref 54), (1, .int v1), (2, .int v2), (3, .int v3), (4, .int v4), (5, .int v5)] [] h) (h : Hp) (v1 : Int32) (v2 : Int32) (v3 : Int32) (v4 : Int32) (v5 : Int32) (t0 : Int32) (q : (Int32 × Hp)) (e : sX6_through_c64 k6 h v1 v2 v3 v4 v5 t0 = some q) : V (Gs 2 (pI q)) mX6_through (0, 0) 64 [(0, .ref 54), (1, .int v1), (2, .int v2), (3, .int v3), (4, .int v4), (5, .int v5)] [.int t0] h := by
  unfold sX6_through_c64 at e
  refine V.is dX6_through_64 (pc' := 66) rfl (by decide) rfl (L' := [(6, .int t0), (0, .ref 54), (1, .int v1), (2, .int v2), (3, .int v3), (4, .int v4), (5, .int v5)]) rfl ?_
  refine V.il dX6_through_66 (pc' := 68) rfl (j := 5) rfl ?_
  refine V.il dX6_through_68 (pc' := 70) rfl (j := 0) rfl ?_
  refine V.if_eq dX6_through_70 (pc' := 73) rfl (tgt := 83) (by decide) (fun c => ?_) (fun c => ?_)
  · rw [if_pos c] at e
    refine V.iconst dX6_through_83 (pc' := 84) rfl (v := 0) (by decide) ?_
    refine V.pk [1, 2, 3, 4, 6] rfl ?_
    exact vX6_through_c84 k6 hk6 h v1 v2 v3 v5 (0 : Int32) v4 q e
  · rw [if_neg c] at e
    refine V.alq dX6_through_73 (pc' := 74) rfl (j := 1) rfl ?_
    refine V.getr dX6_through_74 (pc' := 77) rfl FL_X6_63 rfl (by decide) rfl (r' := 59) rfl ?_
    refine V.il dX6_through_77 (pc' := 79) rfl (j := 6) rfl ?_
    obtain ⟨c6, e⟩ := gd_s e
    refine V.iald dX6_through_79 (pc' := 80) rfl rfl rfl (inb_t c6) ?_
    refine V.goto dX6_through_80 (pc' := 84) (by decide) ?_
    refine V.pk [1, 2, 3, 4, 6] rfl ?_
    exact vX6_through_c84 k6 hk6 h v1 v2 v3 v5 (h.1 59 v5.toNatClampNeg) v4 q e
def sX6_through_c63 (k6 : Hp → Int32 → Int32 → Int32 → Int32 → Int32 → Option (Int32 × Hp)) (h : Hp) (v1 : Int32) (v2 : Int32) (v3 : Int32) (v4 : Int32) (v5 : Int32) : Option (Int32 × Hp) :=
  sX6_through_c64 k6 h v1 v2 v3 v4 v5 (0 : Int32)
set_option maxRecDepth 10000 in
theorem vX6_through_c63 (k6 : Hp → Int32 → Int32 → Int32 → Int32 → Int32 → Option (Int32 × Hp)) (hk6 : ∀ (h : Hp) (v1 : Int32) (v2 : Int32) (v3 : Int32) (v4 : Int32) (v5 : Int32) (q : (Int32 × Hp)), k6 h v1 v2 v3 v4 v5 = some q → V (Gs 2 (pI q)) mX6_through (0, 0) 6 [(0, .ref 54), (1, .int v1), (2, .int v2), (3, .int v3), (4, .int v4), (5, .int v5)] [] h) (h : Hp) (v1 : Int32) (v2 : Int32) (v3 : Int32) (v4 : Int32) (v5 : Int32) (q : (Int32 × Hp)) (e : sX6_through_c63 k6 h v1 v2 v3 v4 v5 = some q) : V (Gs 2 (pI q)) mX6_through (0, 0) 63 [(0, .ref 54), (1, .int v1), (2, .int v2), (3, .int v3), (4, .int v4), (5, .int v5)] [] h := by
  unfold sX6_through_c63 at e
  refine V.iconst dX6_through_63 (pc' := 64) rfl (v := 0) (by decide) ?_
  exact vX6_through_c64 k6 hk6 h v1 v2 v3 v4 v5 (0 : Int32) q e
def sX6_through_c6 (k6 : Hp → Int32 → Int32 → Int32 → Int32 → Int32 → Option (Int32 × Hp)) (h : Hp) (v1 : Int32) (v2 : Int32) (v3 : Int32) (v4 : Int32) (v5 : Int32) : Option (Int32 × Hp) :=
  if (h.1 54 7) ≤ v5 then (some (v4, h)) else ((sX6_isHot h v5).bind fun q1 => if q1.1 = v1 then ((sX6_low q1.2 v5).bind fun q2 => (sX6_shift q2.2 v5).bind fun q3 => if v3 < (q2.1 - q3.1) then (sX6_through_c63 k6 q3.2 v1 v2 v3 v4 v5) else ((sX6_high q3.2 v5).bind fun q4 => (sX6_shift q4.2 v5).bind fun q5 => if (q4.1 - q5.1) < v2 then (sX6_through_c63 k6 q5.2 v1 v2 v3 v4 v5) else (sX6_through_c64 k6 q5.2 v1 v2 v3 v4 v5 (1 : Int32)))) else (sX6_through_c63 k6 q1.2 v1 v2 v3 v4 v5))
set_option maxRecDepth 10000 in
theorem vX6_through_c6 (k6 : Hp → Int32 → Int32 → Int32 → Int32 → Int32 → Option (Int32 × Hp)) (hk6 : ∀ (h : Hp) (v1 : Int32) (v2 : Int32) (v3 : Int32) (v4 : Int32) (v5 : Int32) (q : (Int32 × Hp)), k6 h v1 v2 v3 v4 v5 = some q → V (Gs 2 (pI q)) mX6_through (0, 0) 6 [(0, .ref 54), (1, .int v1), (2, .int v2), (3, .int v3), (4, .int v4), (5, .int v5)] [] h) (h : Hp) (v1 : Int32) (v2 : Int32) (v3 : Int32) (v4 : Int32) (v5 : Int32) (q : (Int32 × Hp)) (e : sX6_through_c6 k6 h v1 v2 v3 v4 v5 = some q) : V (Gs 2 (pI q)) mX6_through (0, 0) 6 [(0, .ref 54), (1, .int v1), (2, .int v2), (3, .int v3), (4, .int v4), (5, .int v5)] [] h := by
  unfold sX6_through_c6 at e
  refine V.il dX6_through_6 (pc' := 8) rfl (j := 5) rfl ?_
  refine V.alq dX6_through_8 (pc' := 9) rfl (j := 0) rfl ?_
  refine V.getf dX6_through_9 (pc' := 12) rfl FL_X6_131 rfl (by decide) rfl ?_
  refine V.ic_ge dX6_through_12 (pc' := 15) rfl (tgt := 93) (by decide) (fun c => ?_) (fun c => ?_)
  · rw [if_pos c] at e
    refine V.il dX6_through_93 (pc' := 95) rfl (j := 4) rfl ?_
    exact V.iret dX6_through_95 rfl (fnI e)
  · rw [if_neg c] at e
    refine V.alq dX6_through_15 (pc' := 16) rfl (j := 0) rfl ?_
    refine V.il dX6_through_16 (pc' := 18) rfl (j := 5) rfl ?_
    obtain ⟨q1, eq1, e⟩ := bd_s e
    refine V.callVi dX6_through_18 (pc' := 21) rfl CV_X6_144 (as := [.int v5]) (kX6_isHot h v5 q1 eq1) (Gs_rm (by decide)) rfl (by decide) rfl (Nat.le_of_ble_eq_true rfl) rfl ?_
    refine V.ilq dX6_through_21 (pc' := 22) rfl (j := 1) rfl ?_
    refine V.ic_ne dX6_through_22 (pc' := 25) rfl (tgt := 63) (by decide) (fun c => ?_) (fun c => ?_)
    · rw [if_neg c] at e
      exact vX6_through_c63 k6 hk6 q1.2 v1 v2 v3 v4 v5 q e
    · rw [if_pos c] at e
      refine V.alq dX6_through_25 (pc' := 26) rfl (j := 0) rfl ?_
      refine V.il dX6_through_26 (pc' := 28) rfl (j := 5) rfl ?_
      obtain ⟨q2, eq2, e⟩ := bd_s e
      refine V.callVi dX6_through_28 (pc' := 31) rfl CV_X6_179 (as := [.int v5]) (kX6_low q1.2 v5 q2 eq2) (Gs_rm (by decide)) rfl (by decide) rfl (Nat.le_of_ble_eq_true rfl) rfl ?_
      refine V.alq dX6_through_31 (pc' := 32) rfl (j := 0) rfl ?_
      refine V.il dX6_through_32 (pc' := 34) rfl (j := 5) rfl ?_
      obtain ⟨q3, eq3, e⟩ := bd_s e
      refine V.callVi dX6_through_34 (pc' := 37) rfl CV_X6_190 (as := [.int v5]) (kX6_shift q2.2 v5 q3 eq3) (Gs_rm (by decide)) rfl (by decide) rfl (Nat.le_of_ble_eq_true rfl) rfl ?_
      refine V.isub dX6_through_37 (pc' := 38) rfl ?_
      refine V.ilq dX6_through_38 (pc' := 39) rfl (j := 3) rfl ?_
      refine V.ic_gt dX6_through_39 (pc' := 42) rfl (tgt := 63) (by decide) (fun c => ?_) (fun c => ?_)
      · rw [if_pos c] at e
        exact vX6_through_c63 k6 hk6 q3.2 v1 v2 v3 v4 v5 q e
      · rw [if_neg c] at e
        refine V.alq dX6_through_42 (pc' := 43) rfl (j := 0) rfl ?_
        refine V.il dX6_through_43 (pc' := 45) rfl (j := 5) rfl ?_
        obtain ⟨q4, eq4, e⟩ := bd_s e
        refine V.callVi dX6_through_45 (pc' := 48) rfl CV_X6_176 (as := [.int v5]) (kX6_high q3.2 v5 q4 eq4) (Gs_rm (by decide)) rfl (by decide) rfl (Nat.le_of_ble_eq_true rfl) rfl ?_
        refine V.alq dX6_through_48 (pc' := 49) rfl (j := 0) rfl ?_
        refine V.il dX6_through_49 (pc' := 51) rfl (j := 5) rfl ?_
        obtain ⟨q5, eq5, e⟩ := bd_s e
        refine V.callVi dX6_through_51 (pc' := 54) rfl CV_X6_190 (as := [.int v5]) (kX6_shift q4.2 v5 q5 eq5) (Gs_rm (by decide)) rfl (by decide) rfl (Nat.le_of_ble_eq_true rfl) rfl ?_
        refine V.isub dX6_through_54 (pc' := 55) rfl ?_
        refine V.ilq dX6_through_55 (pc' := 56) rfl (j := 2) rfl ?_
        refine V.ic_lt dX6_through_56 (pc' := 59) rfl (tgt := 63) (by decide) (fun c => ?_) (fun c => ?_)
        · rw [if_pos c] at e
          exact vX6_through_c63 k6 hk6 q5.2 v1 v2 v3 v4 v5 q e
        · rw [if_neg c] at e
          refine V.iconst dX6_through_59 (pc' := 60) rfl (v := 1) (by decide) ?_
          refine V.goto dX6_through_60 (pc' := 64) (by decide) ?_
          exact vX6_through_c64 k6 hk6 q5.2 v1 v2 v3 v4 v5 (1 : Int32) q e
def sX6_through_b6 : Nat → Hp → Int32 → Int32 → Int32 → Int32 → Int32 → Option (Int32 × Hp)
  | 0 => fun _ _ _ _ _ _ => none
  | n + 1 => sX6_through_c6 (sX6_through_b6 n)
theorem vX6_through_b6 : ∀ (n : Nat) (h : Hp) (v1 : Int32) (v2 : Int32) (v3 : Int32) (v4 : Int32) (v5 : Int32) (q : (Int32 × Hp)), sX6_through_b6 n h v1 v2 v3 v4 v5 = some q → V (Gs 2 (pI q)) mX6_through (0, 0) 6 [(0, .ref 54), (1, .int v1), (2, .int v2), (3, .int v3), (4, .int v4), (5, .int v5)] [] h
  | 0 => fun _ _ _ _ _ _ _ e => by cases e
  | n + 1 => fun h v1 v2 v3 v4 v5 q e => vX6_through_c6 (sX6_through_b6 n) (vX6_through_b6 n) h v1 v2 v3 v4 v5 q e
def sX6_through (h : Hp) (a1 : Int32) (a2 : Int32) (a3 : Int32) : Option (Int32 × Hp) :=
  sX6_through_b6 FU h a1 a2 a3 (0 : Int32) (0 : Int32)
set_option maxRecDepth 10000 in
theorem kX6_through (h : Hp) (a1 : Int32) (a2 : Int32) (a3 : Int32) (q : (Int32 × Hp)) (e : sX6_through h a1 a2 a3 = some q) : K 2 mX6_through [.ref 54, .int a1, .int a2, .int a3] h (pI q) := by
  unfold sX6_through at e
  refine K.ofV (by decide) rfl (Nat.le_of_ble_eq_true rfl) ?_
  show V (Gs 2 (pI q)) mX6_through (0, 0) 0 [(0, .ref 54), (1, .int a1), (2, .int a2), (3, .int a3)] [] h
  refine V.iconst dX6_through_0 (pc' := 1) rfl (v := 0) (by decide) ?_
  refine V.is dX6_through_1 (pc' := 3) rfl (by decide) rfl (L' := [(4, .int (0 : Int32)), (0, .ref 54), (1, .int a1), (2, .int a2), (3, .int a3)]) rfl ?_
  refine V.iconst dX6_through_3 (pc' := 4) rfl (v := 0) (by decide) ?_
  refine V.is dX6_through_4 (pc' := 6) rfl (by decide) rfl (L' := [(5, .int (0 : Int32)), (4, .int (0 : Int32)), (0, .ref 54), (1, .int a1), (2, .int a2), (3, .int a3)]) rfl ?_
  refine V.pk [2, 3, 4, 5, 1, 0] rfl ?_
  exact vX6_through_b6 FU h a1 a2 a3 (0 : Int32) (0 : Int32) q e

-- X6_aboveOf (level 2)
theorem dX6_aboveOf_0 : decode cX6_aboveOf 0 = .ok (.iconst 0, 1) := by decide +kernel
theorem dX6_aboveOf_1 : decode cX6_aboveOf 1 = .ok (.istore_n 3, 1) := by decide +kernel
theorem dX6_aboveOf_2 : decode cX6_aboveOf 2 = .ok (.iconst 0, 1) := by decide +kernel
theorem dX6_aboveOf_3 : decode cX6_aboveOf 3 = .ok (.istore 4, 2) := by decide +kernel
theorem dX6_aboveOf_5 : decode cX6_aboveOf 5 = .ok (.iload 4, 2) := by decide +kernel
theorem dX6_aboveOf_7 : decode cX6_aboveOf 7 = .ok (.aload_n 0, 1) := by decide +kernel
theorem dX6_aboveOf_8 : decode cX6_aboveOf 8 = .ok (.getfield 131, 3) := by decide +kernel
theorem dX6_aboveOf_11 : decode cX6_aboveOf 11 = .ok (.if_icmp .ge 61, 3) := by decide +kernel
theorem dX6_aboveOf_14 : decode cX6_aboveOf 14 = .ok (.iload_n 3, 1) := by decide +kernel
theorem dX6_aboveOf_15 : decode cX6_aboveOf 15 = .ok (.aload_n 0, 1) := by decide +kernel
theorem dX6_aboveOf_16 : decode cX6_aboveOf 16 = .ok (.iload 4, 2) := by decide +kernel
theorem dX6_aboveOf_18 : decode cX6_aboveOf 18 = .ok (.invokevirtual 144, 3) := by decide +kernel
theorem dX6_aboveOf_21 : decode cX6_aboveOf 21 = .ok (.iload_n 1, 1) := by decide +kernel
theorem dX6_aboveOf_22 : decode cX6_aboveOf 22 = .ok (.if_icmp .ne 41, 3) := by decide +kernel
theorem dX6_aboveOf_25 : decode cX6_aboveOf 25 = .ok (.aload_n 0, 1) := by decide +kernel
theorem dX6_aboveOf_26 : decode cX6_aboveOf 26 = .ok (.iload 4, 2) := by decide +kernel
theorem dX6_aboveOf_28 : decode cX6_aboveOf 28 = .ok (.invokevirtual 176, 3) := by decide +kernel
theorem dX6_aboveOf_31 : decode cX6_aboveOf 31 = .ok (.iload_n 2, 1) := by decide +kernel
theorem dX6_aboveOf_32 : decode cX6_aboveOf 32 = .ok (.if_icmp .le 31, 3) := by decide +kernel
theorem dX6_aboveOf_35 : decode cX6_aboveOf 35 = .ok (.aload_n 0, 1) := by decide +kernel
theorem dX6_aboveOf_36 : decode cX6_aboveOf 36 = .ok (.getfield 63, 3) := by decide +kernel
theorem dX6_aboveOf_39 : decode cX6_aboveOf 39 = .ok (.iload 4, 2) := by decide +kernel
theorem dX6_aboveOf_41 : decode cX6_aboveOf 41 = .ok (.iaload, 1) := by decide +kernel
theorem dX6_aboveOf_42 : decode cX6_aboveOf 42 = .ok (.aload_n 0, 1) := by decide +kernel
theorem dX6_aboveOf_43 : decode cX6_aboveOf 43 = .ok (.iload 4, 2) := by decide +kernel
theorem dX6_aboveOf_45 : decode cX6_aboveOf 45 = .ok (.invokevirtual 176, 3) := by decide +kernel
theorem dX6_aboveOf_48 : decode cX6_aboveOf 48 = .ok (.iload_n 2, 1) := by decide +kernel
theorem dX6_aboveOf_49 : decode cX6_aboveOf 49 = .ok (.aload_n 0, 1) := by decide +kernel
theorem dX6_aboveOf_50 : decode cX6_aboveOf 50 = .ok (.iload 4, 2) := by decide +kernel
theorem dX6_aboveOf_52 : decode cX6_aboveOf 52 = .ok (.invokevirtual 179, 3) := by decide +kernel
theorem dX6_aboveOf_55 : decode cX6_aboveOf 55 = .ok (.invokestatic 173, 3) := by decide +kernel
theorem dX6_aboveOf_58 : decode cX6_aboveOf 58 = .ok (.isub, 1) := by decide +kernel
theorem dX6_aboveOf_59 : decode cX6_aboveOf 59 = .ok (.imul, 1) := by decide +kernel
theorem dX6_aboveOf_60 : decode cX6_aboveOf 60 = .ok (.goto 4, 3) := by decide +kernel
theorem dX6_aboveOf_63 : decode cX6_aboveOf 63 = .ok (.iconst 0, 1) := by decide +kernel
theorem dX6_aboveOf_64 : decode cX6_aboveOf 64 = .ok (.iadd, 1) := by decide +kernel
theorem dX6_aboveOf_65 : decode cX6_aboveOf 65 = .ok (.istore_n 3, 1) := by decide +kernel
theorem dX6_aboveOf_66 : decode cX6_aboveOf 66 = .ok (.iinc 4 1, 3) := by decide +kernel
theorem dX6_aboveOf_69 : decode cX6_aboveOf 69 = .ok (.goto (-64), 3) := by decide +kernel
theorem dX6_aboveOf_72 : decode cX6_aboveOf 72 = .ok (.iload_n 3, 1) := by decide +kernel
theorem dX6_aboveOf_73 : decode cX6_aboveOf 73 = .ok (.ireturn, 1) := by decide +kernel
def sX6_aboveOf_c64 (k5 : Hp → Int32 → Int32 → Int32 → Int32 → Option (Int32 × Hp)) (h : Hp) (v1 : Int32) (v2 : Int32) (v4 : Int32) (t0 : Int32) (t1 : Int32) : Option (Int32 × Hp) :=
  nm ((t1 + t0)) fun x6 => nm (v4 + (1 : Int32)) fun x7 => k5 h v1 v2 x6 x7
set_option maxRecDepth 10000 in
theorem vX6_aboveOf_c64 (k5 : Hp → Int32 → Int32 → Int32 → Int32 → Option (Int32 × Hp)) (hk5 : ∀ (h : Hp) (v1 : Int32) (v2 : Int32) (v3 : Int32) (v4 : Int32) (q : (Int32 × Hp)), k5 h v1 v2 v3 v4 = some q → V (Gs 2 (pI q)) mX6_aboveOf (0, 0) 5 [(0, .ref 54), (1, .int v1), (2, .int v2), (3, .int v3), (4, .int v4)] [] h) (h : Hp) (v1 : Int32) (v2 : Int32) (v4 : Int32) (t0 : Int32) (t1 : Int32) (q : (Int32 × Hp)) (e : sX6_aboveOf_c64 k5 h v1 v2 v4 t0 t1 = some q) : V (Gs 2 (pI q)) mX6_aboveOf (0, 0) 64 [(0, .ref 54), (1, .int v1), (2, .int v2), (4, .int v4)] [.int t0, .int t1] h := by
  unfold sX6_aboveOf_c64 at e
  refine V.iadd dX6_aboveOf_64 (pc' := 65) rfl ?_
  obtain ⟨x6, ex6, e⟩ := nm_s e
  refine V.isq dX6_aboveOf_65 (pc' := 66) rfl (by decide) ex6 (L' := [(3, .int x6), (0, .ref 54), (1, .int v1), (2, .int v2), (4, .int v4)]) rfl ?_
  obtain ⟨x7, ex7, e⟩ := nm_s e
  refine V.iinc dX6_aboveOf_66 (pc' := 69) rfl (j := 4) rfl (v := 1) (by decide) (by decide) ex7 (L' := [(4, .int x7), (3, .int x6), (0, .ref 54), (1, .int v1), (2, .int v2)]) rfl ?_
  refine V.goto dX6_aboveOf_69 (pc' := 5) (by decide) ?_
  refine V.pk [2, 3, 4, 1, 0] rfl ?_
  exact hk5 h v1 v2 x6 x7 q e
def sX6_aboveOf_c63 (k5 : Hp → Int32 → Int32 → Int32 → Int32 → Option (Int32 × Hp)) (h : Hp) (v1 : Int32) (v2 : Int32) (v4 : Int32) (t0 : Int32) : Option (Int32 × Hp) :=
  sX6_aboveOf_c64 k5 h v1 v2 v4 (0 : Int32) t0
set_option maxRecDepth 10000 in
theorem vX6_aboveOf_c63 (k5 : Hp → Int32 → Int32 → Int32 → Int32 → Option (Int32 × Hp)) (hk5 : ∀ (h : Hp) (v1 : Int32) (v2 : Int32) (v3 : Int32) (v4 : Int32) (q : (Int32 × Hp)), k5 h v1 v2 v3 v4 = some q → V (Gs 2 (pI q)) mX6_aboveOf (0, 0) 5 [(0, .ref 54), (1, .int v1), (2, .int v2), (3, .int v3), (4, .int v4)] [] h) (h : Hp) (v1 : Int32) (v2 : Int32) (v4 : Int32) (t0 : Int32) (q : (Int32 × Hp)) (e : sX6_aboveOf_c63 k5 h v1 v2 v4 t0 = some q) : V (Gs 2 (pI q)) mX6_aboveOf (0, 0) 63 [(0, .ref 54), (1, .int v1), (2, .int v2), (4, .int v4)] [.int t0] h := by
  unfold sX6_aboveOf_c63 at e
  refine V.iconst dX6_aboveOf_63 (pc' := 64) rfl (v := 0) (by decide) ?_
  exact vX6_aboveOf_c64 k5 hk5 h v1 v2 v4 (0 : Int32) t0 q e
def sX6_aboveOf_c5 (k5 : Hp → Int32 → Int32 → Int32 → Int32 → Option (Int32 × Hp)) (h : Hp) (v1 : Int32) (v2 : Int32) (v3 : Int32) (v4 : Int32) : Option (Int32 × Hp) :=
  if (h.1 54 7) ≤ v4 then (some (v3, h)) else ((sX6_isHot h v4).bind fun q1 => if q1.1 = v1 then ((sX6_high q1.2 v4).bind fun q2 => if q2.1 ≤ v2 then (sX6_aboveOf_c63 k5 q2.2 v1 v2 v4 v3) else (gd (inb v4 10) ((sX6_high q2.2 v4).bind fun q4 => (sX6_low q4.2 v4).bind fun q5 => sX6_aboveOf_c64 k5 q5.2 v1 v2 v4 ((q2.2.1 59 v4.toNatClampNeg) * (q4.1 - (imax v2 q5.1))) v3))) else (sX6_aboveOf_c63 k5 q1.2 v1 v2 v4 v3))
set_option maxRecDepth 10000 in
theorem vX6_aboveOf_c5 (k5 : Hp → Int32 → Int32 → Int32 → Int32 → Option (Int32 × Hp)) (hk5 : ∀ (h : Hp) (v1 : Int32) (v2 : Int32) (v3 : Int32) (v4 : Int32) (q : (Int32 × Hp)), k5 h v1 v2 v3 v4 = some q → V (Gs 2 (pI q)) mX6_aboveOf (0, 0) 5 [(0, .ref 54), (1, .int v1), (2, .int v2), (3, .int v3), (4, .int v4)] [] h) (h : Hp) (v1 : Int32) (v2 : Int32) (v3 : Int32) (v4 : Int32) (q : (Int32 × Hp)) (e : sX6_aboveOf_c5 k5 h v1 v2 v3 v4 = some q) : V (Gs 2 (pI q)) mX6_aboveOf (0, 0) 5 [(0, .ref 54), (1, .int v1), (2, .int v2), (3, .int v3), (4, .int v4)] [] h := by
  unfold sX6_aboveOf_c5 at e
  refine V.il dX6_aboveOf_5 (pc' := 7) rfl (j := 4) rfl ?_
  refine V.alq dX6_aboveOf_7 (pc' := 8) rfl (j := 0) rfl ?_
  refine V.getf dX6_aboveOf_8 (pc' := 11) rfl FL_X6_131 rfl (by decide) rfl ?_
  refine V.ic_ge dX6_aboveOf_11 (pc' := 14) rfl (tgt := 72) (by decide) (fun c => ?_) (fun c => ?_)
  · rw [if_pos c] at e
    refine V.ilq dX6_aboveOf_72 (pc' := 73) rfl (j := 3) rfl ?_
    exact V.iret dX6_aboveOf_73 rfl (fnI e)
  · rw [if_neg c] at e
    refine V.ilq dX6_aboveOf_14 (pc' := 15) rfl (j := 3) rfl ?_
    refine V.alq dX6_aboveOf_15 (pc' := 16) rfl (j := 0) rfl ?_
    refine V.il dX6_aboveOf_16 (pc' := 18) rfl (j := 4) rfl ?_
    obtain ⟨q1, eq1, e⟩ := bd_s e
    refine V.callVi dX6_aboveOf_18 (pc' := 21) rfl CV_X6_144 (as := [.int v4]) (kX6_isHot h v4 q1 eq1) (Gs_rm (by decide)) rfl (by decide) rfl (Nat.le_of_ble_eq_true rfl) rfl ?_
    refine V.ilq dX6_aboveOf_21 (pc' := 22) rfl (j := 1) rfl ?_
    refine V.ic_ne dX6_aboveOf_22 (pc' := 25) rfl (tgt := 63) (by decide) (fun c => ?_) (fun c => ?_)
    · rw [if_neg c] at e
      refine V.pk [0, 1, 2, 4] rfl ?_
      exact vX6_aboveOf_c63 k5 hk5 q1.2 v1 v2 v4 v3 q e
    · rw [if_pos c] at e
      refine V.alq dX6_aboveOf_25 (pc' := 26) rfl (j := 0) rfl ?_
      refine V.il dX6_aboveOf_26 (pc' := 28) rfl (j := 4) rfl ?_
      obtain ⟨q2, eq2, e⟩ := bd_s e
      refine V.callVi dX6_aboveOf_28 (pc' := 31) rfl CV_X6_176 (as := [.int v4]) (kX6_high q1.2 v4 q2 eq2) (Gs_rm (by decide)) rfl (by decide) rfl (Nat.le_of_ble_eq_true rfl) rfl ?_
      refine V.ilq dX6_aboveOf_31 (pc' := 32) rfl (j := 2) rfl ?_
      refine V.ic_le dX6_aboveOf_32 (pc' := 35) rfl (tgt := 63) (by decide) (fun c => ?_) (fun c => ?_)
      · rw [if_pos c] at e
        refine V.pk [0, 1, 2, 4] rfl ?_
        exact vX6_aboveOf_c63 k5 hk5 q2.2 v1 v2 v4 v3 q e
      · rw [if_neg c] at e
        refine V.alq dX6_aboveOf_35 (pc' := 36) rfl (j := 0) rfl ?_
        refine V.getr dX6_aboveOf_36 (pc' := 39) rfl FL_X6_63 rfl (by decide) rfl (r' := 59) rfl ?_
        refine V.il dX6_aboveOf_39 (pc' := 41) rfl (j := 4) rfl ?_
        obtain ⟨c3, e⟩ := gd_s e
        refine V.iald dX6_aboveOf_41 (pc' := 42) rfl rfl rfl (inb_t c3) ?_
        refine V.alq dX6_aboveOf_42 (pc' := 43) rfl (j := 0) rfl ?_
        refine V.il dX6_aboveOf_43 (pc' := 45) rfl (j := 4) rfl ?_
        obtain ⟨q4, eq4, e⟩ := bd_s e
        refine V.callVi dX6_aboveOf_45 (pc' := 48) rfl CV_X6_176 (as := [.int v4]) (kX6_high q2.2 v4 q4 eq4) (Gs_rm (by decide)) rfl (by decide) rfl (Nat.le_of_ble_eq_true rfl) rfl ?_
        refine V.ilq dX6_aboveOf_48 (pc' := 49) rfl (j := 2) rfl ?_
        refine V.alq dX6_aboveOf_49 (pc' := 50) rfl (j := 0) rfl ?_
        refine V.il dX6_aboveOf_50 (pc' := 52) rfl (j := 4) rfl ?_
        obtain ⟨q5, eq5, e⟩ := bd_s e
        refine V.callVi dX6_aboveOf_52 (pc' := 55) rfl CV_X6_179 (as := [.int v4]) (kX6_low q4.2 v4 q5 eq5) (Gs_rm (by decide)) rfl (by decide) rfl (Nat.le_of_ble_eq_true rfl) rfl ?_
        refine V.mmax dX6_aboveOf_55 (pc' := 58) rfl (Gs_rm (by decide)) ML_X6_173 MS_imax MI_Math MC_imax (Nat.le_of_ble_eq_true rfl) ?_
        refine V.isub dX6_aboveOf_58 (pc' := 59) rfl ?_
        refine V.imul dX6_aboveOf_59 (pc' := 60) rfl ?_
        refine V.goto dX6_aboveOf_60 (pc' := 64) (by decide) ?_
        refine V.pk [0, 1, 2, 4] rfl ?_
        exact vX6_aboveOf_c64 k5 hk5 q5.2 v1 v2 v4 ((q2.2.1 59 v4.toNatClampNeg) * (q4.1 - (imax v2 q5.1))) v3 q e
def sX6_aboveOf_b5 : Nat → Hp → Int32 → Int32 → Int32 → Int32 → Option (Int32 × Hp)
  | 0 => fun _ _ _ _ _ => none
  | n + 1 => sX6_aboveOf_c5 (sX6_aboveOf_b5 n)
theorem vX6_aboveOf_b5 : ∀ (n : Nat) (h : Hp) (v1 : Int32) (v2 : Int32) (v3 : Int32) (v4 : Int32) (q : (Int32 × Hp)), sX6_aboveOf_b5 n h v1 v2 v3 v4 = some q → V (Gs 2 (pI q)) mX6_aboveOf (0, 0) 5 [(0, .ref 54), (1, .int v1), (2, .int v2), (3, .int v3), (4, .int v4)] [] h
  | 0 => fun _ _ _ _ _ _ e => by cases e
  | n + 1 => fun h v1 v2 v3 v4 q e => vX6_aboveOf_c5 (sX6_aboveOf_b5 n) (vX6_aboveOf_b5 n) h v1 v2 v3 v4 q e
def sX6_aboveOf (h : Hp) (a1 : Int32) (a2 : Int32) : Option (Int32 × Hp) :=
  sX6_aboveOf_b5 FU h a1 a2 (0 : Int32) (0 : Int32)
set_option maxRecDepth 10000 in
theorem kX6_aboveOf (h : Hp) (a1 : Int32) (a2 : Int32) (q : (Int32 × Hp)) (e : sX6_aboveOf h a1 a2 = some q) : K 2 mX6_aboveOf [.ref 54, .int a1, .int a2] h (pI q) := by
  unfold sX6_aboveOf at e
  refine K.ofV (by decide) rfl (Nat.le_of_ble_eq_true rfl) ?_
  show V (Gs 2 (pI q)) mX6_aboveOf (0, 0) 0 [(0, .ref 54), (1, .int a1), (2, .int a2)] [] h
  refine V.iconst dX6_aboveOf_0 (pc' := 1) rfl (v := 0) (by decide) ?_
  refine V.isq dX6_aboveOf_1 (pc' := 2) rfl (by decide) rfl (L' := [(3, .int (0 : Int32)), (0, .ref 54), (1, .int a1), (2, .int a2)]) rfl ?_
  refine V.iconst dX6_aboveOf_2 (pc' := 3) rfl (v := 0) (by decide) ?_
  refine V.is dX6_aboveOf_3 (pc' := 5) rfl (by decide) rfl (L' := [(4, .int (0 : Int32)), (3, .int (0 : Int32)), (0, .ref 54), (1, .int a1), (2, .int a2)]) rfl ?_
  refine V.pk [2, 3, 4, 1, 0] rfl ?_
  exact vX6_aboveOf_b5 FU h a1 a2 (0 : Int32) (0 : Int32) q e

-- X6_goingOn (level 2)
theorem dX6_goingOn_0 : decode cX6_goingOn 0 = .ok (.iconst 0, 1) := by decide +kernel
theorem dX6_goingOn_1 : decode cX6_goingOn 1 = .ok (.istore_n 3, 1) := by decide +kernel
theorem dX6_goingOn_2 : decode cX6_goingOn 2 = .ok (.iconst 0, 1) := by decide +kernel
theorem dX6_goingOn_3 : decode cX6_goingOn 3 = .ok (.istore 4, 2) := by decide +kernel
theorem dX6_goingOn_5 : decode cX6_goingOn 5 = .ok (.iload 4, 2) := by decide +kernel
theorem dX6_goingOn_7 : decode cX6_goingOn 7 = .ok (.aload_n 0, 1) := by decide +kernel
theorem dX6_goingOn_8 : decode cX6_goingOn 8 = .ok (.getfield 131, 3) := by decide +kernel
theorem dX6_goingOn_11 : decode cX6_goingOn 11 = .ok (.if_icmp .ge 53, 3) := by decide +kernel
theorem dX6_goingOn_14 : decode cX6_goingOn 14 = .ok (.iload_n 3, 1) := by decide +kernel
theorem dX6_goingOn_15 : decode cX6_goingOn 15 = .ok (.aload_n 0, 1) := by decide +kernel
theorem dX6_goingOn_16 : decode cX6_goingOn 16 = .ok (.iload 4, 2) := by decide +kernel
theorem dX6_goingOn_18 : decode cX6_goingOn 18 = .ok (.invokevirtual 144, 3) := by decide +kernel
theorem dX6_goingOn_21 : decode cX6_goingOn 21 = .ok (.iload_n 1, 1) := by decide +kernel
theorem dX6_goingOn_22 : decode cX6_goingOn 22 = .ok (.if_icmp .ne 33, 3) := by decide +kernel
theorem dX6_goingOn_25 : decode cX6_goingOn 25 = .ok (.aload_n 0, 1) := by decide +kernel
theorem dX6_goingOn_26 : decode cX6_goingOn 26 = .ok (.iload 4, 2) := by decide +kernel
theorem dX6_goingOn_28 : decode cX6_goingOn 28 = .ok (.invokevirtual 176, 3) := by decide +kernel
theorem dX6_goingOn_31 : decode cX6_goingOn 31 = .ok (.iload_n 2, 1) := by decide +kernel
theorem dX6_goingOn_32 : decode cX6_goingOn 32 = .ok (.if_icmp .lt 23, 3) := by decide +kernel
theorem dX6_goingOn_35 : decode cX6_goingOn 35 = .ok (.aload_n 0, 1) := by decide +kernel
theorem dX6_goingOn_36 : decode cX6_goingOn 36 = .ok (.iload 4, 2) := by decide +kernel
theorem dX6_goingOn_38 : decode cX6_goingOn 38 = .ok (.invokevirtual 179, 3) := by decide +kernel
theorem dX6_goingOn_41 : decode cX6_goingOn 41 = .ok (.iload_n 2, 1) := by decide +kernel
theorem dX6_goingOn_42 : decode cX6_goingOn 42 = .ok (.if_icmp .ge 13, 3) := by decide +kernel
theorem dX6_goingOn_45 : decode cX6_goingOn 45 = .ok (.aload_n 0, 1) := by decide +kernel
theorem dX6_goingOn_46 : decode cX6_goingOn 46 = .ok (.getfield 63, 3) := by decide +kernel
theorem dX6_goingOn_49 : decode cX6_goingOn 49 = .ok (.iload 4, 2) := by decide +kernel
theorem dX6_goingOn_51 : decode cX6_goingOn 51 = .ok (.iaload, 1) := by decide +kernel
theorem dX6_goingOn_52 : decode cX6_goingOn 52 = .ok (.goto 4, 3) := by decide +kernel
theorem dX6_goingOn_55 : decode cX6_goingOn 55 = .ok (.iconst 0, 1) := by decide +kernel
theorem dX6_goingOn_56 : decode cX6_goingOn 56 = .ok (.iadd, 1) := by decide +kernel
theorem dX6_goingOn_57 : decode cX6_goingOn 57 = .ok (.istore_n 3, 1) := by decide +kernel
theorem dX6_goingOn_58 : decode cX6_goingOn 58 = .ok (.iinc 4 1, 3) := by decide +kernel
theorem dX6_goingOn_61 : decode cX6_goingOn 61 = .ok (.goto (-56), 3) := by decide +kernel
theorem dX6_goingOn_64 : decode cX6_goingOn 64 = .ok (.iload_n 3, 1) := by decide +kernel
theorem dX6_goingOn_65 : decode cX6_goingOn 65 = .ok (.ireturn, 1) := by decide +kernel
def sX6_goingOn_c56 (k5 : Hp → Int32 → Int32 → Int32 → Int32 → Option (Int32 × Hp)) (h : Hp) (v1 : Int32) (v2 : Int32) (v4 : Int32) (t0 : Int32) (t1 : Int32) : Option (Int32 × Hp) :=
  nm ((t1 + t0)) fun x5 => nm (v4 + (1 : Int32)) fun x6 => k5 h v1 v2 x5 x6
set_option maxRecDepth 10000 in
theorem vX6_goingOn_c56 (k5 : Hp → Int32 → Int32 → Int32 → Int32 → Option (Int32 × Hp)) (hk5 : ∀ (h : Hp) (v1 : Int32) (v2 : Int32) (v3 : Int32) (v4 : Int32) (q : (Int32 × Hp)), k5 h v1 v2 v3 v4 = some q → V (Gs 2 (pI q)) mX6_goingOn (0, 0) 5 [(0, .ref 54), (1, .int v1), (2, .int v2), (3, .int v3), (4, .int v4)] [] h) (h : Hp) (v1 : Int32) (v2 : Int32) (v4 : Int32) (t0 : Int32) (t1 : Int32) (q : (Int32 × Hp)) (e : sX6_goingOn_c56 k5 h v1 v2 v4 t0 t1 = some q) : V (Gs 2 (pI q)) mX6_goingOn (0, 0) 56 [(0, .ref 54), (1, .int v1), (2, .int v2), (4, .int v4)] [.int t0, .int t1] h := by
  unfold sX6_goingOn_c56 at e
  refine V.iadd dX6_goingOn_56 (pc' := 57) rfl ?_
  obtain ⟨x5, ex5, e⟩ := nm_s e
  refine V.isq dX6_goingOn_57 (pc' := 58) rfl (by decide) ex5 (L' := [(3, .int x5), (0, .ref 54), (1, .int v1), (2, .int v2), (4, .int v4)]) rfl ?_
  obtain ⟨x6, ex6, e⟩ := nm_s e
  refine V.iinc dX6_goingOn_58 (pc' := 61) rfl (j := 4) rfl (v := 1) (by decide) (by decide) ex6 (L' := [(4, .int x6), (3, .int x5), (0, .ref 54), (1, .int v1), (2, .int v2)]) rfl ?_
  refine V.goto dX6_goingOn_61 (pc' := 5) (by decide) ?_
  refine V.pk [2, 3, 4, 1, 0] rfl ?_
  exact hk5 h v1 v2 x5 x6 q e
def sX6_goingOn_c55 (k5 : Hp → Int32 → Int32 → Int32 → Int32 → Option (Int32 × Hp)) (h : Hp) (v1 : Int32) (v2 : Int32) (v4 : Int32) (t0 : Int32) : Option (Int32 × Hp) :=
  sX6_goingOn_c56 k5 h v1 v2 v4 (0 : Int32) t0
set_option maxRecDepth 10000 in
theorem vX6_goingOn_c55 (k5 : Hp → Int32 → Int32 → Int32 → Int32 → Option (Int32 × Hp)) (hk5 : ∀ (h : Hp) (v1 : Int32) (v2 : Int32) (v3 : Int32) (v4 : Int32) (q : (Int32 × Hp)), k5 h v1 v2 v3 v4 = some q → V (Gs 2 (pI q)) mX6_goingOn (0, 0) 5 [(0, .ref 54), (1, .int v1), (2, .int v2), (3, .int v3), (4, .int v4)] [] h) (h : Hp) (v1 : Int32) (v2 : Int32) (v4 : Int32) (t0 : Int32) (q : (Int32 × Hp)) (e : sX6_goingOn_c55 k5 h v1 v2 v4 t0 = some q) : V (Gs 2 (pI q)) mX6_goingOn (0, 0) 55 [(0, .ref 54), (1, .int v1), (2, .int v2), (4, .int v4)] [.int t0] h := by
  unfold sX6_goingOn_c55 at e
  refine V.iconst dX6_goingOn_55 (pc' := 56) rfl (v := 0) (by decide) ?_
  exact vX6_goingOn_c56 k5 hk5 h v1 v2 v4 (0 : Int32) t0 q e
def sX6_goingOn_c5 (k5 : Hp → Int32 → Int32 → Int32 → Int32 → Option (Int32 × Hp)) (h : Hp) (v1 : Int32) (v2 : Int32) (v3 : Int32) (v4 : Int32) : Option (Int32 × Hp) :=
  if (h.1 54 7) ≤ v4 then (some (v3, h)) else ((sX6_isHot h v4).bind fun q1 => if q1.1 = v1 then ((sX6_high q1.2 v4).bind fun q2 => if q2.1 < v2 then (sX6_goingOn_c55 k5 q2.2 v1 v2 v4 v3) else ((sX6_low q2.2 v4).bind fun q3 => if v2 ≤ q3.1 then (sX6_goingOn_c55 k5 q3.2 v1 v2 v4 v3) else (gd (inb v4 10) (sX6_goingOn_c56 k5 q3.2 v1 v2 v4 (q3.2.1 59 v4.toNatClampNeg) v3)))) else (sX6_goingOn_c55 k5 q1.2 v1 v2 v4 v3))
set_option maxRecDepth 10000 in
theorem vX6_goingOn_c5 (k5 : Hp → Int32 → Int32 → Int32 → Int32 → Option (Int32 × Hp)) (hk5 : ∀ (h : Hp) (v1 : Int32) (v2 : Int32) (v3 : Int32) (v4 : Int32) (q : (Int32 × Hp)), k5 h v1 v2 v3 v4 = some q → V (Gs 2 (pI q)) mX6_goingOn (0, 0) 5 [(0, .ref 54), (1, .int v1), (2, .int v2), (3, .int v3), (4, .int v4)] [] h) (h : Hp) (v1 : Int32) (v2 : Int32) (v3 : Int32) (v4 : Int32) (q : (Int32 × Hp)) (e : sX6_goingOn_c5 k5 h v1 v2 v3 v4 = some q) : V (Gs 2 (pI q)) mX6_goingOn (0, 0) 5 [(0, .ref 54), (1, .int v1), (2, .int v2), (3, .int v3), (4, .int v4)] [] h := by
  unfold sX6_goingOn_c5 at e
  refine V.il dX6_goingOn_5 (pc' := 7) rfl (j := 4) rfl ?_
  refine V.alq dX6_goingOn_7 (pc' := 8) rfl (j := 0) rfl ?_
  refine V.getf dX6_goingOn_8 (pc' := 11) rfl FL_X6_131 rfl (by decide) rfl ?_
  refine V.ic_ge dX6_goingOn_11 (pc' := 14) rfl (tgt := 64) (by decide) (fun c => ?_) (fun c => ?_)
  · rw [if_pos c] at e
    refine V.ilq dX6_goingOn_64 (pc' := 65) rfl (j := 3) rfl ?_
    exact V.iret dX6_goingOn_65 rfl (fnI e)
  · rw [if_neg c] at e
    refine V.ilq dX6_goingOn_14 (pc' := 15) rfl (j := 3) rfl ?_
    refine V.alq dX6_goingOn_15 (pc' := 16) rfl (j := 0) rfl ?_
    refine V.il dX6_goingOn_16 (pc' := 18) rfl (j := 4) rfl ?_
    obtain ⟨q1, eq1, e⟩ := bd_s e
    refine V.callVi dX6_goingOn_18 (pc' := 21) rfl CV_X6_144 (as := [.int v4]) (kX6_isHot h v4 q1 eq1) (Gs_rm (by decide)) rfl (by decide) rfl (Nat.le_of_ble_eq_true rfl) rfl ?_
    refine V.ilq dX6_goingOn_21 (pc' := 22) rfl (j := 1) rfl ?_
    refine V.ic_ne dX6_goingOn_22 (pc' := 25) rfl (tgt := 55) (by decide) (fun c => ?_) (fun c => ?_)
    · rw [if_neg c] at e
      refine V.pk [0, 1, 2, 4] rfl ?_
      exact vX6_goingOn_c55 k5 hk5 q1.2 v1 v2 v4 v3 q e
    · rw [if_pos c] at e
      refine V.alq dX6_goingOn_25 (pc' := 26) rfl (j := 0) rfl ?_
      refine V.il dX6_goingOn_26 (pc' := 28) rfl (j := 4) rfl ?_
      obtain ⟨q2, eq2, e⟩ := bd_s e
      refine V.callVi dX6_goingOn_28 (pc' := 31) rfl CV_X6_176 (as := [.int v4]) (kX6_high q1.2 v4 q2 eq2) (Gs_rm (by decide)) rfl (by decide) rfl (Nat.le_of_ble_eq_true rfl) rfl ?_
      refine V.ilq dX6_goingOn_31 (pc' := 32) rfl (j := 2) rfl ?_
      refine V.ic_lt dX6_goingOn_32 (pc' := 35) rfl (tgt := 55) (by decide) (fun c => ?_) (fun c => ?_)
      · rw [if_pos c] at e
        refine V.pk [0, 1, 2, 4] rfl ?_
        exact vX6_goingOn_c55 k5 hk5 q2.2 v1 v2 v4 v3 q e
      · rw [if_neg c] at e
        refine V.alq dX6_goingOn_35 (pc' := 36) rfl (j := 0) rfl ?_
        refine V.il dX6_goingOn_36 (pc' := 38) rfl (j := 4) rfl ?_
        obtain ⟨q3, eq3, e⟩ := bd_s e
        refine V.callVi dX6_goingOn_38 (pc' := 41) rfl CV_X6_179 (as := [.int v4]) (kX6_low q2.2 v4 q3 eq3) (Gs_rm (by decide)) rfl (by decide) rfl (Nat.le_of_ble_eq_true rfl) rfl ?_
        refine V.ilq dX6_goingOn_41 (pc' := 42) rfl (j := 2) rfl ?_
        refine V.ic_ge dX6_goingOn_42 (pc' := 45) rfl (tgt := 55) (by decide) (fun c => ?_) (fun c => ?_)
        · rw [if_pos c] at e
          refine V.pk [0, 1, 2, 4] rfl ?_
          exact vX6_goingOn_c55 k5 hk5 q3.2 v1 v2 v4 v3 q e
        · rw [if_neg c] at e
          refine V.alq dX6_goingOn_45 (pc' := 46) rfl (j := 0) rfl ?_
          refine V.getr dX6_goingOn_46 (pc' := 49) rfl FL_X6_63 rfl (by decide) rfl (r' := 59) rfl ?_
          refine V.il dX6_goingOn_49 (pc' := 51) rfl (j := 4) rfl ?_
          obtain ⟨c4, e⟩ := gd_s e
          refine V.iald dX6_goingOn_51 (pc' := 52) rfl rfl rfl (inb_t c4) ?_
          refine V.goto dX6_goingOn_52 (pc' := 56) (by decide) ?_
          refine V.pk [0, 1, 2, 4] rfl ?_
          exact vX6_goingOn_c56 k5 hk5 q3.2 v1 v2 v4 (q3.2.1 59 v4.toNatClampNeg) v3 q e
def sX6_goingOn_b5 : Nat → Hp → Int32 → Int32 → Int32 → Int32 → Option (Int32 × Hp)
  | 0 => fun _ _ _ _ _ => none
  | n + 1 => sX6_goingOn_c5 (sX6_goingOn_b5 n)
theorem vX6_goingOn_b5 : ∀ (n : Nat) (h : Hp) (v1 : Int32) (v2 : Int32) (v3 : Int32) (v4 : Int32) (q : (Int32 × Hp)), sX6_goingOn_b5 n h v1 v2 v3 v4 = some q → V (Gs 2 (pI q)) mX6_goingOn (0, 0) 5 [(0, .ref 54), (1, .int v1), (2, .int v2), (3, .int v3), (4, .int v4)] [] h
  | 0 => fun _ _ _ _ _ _ e => by cases e
  | n + 1 => fun h v1 v2 v3 v4 q e => vX6_goingOn_c5 (sX6_goingOn_b5 n) (vX6_goingOn_b5 n) h v1 v2 v3 v4 q e
def sX6_goingOn (h : Hp) (a1 : Int32) (a2 : Int32) : Option (Int32 × Hp) :=
  sX6_goingOn_b5 FU h a1 a2 (0 : Int32) (0 : Int32)
set_option maxRecDepth 10000 in
theorem kX6_goingOn (h : Hp) (a1 : Int32) (a2 : Int32) (q : (Int32 × Hp)) (e : sX6_goingOn h a1 a2 = some q) : K 2 mX6_goingOn [.ref 54, .int a1, .int a2] h (pI q) := by
  unfold sX6_goingOn at e
  refine K.ofV (by decide) rfl (Nat.le_of_ble_eq_true rfl) ?_
  show V (Gs 2 (pI q)) mX6_goingOn (0, 0) 0 [(0, .ref 54), (1, .int a1), (2, .int a2)] [] h
  refine V.iconst dX6_goingOn_0 (pc' := 1) rfl (v := 0) (by decide) ?_
  refine V.isq dX6_goingOn_1 (pc' := 2) rfl (by decide) rfl (L' := [(3, .int (0 : Int32)), (0, .ref 54), (1, .int a1), (2, .int a2)]) rfl ?_
  refine V.iconst dX6_goingOn_2 (pc' := 3) rfl (v := 0) (by decide) ?_
  refine V.is dX6_goingOn_3 (pc' := 5) rfl (by decide) rfl (L' := [(4, .int (0 : Int32)), (3, .int (0 : Int32)), (0, .ref 54), (1, .int a1), (2, .int a2)]) rfl ?_
  refine V.pk [2, 3, 4, 1, 0] rfl ?_
  exact vX6_goingOn_b5 FU h a1 a2 (0 : Int32) (0 : Int32) q e

-- X6_pinchOf (level 2)
theorem dX6_pinchOf_0 : decode cX6_pinchOf 0 = .ok (.aload_n 0, 1) := by decide +kernel
theorem dX6_pinchOf_1 : decode cX6_pinchOf 1 = .ok (.getfield 238, 3) := by decide +kernel
theorem dX6_pinchOf_4 : decode cX6_pinchOf 4 = .ok (.aload_n 0, 1) := by decide +kernel
theorem dX6_pinchOf_5 : decode cX6_pinchOf 5 = .ok (.iload_n 1, 1) := by decide +kernel
theorem dX6_pinchOf_6 : decode cX6_pinchOf 6 = .ok (.invokevirtual 190, 3) := by decide +kernel
theorem dX6_pinchOf_9 : decode cX6_pinchOf 9 = .ok (.iadd, 1) := by decide +kernel
theorem dX6_pinchOf_10 : decode cX6_pinchOf 10 = .ok (.ireturn, 1) := by decide +kernel
def sX6_pinchOf (h : Hp) (a1 : Int32) : Option (Int32 × Hp) :=
  (sX6_shift h a1).bind fun q1 => some (((h.1 54 21) + q1.1), q1.2)
set_option maxRecDepth 10000 in
theorem kX6_pinchOf (h : Hp) (a1 : Int32) (q : (Int32 × Hp)) (e : sX6_pinchOf h a1 = some q) : K 2 mX6_pinchOf [.ref 54, .int a1] h (pI q) := by
  unfold sX6_pinchOf at e
  refine K.ofV (by decide) rfl (Nat.le_of_ble_eq_true rfl) ?_
  show V (Gs 2 (pI q)) mX6_pinchOf (0, 0) 0 [(0, .ref 54), (1, .int a1)] [] h
  refine V.alq dX6_pinchOf_0 (pc' := 1) rfl (j := 0) rfl ?_
  refine V.getf dX6_pinchOf_1 (pc' := 4) rfl FL_X6_238 rfl (by decide) rfl ?_
  refine V.alq dX6_pinchOf_4 (pc' := 5) rfl (j := 0) rfl ?_
  refine V.ilq dX6_pinchOf_5 (pc' := 6) rfl (j := 1) rfl ?_
  obtain ⟨q1, eq1, e⟩ := bd_s e
  refine V.callVi dX6_pinchOf_6 (pc' := 9) rfl CV_X6_190 (as := [.int a1]) (kX6_shift h a1 q1 eq1) (Gs_rm (by decide)) rfl (by decide) rfl (Nat.le_of_ble_eq_true rfl) rfl ?_
  refine V.iadd dX6_pinchOf_9 (pc' := 10) rfl ?_
  exact V.iret dX6_pinchOf_10 rfl (fnI e)

-- X6_far (level 2)
theorem dX6_far_0 : decode cX6_far 0 = .ok (.iload_n 1, 1) := by decide +kernel
theorem dX6_far_1 : decode cX6_far 1 = .ok (.ifCond .ne 11, 3) := by decide +kernel
theorem dX6_far_4 : decode cX6_far 4 = .ok (.aload_n 0, 1) := by decide +kernel
theorem dX6_far_5 : decode cX6_far 5 = .ok (.iload_n 2, 1) := by decide +kernel
theorem dX6_far_6 : decode cX6_far 6 = .ok (.invokevirtual 176, 3) := by decide +kernel
theorem dX6_far_9 : decode cX6_far 9 = .ok (.goto 8, 3) := by decide +kernel
theorem dX6_far_12 : decode cX6_far 12 = .ok (.aload_n 0, 1) := by decide +kernel
theorem dX6_far_13 : decode cX6_far 13 = .ok (.iload_n 2, 1) := by decide +kernel
theorem dX6_far_14 : decode cX6_far 14 = .ok (.invokevirtual 179, 3) := by decide +kernel
theorem dX6_far_17 : decode cX6_far 17 = .ok (.ireturn, 1) := by decide +kernel
def sX6_far_c17 (h : Hp) (t0 : Int32) : Option (Int32 × Hp) :=
  some (t0, h)
set_option maxRecDepth 10000 in
theorem vX6_far_c17 (h : Hp) (t0 : Int32) (q : (Int32 × Hp)) (e : sX6_far_c17 h t0 = some q) : V (Gs 2 (pI q)) mX6_far (0, 0) 17 [] [.int t0] h := by
  unfold sX6_far_c17 at e
  exact V.iret dX6_far_17 rfl (fnI e)
def sX6_far (h : Hp) (a1 : Int32) (a2 : Int32) : Option (Int32 × Hp) :=
  if a1 = 0 then ((sX6_high h a2).bind fun q2 => sX6_far_c17 q2.2 q2.1) else ((sX6_low h a2).bind fun q1 => sX6_far_c17 q1.2 q1.1)
set_option maxRecDepth 10000 in
theorem kX6_far (h : Hp) (a1 : Int32) (a2 : Int32) (q : (Int32 × Hp)) (e : sX6_far h a1 a2 = some q) : K 2 mX6_far [.ref 54, .int a1, .int a2] h (pI q) := by
  unfold sX6_far at e
  refine K.ofV (by decide) rfl (Nat.le_of_ble_eq_true rfl) ?_
  show V (Gs 2 (pI q)) mX6_far (0, 0) 0 [(0, .ref 54), (1, .int a1), (2, .int a2)] [] h
  refine V.ilq dX6_far_0 (pc' := 1) rfl (j := 1) rfl ?_
  refine V.if_ne dX6_far_1 (pc' := 4) rfl (tgt := 12) (by decide) (fun c => ?_) (fun c => ?_)
  · rw [if_neg c] at e
    refine V.alq dX6_far_12 (pc' := 13) rfl (j := 0) rfl ?_
    refine V.ilq dX6_far_13 (pc' := 14) rfl (j := 2) rfl ?_
    obtain ⟨q1, eq1, e⟩ := bd_s e
    refine V.callVi dX6_far_14 (pc' := 17) rfl CV_X6_179 (as := [.int a2]) (kX6_low h a2 q1 eq1) (Gs_rm (by decide)) rfl (by decide) rfl (Nat.le_of_ble_eq_true rfl) rfl ?_
    refine V.pk [] rfl ?_
    exact vX6_far_c17 q1.2 q1.1 q e
  · rw [if_pos c] at e
    refine V.alq dX6_far_4 (pc' := 5) rfl (j := 0) rfl ?_
    refine V.ilq dX6_far_5 (pc' := 6) rfl (j := 2) rfl ?_
    obtain ⟨q2, eq2, e⟩ := bd_s e
    refine V.callVi dX6_far_6 (pc' := 9) rfl CV_X6_176 (as := [.int a2]) (kX6_high h a2 q2 eq2) (Gs_rm (by decide)) rfl (by decide) rfl (Nat.le_of_ble_eq_true rfl) rfl ?_
    refine V.goto dX6_far_9 (pc' := 17) (by decide) ?_
    refine V.pk [] rfl ?_
    exact vX6_far_c17 q2.2 q2.1 q e

-- X6_isMatch (level 2)
theorem dX6_isMatch_0 : decode cX6_isMatch 0 = .ok (.iload_n 1, 1) := by decide +kernel
theorem dX6_isMatch_1 : decode cX6_isMatch 1 = .ok (.invokestatic 253, 3) := by decide +kernel
theorem dX6_isMatch_4 : decode cX6_isMatch 4 = .ok (.ifCond .eq 25, 3) := by decide +kernel
theorem dX6_isMatch_7 : decode cX6_isMatch 7 = .ok (.iload_n 2, 1) := by decide +kernel
theorem dX6_isMatch_8 : decode cX6_isMatch 8 = .ok (.i2l, 1) := by decide +kernel
theorem dX6_isMatch_9 : decode cX6_isMatch 9 = .ok (.lconst 0, 1) := by decide +kernel
theorem dX6_isMatch_10 : decode cX6_isMatch 10 = .ok (.aload_n 0, 1) := by decide +kernel
theorem dX6_isMatch_11 : decode cX6_isMatch 11 = .ok (.getfield 90, 3) := by decide +kernel
theorem dX6_isMatch_14 : decode cX6_isMatch 14 = .ok (.iload_n 1, 1) := by decide +kernel
theorem dX6_isMatch_15 : decode cX6_isMatch 15 = .ok (.iaload, 1) := by decide +kernel
theorem dX6_isMatch_16 : decode cX6_isMatch 16 = .ok (.iconst 1, 1) := by decide +kernel
theorem dX6_isMatch_17 : decode cX6_isMatch 17 = .ok (.isub, 1) := by decide +kernel
theorem dX6_isMatch_18 : decode cX6_isMatch 18 = .ok (.i2l, 1) := by decide +kernel
theorem dX6_isMatch_19 : decode cX6_isMatch 19 = .ok (.invokestatic 29, 3) := by decide +kernel
theorem dX6_isMatch_22 : decode cX6_isMatch 22 = .ok (.ifCond .eq 7, 3) := by decide +kernel
theorem dX6_isMatch_25 : decode cX6_isMatch 25 = .ok (.iconst 1, 1) := by decide +kernel
theorem dX6_isMatch_26 : decode cX6_isMatch 26 = .ok (.goto 4, 3) := by decide +kernel
theorem dX6_isMatch_29 : decode cX6_isMatch 29 = .ok (.iconst 0, 1) := by decide +kernel
theorem dX6_isMatch_30 : decode cX6_isMatch 30 = .ok (.ireturn, 1) := by decide +kernel
def sX6_isMatch_c30 (h : Hp) (t0 : Int32) : Option (Int32 × Hp) :=
  gd (zb t0) (some (t0, h))
set_option maxRecDepth 10000 in
theorem vX6_isMatch_c30 (h : Hp) (t0 : Int32) (q : (Int32 × Hp)) (e : sX6_isMatch_c30 h t0 = some q) : V (Gs 2 (pI q)) mX6_isMatch (0, 0) 30 [] [.int t0] h := by
  unfold sX6_isMatch_c30 at e
  obtain ⟨c4, e⟩ := gd_s e
  exact V.zret dX6_isMatch_30 rfl (zb_t c4) (fnI e)
def sX6_isMatch_c29 (h : Hp) : Option (Int32 × Hp) :=
  sX6_isMatch_c30 h (0 : Int32)
set_option maxRecDepth 10000 in
theorem vX6_isMatch_c29 (h : Hp) (q : (Int32 × Hp)) (e : sX6_isMatch_c29 h = some q) : V (Gs 2 (pI q)) mX6_isMatch (0, 0) 29 [] [] h := by
  unfold sX6_isMatch_c29 at e
  refine V.iconst dX6_isMatch_29 (pc' := 30) rfl (v := 0) (by decide) ?_
  exact vX6_isMatch_c30 h (0 : Int32) q e
def sX6_isMatch (h : Hp) (a1 : Int32) (a2 : Int32) : Option (Int32 × Hp) :=
  (sX6_isSide h a1).bind fun q1 => if q1.1 = 0 then (sX6_isMatch_c29 q1.2) else (gd (inb a1 2) ((sX6_in q1.2 a2.toInt64 (0 : Int64) (((q1.2.1 67 a1.toNatClampNeg) - (1 : Int32)).toInt64)).bind fun q3 => if q3.1 = 0 then (sX6_isMatch_c29 q3.2) else (sX6_isMatch_c30 q3.2 (1 : Int32))))
set_option maxRecDepth 10000 in
theorem kX6_isMatch (h : Hp) (a1 : Int32) (a2 : Int32) (q : (Int32 × Hp)) (e : sX6_isMatch h a1 a2 = some q) : K 2 mX6_isMatch [.ref 54, .int a1, .int a2] h (pI q) := by
  unfold sX6_isMatch at e
  refine K.ofV (by decide) rfl (Nat.le_of_ble_eq_true rfl) ?_
  show V (Gs 2 (pI q)) mX6_isMatch (0, 0) 0 [(0, .ref 54), (1, .int a1), (2, .int a2)] [] h
  refine V.ilq dX6_isMatch_0 (pc' := 1) rfl (j := 1) rfl ?_
  obtain ⟨q1, eq1, e⟩ := bd_s e
  refine V.callSi dX6_isMatch_1 (pc' := 4) rfl CS_X6_253 (as := [.int a1]) (kX6_isSide h a1 q1 eq1) (Gs_rm (by decide)) rfl (Nat.le_of_ble_eq_true rfl) rfl ?_
  refine V.if_eq dX6_isMatch_4 (pc' := 7) rfl (tgt := 29) (by decide) (fun c => ?_) (fun c => ?_)
  · rw [if_pos c] at e
    refine V.pk [] rfl ?_
    exact vX6_isMatch_c29 q1.2 q e
  · rw [if_neg c] at e
    refine V.ilq dX6_isMatch_7 (pc' := 8) rfl (j := 2) rfl ?_
    refine V.i2l dX6_isMatch_8 (pc' := 9) rfl ?_
    refine V.lconst dX6_isMatch_9 (pc' := 10) rfl (v := 0) (by decide) ?_
    refine V.alq dX6_isMatch_10 (pc' := 11) rfl (j := 0) rfl ?_
    refine V.getr dX6_isMatch_11 (pc' := 14) rfl FL_X6_90 rfl (by decide) rfl (r' := 67) rfl ?_
    refine V.ilq dX6_isMatch_14 (pc' := 15) rfl (j := 1) rfl ?_
    obtain ⟨c2, e⟩ := gd_s e
    refine V.iald dX6_isMatch_15 (pc' := 16) rfl rfl rfl (inb_t c2) ?_
    refine V.iconst dX6_isMatch_16 (pc' := 17) rfl (v := 1) (by decide) ?_
    refine V.isub dX6_isMatch_17 (pc' := 18) rfl ?_
    refine V.i2l dX6_isMatch_18 (pc' := 19) rfl ?_
    obtain ⟨q3, eq3, e⟩ := bd_s e
    refine V.callSi dX6_isMatch_19 (pc' := 22) rfl CS_X6_29 (as := [.long a2.toInt64, .long (0 : Int64), .long (((q1.2.1 67 a1.toNatClampNeg) - (1 : Int32)).toInt64)]) (kX6_in q1.2 a2.toInt64 (0 : Int64) (((q1.2.1 67 a1.toNatClampNeg) - (1 : Int32)).toInt64) q3 eq3) (Gs_rm (by decide)) rfl (Nat.le_of_ble_eq_true rfl) rfl ?_
    refine V.if_eq dX6_isMatch_22 (pc' := 25) rfl (tgt := 29) (by decide) (fun c => ?_) (fun c => ?_)
    · rw [if_pos c] at e
      refine V.pk [] rfl ?_
      exact vX6_isMatch_c29 q3.2 q e
    · rw [if_neg c] at e
      refine V.iconst dX6_isMatch_25 (pc' := 26) rfl (v := 1) (by decide) ?_
      refine V.goto dX6_isMatch_26 (pc' := 30) (by decide) ?_
      refine V.pk [] rfl ?_
      exact vX6_isMatch_c30 q3.2 (1 : Int32) q e

-- X6_clears (level 2)
theorem dX6_clears_0 : decode cX6_clears 0 = .ok (.aload_n 0, 1) := by decide +kernel
theorem dX6_clears_1 : decode cX6_clears 1 = .ok (.iconst 0, 1) := by decide +kernel
theorem dX6_clears_2 : decode cX6_clears 2 = .ok (.putfield 1, 3) := by decide +kernel
theorem dX6_clears_5 : decode cX6_clears 5 = .ok (.iload_n 1, 1) := by decide +kernel
theorem dX6_clears_6 : decode cX6_clears 6 = .ok (.invokestatic 253, 3) := by decide +kernel
theorem dX6_clears_9 : decode cX6_clears 9 = .ok (.ifCond .ne 5, 3) := by decide +kernel
theorem dX6_clears_12 : decode cX6_clears 12 = .ok (.iconst (-1), 1) := by decide +kernel
theorem dX6_clears_13 : decode cX6_clears 13 = .ok (.ireturn, 1) := by decide +kernel
theorem dX6_clears_14 : decode cX6_clears 14 = .ok (.aload_n 0, 1) := by decide +kernel
theorem dX6_clears_15 : decode cX6_clears 15 = .ok (.getfield 90, 3) := by decide +kernel
theorem dX6_clears_18 : decode cX6_clears 18 = .ok (.iload_n 1, 1) := by decide +kernel
theorem dX6_clears_19 : decode cX6_clears 19 = .ok (.iaload, 1) := by decide +kernel
theorem dX6_clears_20 : decode cX6_clears 20 = .ok (.istore_n 2, 1) := by decide +kernel
theorem dX6_clears_21 : decode cX6_clears 21 = .ok (.aload_n 0, 1) := by decide +kernel
theorem dX6_clears_22 : decode cX6_clears 22 = .ok (.getfield 90, 3) := by decide +kernel
theorem dX6_clears_25 : decode cX6_clears 25 = .ok (.iload_n 1, 1) := by decide +kernel
theorem dX6_clears_26 : decode cX6_clears 26 = .ok (.iconst 0, 1) := by decide +kernel
theorem dX6_clears_27 : decode cX6_clears 27 = .ok (.iastore, 1) := by decide +kernel
theorem dX6_clears_28 : decode cX6_clears 28 = .ok (.iload_n 2, 1) := by decide +kernel
theorem dX6_clears_29 : decode cX6_clears 29 = .ok (.ireturn, 1) := by decide +kernel
def sX6_clears (h : Hp) (a1 : Int32) : Option (Int32 × Hp) :=
  nm (u1 h 54 0 (0 : Int32)) fun h1 => (sX6_isSide h1 a1).bind fun q2 => if q2.1 = 0 then (some ((-1 : Int32), q2.2)) else (gd (inb a1 2) (nm ((q2.2.1 67 a1.toNatClampNeg)) fun x4 => gd (inb a1 2) (nm (u1 q2.2 67 a1.toNatClampNeg (0 : Int32)) fun h6 => some (x4, h6))))
set_option maxRecDepth 10000 in
theorem kX6_clears (h : Hp) (a1 : Int32) (q : (Int32 × Hp)) (e : sX6_clears h a1 = some q) : K 2 mX6_clears [.ref 54, .int a1] h (pI q) := by
  unfold sX6_clears at e
  refine K.ofV (by decide) rfl (Nat.le_of_ble_eq_true rfl) ?_
  show V (Gs 2 (pI q)) mX6_clears (0, 0) 0 [(0, .ref 54), (1, .int a1)] [] h
  refine V.alq dX6_clears_0 (pc' := 1) rfl (j := 0) rfl ?_
  refine V.iconst dX6_clears_1 (pc' := 2) rfl (v := 0) (by decide) ?_
  obtain ⟨h1, eh1, e⟩ := nm_s e
  refine V.putf dX6_clears_2 (pc' := 5) rfl FP_X6_1 rfl (by decide) rfl eh1 ?_
  refine V.ilq dX6_clears_5 (pc' := 6) rfl (j := 1) rfl ?_
  obtain ⟨q2, eq2, e⟩ := bd_s e
  refine V.callSi dX6_clears_6 (pc' := 9) rfl CS_X6_253 (as := [.int a1]) (kX6_isSide h1 a1 q2 eq2) (Gs_rm (by decide)) rfl (Nat.le_of_ble_eq_true rfl) rfl ?_
  refine V.if_ne dX6_clears_9 (pc' := 12) rfl (tgt := 14) (by decide) (fun c => ?_) (fun c => ?_)
  · rw [if_neg c] at e
    refine V.alq dX6_clears_14 (pc' := 15) rfl (j := 0) rfl ?_
    refine V.getr dX6_clears_15 (pc' := 18) rfl FL_X6_90 rfl (by decide) rfl (r' := 67) rfl ?_
    refine V.ilq dX6_clears_18 (pc' := 19) rfl (j := 1) rfl ?_
    obtain ⟨c3, e⟩ := gd_s e
    refine V.iald dX6_clears_19 (pc' := 20) rfl rfl rfl (inb_t c3) ?_
    obtain ⟨x4, ex4, e⟩ := nm_s e
    refine V.isq dX6_clears_20 (pc' := 21) rfl (by decide) ex4 (L' := [(2, .int x4), (0, .ref 54), (1, .int a1)]) rfl ?_
    refine V.alq dX6_clears_21 (pc' := 22) rfl (j := 1) rfl ?_
    refine V.getr dX6_clears_22 (pc' := 25) rfl FL_X6_90 rfl (by decide) rfl (r' := 67) rfl ?_
    refine V.ilq dX6_clears_25 (pc' := 26) rfl (j := 2) rfl ?_
    refine V.iconst dX6_clears_26 (pc' := 27) rfl (v := 0) (by decide) ?_
    obtain ⟨c5, e⟩ := gd_s e
    obtain ⟨h6, eh6, e⟩ := nm_s e
    refine V.iast dX6_clears_27 (pc' := 28) rfl rfl rfl (inb_t c5) eh6 ?_
    refine V.ilq dX6_clears_28 (pc' := 29) rfl (j := 0) rfl ?_
    exact V.iret dX6_clears_29 rfl (fnI e)
  · rw [if_pos c] at e
    refine V.iconst dX6_clears_12 (pc' := 13) rfl (v := -1) (by decide) ?_
    exact V.iret dX6_clears_13 rfl (fnI e)

-- X6_loops (level 2)
theorem dX6_loops_0 : decode cX6_loops 0 = .ok (.aload_n 0, 1) := by decide +kernel
theorem dX6_loops_1 : decode cX6_loops 1 = .ok (.iconst 0, 1) := by decide +kernel
theorem dX6_loops_2 : decode cX6_loops 2 = .ok (.putfield 1, 3) := by decide +kernel
theorem dX6_loops_5 : decode cX6_loops 5 = .ok (.iload_n 1, 1) := by decide +kernel
theorem dX6_loops_6 : decode cX6_loops 6 = .ok (.invokestatic 253, 3) := by decide +kernel
theorem dX6_loops_9 : decode cX6_loops 9 = .ok (.ifCond .ne 5, 3) := by decide +kernel
theorem dX6_loops_12 : decode cX6_loops 12 = .ok (.iconst (-1), 1) := by decide +kernel
theorem dX6_loops_13 : decode cX6_loops 13 = .ok (.ireturn, 1) := by decide +kernel
theorem dX6_loops_14 : decode cX6_loops 14 = .ok (.iconst 0, 1) := by decide +kernel
theorem dX6_loops_15 : decode cX6_loops 15 = .ok (.istore_n 2, 1) := by decide +kernel
theorem dX6_loops_16 : decode cX6_loops 16 = .ok (.iconst 0, 1) := by decide +kernel
theorem dX6_loops_17 : decode cX6_loops 17 = .ok (.istore_n 3, 1) := by decide +kernel
theorem dX6_loops_18 : decode cX6_loops 18 = .ok (.iconst 0, 1) := by decide +kernel
theorem dX6_loops_19 : decode cX6_loops 19 = .ok (.istore 4, 2) := by decide +kernel
theorem dX6_loops_21 : decode cX6_loops 21 = .ok (.iconst 0, 1) := by decide +kernel
theorem dX6_loops_22 : decode cX6_loops 22 = .ok (.istore 5, 2) := by decide +kernel
theorem dX6_loops_24 : decode cX6_loops 24 = .ok (.iload 5, 2) := by decide +kernel
theorem dX6_loops_26 : decode cX6_loops 26 = .ok (.aload_n 0, 1) := by decide +kernel
theorem dX6_loops_27 : decode cX6_loops 27 = .ok (.getfield 90, 3) := by decide +kernel
theorem dX6_loops_30 : decode cX6_loops 30 = .ok (.iload_n 1, 1) := by decide +kernel
theorem dX6_loops_31 : decode cX6_loops 31 = .ok (.iaload, 1) := by decide +kernel
theorem dX6_loops_32 : decode cX6_loops 32 = .ok (.if_icmp .ge 41, 3) := by decide +kernel
theorem dX6_loops_35 : decode cX6_loops 35 = .ok (.iload 4, 2) := by decide +kernel
theorem dX6_loops_37 : decode cX6_loops 37 = .ok (.iconst 1, 1) := by decide +kernel
theorem dX6_loops_38 : decode cX6_loops 38 = .ok (.aload_n 0, 1) := by decide +kernel
theorem dX6_loops_39 : decode cX6_loops 39 = .ok (.getfield 93, 3) := by decide +kernel
theorem dX6_loops_42 : decode cX6_loops 42 = .ok (.iload_n 1, 1) := by decide +kernel
theorem dX6_loops_43 : decode cX6_loops 43 = .ok (.iload 5, 2) := by decide +kernel
theorem dX6_loops_45 : decode cX6_loops 45 = .ok (.invokestatic 263, 3) := by decide +kernel
theorem dX6_loops_48 : decode cX6_loops 48 = .ok (.iaload, 1) := by decide +kernel
theorem dX6_loops_49 : decode cX6_loops 49 = .ok (.ishl, 1) := by decide +kernel
theorem dX6_loops_50 : decode cX6_loops 50 = .ok (.iconst 1, 1) := by decide +kernel
theorem dX6_loops_51 : decode cX6_loops 51 = .ok (.aload_n 0, 1) := by decide +kernel
theorem dX6_loops_52 : decode cX6_loops 52 = .ok (.getfield 96, 3) := by decide +kernel
theorem dX6_loops_55 : decode cX6_loops 55 = .ok (.iload_n 1, 1) := by decide +kernel
theorem dX6_loops_56 : decode cX6_loops 56 = .ok (.iload 5, 2) := by decide +kernel
theorem dX6_loops_58 : decode cX6_loops 58 = .ok (.invokestatic 263, 3) := by decide +kernel
theorem dX6_loops_61 : decode cX6_loops 61 = .ok (.iaload, 1) := by decide +kernel
theorem dX6_loops_62 : decode cX6_loops 62 = .ok (.ishl, 1) := by decide +kernel
theorem dX6_loops_63 : decode cX6_loops 63 = .ok (.ior, 1) := by decide +kernel
theorem dX6_loops_64 : decode cX6_loops 64 = .ok (.ior, 1) := by decide +kernel
theorem dX6_loops_65 : decode cX6_loops 65 = .ok (.istore 4, 2) := by decide +kernel
theorem dX6_loops_67 : decode cX6_loops 67 = .ok (.iinc 5 1, 3) := by decide +kernel
theorem dX6_loops_70 : decode cX6_loops 70 = .ok (.goto (-46), 3) := by decide +kernel
theorem dX6_loops_73 : decode cX6_loops 73 = .ok (.iconst 0, 1) := by decide +kernel
theorem dX6_loops_74 : decode cX6_loops 74 = .ok (.istore 5, 2) := by decide +kernel
theorem dX6_loops_76 : decode cX6_loops 76 = .ok (.iconst 0, 1) := by decide +kernel
theorem dX6_loops_77 : decode cX6_loops 77 = .ok (.istore 6, 2) := by decide +kernel
theorem dX6_loops_79 : decode cX6_loops 79 = .ok (.iload 6, 2) := by decide +kernel
theorem dX6_loops_81 : decode cX6_loops 81 = .ok (.aload_n 0, 1) := by decide +kernel
theorem dX6_loops_82 : decode cX6_loops 82 = .ok (.getfield 131, 3) := by decide +kernel
theorem dX6_loops_85 : decode cX6_loops 85 = .ok (.if_icmp .ge 54, 3) := by decide +kernel
theorem dX6_loops_88 : decode cX6_loops 88 = .ok (.iload 5, 2) := by decide +kernel
theorem dX6_loops_90 : decode cX6_loops 90 = .ok (.iload 4, 2) := by decide +kernel
theorem dX6_loops_92 : decode cX6_loops 92 = .ok (.iload 6, 2) := by decide +kernel
theorem dX6_loops_94 : decode cX6_loops 94 = .ok (.ishr, 1) := by decide +kernel
theorem dX6_loops_95 : decode cX6_loops 95 = .ok (.iconst 1, 1) := by decide +kernel
theorem dX6_loops_96 : decode cX6_loops 96 = .ok (.iand, 1) := by decide +kernel
theorem dX6_loops_97 : decode cX6_loops 97 = .ok (.iadd, 1) := by decide +kernel
theorem dX6_loops_98 : decode cX6_loops 98 = .ok (.istore 5, 2) := by decide +kernel
theorem dX6_loops_100 : decode cX6_loops 100 = .ok (.iload 4, 2) := by decide +kernel
theorem dX6_loops_102 : decode cX6_loops 102 = .ok (.iload 6, 2) := by decide +kernel
theorem dX6_loops_104 : decode cX6_loops 104 = .ok (.ishr, 1) := by decide +kernel
theorem dX6_loops_105 : decode cX6_loops 105 = .ok (.iconst 1, 1) := by decide +kernel
theorem dX6_loops_106 : decode cX6_loops 106 = .ok (.iand, 1) := by decide +kernel
theorem dX6_loops_107 : decode cX6_loops 107 = .ok (.iconst 1, 1) := by decide +kernel
theorem dX6_loops_108 : decode cX6_loops 108 = .ok (.if_icmp .ne 25, 3) := by decide +kernel
theorem dX6_loops_111 : decode cX6_loops 111 = .ok (.iload_n 2, 1) := by decide +kernel
theorem dX6_loops_112 : decode cX6_loops 112 = .ok (.iload 6, 2) := by decide +kernel
theorem dX6_loops_114 : decode cX6_loops 114 = .ok (.ishr, 1) := by decide +kernel
theorem dX6_loops_115 : decode cX6_loops 115 = .ok (.iconst 1, 1) := by decide +kernel
theorem dX6_loops_116 : decode cX6_loops 116 = .ok (.iand, 1) := by decide +kernel
theorem dX6_loops_117 : decode cX6_loops 117 = .ok (.ifCond .ne 16, 3) := by decide +kernel
theorem dX6_loops_120 : decode cX6_loops 120 = .ok (.iinc 3 1, 3) := by decide +kernel
theorem dX6_loops_123 : decode cX6_loops 123 = .ok (.iload_n 2, 1) := by decide +kernel
theorem dX6_loops_124 : decode cX6_loops 124 = .ok (.aload_n 0, 1) := by decide +kernel
theorem dX6_loops_125 : decode cX6_loops 125 = .ok (.iload_n 1, 1) := by decide +kernel
theorem dX6_loops_126 : decode cX6_loops 126 = .ok (.iload 6, 2) := by decide +kernel
theorem dX6_loops_128 : decode cX6_loops 128 = .ok (.invokevirtual 342, 3) := by decide +kernel
theorem dX6_loops_131 : decode cX6_loops 131 = .ok (.ior, 1) := by decide +kernel
theorem dX6_loops_132 : decode cX6_loops 132 = .ok (.istore_n 2, 1) := by decide +kernel
theorem dX6_loops_133 : decode cX6_loops 133 = .ok (.iinc 6 1, 3) := by decide +kernel
theorem dX6_loops_136 : decode cX6_loops 136 = .ok (.goto (-57), 3) := by decide +kernel
theorem dX6_loops_139 : decode cX6_loops 139 = .ok (.aload_n 0, 1) := by decide +kernel
theorem dX6_loops_140 : decode cX6_loops 140 = .ok (.iconst 0, 1) := by decide +kernel
theorem dX6_loops_141 : decode cX6_loops 141 = .ok (.putfield 11, 3) := by decide +kernel
theorem dX6_loops_144 : decode cX6_loops 144 = .ok (.aload_n 0, 1) := by decide +kernel
theorem dX6_loops_145 : decode cX6_loops 145 = .ok (.aload_n 0, 1) := by decide +kernel
theorem dX6_loops_146 : decode cX6_loops 146 = .ok (.getfield 90, 3) := by decide +kernel
theorem dX6_loops_149 : decode cX6_loops 149 = .ok (.iload_n 1, 1) := by decide +kernel
theorem dX6_loops_150 : decode cX6_loops 150 = .ok (.iaload, 1) := by decide +kernel
theorem dX6_loops_151 : decode cX6_loops 151 = .ok (.i2l, 1) := by decide +kernel
theorem dX6_loops_152 : decode cX6_loops 152 = .ok (.invokevirtual 18, 3) := by decide +kernel
theorem dX6_loops_155 : decode cX6_loops 155 = .ok (.aload_n 0, 1) := by decide +kernel
theorem dX6_loops_156 : decode cX6_loops 156 = .ok (.iload 5, 2) := by decide +kernel
theorem dX6_loops_158 : decode cX6_loops 158 = .ok (.i2l, 1) := by decide +kernel
theorem dX6_loops_159 : decode cX6_loops 159 = .ok (.invokevirtual 18, 3) := by decide +kernel
theorem dX6_loops_162 : decode cX6_loops 162 = .ok (.aload_n 0, 1) := by decide +kernel
theorem dX6_loops_163 : decode cX6_loops 163 = .ok (.iload_n 3, 1) := by decide +kernel
theorem dX6_loops_164 : decode cX6_loops 164 = .ok (.i2l, 1) := by decide +kernel
theorem dX6_loops_165 : decode cX6_loops 165 = .ok (.invokevirtual 18, 3) := by decide +kernel
theorem dX6_loops_168 : decode cX6_loops 168 = .ok (.aload_n 0, 1) := by decide +kernel
theorem dX6_loops_169 : decode cX6_loops 169 = .ok (.getfield 90, 3) := by decide +kernel
theorem dX6_loops_172 : decode cX6_loops 172 = .ok (.iload_n 1, 1) := by decide +kernel
theorem dX6_loops_173 : decode cX6_loops 173 = .ok (.iaload, 1) := by decide +kernel
theorem dX6_loops_174 : decode cX6_loops 174 = .ok (.iload 5, 2) := by decide +kernel
theorem dX6_loops_176 : decode cX6_loops 176 = .ok (.isub, 1) := by decide +kernel
theorem dX6_loops_177 : decode cX6_loops 177 = .ok (.iload_n 3, 1) := by decide +kernel
theorem dX6_loops_178 : decode cX6_loops 178 = .ok (.iadd, 1) := by decide +kernel
theorem dX6_loops_179 : decode cX6_loops 179 = .ok (.ireturn, 1) := by decide +kernel
def sX6_loops_c133 (k79 : Hp → Int32 → Int32 → Int32 → Int32 → Int32 → Int32 → Option (Int32 × Hp)) (h : Hp) (v1 : Int32) (v2 : Int32) (v3 : Int32) (v4 : Int32) (v5 : Int32) (v6 : Int32) : Option (Int32 × Hp) :=
  nm (v6 + (1 : Int32)) fun x20 => k79 h v1 v2 v3 v4 v5 x20
set_option maxRecDepth 10000 in
theorem vX6_loops_c133 (k79 : Hp → Int32 → Int32 → Int32 → Int32 → Int32 → Int32 → Option (Int32 × Hp)) (hk79 : ∀ (h : Hp) (v1 : Int32) (v2 : Int32) (v3 : Int32) (v4 : Int32) (v5 : Int32) (v6 : Int32) (q : (Int32 × Hp)), k79 h v1 v2 v3 v4 v5 v6 = some q → V (Gs 2 (pI q)) mX6_loops (0, 0) 79 [(0, .ref 54), (1, .int v1), (2, .int v2), (3, .int v3), (4, .int v4), (5, .int v5), (6, .int v6)] [] h) (h : Hp) (v1 : Int32) (v2 : Int32) (v3 : Int32) (v4 : Int32) (v5 : Int32) (v6 : Int32) (q : (Int32 × Hp)) (e : sX6_loops_c133 k79 h v1 v2 v3 v4 v5 v6 = some q) : V (Gs 2 (pI q)) mX6_loops (0, 0) 133 [(0, .ref 54), (1, .int v1), (2, .int v2), (3, .int v3), (4, .int v4), (5, .int v5), (6, .int v6)] [] h := by
  unfold sX6_loops_c133 at e
  obtain ⟨x20, ex20, e⟩ := nm_s e
  refine V.iinc dX6_loops_133 (pc' := 136) rfl (j := 6) rfl (v := 1) (by decide) (by decide) ex20 (L' := [(6, .int x20), (0, .ref 54), (1, .int v1), (2, .int v2), (3, .int v3), (4, .int v4), (5, .int v5)]) rfl ?_
  refine V.goto dX6_loops_136 (pc' := 79) (by decide) ?_
  refine V.pk [1, 2, 3, 4, 5, 6, 0] rfl ?_
  exact hk79 h v1 v2 v3 v4 v5 x20 q e
def sX6_loops_c79 (k79 : Hp → Int32 → Int32 → Int32 → Int32 → Int32 → Int32 → Option (Int32 × Hp)) (h : Hp) (v1 : Int32) (v2 : Int32) (v3 : Int32) (v4 : Int32) (v5 : Int32) (v6 : Int32) : Option (Int32 × Hp) :=
  if (h.1 54 7) ≤ v6 then (nm (u1 h 54 1 (0 : Int32)) fun h10 => gd (inb v1 2) ((sX6_enters h10 ((h10.1 67 v1.toNatClampNeg).toInt64)).bind fun q12 => (sX6_enters q12 v5.toInt64).bind fun q13 => (sX6_enters q13 v3.toInt64).bind fun q14 => gd (inb v1 2) (some ((((q14.1 67 v1.toNatClampNeg) - v5) + v3), q14)))) else (nm ((v5 + ((v4 >>> (v6 &&& 31)) &&& (1 : Int32)))) fun x16 => if ((v4 >>> (v6 &&& 31)) &&& (1 : Int32)) = (1 : Int32) then (if ((v2 >>> (v6 &&& 31)) &&& (1 : Int32)) = 0 then (nm (v3 + (1 : Int32)) fun x17 => (sX6_hangsWith h v1 v6).bind fun q18 => nm ((v2 ||| q18.1)) fun x19 => sX6_loops_c133 k79 q18.2 v1 x19 x17 v4 x16 v6) else (sX6_loops_c133 k79 h v1 v2 v3 v4 x16 v6)) else (sX6_loops_c133 k79 h v1 v2 v3 v4 x16 v6))
set_option maxRecDepth 10000 in
theorem vX6_loops_c79 (k79 : Hp → Int32 → Int32 → Int32 → Int32 → Int32 → Int32 → Option (Int32 × Hp)) (hk79 : ∀ (h : Hp) (v1 : Int32) (v2 : Int32) (v3 : Int32) (v4 : Int32) (v5 : Int32) (v6 : Int32) (q : (Int32 × Hp)), k79 h v1 v2 v3 v4 v5 v6 = some q → V (Gs 2 (pI q)) mX6_loops (0, 0) 79 [(0, .ref 54), (1, .int v1), (2, .int v2), (3, .int v3), (4, .int v4), (5, .int v5), (6, .int v6)] [] h) (h : Hp) (v1 : Int32) (v2 : Int32) (v3 : Int32) (v4 : Int32) (v5 : Int32) (v6 : Int32) (q : (Int32 × Hp)) (e : sX6_loops_c79 k79 h v1 v2 v3 v4 v5 v6 = some q) : V (Gs 2 (pI q)) mX6_loops (0, 0) 79 [(0, .ref 54), (1, .int v1), (2, .int v2), (3, .int v3), (4, .int v4), (5, .int v5), (6, .int v6)] [] h := by
  unfold sX6_loops_c79 at e
  refine V.il dX6_loops_79 (pc' := 81) rfl (j := 6) rfl ?_
  refine V.alq dX6_loops_81 (pc' := 82) rfl (j := 0) rfl ?_
  refine V.getf dX6_loops_82 (pc' := 85) rfl FL_X6_131 rfl (by decide) rfl ?_
  refine V.ic_ge dX6_loops_85 (pc' := 88) rfl (tgt := 139) (by decide) (fun c => ?_) (fun c => ?_)
  · rw [if_pos c] at e
    refine V.alq dX6_loops_139 (pc' := 140) rfl (j := 0) rfl ?_
    refine V.iconst dX6_loops_140 (pc' := 141) rfl (v := 0) (by decide) ?_
    obtain ⟨h10, eh10, e⟩ := nm_s e
    refine V.putf dX6_loops_141 (pc' := 144) rfl FP_X6_11 rfl (by decide) rfl eh10 ?_
    refine V.alq dX6_loops_144 (pc' := 145) rfl (j := 0) rfl ?_
    refine V.alq dX6_loops_145 (pc' := 146) rfl (j := 0) rfl ?_
    refine V.getr dX6_loops_146 (pc' := 149) rfl FL_X6_90 rfl (by decide) rfl (r' := 67) rfl ?_
    refine V.ilq dX6_loops_149 (pc' := 150) rfl (j := 1) rfl ?_
    obtain ⟨c11, e⟩ := gd_s e
    refine V.iald dX6_loops_150 (pc' := 151) rfl rfl rfl (inb_t c11) ?_
    refine V.i2l dX6_loops_151 (pc' := 152) rfl ?_
    obtain ⟨q12, eq12, e⟩ := bd_s e
    refine V.callVv dX6_loops_152 (pc' := 155) rfl CV_X6_18 (as := [.long ((h10.1 67 v1.toNatClampNeg).toInt64)]) (kX6_enters h10 ((h10.1 67 v1.toNatClampNeg).toInt64) q12 eq12) (Gs_rm (by decide)) rfl (by decide) rfl (Nat.le_of_ble_eq_true rfl) rfl ?_
    refine V.alq dX6_loops_155 (pc' := 156) rfl (j := 0) rfl ?_
    refine V.il dX6_loops_156 (pc' := 158) rfl (j := 5) rfl ?_
    refine V.i2l dX6_loops_158 (pc' := 159) rfl ?_
    obtain ⟨q13, eq13, e⟩ := bd_s e
    refine V.callVv dX6_loops_159 (pc' := 162) rfl CV_X6_18 (as := [.long v5.toInt64]) (kX6_enters q12 v5.toInt64 q13 eq13) (Gs_rm (by decide)) rfl (by decide) rfl (Nat.le_of_ble_eq_true rfl) rfl ?_
    refine V.alq dX6_loops_162 (pc' := 163) rfl (j := 0) rfl ?_
    refine V.ilq dX6_loops_163 (pc' := 164) rfl (j := 3) rfl ?_
    refine V.i2l dX6_loops_164 (pc' := 165) rfl ?_
    obtain ⟨q14, eq14, e⟩ := bd_s e
    refine V.callVv dX6_loops_165 (pc' := 168) rfl CV_X6_18 (as := [.long v3.toInt64]) (kX6_enters q13 v3.toInt64 q14 eq14) (Gs_rm (by decide)) rfl (by decide) rfl (Nat.le_of_ble_eq_true rfl) rfl ?_
    refine V.alq dX6_loops_168 (pc' := 169) rfl (j := 0) rfl ?_
    refine V.getr dX6_loops_169 (pc' := 172) rfl FL_X6_90 rfl (by decide) rfl (r' := 67) rfl ?_
    refine V.ilq dX6_loops_172 (pc' := 173) rfl (j := 1) rfl ?_
    obtain ⟨c15, e⟩ := gd_s e
    refine V.iald dX6_loops_173 (pc' := 174) rfl rfl rfl (inb_t c15) ?_
    refine V.il dX6_loops_174 (pc' := 176) rfl (j := 5) rfl ?_
    refine V.isub dX6_loops_176 (pc' := 177) rfl ?_
    refine V.ilq dX6_loops_177 (pc' := 178) rfl (j := 3) rfl ?_
    refine V.iadd dX6_loops_178 (pc' := 179) rfl ?_
    exact V.iret dX6_loops_179 rfl (fnI e)
  · rw [if_neg c] at e
    refine V.il dX6_loops_88 (pc' := 90) rfl (j := 5) rfl ?_
    refine V.il dX6_loops_90 (pc' := 92) rfl (j := 4) rfl ?_
    refine V.il dX6_loops_92 (pc' := 94) rfl (j := 6) rfl ?_
    refine V.ishr dX6_loops_94 (pc' := 95) rfl ?_
    refine V.iconst dX6_loops_95 (pc' := 96) rfl (v := 1) (by decide) ?_
    refine V.iand dX6_loops_96 (pc' := 97) rfl ?_
    refine V.iadd dX6_loops_97 (pc' := 98) rfl ?_
    obtain ⟨x16, ex16, e⟩ := nm_s e
    refine V.is dX6_loops_98 (pc' := 100) rfl (by decide) ex16 (L' := [(5, .int x16), (0, .ref 54), (1, .int v1), (2, .int v2), (3, .int v3), (4, .int v4), (6, .int v6)]) rfl ?_
    refine V.il dX6_loops_100 (pc' := 102) rfl (j := 5) rfl ?_
    refine V.il dX6_loops_102 (pc' := 104) rfl (j := 6) rfl ?_
    refine V.ishr dX6_loops_104 (pc' := 105) rfl ?_
    refine V.iconst dX6_loops_105 (pc' := 106) rfl (v := 1) (by decide) ?_
    refine V.iand dX6_loops_106 (pc' := 107) rfl ?_
    refine V.iconst dX6_loops_107 (pc' := 108) rfl (v := 1) (by decide) ?_
    refine V.ic_ne dX6_loops_108 (pc' := 111) rfl (tgt := 133) (by decide) (fun c => ?_) (fun c => ?_)
    · rw [if_neg c] at e
      refine V.pk [1, 2, 3, 4, 5, 0, 6] rfl ?_
      exact vX6_loops_c133 k79 hk79 h v1 v2 v3 v4 x16 v6 q e
    · rw [if_pos c] at e
      refine V.ilq dX6_loops_111 (pc' := 112) rfl (j := 3) rfl ?_
      refine V.il dX6_loops_112 (pc' := 114) rfl (j := 6) rfl ?_
      refine V.ishr dX6_loops_114 (pc' := 115) rfl ?_
      refine V.iconst dX6_loops_115 (pc' := 116) rfl (v := 1) (by decide) ?_
      refine V.iand dX6_loops_116 (pc' := 117) rfl ?_
      refine V.if_ne dX6_loops_117 (pc' := 120) rfl (tgt := 133) (by decide) (fun c => ?_) (fun c => ?_)
      · rw [if_neg c] at e
        refine V.pk [1, 2, 3, 4, 5, 0, 6] rfl ?_
        exact vX6_loops_c133 k79 hk79 h v1 v2 v3 v4 x16 v6 q e
      · rw [if_pos c] at e
        obtain ⟨x17, ex17, e⟩ := nm_s e
        refine V.iinc dX6_loops_120 (pc' := 123) rfl (j := 4) rfl (v := 1) (by decide) (by decide) ex17 (L' := [(3, .int x17), (5, .int x16), (0, .ref 54), (1, .int v1), (2, .int v2), (4, .int v4), (6, .int v6)]) rfl ?_
        refine V.ilq dX6_loops_123 (pc' := 124) rfl (j := 4) rfl ?_
        refine V.alq dX6_loops_124 (pc' := 125) rfl (j := 2) rfl ?_
        refine V.ilq dX6_loops_125 (pc' := 126) rfl (j := 3) rfl ?_
        refine V.il dX6_loops_126 (pc' := 128) rfl (j := 6) rfl ?_
        obtain ⟨q18, eq18, e⟩ := bd_s e
        refine V.callVi dX6_loops_128 (pc' := 131) rfl CV_X6_342 (as := [.int v1, .int v6]) (kX6_hangsWith h v1 v6 q18 eq18) (Gs_rm (by decide)) rfl (by decide) rfl (Nat.le_of_ble_eq_true rfl) rfl ?_
        refine V.ior dX6_loops_131 (pc' := 132) rfl ?_
        obtain ⟨x19, ex19, e⟩ := nm_s e
        refine V.isq dX6_loops_132 (pc' := 133) rfl (by decide) ex19 (L' := [(2, .int x19), (3, .int x17), (5, .int x16), (0, .ref 54), (1, .int v1), (4, .int v4), (6, .int v6)]) rfl ?_
        refine V.pk [3, 4, 0, 1, 5, 2, 6] rfl ?_
        exact vX6_loops_c133 k79 hk79 q18.2 v1 x19 x17 v4 x16 v6 q e
def sX6_loops_b79 : Nat → Hp → Int32 → Int32 → Int32 → Int32 → Int32 → Int32 → Option (Int32 × Hp)
  | 0 => fun _ _ _ _ _ _ _ => none
  | n + 1 => sX6_loops_c79 (sX6_loops_b79 n)
theorem vX6_loops_b79 : ∀ (n : Nat) (h : Hp) (v1 : Int32) (v2 : Int32) (v3 : Int32) (v4 : Int32) (v5 : Int32) (v6 : Int32) (q : (Int32 × Hp)), sX6_loops_b79 n h v1 v2 v3 v4 v5 v6 = some q → V (Gs 2 (pI q)) mX6_loops (0, 0) 79 [(0, .ref 54), (1, .int v1), (2, .int v2), (3, .int v3), (4, .int v4), (5, .int v5), (6, .int v6)] [] h
  | 0 => fun _ _ _ _ _ _ _ _ e => by cases e
  | n + 1 => fun h v1 v2 v3 v4 v5 v6 q e => vX6_loops_c79 (sX6_loops_b79 n) (vX6_loops_b79 n) h v1 v2 v3 v4 v5 v6 q e
def sX6_loops_c24 (k24 : Hp → Int32 → Int32 → Int32 → Int32 → Int32 → Option (Int32 × Hp)) (h : Hp) (v1 : Int32) (v2 : Int32) (v3 : Int32) (v4 : Int32) (v5 : Int32) : Option (Int32 × Hp) :=
  gd (inb v1 2) (if (h.1 67 v1.toNatClampNeg) ≤ v5 then (sX6_loops_b79 FU h v1 v2 v3 v4 (0 : Int32) (0 : Int32)) else ((sX6_place h v1 v5).bind fun q4 => gd (inb q4.1 50) ((sX6_place q4.2 v1 v5).bind fun q6 => gd (inb q6.1 50) (nm ((v4 ||| (((1 : Int32) <<< ((q4.2.1 68 q4.1.toNatClampNeg) &&& 31)) ||| ((1 : Int32) <<< ((q6.2.1 69 q6.1.toNatClampNeg) &&& 31))))) fun x8 => nm (v5 + (1 : Int32)) fun x9 => k24 q6.2 v1 v2 v3 x8 x9))))
set_option maxRecDepth 10000 in
theorem vX6_loops_c24 (k24 : Hp → Int32 → Int32 → Int32 → Int32 → Int32 → Option (Int32 × Hp)) (hk24 : ∀ (h : Hp) (v1 : Int32) (v2 : Int32) (v3 : Int32) (v4 : Int32) (v5 : Int32) (q : (Int32 × Hp)), k24 h v1 v2 v3 v4 v5 = some q → V (Gs 2 (pI q)) mX6_loops (0, 0) 24 [(0, .ref 54), (1, .int v1), (2, .int v2), (3, .int v3), (4, .int v4), (5, .int v5)] [] h) (h : Hp) (v1 : Int32) (v2 : Int32) (v3 : Int32) (v4 : Int32) (v5 : Int32) (q : (Int32 × Hp)) (e : sX6_loops_c24 k24 h v1 v2 v3 v4 v5 = some q) : V (Gs 2 (pI q)) mX6_loops (0, 0) 24 [(0, .ref 54), (1, .int v1), (2, .int v2), (3, .int v3), (4, .int v4), (5, .int v5)] [] h := by
  unfold sX6_loops_c24 at e
  refine V.il dX6_loops_24 (pc' := 26) rfl (j := 5) rfl ?_
  refine V.alq dX6_loops_26 (pc' := 27) rfl (j := 0) rfl ?_
  refine V.getr dX6_loops_27 (pc' := 30) rfl FL_X6_90 rfl (by decide) rfl (r' := 67) rfl ?_
  refine V.ilq dX6_loops_30 (pc' := 31) rfl (j := 1) rfl ?_
  obtain ⟨c3, e⟩ := gd_s e
  refine V.iald dX6_loops_31 (pc' := 32) rfl rfl rfl (inb_t c3) ?_
  refine V.ic_ge dX6_loops_32 (pc' := 35) rfl (tgt := 73) (by decide) (fun c => ?_) (fun c => ?_)
  · rw [if_pos c] at e
    refine V.iconst dX6_loops_73 (pc' := 74) rfl (v := 0) (by decide) ?_
    refine V.is dX6_loops_74 (pc' := 76) rfl (by decide) rfl (L' := [(5, .int (0 : Int32)), (0, .ref 54), (1, .int v1), (2, .int v2), (3, .int v3), (4, .int v4)]) rfl ?_
    refine V.iconst dX6_loops_76 (pc' := 77) rfl (v := 0) (by decide) ?_
    refine V.is dX6_loops_77 (pc' := 79) rfl (by decide) rfl (L' := [(6, .int (0 : Int32)), (5, .int (0 : Int32)), (0, .ref 54), (1, .int v1), (2, .int v2), (3, .int v3), (4, .int v4)]) rfl ?_
    refine V.pk [2, 3, 4, 5, 6, 1, 0] rfl ?_
    exact vX6_loops_b79 FU h v1 v2 v3 v4 (0 : Int32) (0 : Int32) q e
  · rw [if_neg c] at e
    refine V.il dX6_loops_35 (pc' := 37) rfl (j := 4) rfl ?_
    refine V.iconst dX6_loops_37 (pc' := 38) rfl (v := 1) (by decide) ?_
    refine V.alq dX6_loops_38 (pc' := 39) rfl (j := 0) rfl ?_
    refine V.getr dX6_loops_39 (pc' := 42) rfl FL_X6_93 rfl (by decide) rfl (r' := 68) rfl ?_
    refine V.ilq dX6_loops_42 (pc' := 43) rfl (j := 1) rfl ?_
    refine V.il dX6_loops_43 (pc' := 45) rfl (j := 5) rfl ?_
    obtain ⟨q4, eq4, e⟩ := bd_s e
    refine V.callSi dX6_loops_45 (pc' := 48) rfl CS_X6_263 (as := [.int v1, .int v5]) (kX6_place h v1 v5 q4 eq4) (Gs_rm (by decide)) rfl (Nat.le_of_ble_eq_true rfl) rfl ?_
    obtain ⟨c5, e⟩ := gd_s e
    refine V.iald dX6_loops_48 (pc' := 49) rfl rfl rfl (inb_t c5) ?_
    refine V.ishl dX6_loops_49 (pc' := 50) rfl ?_
    refine V.iconst dX6_loops_50 (pc' := 51) rfl (v := 1) (by decide) ?_
    refine V.alq dX6_loops_51 (pc' := 52) rfl (j := 0) rfl ?_
    refine V.getr dX6_loops_52 (pc' := 55) rfl FL_X6_96 rfl (by decide) rfl (r' := 69) rfl ?_
    refine V.ilq dX6_loops_55 (pc' := 56) rfl (j := 1) rfl ?_
    refine V.il dX6_loops_56 (pc' := 58) rfl (j := 5) rfl ?_
    obtain ⟨q6, eq6, e⟩ := bd_s e
    refine V.callSi dX6_loops_58 (pc' := 61) rfl CS_X6_263 (as := [.int v1, .int v5]) (kX6_place q4.2 v1 v5 q6 eq6) (Gs_rm (by decide)) rfl (Nat.le_of_ble_eq_true rfl) rfl ?_
    obtain ⟨c7, e⟩ := gd_s e
    refine V.iald dX6_loops_61 (pc' := 62) rfl rfl rfl (inb_t c7) ?_
    refine V.ishl dX6_loops_62 (pc' := 63) rfl ?_
    refine V.ior dX6_loops_63 (pc' := 64) rfl ?_
    refine V.ior dX6_loops_64 (pc' := 65) rfl ?_
    obtain ⟨x8, ex8, e⟩ := nm_s e
    refine V.is dX6_loops_65 (pc' := 67) rfl (by decide) ex8 (L' := [(4, .int x8), (0, .ref 54), (1, .int v1), (2, .int v2), (3, .int v3), (5, .int v5)]) rfl ?_
    obtain ⟨x9, ex9, e⟩ := nm_s e
    refine V.iinc dX6_loops_67 (pc' := 70) rfl (j := 5) rfl (v := 1) (by decide) (by decide) ex9 (L' := [(5, .int x9), (4, .int x8), (0, .ref 54), (1, .int v1), (2, .int v2), (3, .int v3)]) rfl ?_
    refine V.goto dX6_loops_70 (pc' := 24) (by decide) ?_
    refine V.pk [2, 3, 4, 5, 1, 0] rfl ?_
    exact hk24 q6.2 v1 v2 v3 x8 x9 q e
def sX6_loops_b24 : Nat → Hp → Int32 → Int32 → Int32 → Int32 → Int32 → Option (Int32 × Hp)
  | 0 => fun _ _ _ _ _ _ => none
  | n + 1 => sX6_loops_c24 (sX6_loops_b24 n)
theorem vX6_loops_b24 : ∀ (n : Nat) (h : Hp) (v1 : Int32) (v2 : Int32) (v3 : Int32) (v4 : Int32) (v5 : Int32) (q : (Int32 × Hp)), sX6_loops_b24 n h v1 v2 v3 v4 v5 = some q → V (Gs 2 (pI q)) mX6_loops (0, 0) 24 [(0, .ref 54), (1, .int v1), (2, .int v2), (3, .int v3), (4, .int v4), (5, .int v5)] [] h
  | 0 => fun _ _ _ _ _ _ _ e => by cases e
  | n + 1 => fun h v1 v2 v3 v4 v5 q e => vX6_loops_c24 (sX6_loops_b24 n) (vX6_loops_b24 n) h v1 v2 v3 v4 v5 q e
def sX6_loops (h : Hp) (a1 : Int32) : Option (Int32 × Hp) :=
  nm (u1 h 54 0 (0 : Int32)) fun h1 => (sX6_isSide h1 a1).bind fun q2 => if q2.1 = 0 then (some ((-1 : Int32), q2.2)) else (sX6_loops_b24 FU q2.2 a1 (0 : Int32) (0 : Int32) (0 : Int32) (0 : Int32))
set_option maxRecDepth 10000 in
theorem kX6_loops (h : Hp) (a1 : Int32) (q : (Int32 × Hp)) (e : sX6_loops h a1 = some q) : K 2 mX6_loops [.ref 54, .int a1] h (pI q) := by
  unfold sX6_loops at e
  refine K.ofV (by decide) rfl (Nat.le_of_ble_eq_true rfl) ?_
  show V (Gs 2 (pI q)) mX6_loops (0, 0) 0 [(0, .ref 54), (1, .int a1)] [] h
  refine V.alq dX6_loops_0 (pc' := 1) rfl (j := 0) rfl ?_
  refine V.iconst dX6_loops_1 (pc' := 2) rfl (v := 0) (by decide) ?_
  obtain ⟨h1, eh1, e⟩ := nm_s e
  refine V.putf dX6_loops_2 (pc' := 5) rfl FP_X6_1 rfl (by decide) rfl eh1 ?_
  refine V.ilq dX6_loops_5 (pc' := 6) rfl (j := 1) rfl ?_
  obtain ⟨q2, eq2, e⟩ := bd_s e
  refine V.callSi dX6_loops_6 (pc' := 9) rfl CS_X6_253 (as := [.int a1]) (kX6_isSide h1 a1 q2 eq2) (Gs_rm (by decide)) rfl (Nat.le_of_ble_eq_true rfl) rfl ?_
  refine V.if_ne dX6_loops_9 (pc' := 12) rfl (tgt := 14) (by decide) (fun c => ?_) (fun c => ?_)
  · rw [if_neg c] at e
    refine V.iconst dX6_loops_14 (pc' := 15) rfl (v := 0) (by decide) ?_
    refine V.isq dX6_loops_15 (pc' := 16) rfl (by decide) rfl (L' := [(2, .int (0 : Int32)), (0, .ref 54), (1, .int a1)]) rfl ?_
    refine V.iconst dX6_loops_16 (pc' := 17) rfl (v := 0) (by decide) ?_
    refine V.isq dX6_loops_17 (pc' := 18) rfl (by decide) rfl (L' := [(3, .int (0 : Int32)), (2, .int (0 : Int32)), (0, .ref 54), (1, .int a1)]) rfl ?_
    refine V.iconst dX6_loops_18 (pc' := 19) rfl (v := 0) (by decide) ?_
    refine V.is dX6_loops_19 (pc' := 21) rfl (by decide) rfl (L' := [(4, .int (0 : Int32)), (3, .int (0 : Int32)), (2, .int (0 : Int32)), (0, .ref 54), (1, .int a1)]) rfl ?_
    refine V.iconst dX6_loops_21 (pc' := 22) rfl (v := 0) (by decide) ?_
    refine V.is dX6_loops_22 (pc' := 24) rfl (by decide) rfl (L' := [(5, .int (0 : Int32)), (4, .int (0 : Int32)), (3, .int (0 : Int32)), (2, .int (0 : Int32)), (0, .ref 54), (1, .int a1)]) rfl ?_
    refine V.pk [4, 5, 3, 2, 1, 0] rfl ?_
    exact vX6_loops_b24 FU q2.2 a1 (0 : Int32) (0 : Int32) (0 : Int32) (0 : Int32) q e
  · rw [if_pos c] at e
    refine V.iconst dX6_loops_12 (pc' := 13) rfl (v := -1) (by decide) ?_
    exact V.iret dX6_loops_13 rfl (fnI e)
