-- X4_addFraction (level 1)
theorem dX4_addFraction_0 : decode cX4_addFraction 0 = .ok (.iload_n 1, 1) := by decide +kernel
theorem dX4_addFraction_1 : decode cX4_addFraction 1 = .ok (.iload_n 2, 1) := by decide +kernel
theorem dX4_addFraction_2 : decode cX4_addFraction 2 = .ok (.invokestatic 19, 3) := by decide +kernel
theorem dX4_addFraction_5 : decode cX4_addFraction 5 = .ok (.istore_n 3, 1) := by decide +kernel
theorem dX4_addFraction_6 : decode cX4_addFraction 6 = .ok (.aload_n 0, 1) := by decide +kernel
theorem dX4_addFraction_7 : decode cX4_addFraction 7 = .ok (.iload_n 3, 1) := by decide +kernel
theorem dX4_addFraction_8 : decode cX4_addFraction 8 = .ok (.iconst 1, 1) := by decide +kernel
theorem dX4_addFraction_9 : decode cX4_addFraction 9 = .ok (.if_icmp .le 10, 3) := by decide +kernel
theorem dX4_addFraction_12 : decode cX4_addFraction 12 = .ok (.iload_n 1, 1) := by decide +kernel
theorem dX4_addFraction_13 : decode cX4_addFraction 13 = .ok (.iload_n 3, 1) := by decide +kernel
theorem dX4_addFraction_14 : decode cX4_addFraction 14 = .ok (.idiv, 1) := by decide +kernel
theorem dX4_addFraction_15 : decode cX4_addFraction 15 = .ok (.i2l, 1) := by decide +kernel
theorem dX4_addFraction_16 : decode cX4_addFraction 16 = .ok (.goto 5, 3) := by decide +kernel
theorem dX4_addFraction_19 : decode cX4_addFraction 19 = .ok (.iload_n 1, 1) := by decide +kernel
theorem dX4_addFraction_20 : decode cX4_addFraction 20 = .ok (.i2l, 1) := by decide +kernel
theorem dX4_addFraction_21 : decode cX4_addFraction 21 = .ok (.invokevirtual 23, 3) := by decide +kernel
theorem dX4_addFraction_24 : decode cX4_addFraction 24 = .ok (.aload_n 0, 1) := by decide +kernel
theorem dX4_addFraction_25 : decode cX4_addFraction 25 = .ok (.iload_n 3, 1) := by decide +kernel
theorem dX4_addFraction_26 : decode cX4_addFraction 26 = .ok (.iconst 1, 1) := by decide +kernel
theorem dX4_addFraction_27 : decode cX4_addFraction 27 = .ok (.if_icmp .le 10, 3) := by decide +kernel
theorem dX4_addFraction_30 : decode cX4_addFraction 30 = .ok (.iload_n 2, 1) := by decide +kernel
theorem dX4_addFraction_31 : decode cX4_addFraction 31 = .ok (.iload_n 3, 1) := by decide +kernel
theorem dX4_addFraction_32 : decode cX4_addFraction 32 = .ok (.idiv, 1) := by decide +kernel
theorem dX4_addFraction_33 : decode cX4_addFraction 33 = .ok (.i2l, 1) := by decide +kernel
theorem dX4_addFraction_34 : decode cX4_addFraction 34 = .ok (.goto 5, 3) := by decide +kernel
theorem dX4_addFraction_37 : decode cX4_addFraction 37 = .ok (.iload_n 2, 1) := by decide +kernel
theorem dX4_addFraction_38 : decode cX4_addFraction 38 = .ok (.i2l, 1) := by decide +kernel
theorem dX4_addFraction_39 : decode cX4_addFraction 39 = .ok (.invokevirtual 23, 3) := by decide +kernel
theorem dX4_addFraction_42 : decode cX4_addFraction 42 = .ok (.return_, 1) := by decide +kernel
def sX4_addFraction_c39 (h : Hp) (t0 : Int64) : Option Hp :=
  (sX4_add h t0).bind fun q5 => some q5
set_option maxRecDepth 10000 in
theorem vX4_addFraction_c39 (h : Hp) (t0 : Int64) (q : Hp) (e : sX4_addFraction_c39 h t0 = some q) : V (Gs 1 (pV q)) mX4_addFraction (0, 0) 39 [] [.long t0, .ref 4] h := by
  unfold sX4_addFraction_c39 at e
  obtain ⟨q5, eq5, e⟩ := bd_s e
  refine V.callVv dX4_addFraction_39 (pc' := 42) rfl CV_X4_23 (as := [.long t0]) (kX4_add h t0 q5 eq5) (Gs_rm (by decide)) rfl (by decide) rfl (Nat.le_of_ble_eq_true rfl) rfl ?_
  exact V.vret dX4_addFraction_42 rfl (fnV e)
def sX4_addFraction_c21 (h : Hp) (v2 : Int32) (v3 : Int32) (t0 : Int64) : Option Hp :=
  (sX4_add h t0).bind fun q3 => if v3 ≤ (1 : Int32) then (sX4_addFraction_c39 q3 v2.toInt64) else (gd (nzI v3) (sX4_addFraction_c39 q3 ((v2 / v3).toInt64)))
set_option maxRecDepth 10000 in
theorem vX4_addFraction_c21 (h : Hp) (v2 : Int32) (v3 : Int32) (t0 : Int64) (q : Hp) (e : sX4_addFraction_c21 h v2 v3 t0 = some q) : V (Gs 1 (pV q)) mX4_addFraction (0, 0) 21 [(0, .ref 4), (2, .int v2), (3, .int v3)] [.long t0, .ref 4] h := by
  unfold sX4_addFraction_c21 at e
  obtain ⟨q3, eq3, e⟩ := bd_s e
  refine V.callVv dX4_addFraction_21 (pc' := 24) rfl CV_X4_23 (as := [.long t0]) (kX4_add h t0 q3 eq3) (Gs_rm (by decide)) rfl (by decide) rfl (Nat.le_of_ble_eq_true rfl) rfl ?_
  refine V.alq dX4_addFraction_24 (pc' := 25) rfl (j := 0) rfl ?_
  refine V.ilq dX4_addFraction_25 (pc' := 26) rfl (j := 2) rfl ?_
  refine V.iconst dX4_addFraction_26 (pc' := 27) rfl (v := 1) (by decide) ?_
  refine V.ic_le dX4_addFraction_27 (pc' := 30) rfl (tgt := 37) (by decide) (fun c => ?_) (fun c => ?_)
  · rw [if_pos c] at e
    refine V.ilq dX4_addFraction_37 (pc' := 38) rfl (j := 1) rfl ?_
    refine V.i2l dX4_addFraction_38 (pc' := 39) rfl ?_
    refine V.pk [] rfl ?_
    exact vX4_addFraction_c39 q3 v2.toInt64 q e
  · rw [if_neg c] at e
    refine V.ilq dX4_addFraction_30 (pc' := 31) rfl (j := 1) rfl ?_
    refine V.ilq dX4_addFraction_31 (pc' := 32) rfl (j := 2) rfl ?_
    obtain ⟨c4, e⟩ := gd_s e
    refine V.idiv dX4_addFraction_32 (pc' := 33) rfl (nzI_t c4) ?_
    refine V.i2l dX4_addFraction_33 (pc' := 34) rfl ?_
    refine V.goto dX4_addFraction_34 (pc' := 39) (by decide) ?_
    refine V.pk [] rfl ?_
    exact vX4_addFraction_c39 q3 ((v2 / v3).toInt64) q e
def sX4_addFraction (h : Hp) (a1 : Int32) (a2 : Int32) : Option Hp :=
  (sX5_commonDivisor h a1 a2).bind fun q1 => if q1.1 ≤ (1 : Int32) then (sX4_addFraction_c21 q1.2 a2 q1.1 a1.toInt64) else (gd (nzI q1.1) (sX4_addFraction_c21 q1.2 a2 q1.1 ((a1 / q1.1).toInt64)))
set_option maxRecDepth 10000 in
theorem kX4_addFraction (h : Hp) (a1 : Int32) (a2 : Int32) (q : Hp) (e : sX4_addFraction h a1 a2 = some q) : K 1 mX4_addFraction [.ref 4, .int a1, .int a2] h (pV q) := by
  unfold sX4_addFraction at e
  refine K.ofV (by decide) rfl (Nat.le_of_ble_eq_true rfl) ?_
  show V (Gs 1 (pV q)) mX4_addFraction (0, 0) 0 [(0, .ref 4), (1, .int a1), (2, .int a2)] [] h
  refine V.ilq dX4_addFraction_0 (pc' := 1) rfl (j := 1) rfl ?_
  refine V.ilq dX4_addFraction_1 (pc' := 2) rfl (j := 2) rfl ?_
  obtain ⟨q1, eq1, e⟩ := bd_s e
  refine V.callNi dX4_addFraction_2 (pc' := 5) rfl CN_X4_19 (as := [.int a1, .int a2]) (kX5_commonDivisor h a1 a2 q1 eq1) (Gs_rm (by decide)) rfl (Nat.le_of_ble_eq_true rfl) rfl ?_
  refine V.isq dX4_addFraction_5 (pc' := 6) rfl (by decide) rfl (L' := [(3, .int q1.1), (0, .ref 4), (1, .int a1), (2, .int a2)]) rfl ?_
  refine V.alq dX4_addFraction_6 (pc' := 7) rfl (j := 1) rfl ?_
  refine V.ilq dX4_addFraction_7 (pc' := 8) rfl (j := 0) rfl ?_
  refine V.iconst dX4_addFraction_8 (pc' := 9) rfl (v := 1) (by decide) ?_
  refine V.ic_le dX4_addFraction_9 (pc' := 12) rfl (tgt := 19) (by decide) (fun c => ?_) (fun c => ?_)
  · rw [if_pos c] at e
    refine V.ilq dX4_addFraction_19 (pc' := 20) rfl (j := 2) rfl ?_
    refine V.i2l dX4_addFraction_20 (pc' := 21) rfl ?_
    refine V.pk [1, 3, 0] rfl ?_
    exact vX4_addFraction_c21 q1.2 a2 q1.1 a1.toInt64 q e
  · rw [if_neg c] at e
    refine V.ilq dX4_addFraction_12 (pc' := 13) rfl (j := 2) rfl ?_
    refine V.ilq dX4_addFraction_13 (pc' := 14) rfl (j := 0) rfl ?_
    obtain ⟨c2, e⟩ := gd_s e
    refine V.idiv dX4_addFraction_14 (pc' := 15) rfl (nzI_t c2) ?_
    refine V.i2l dX4_addFraction_15 (pc' := 16) rfl ?_
    refine V.goto dX4_addFraction_16 (pc' := 21) (by decide) ?_
    refine V.pk [1, 3, 0] rfl ?_
    exact vX4_addFraction_c21 q1.2 a2 q1.1 ((a1 / q1.1).toInt64) q e

-- X4_tell (level 1)
theorem dX4_tell_0 : decode cX4_tell 0 = .ok (.aload_n 0, 1) := by decide +kernel
theorem dX4_tell_1 : decode cX4_tell 1 = .ok (.invokevirtual 27, 3) := by decide +kernel
theorem dX4_tell_4 : decode cX4_tell 4 = .ok (.aload_n 0, 1) := by decide +kernel
theorem dX4_tell_5 : decode cX4_tell 5 = .ok (.lload_n 1, 1) := by decide +kernel
theorem dX4_tell_6 : decode cX4_tell 6 = .ok (.invokevirtual 23, 3) := by decide +kernel
theorem dX4_tell_9 : decode cX4_tell 9 = .ok (.return_, 1) := by decide +kernel
def sX4_tell (h : Hp) (a1 : Int64) : Option Hp :=
  (sX4_empty h).bind fun q1 => (sX4_add q1 a1).bind fun q2 => some q2
set_option maxRecDepth 10000 in
theorem kX4_tell (h : Hp) (a1 : Int64) (q : Hp) (e : sX4_tell h a1 = some q) : K 1 mX4_tell [.ref 4, .long a1] h (pV q) := by
  unfold sX4_tell at e
  refine K.ofV (by decide) rfl (Nat.le_of_ble_eq_true rfl) ?_
  show V (Gs 1 (pV q)) mX4_tell (0, 0) 0 [(0, .ref 4), (1, .long a1)] [] h
  refine V.alq dX4_tell_0 (pc' := 1) rfl (j := 0) rfl ?_
  obtain ⟨q1, eq1, e⟩ := bd_s e
  refine V.callVv dX4_tell_1 (pc' := 4) rfl CV_X4_27 (as := []) (kX4_empty h q1 eq1) (Gs_rm (by decide)) rfl (by decide) rfl (Nat.le_of_ble_eq_true rfl) rfl ?_
  refine V.alq dX4_tell_4 (pc' := 5) rfl (j := 0) rfl ?_
  refine V.llq dX4_tell_5 (pc' := 6) rfl (j := 1) rfl ?_
  obtain ⟨q2, eq2, e⟩ := bd_s e
  refine V.callVv dX4_tell_6 (pc' := 9) rfl CV_X4_23 (as := [.long a1]) (kX4_add q1 a1 q2 eq2) (Gs_rm (by decide)) rfl (by decide) rfl (Nat.le_of_ble_eq_true rfl) rfl ?_
  exact V.vret dX4_tell_9 rfl (fnV e)

-- X5_sign (level 1)
theorem dX5_sign_0 : decode cX5_sign 0 = .ok (.aload_n 0, 1) := by decide +kernel
theorem dX5_sign_1 : decode cX5_sign 1 = .ok (.getfield 12, 3) := by decide +kernel
theorem dX5_sign_4 : decode cX5_sign 4 = .ok (.iload_n 1, 1) := by decide +kernel
theorem dX5_sign_5 : decode cX5_sign 5 = .ok (.invokevirtual 59, 3) := by decide +kernel
theorem dX5_sign_8 : decode cX5_sign 8 = .ok (.ifCond .eq 13, 3) := by decide +kernel
theorem dX5_sign_11 : decode cX5_sign 11 = .ok (.aload_n 0, 1) := by decide +kernel
theorem dX5_sign_12 : decode cX5_sign 12 = .ok (.getfield 12, 3) := by decide +kernel
theorem dX5_sign_15 : decode cX5_sign 15 = .ok (.getfield 63, 3) := by decide +kernel
theorem dX5_sign_18 : decode cX5_sign 18 = .ok (.goto 4, 3) := by decide +kernel
theorem dX5_sign_21 : decode cX5_sign 21 = .ok (.iconst (-1), 1) := by decide +kernel
theorem dX5_sign_22 : decode cX5_sign 22 = .ok (.ireturn, 1) := by decide +kernel
def sX5_sign_c22 (h : Hp) (t0 : Int32) : Option (Int32 × Hp) :=
  some (t0, h)
set_option maxRecDepth 10000 in
theorem vX5_sign_c22 (h : Hp) (t0 : Int32) (q : (Int32 × Hp)) (e : sX5_sign_c22 h t0 = some q) : V (Gs 1 (pI q)) mX5_sign (0, 0) 22 [] [.int t0] h := by
  unfold sX5_sign_c22 at e
  exact V.iret dX5_sign_22 rfl (fnI e)
def sX5_sign (h : Hp) (a1 : Int32) : Option (Int32 × Hp) :=
  (sX3_put h a1).bind fun q1 => if q1.1 = 0 then (sX5_sign_c22 q1.2 (-1 : Int32)) else (sX5_sign_c22 q1.2 (q1.2.1 2 1))
set_option maxRecDepth 10000 in
theorem kX5_sign (h : Hp) (a1 : Int32) (q : (Int32 × Hp)) (e : sX5_sign h a1 = some q) : K 1 mX5_sign [.ref 1, .int a1] h (pI q) := by
  unfold sX5_sign at e
  refine K.ofV (by decide) rfl (Nat.le_of_ble_eq_true rfl) ?_
  show V (Gs 1 (pI q)) mX5_sign (0, 0) 0 [(0, .ref 1), (1, .int a1)] [] h
  refine V.alq dX5_sign_0 (pc' := 1) rfl (j := 0) rfl ?_
  refine V.getr dX5_sign_1 (pc' := 4) rfl FL_X5_12 rfl (by decide) rfl (r' := 2) rfl ?_
  refine V.ilq dX5_sign_4 (pc' := 5) rfl (j := 1) rfl ?_
  obtain ⟨q1, eq1, e⟩ := bd_s e
  refine V.callVi dX5_sign_5 (pc' := 8) rfl CV_X5_59 (as := [.int a1]) (kX3_put h a1 q1 eq1) (Gs_rm (by decide)) rfl (by decide) rfl (Nat.le_of_ble_eq_true rfl) rfl ?_
  refine V.if_eq dX5_sign_8 (pc' := 11) rfl (tgt := 21) (by decide) (fun c => ?_) (fun c => ?_)
  · rw [if_pos c] at e
    refine V.iconst dX5_sign_21 (pc' := 22) rfl (v := -1) (by decide) ?_
    refine V.pk [] rfl ?_
    exact vX5_sign_c22 q1.2 (-1 : Int32) q e
  · rw [if_neg c] at e
    refine V.alq dX5_sign_11 (pc' := 12) rfl (j := 0) rfl ?_
    refine V.getr dX5_sign_12 (pc' := 15) rfl FL_X5_12 rfl (by decide) rfl (r' := 2) rfl ?_
    refine V.getf dX5_sign_15 (pc' := 18) rfl FL_X5_63 rfl (by decide) rfl ?_
    refine V.goto dX5_sign_18 (pc' := 22) (by decide) ?_
    refine V.pk [] rfl ?_
    exact vX5_sign_c22 q1.2 (q1.2.1 2 1) q e

-- X5_end (level 1)
theorem dX5_end_0 : decode cX5_end 0 = .ok (.aload_n 0, 1) := by decide +kernel
theorem dX5_end_1 : decode cX5_end 1 = .ok (.getfield 12, 3) := by decide +kernel
theorem dX5_end_4 : decode cX5_end 4 = .ok (.iload_n 1, 1) := by decide +kernel
theorem dX5_end_5 : decode cX5_end 5 = .ok (.invokevirtual 66, 3) := by decide +kernel
theorem dX5_end_8 : decode cX5_end 8 = .ok (.ireturn, 1) := by decide +kernel
def sX5_end (h : Hp) (a1 : Int32) : Option (Int32 × Hp) :=
  (sX3_cut h a1).bind fun q1 => gd (zb q1.1) (some (q1.1, q1.2))
set_option maxRecDepth 10000 in
theorem kX5_end (h : Hp) (a1 : Int32) (q : (Int32 × Hp)) (e : sX5_end h a1 = some q) : K 1 mX5_end [.ref 1, .int a1] h (pI q) := by
  unfold sX5_end at e
  refine K.ofV (by decide) rfl (Nat.le_of_ble_eq_true rfl) ?_
  show V (Gs 1 (pI q)) mX5_end (0, 0) 0 [(0, .ref 1), (1, .int a1)] [] h
  refine V.alq dX5_end_0 (pc' := 1) rfl (j := 0) rfl ?_
  refine V.getr dX5_end_1 (pc' := 4) rfl FL_X5_12 rfl (by decide) rfl (r' := 2) rfl ?_
  refine V.ilq dX5_end_4 (pc' := 5) rfl (j := 1) rfl ?_
  obtain ⟨q1, eq1, e⟩ := bd_s e
  refine V.callVi dX5_end_5 (pc' := 8) rfl CV_X5_66 (as := [.int a1]) (kX3_cut h a1 q1 eq1) (Gs_rm (by decide)) rfl (by decide) rfl (Nat.le_of_ble_eq_true rfl) rfl ?_
  obtain ⟨c2, e⟩ := gd_s e
  exact V.zret dX5_end_8 rfl (zb_t c2) (fnI e)

-- X5_pinch (level 1)
theorem dX5_pinch_0 : decode cX5_pinch 0 = .ok (.aload_n 0, 1) := by decide +kernel
theorem dX5_pinch_1 : decode cX5_pinch 1 = .ok (.getfield 26, 3) := by decide +kernel
theorem dX5_pinch_4 : decode cX5_pinch 4 = .ok (.getfield 80, 3) := by decide +kernel
theorem dX5_pinch_7 : decode cX5_pinch 7 = .ok (.ifCond .ne 6, 3) := by decide +kernel
theorem dX5_pinch_10 : decode cX5_pinch 10 = .ok (.bipush (-2), 2) := by decide +kernel
theorem dX5_pinch_12 : decode cX5_pinch 12 = .ok (.ireturn, 1) := by decide +kernel
theorem dX5_pinch_13 : decode cX5_pinch 13 = .ok (.aload_n 0, 1) := by decide +kernel
theorem dX5_pinch_14 : decode cX5_pinch 14 = .ok (.getfield 19, 3) := by decide +kernel
theorem dX5_pinch_17 : decode cX5_pinch 17 = .ok (.invokevirtual 166, 3) := by decide +kernel
theorem dX5_pinch_20 : decode cX5_pinch 20 = .ok (.iconst 0, 1) := by decide +kernel
theorem dX5_pinch_21 : decode cX5_pinch 21 = .ok (.istore_n 1, 1) := by decide +kernel
theorem dX5_pinch_22 : decode cX5_pinch 22 = .ok (.iload_n 1, 1) := by decide +kernel
theorem dX5_pinch_23 : decode cX5_pinch 23 = .ok (.aload_n 0, 1) := by decide +kernel
theorem dX5_pinch_24 : decode cX5_pinch 24 = .ok (.getfield 36, 3) := by decide +kernel
theorem dX5_pinch_27 : decode cX5_pinch 27 = .ok (.getfield 134, 3) := by decide +kernel
theorem dX5_pinch_30 : decode cX5_pinch 30 = .ok (.if_icmp .ge 42, 3) := by decide +kernel
theorem dX5_pinch_33 : decode cX5_pinch 33 = .ok (.aload_n 0, 1) := by decide +kernel
theorem dX5_pinch_34 : decode cX5_pinch 34 = .ok (.getfield 36, 3) := by decide +kernel
theorem dX5_pinch_37 : decode cX5_pinch 37 = .ok (.getfield 137, 3) := by decide +kernel
theorem dX5_pinch_40 : decode cX5_pinch 40 = .ok (.iload_n 1, 1) := by decide +kernel
theorem dX5_pinch_41 : decode cX5_pinch 41 = .ok (.iaload, 1) := by decide +kernel
theorem dX5_pinch_42 : decode cX5_pinch 42 = .ok (.ifCond .ne 24, 3) := by decide +kernel
theorem dX5_pinch_45 : decode cX5_pinch 45 = .ok (.aload_n 0, 1) := by decide +kernel
theorem dX5_pinch_46 : decode cX5_pinch 46 = .ok (.getfield 19, 3) := by decide +kernel
theorem dX5_pinch_49 : decode cX5_pinch 49 = .ok (.sipush 1000, 3) := by decide +kernel
theorem dX5_pinch_52 : decode cX5_pinch 52 = .ok (.aload_n 0, 1) := by decide +kernel
theorem dX5_pinch_53 : decode cX5_pinch 53 = .ok (.getfield 36, 3) := by decide +kernel
theorem dX5_pinch_56 : decode cX5_pinch 56 = .ok (.getfield 153, 3) := by decide +kernel
theorem dX5_pinch_59 : decode cX5_pinch 59 = .ok (.iload_n 1, 1) := by decide +kernel
theorem dX5_pinch_60 : decode cX5_pinch 60 = .ok (.iaload, 1) := by decide +kernel
theorem dX5_pinch_61 : decode cX5_pinch 61 = .ok (.iadd, 1) := by decide +kernel
theorem dX5_pinch_62 : decode cX5_pinch 62 = .ok (.i2l, 1) := by decide +kernel
theorem dX5_pinch_63 : decode cX5_pinch 63 = .ok (.invokevirtual 169, 3) := by decide +kernel
theorem dX5_pinch_66 : decode cX5_pinch 66 = .ok (.iinc 1 1, 3) := by decide +kernel
theorem dX5_pinch_69 : decode cX5_pinch 69 = .ok (.goto (-47), 3) := by decide +kernel
theorem dX5_pinch_72 : decode cX5_pinch 72 = .ok (.sipush 1000, 3) := by decide +kernel
theorem dX5_pinch_75 : decode cX5_pinch 75 = .ok (.aload_n 0, 1) := by decide +kernel
theorem dX5_pinch_76 : decode cX5_pinch 76 = .ok (.getfield 36, 3) := by decide +kernel
theorem dX5_pinch_79 : decode cX5_pinch 79 = .ok (.invokevirtual 172, 3) := by decide +kernel
theorem dX5_pinch_82 : decode cX5_pinch 82 = .ok (.iadd, 1) := by decide +kernel
theorem dX5_pinch_83 : decode cX5_pinch 83 = .ok (.ireturn, 1) := by decide +kernel
def sX5_pinch_c66 (k22 : Hp → Int32 → Option (Int32 × Hp)) (h : Hp) (v1 : Int32) : Option (Int32 × Hp) :=
  nm (v1 + (1 : Int32)) fun x6 => k22 h x6
set_option maxRecDepth 10000 in
theorem vX5_pinch_c66 (k22 : Hp → Int32 → Option (Int32 × Hp)) (hk22 : ∀ (h : Hp) (v1 : Int32) (q : (Int32 × Hp)), k22 h v1 = some q → V (Gs 1 (pI q)) mX5_pinch (0, 0) 22 [(0, .ref 1), (1, .int v1)] [] h) (h : Hp) (v1 : Int32) (q : (Int32 × Hp)) (e : sX5_pinch_c66 k22 h v1 = some q) : V (Gs 1 (pI q)) mX5_pinch (0, 0) 66 [(0, .ref 1), (1, .int v1)] [] h := by
  unfold sX5_pinch_c66 at e
  obtain ⟨x6, ex6, e⟩ := nm_s e
  refine V.iinc dX5_pinch_66 (pc' := 69) rfl (j := 1) rfl (v := 1) (by decide) (by decide) ex6 (L' := [(1, .int x6), (0, .ref 1)]) rfl ?_
  refine V.goto dX5_pinch_69 (pc' := 22) (by decide) ?_
  refine V.pk [1, 0] rfl ?_
  exact hk22 h x6 q e
def sX5_pinch_c22 (k22 : Hp → Int32 → Option (Int32 × Hp)) (h : Hp) (v1 : Int32) : Option (Int32 × Hp) :=
  if (h.1 16 4) ≤ v1 then ((sX0_pinchAt h 16).bind fun q2 => some (((1000 : Int32) + q2.1), q2.2)) else (gd (inb v1 20) (if (h.1 18 v1.toNatClampNeg) = 0 then (gd (inb v1 20) ((sX4_add h (((1000 : Int32) + (h.1 17 v1.toNatClampNeg)).toInt64)).bind fun q5 => sX5_pinch_c66 k22 q5 v1)) else (sX5_pinch_c66 k22 h v1)))
set_option maxRecDepth 10000 in
theorem vX5_pinch_c22 (k22 : Hp → Int32 → Option (Int32 × Hp)) (hk22 : ∀ (h : Hp) (v1 : Int32) (q : (Int32 × Hp)), k22 h v1 = some q → V (Gs 1 (pI q)) mX5_pinch (0, 0) 22 [(0, .ref 1), (1, .int v1)] [] h) (h : Hp) (v1 : Int32) (q : (Int32 × Hp)) (e : sX5_pinch_c22 k22 h v1 = some q) : V (Gs 1 (pI q)) mX5_pinch (0, 0) 22 [(0, .ref 1), (1, .int v1)] [] h := by
  unfold sX5_pinch_c22 at e
  refine V.ilq dX5_pinch_22 (pc' := 23) rfl (j := 1) rfl ?_
  refine V.alq dX5_pinch_23 (pc' := 24) rfl (j := 0) rfl ?_
  refine V.getr dX5_pinch_24 (pc' := 27) rfl FL_X5_36 rfl (by decide) rfl (r' := 16) rfl ?_
  refine V.getf dX5_pinch_27 (pc' := 30) rfl FL_X5_134 rfl (by decide) rfl ?_
  refine V.ic_ge dX5_pinch_30 (pc' := 33) rfl (tgt := 72) (by decide) (fun c => ?_) (fun c => ?_)
  · rw [if_pos c] at e
    refine V.sipush dX5_pinch_72 (pc' := 75) rfl (v := 1000) (by decide) ?_
    refine V.alq dX5_pinch_75 (pc' := 76) rfl (j := 0) rfl ?_
    refine V.getr dX5_pinch_76 (pc' := 79) rfl FL_X5_36 rfl (by decide) rfl (r' := 16) rfl ?_
    obtain ⟨q2, eq2, e⟩ := bd_s e
    refine V.callVi dX5_pinch_79 (pc' := 82) rfl CV_X5_172 (as := []) (kX0_pinchAt h 16 q2 eq2) (Gs_rm (by decide)) rfl (by decide) rfl (Nat.le_of_ble_eq_true rfl) rfl ?_
    refine V.iadd dX5_pinch_82 (pc' := 83) rfl ?_
    exact V.iret dX5_pinch_83 rfl (fnI e)
  · rw [if_neg c] at e
    refine V.alq dX5_pinch_33 (pc' := 34) rfl (j := 0) rfl ?_
    refine V.getr dX5_pinch_34 (pc' := 37) rfl FL_X5_36 rfl (by decide) rfl (r' := 16) rfl ?_
    refine V.getr dX5_pinch_37 (pc' := 40) rfl FL_X5_137 rfl (by decide) rfl (r' := 18) rfl ?_
    refine V.ilq dX5_pinch_40 (pc' := 41) rfl (j := 1) rfl ?_
    obtain ⟨c3, e⟩ := gd_s e
    refine V.iald dX5_pinch_41 (pc' := 42) rfl rfl rfl (inb_t c3) ?_
    refine V.if_ne dX5_pinch_42 (pc' := 45) rfl (tgt := 66) (by decide) (fun c => ?_) (fun c => ?_)
    · rw [if_neg c] at e
      exact vX5_pinch_c66 k22 hk22 h v1 q e
    · rw [if_pos c] at e
      refine V.alq dX5_pinch_45 (pc' := 46) rfl (j := 0) rfl ?_
      refine V.getr dX5_pinch_46 (pc' := 49) rfl FL_X5_19 rfl (by decide) rfl (r' := 4) rfl ?_
      refine V.sipush dX5_pinch_49 (pc' := 52) rfl (v := 1000) (by decide) ?_
      refine V.alq dX5_pinch_52 (pc' := 53) rfl (j := 0) rfl ?_
      refine V.getr dX5_pinch_53 (pc' := 56) rfl FL_X5_36 rfl (by decide) rfl (r' := 16) rfl ?_
      refine V.getr dX5_pinch_56 (pc' := 59) rfl FL_X5_153 rfl (by decide) rfl (r' := 17) rfl ?_
      refine V.ilq dX5_pinch_59 (pc' := 60) rfl (j := 1) rfl ?_
      obtain ⟨c4, e⟩ := gd_s e
      refine V.iald dX5_pinch_60 (pc' := 61) rfl rfl rfl (inb_t c4) ?_
      refine V.iadd dX5_pinch_61 (pc' := 62) rfl ?_
      refine V.i2l dX5_pinch_62 (pc' := 63) rfl ?_
      obtain ⟨q5, eq5, e⟩ := bd_s e
      refine V.callVv dX5_pinch_63 (pc' := 66) rfl CV_X5_169 (as := [.long (((1000 : Int32) + (h.1 17 v1.toNatClampNeg)).toInt64)]) (kX4_add h (((1000 : Int32) + (h.1 17 v1.toNatClampNeg)).toInt64) q5 eq5) (Gs_rm (by decide)) rfl (by decide) rfl (Nat.le_of_ble_eq_true rfl) rfl ?_
      exact vX5_pinch_c66 k22 hk22 q5 v1 q e
def sX5_pinch_b22 : Nat → Hp → Int32 → Option (Int32 × Hp)
  | 0 => fun _ _ => none
  | n + 1 => sX5_pinch_c22 (sX5_pinch_b22 n)
theorem vX5_pinch_b22 : ∀ (n : Nat) (h : Hp) (v1 : Int32) (q : (Int32 × Hp)), sX5_pinch_b22 n h v1 = some q → V (Gs 1 (pI q)) mX5_pinch (0, 0) 22 [(0, .ref 1), (1, .int v1)] [] h
  | 0 => fun _ _ _ e => by cases e
  | n + 1 => fun h v1 q e => vX5_pinch_c22 (sX5_pinch_b22 n) (vX5_pinch_b22 n) h v1 q e
def sX5_pinch (h : Hp) : Option (Int32 × Hp) :=
  if (h.1 6 4) = 0 then (some ((-2 : Int32), h)) else ((sX4_empty h).bind fun q1 => sX5_pinch_b22 FU q1 (0 : Int32))
set_option maxRecDepth 10000 in
theorem kX5_pinch (h : Hp) (q : (Int32 × Hp)) (e : sX5_pinch h = some q) : K 1 mX5_pinch [.ref 1] h (pI q) := by
  unfold sX5_pinch at e
  refine K.ofV (by decide) rfl (Nat.le_of_ble_eq_true rfl) ?_
  show V (Gs 1 (pI q)) mX5_pinch (0, 0) 0 [(0, .ref 1)] [] h
  refine V.alq dX5_pinch_0 (pc' := 1) rfl (j := 0) rfl ?_
  refine V.getr dX5_pinch_1 (pc' := 4) rfl FL_X5_26 rfl (by decide) rfl (r' := 6) rfl ?_
  refine V.getf dX5_pinch_4 (pc' := 7) rfl FL_X5_80 rfl (by decide) rfl ?_
  refine V.if_ne dX5_pinch_7 (pc' := 10) rfl (tgt := 13) (by decide) (fun c => ?_) (fun c => ?_)
  · rw [if_neg c] at e
    refine V.alq dX5_pinch_13 (pc' := 14) rfl (j := 0) rfl ?_
    refine V.getr dX5_pinch_14 (pc' := 17) rfl FL_X5_19 rfl (by decide) rfl (r' := 4) rfl ?_
    obtain ⟨q1, eq1, e⟩ := bd_s e
    refine V.callVv dX5_pinch_17 (pc' := 20) rfl CV_X5_166 (as := []) (kX4_empty h q1 eq1) (Gs_rm (by decide)) rfl (by decide) rfl (Nat.le_of_ble_eq_true rfl) rfl ?_
    refine V.iconst dX5_pinch_20 (pc' := 21) rfl (v := 0) (by decide) ?_
    refine V.isq dX5_pinch_21 (pc' := 22) rfl (by decide) rfl (L' := [(1, .int (0 : Int32)), (0, .ref 1)]) rfl ?_
    refine V.pk [1, 0] rfl ?_
    exact vX5_pinch_b22 FU q1 (0 : Int32) q e
  · rw [if_pos c] at e
    refine V.bipush dX5_pinch_10 (pc' := 12) rfl (v := -2) (by decide) ?_
    exact V.iret dX5_pinch_12 rfl (fnI e)

-- X5_clears (level 1)
theorem dX5_clears_0 : decode cX5_clears 0 = .ok (.iload_n 1, 1) := by decide +kernel
theorem dX5_clears_1 : decode cX5_clears 1 = .ok (.invokestatic 211, 3) := by decide +kernel
theorem dX5_clears_4 : decode cX5_clears 4 = .ok (.ifCond .ne 5, 3) := by decide +kernel
theorem dX5_clears_7 : decode cX5_clears 7 = .ok (.iconst (-1), 1) := by decide +kernel
theorem dX5_clears_8 : decode cX5_clears 8 = .ok (.ireturn, 1) := by decide +kernel
theorem dX5_clears_9 : decode cX5_clears 9 = .ok (.aload_n 0, 1) := by decide +kernel
theorem dX5_clears_10 : decode cX5_clears 10 = .ok (.iload_n 1, 1) := by decide +kernel
theorem dX5_clears_11 : decode cX5_clears 11 = .ok (.invokevirtual 214, 3) := by decide +kernel
theorem dX5_clears_14 : decode cX5_clears 14 = .ok (.astore_n 2, 1) := by decide +kernel
theorem dX5_clears_15 : decode cX5_clears 15 = .ok (.aload_n 2, 1) := by decide +kernel
theorem dX5_clears_16 : decode cX5_clears 16 = .ok (.getfield 243, 3) := by decide +kernel
theorem dX5_clears_19 : decode cX5_clears 19 = .ok (.istore_n 3, 1) := by decide +kernel
theorem dX5_clears_20 : decode cX5_clears 20 = .ok (.aload_n 2, 1) := by decide +kernel
theorem dX5_clears_21 : decode cX5_clears 21 = .ok (.invokevirtual 297, 3) := by decide +kernel
theorem dX5_clears_24 : decode cX5_clears 24 = .ok (.iload_n 3, 1) := by decide +kernel
theorem dX5_clears_25 : decode cX5_clears 25 = .ok (.ireturn, 1) := by decide +kernel
def sX5_clears (h : Hp) (a1 : Int32) : Option (Int32 × Hp) :=
  (sX5_isSide h a1).bind fun q1 => if q1.1 = 0 then (some ((-1 : Int32), q1.2)) else ((sX5_sideOf q1.2 a1).bind fun q2 => gd (isC q2.1 2) (nm ((q2.2.1 q2.1 14)) fun x4 => (sX2_empty q2.2 q2.1).bind fun q5 => some (x4, q5)))
set_option maxRecDepth 10000 in
theorem kX5_clears (h : Hp) (a1 : Int32) (q : (Int32 × Hp)) (e : sX5_clears h a1 = some q) : K 1 mX5_clears [.ref 1, .int a1] h (pI q) := by
  unfold sX5_clears at e
  refine K.ofV (by decide) rfl (Nat.le_of_ble_eq_true rfl) ?_
  show V (Gs 1 (pI q)) mX5_clears (0, 0) 0 [(0, .ref 1), (1, .int a1)] [] h
  refine V.ilq dX5_clears_0 (pc' := 1) rfl (j := 1) rfl ?_
  obtain ⟨q1, eq1, e⟩ := bd_s e
  refine V.callSi dX5_clears_1 (pc' := 4) rfl CS_X5_211 (as := [.int a1]) (kX5_isSide h a1 q1 eq1) (Gs_rm (by decide)) rfl (Nat.le_of_ble_eq_true rfl) rfl ?_
  refine V.if_ne dX5_clears_4 (pc' := 7) rfl (tgt := 9) (by decide) (fun c => ?_) (fun c => ?_)
  · rw [if_neg c] at e
    refine V.alq dX5_clears_9 (pc' := 10) rfl (j := 0) rfl ?_
    refine V.ilq dX5_clears_10 (pc' := 11) rfl (j := 1) rfl ?_
    obtain ⟨q2, eq2, e⟩ := bd_s e
    refine V.callVr dX5_clears_11 (pc' := 14) rfl CV_X5_214 (as := [.int a1]) (kX5_sideOf q1.2 a1 q2 eq2) (Gs_rm (by decide)) rfl (by decide) rfl (Nat.le_of_ble_eq_true rfl) rfl ?_
    obtain ⟨c3, e⟩ := gd_s e
    refine V.asq dX5_clears_14 (pc' := 15) rfl (by decide) rfl (L' := [(2, .ref q2.1), (0, .ref 1), (1, .int a1)]) rfl ?_
    refine V.alq dX5_clears_15 (pc' := 16) rfl (j := 0) rfl ?_
    refine V.getf dX5_clears_16 (pc' := 19) rfl FL_X5_243 (isC_t c3) (by decide) rfl ?_
    obtain ⟨x4, ex4, e⟩ := nm_s e
    refine V.isq dX5_clears_19 (pc' := 20) rfl (by decide) ex4 (L' := [(3, .int x4), (2, .ref q2.1), (0, .ref 1), (1, .int a1)]) rfl ?_
    refine V.alq dX5_clears_20 (pc' := 21) rfl (j := 1) rfl ?_
    obtain ⟨q5, eq5, e⟩ := bd_s e
    refine V.callVv dX5_clears_21 (pc' := 24) rfl CV_X5_297 (as := []) (kX2_empty q2.2 q2.1 q5 eq5) (Gs_rm (by decide)) (isC_t c3) (by decide) rfl (Nat.le_of_ble_eq_true rfl) rfl ?_
    refine V.ilq dX5_clears_24 (pc' := 25) rfl (j := 0) rfl ?_
    exact V.iret dX5_clears_25 rfl (fnI e)
  · rw [if_pos c] at e
    refine V.iconst dX5_clears_7 (pc' := 8) rfl (v := -1) (by decide) ?_
    exact V.iret dX5_clears_8 rfl (fnI e)

-- X5_isValue (level 1)
theorem dX5_isValue_0 : decode cX5_isValue 0 = .ok (.iload_n 0, 1) := by decide +kernel
theorem dX5_isValue_1 : decode cX5_isValue 1 = .ok (.iconst 2, 1) := by decide +kernel
theorem dX5_isValue_2 : decode cX5_isValue 2 = .ok (.if_icmp .ne 20, 3) := by decide +kernel
theorem dX5_isValue_5 : decode cX5_isValue 5 = .ok (.iload_n 1, 1) := by decide +kernel
theorem dX5_isValue_6 : decode cX5_isValue 6 = .ok (.iconst 1, 1) := by decide +kernel
theorem dX5_isValue_7 : decode cX5_isValue 7 = .ok (.if_icmp .lt 13, 3) := by decide +kernel
theorem dX5_isValue_10 : decode cX5_isValue 10 = .ok (.iload_n 1, 1) := by decide +kernel
theorem dX5_isValue_11 : decode cX5_isValue 11 = .ok (.bipush 20, 2) := by decide +kernel
theorem dX5_isValue_13 : decode cX5_isValue 13 = .ok (.if_icmp .gt 7, 3) := by decide +kernel
theorem dX5_isValue_16 : decode cX5_isValue 16 = .ok (.iconst 1, 1) := by decide +kernel
theorem dX5_isValue_17 : decode cX5_isValue 17 = .ok (.goto 4, 3) := by decide +kernel
theorem dX5_isValue_20 : decode cX5_isValue 20 = .ok (.iconst 0, 1) := by decide +kernel
theorem dX5_isValue_21 : decode cX5_isValue 21 = .ok (.ireturn, 1) := by decide +kernel
theorem dX5_isValue_22 : decode cX5_isValue 22 = .ok (.iload_n 0, 1) := by decide +kernel
theorem dX5_isValue_23 : decode cX5_isValue 23 = .ok (.ifCond .eq 8, 3) := by decide +kernel
theorem dX5_isValue_26 : decode cX5_isValue 26 = .ok (.iload_n 0, 1) := by decide +kernel
theorem dX5_isValue_27 : decode cX5_isValue 27 = .ok (.iconst 1, 1) := by decide +kernel
theorem dX5_isValue_28 : decode cX5_isValue 28 = .ok (.if_icmp .ne 14, 3) := by decide +kernel
theorem dX5_isValue_31 : decode cX5_isValue 31 = .ok (.iload_n 1, 1) := by decide +kernel
theorem dX5_isValue_32 : decode cX5_isValue 32 = .ok (.invokestatic 183, 3) := by decide +kernel
theorem dX5_isValue_35 : decode cX5_isValue 35 = .ok (.ifCond .eq 7, 3) := by decide +kernel
theorem dX5_isValue_38 : decode cX5_isValue 38 = .ok (.iconst 1, 1) := by decide +kernel
theorem dX5_isValue_39 : decode cX5_isValue 39 = .ok (.goto 4, 3) := by decide +kernel
theorem dX5_isValue_42 : decode cX5_isValue 42 = .ok (.iconst 0, 1) := by decide +kernel
theorem dX5_isValue_43 : decode cX5_isValue 43 = .ok (.ireturn, 1) := by decide +kernel
def sX5_isValue_c21 (h : Hp) (t0 : Int32) : Option (Int32 × Hp) :=
  gd (zb t0) (some (t0, h))
set_option maxRecDepth 10000 in
theorem vX5_isValue_c21 (h : Hp) (t0 : Int32) (q : (Int32 × Hp)) (e : sX5_isValue_c21 h t0 = some q) : V (Gs 1 (pI q)) mX5_isValue (0, 0) 21 [] [.int t0] h := by
  unfold sX5_isValue_c21 at e
  obtain ⟨c1, e⟩ := gd_s e
  exact V.zret dX5_isValue_21 rfl (zb_t c1) (fnI e)
def sX5_isValue_c20 (h : Hp) : Option (Int32 × Hp) :=
  sX5_isValue_c21 h (0 : Int32)
set_option maxRecDepth 10000 in
theorem vX5_isValue_c20 (h : Hp) (q : (Int32 × Hp)) (e : sX5_isValue_c20 h = some q) : V (Gs 1 (pI q)) mX5_isValue (0, 0) 20 [] [] h := by
  unfold sX5_isValue_c20 at e
  refine V.iconst dX5_isValue_20 (pc' := 21) rfl (v := 0) (by decide) ?_
  exact vX5_isValue_c21 h (0 : Int32) q e
def sX5_isValue_c43 (h : Hp) (t0 : Int32) : Option (Int32 × Hp) :=
  gd (zb t0) (some (t0, h))
set_option maxRecDepth 10000 in
theorem vX5_isValue_c43 (h : Hp) (t0 : Int32) (q : (Int32 × Hp)) (e : sX5_isValue_c43 h t0 = some q) : V (Gs 1 (pI q)) mX5_isValue (0, 0) 43 [] [.int t0] h := by
  unfold sX5_isValue_c43 at e
  obtain ⟨c2, e⟩ := gd_s e
  exact V.zret dX5_isValue_43 rfl (zb_t c2) (fnI e)
def sX5_isValue_c42 (h : Hp) : Option (Int32 × Hp) :=
  sX5_isValue_c43 h (0 : Int32)
set_option maxRecDepth 10000 in
theorem vX5_isValue_c42 (h : Hp) (q : (Int32 × Hp)) (e : sX5_isValue_c42 h = some q) : V (Gs 1 (pI q)) mX5_isValue (0, 0) 42 [] [] h := by
  unfold sX5_isValue_c42 at e
  refine V.iconst dX5_isValue_42 (pc' := 43) rfl (v := 0) (by decide) ?_
  exact vX5_isValue_c43 h (0 : Int32) q e
def sX5_isValue_c31 (h : Hp) (v1 : Int32) : Option (Int32 × Hp) :=
  (sX5_isDegree h v1).bind fun q3 => if q3.1 = 0 then (sX5_isValue_c42 q3.2) else (sX5_isValue_c43 q3.2 (1 : Int32))
set_option maxRecDepth 10000 in
theorem vX5_isValue_c31 (h : Hp) (v1 : Int32) (q : (Int32 × Hp)) (e : sX5_isValue_c31 h v1 = some q) : V (Gs 1 (pI q)) mX5_isValue (0, 0) 31 [(1, .int v1)] [] h := by
  unfold sX5_isValue_c31 at e
  refine V.ilq dX5_isValue_31 (pc' := 32) rfl (j := 0) rfl ?_
  obtain ⟨q3, eq3, e⟩ := bd_s e
  refine V.callSi dX5_isValue_32 (pc' := 35) rfl CS_X5_183 (as := [.int v1]) (kX5_isDegree h v1 q3 eq3) (Gs_rm (by decide)) rfl (Nat.le_of_ble_eq_true rfl) rfl ?_
  refine V.if_eq dX5_isValue_35 (pc' := 38) rfl (tgt := 42) (by decide) (fun c => ?_) (fun c => ?_)
  · rw [if_pos c] at e
    refine V.pk [] rfl ?_
    exact vX5_isValue_c42 q3.2 q e
  · rw [if_neg c] at e
    refine V.iconst dX5_isValue_38 (pc' := 39) rfl (v := 1) (by decide) ?_
    refine V.goto dX5_isValue_39 (pc' := 43) (by decide) ?_
    refine V.pk [] rfl ?_
    exact vX5_isValue_c43 q3.2 (1 : Int32) q e
def sX5_isValue (h : Hp) (a0 : Int32) (a1 : Int32) : Option (Int32 × Hp) :=
  if a0 = (2 : Int32) then (if a1 < (1 : Int32) then (sX5_isValue_c20 h) else (if (20 : Int32) < a1 then (sX5_isValue_c20 h) else (sX5_isValue_c21 h (1 : Int32)))) else (if a0 = 0 then (sX5_isValue_c31 h a1) else (if a0 = (1 : Int32) then (sX5_isValue_c31 h a1) else (sX5_isValue_c42 h)))
set_option maxRecDepth 10000 in
theorem kX5_isValue (h : Hp) (a0 : Int32) (a1 : Int32) (q : (Int32 × Hp)) (e : sX5_isValue h a0 a1 = some q) : K 1 mX5_isValue [.int a0, .int a1] h (pI q) := by
  unfold sX5_isValue at e
  refine K.ofV (by decide) rfl (Nat.le_of_ble_eq_true rfl) ?_
  show V (Gs 1 (pI q)) mX5_isValue (0, 0) 0 [(0, .int a0), (1, .int a1)] [] h
  refine V.ilq dX5_isValue_0 (pc' := 1) rfl (j := 0) rfl ?_
  refine V.iconst dX5_isValue_1 (pc' := 2) rfl (v := 2) (by decide) ?_
  refine V.ic_ne dX5_isValue_2 (pc' := 5) rfl (tgt := 22) (by decide) (fun c => ?_) (fun c => ?_)
  · rw [if_neg c] at e
    refine V.ilq dX5_isValue_22 (pc' := 23) rfl (j := 0) rfl ?_
    refine V.if_eq dX5_isValue_23 (pc' := 26) rfl (tgt := 31) (by decide) (fun c => ?_) (fun c => ?_)
    · rw [if_pos c] at e
      refine V.pk [1] rfl ?_
      exact vX5_isValue_c31 h a1 q e
    · rw [if_neg c] at e
      refine V.ilq dX5_isValue_26 (pc' := 27) rfl (j := 0) rfl ?_
      refine V.iconst dX5_isValue_27 (pc' := 28) rfl (v := 1) (by decide) ?_
      refine V.ic_ne dX5_isValue_28 (pc' := 31) rfl (tgt := 42) (by decide) (fun c => ?_) (fun c => ?_)
      · rw [if_neg c] at e
        refine V.pk [] rfl ?_
        exact vX5_isValue_c42 h q e
      · rw [if_pos c] at e
        refine V.pk [1] rfl ?_
        exact vX5_isValue_c31 h a1 q e
  · rw [if_pos c] at e
    refine V.ilq dX5_isValue_5 (pc' := 6) rfl (j := 1) rfl ?_
    refine V.iconst dX5_isValue_6 (pc' := 7) rfl (v := 1) (by decide) ?_
    refine V.ic_lt dX5_isValue_7 (pc' := 10) rfl (tgt := 20) (by decide) (fun c => ?_) (fun c => ?_)
    · rw [if_pos c] at e
      refine V.pk [] rfl ?_
      exact vX5_isValue_c20 h q e
    · rw [if_neg c] at e
      refine V.ilq dX5_isValue_10 (pc' := 11) rfl (j := 1) rfl ?_
      refine V.bipush dX5_isValue_11 (pc' := 13) rfl (v := 20) (by decide) ?_
      refine V.ic_gt dX5_isValue_13 (pc' := 16) rfl (tgt := 20) (by decide) (fun c => ?_) (fun c => ?_)
      · rw [if_pos c] at e
        refine V.pk [] rfl ?_
        exact vX5_isValue_c20 h q e
      · rw [if_neg c] at e
        refine V.iconst dX5_isValue_16 (pc' := 17) rfl (v := 1) (by decide) ?_
        refine V.goto dX5_isValue_17 (pc' := 21) (by decide) ?_
        refine V.pk [] rfl ?_
        exact vX5_isValue_c21 h (1 : Int32) q e

-- X5_hasMatch (level 1)
theorem dX5_hasMatch_0 : decode cX5_hasMatch 0 = .ok (.iload_n 1, 1) := by decide +kernel
theorem dX5_hasMatch_1 : decode cX5_hasMatch 1 = .ok (.invokestatic 211, 3) := by decide +kernel
theorem dX5_hasMatch_4 : decode cX5_hasMatch 4 = .ok (.ifCond .eq 23, 3) := by decide +kernel
theorem dX5_hasMatch_7 : decode cX5_hasMatch 7 = .ok (.iload_n 2, 1) := by decide +kernel
theorem dX5_hasMatch_8 : decode cX5_hasMatch 8 = .ok (.ifCond .lt 19, 3) := by decide +kernel
theorem dX5_hasMatch_11 : decode cX5_hasMatch 11 = .ok (.iload_n 2, 1) := by decide +kernel
theorem dX5_hasMatch_12 : decode cX5_hasMatch 12 = .ok (.aload_n 0, 1) := by decide +kernel
theorem dX5_hasMatch_13 : decode cX5_hasMatch 13 = .ok (.iload_n 1, 1) := by decide +kernel
theorem dX5_hasMatch_14 : decode cX5_hasMatch 14 = .ok (.invokevirtual 214, 3) := by decide +kernel
theorem dX5_hasMatch_17 : decode cX5_hasMatch 17 = .ok (.getfield 243, 3) := by decide +kernel
theorem dX5_hasMatch_20 : decode cX5_hasMatch 20 = .ok (.if_icmp .ge 7, 3) := by decide +kernel
theorem dX5_hasMatch_23 : decode cX5_hasMatch 23 = .ok (.iconst 1, 1) := by decide +kernel
theorem dX5_hasMatch_24 : decode cX5_hasMatch 24 = .ok (.goto 4, 3) := by decide +kernel
theorem dX5_hasMatch_27 : decode cX5_hasMatch 27 = .ok (.iconst 0, 1) := by decide +kernel
theorem dX5_hasMatch_28 : decode cX5_hasMatch 28 = .ok (.ireturn, 1) := by decide +kernel
def sX5_hasMatch_c28 (h : Hp) (t0 : Int32) : Option (Int32 × Hp) :=
  gd (zb t0) (some (t0, h))
set_option maxRecDepth 10000 in
theorem vX5_hasMatch_c28 (h : Hp) (t0 : Int32) (q : (Int32 × Hp)) (e : sX5_hasMatch_c28 h t0 = some q) : V (Gs 1 (pI q)) mX5_hasMatch (0, 0) 28 [] [.int t0] h := by
  unfold sX5_hasMatch_c28 at e
  obtain ⟨c4, e⟩ := gd_s e
  exact V.zret dX5_hasMatch_28 rfl (zb_t c4) (fnI e)
def sX5_hasMatch_c27 (h : Hp) : Option (Int32 × Hp) :=
  sX5_hasMatch_c28 h (0 : Int32)
set_option maxRecDepth 10000 in
theorem vX5_hasMatch_c27 (h : Hp) (q : (Int32 × Hp)) (e : sX5_hasMatch_c27 h = some q) : V (Gs 1 (pI q)) mX5_hasMatch (0, 0) 27 [] [] h := by
  unfold sX5_hasMatch_c27 at e
  refine V.iconst dX5_hasMatch_27 (pc' := 28) rfl (v := 0) (by decide) ?_
  exact vX5_hasMatch_c28 h (0 : Int32) q e
def sX5_hasMatch (h : Hp) (a1 : Int32) (a2 : Int32) : Option (Int32 × Hp) :=
  (sX5_isSide h a1).bind fun q1 => if q1.1 = 0 then (sX5_hasMatch_c27 q1.2) else (if a2 < 0 then (sX5_hasMatch_c27 q1.2) else ((sX5_sideOf q1.2 a1).bind fun q2 => gd (isC q2.1 2) (if (q2.2.1 q2.1 14) ≤ a2 then (sX5_hasMatch_c27 q2.2) else (sX5_hasMatch_c28 q2.2 (1 : Int32)))))
set_option maxRecDepth 10000 in
theorem kX5_hasMatch (h : Hp) (a1 : Int32) (a2 : Int32) (q : (Int32 × Hp)) (e : sX5_hasMatch h a1 a2 = some q) : K 1 mX5_hasMatch [.ref 1, .int a1, .int a2] h (pI q) := by
  unfold sX5_hasMatch at e
  refine K.ofV (by decide) rfl (Nat.le_of_ble_eq_true rfl) ?_
  show V (Gs 1 (pI q)) mX5_hasMatch (0, 0) 0 [(0, .ref 1), (1, .int a1), (2, .int a2)] [] h
  refine V.ilq dX5_hasMatch_0 (pc' := 1) rfl (j := 1) rfl ?_
  obtain ⟨q1, eq1, e⟩ := bd_s e
  refine V.callSi dX5_hasMatch_1 (pc' := 4) rfl CS_X5_211 (as := [.int a1]) (kX5_isSide h a1 q1 eq1) (Gs_rm (by decide)) rfl (Nat.le_of_ble_eq_true rfl) rfl ?_
  refine V.if_eq dX5_hasMatch_4 (pc' := 7) rfl (tgt := 27) (by decide) (fun c => ?_) (fun c => ?_)
  · rw [if_pos c] at e
    refine V.pk [] rfl ?_
    exact vX5_hasMatch_c27 q1.2 q e
  · rw [if_neg c] at e
    refine V.ilq dX5_hasMatch_7 (pc' := 8) rfl (j := 2) rfl ?_
    refine V.if_lt dX5_hasMatch_8 (pc' := 11) rfl (tgt := 27) (by decide) (fun c => ?_) (fun c => ?_)
    · rw [if_pos c] at e
      refine V.pk [] rfl ?_
      exact vX5_hasMatch_c27 q1.2 q e
    · rw [if_neg c] at e
      refine V.ilq dX5_hasMatch_11 (pc' := 12) rfl (j := 2) rfl ?_
      refine V.alq dX5_hasMatch_12 (pc' := 13) rfl (j := 0) rfl ?_
      refine V.ilq dX5_hasMatch_13 (pc' := 14) rfl (j := 1) rfl ?_
      obtain ⟨q2, eq2, e⟩ := bd_s e
      refine V.callVr dX5_hasMatch_14 (pc' := 17) rfl CV_X5_214 (as := [.int a1]) (kX5_sideOf q1.2 a1 q2 eq2) (Gs_rm (by decide)) rfl (by decide) rfl (Nat.le_of_ble_eq_true rfl) rfl ?_
      obtain ⟨c3, e⟩ := gd_s e
      refine V.getf dX5_hasMatch_17 (pc' := 20) rfl FL_X5_243 (isC_t c3) (by decide) rfl ?_
      refine V.ic_ge dX5_hasMatch_20 (pc' := 23) rfl (tgt := 27) (by decide) (fun c => ?_) (fun c => ?_)
      · rw [if_pos c] at e
        refine V.pk [] rfl ?_
        exact vX5_hasMatch_c27 q2.2 q e
      · rw [if_neg c] at e
        refine V.iconst dX5_hasMatch_23 (pc' := 24) rfl (v := 1) (by decide) ?_
        refine V.goto dX5_hasMatch_24 (pc' := 28) (by decide) ?_
        refine V.pk [] rfl ?_
        exact vX5_hasMatch_c28 q2.2 (1 : Int32) q e

-- X5_canMeet (level 1)
theorem dX5_canMeet_0 : decode cX5_canMeet 0 = .ok (.iload_n 1, 1) := by decide +kernel
theorem dX5_canMeet_1 : decode cX5_canMeet 1 = .ok (.invokestatic 211, 3) := by decide +kernel
theorem dX5_canMeet_4 : decode cX5_canMeet 4 = .ok (.ifCond .eq 33, 3) := by decide +kernel
theorem dX5_canMeet_7 : decode cX5_canMeet 7 = .ok (.aload_n 0, 1) := by decide +kernel
theorem dX5_canMeet_8 : decode cX5_canMeet 8 = .ok (.iload_n 1, 1) := by decide +kernel
theorem dX5_canMeet_9 : decode cX5_canMeet 9 = .ok (.invokevirtual 214, 3) := by decide +kernel
theorem dX5_canMeet_12 : decode cX5_canMeet 12 = .ok (.iload_n 2, 1) := by decide +kernel
theorem dX5_canMeet_13 : decode cX5_canMeet 13 = .ok (.iconst 1, 1) := by decide +kernel
theorem dX5_canMeet_14 : decode cX5_canMeet 14 = .ok (.invokevirtual 326, 3) := by decide +kernel
theorem dX5_canMeet_17 : decode cX5_canMeet 17 = .ok (.ifCond .eq 20, 3) := by decide +kernel
theorem dX5_canMeet_20 : decode cX5_canMeet 20 = .ok (.aload_n 0, 1) := by decide +kernel
theorem dX5_canMeet_21 : decode cX5_canMeet 21 = .ok (.iload_n 1, 1) := by decide +kernel
theorem dX5_canMeet_22 : decode cX5_canMeet 22 = .ok (.invokevirtual 214, 3) := by decide +kernel
theorem dX5_canMeet_25 : decode cX5_canMeet 25 = .ok (.iload_n 3, 1) := by decide +kernel
theorem dX5_canMeet_26 : decode cX5_canMeet 26 = .ok (.iconst 0, 1) := by decide +kernel
theorem dX5_canMeet_27 : decode cX5_canMeet 27 = .ok (.invokevirtual 326, 3) := by decide +kernel
theorem dX5_canMeet_30 : decode cX5_canMeet 30 = .ok (.ifCond .eq 7, 3) := by decide +kernel
theorem dX5_canMeet_33 : decode cX5_canMeet 33 = .ok (.iconst 1, 1) := by decide +kernel
theorem dX5_canMeet_34 : decode cX5_canMeet 34 = .ok (.goto 4, 3) := by decide +kernel
theorem dX5_canMeet_37 : decode cX5_canMeet 37 = .ok (.iconst 0, 1) := by decide +kernel
theorem dX5_canMeet_38 : decode cX5_canMeet 38 = .ok (.ireturn, 1) := by decide +kernel
def sX5_canMeet_c38 (h : Hp) (t0 : Int32) : Option (Int32 × Hp) :=
  gd (zb t0) (some (t0, h))
set_option maxRecDepth 10000 in
theorem vX5_canMeet_c38 (h : Hp) (t0 : Int32) (q : (Int32 × Hp)) (e : sX5_canMeet_c38 h t0 = some q) : V (Gs 1 (pI q)) mX5_canMeet (0, 0) 38 [] [.int t0] h := by
  unfold sX5_canMeet_c38 at e
  obtain ⟨c8, e⟩ := gd_s e
  exact V.zret dX5_canMeet_38 rfl (zb_t c8) (fnI e)
def sX5_canMeet_c37 (h : Hp) : Option (Int32 × Hp) :=
  sX5_canMeet_c38 h (0 : Int32)
set_option maxRecDepth 10000 in
theorem vX5_canMeet_c37 (h : Hp) (q : (Int32 × Hp)) (e : sX5_canMeet_c37 h = some q) : V (Gs 1 (pI q)) mX5_canMeet (0, 0) 37 [] [] h := by
  unfold sX5_canMeet_c37 at e
  refine V.iconst dX5_canMeet_37 (pc' := 38) rfl (v := 0) (by decide) ?_
  exact vX5_canMeet_c38 h (0 : Int32) q e
def sX5_canMeet (h : Hp) (a1 : Int32) (a2 : Int32) (a3 : Int32) : Option (Int32 × Hp) :=
  (sX5_isSide h a1).bind fun q1 => if q1.1 = 0 then (sX5_canMeet_c37 q1.2) else ((sX5_sideOf q1.2 a1).bind fun q2 => gd (isC q2.1 2) ((sX2_hasHeat q2.2 q2.1 a2 (1 : Int32)).bind fun q4 => if q4.1 = 0 then (sX5_canMeet_c37 q4.2) else ((sX5_sideOf q4.2 a1).bind fun q5 => gd (isC q5.1 2) ((sX2_hasHeat q5.2 q5.1 a3 (0 : Int32)).bind fun q7 => if q7.1 = 0 then (sX5_canMeet_c37 q7.2) else (sX5_canMeet_c38 q7.2 (1 : Int32))))))
set_option maxRecDepth 10000 in
theorem kX5_canMeet (h : Hp) (a1 : Int32) (a2 : Int32) (a3 : Int32) (q : (Int32 × Hp)) (e : sX5_canMeet h a1 a2 a3 = some q) : K 1 mX5_canMeet [.ref 1, .int a1, .int a2, .int a3] h (pI q) := by
  unfold sX5_canMeet at e
  refine K.ofV (by decide) rfl (Nat.le_of_ble_eq_true rfl) ?_
  show V (Gs 1 (pI q)) mX5_canMeet (0, 0) 0 [(0, .ref 1), (1, .int a1), (2, .int a2), (3, .int a3)] [] h
  refine V.ilq dX5_canMeet_0 (pc' := 1) rfl (j := 1) rfl ?_
  obtain ⟨q1, eq1, e⟩ := bd_s e
  refine V.callSi dX5_canMeet_1 (pc' := 4) rfl CS_X5_211 (as := [.int a1]) (kX5_isSide h a1 q1 eq1) (Gs_rm (by decide)) rfl (Nat.le_of_ble_eq_true rfl) rfl ?_
  refine V.if_eq dX5_canMeet_4 (pc' := 7) rfl (tgt := 37) (by decide) (fun c => ?_) (fun c => ?_)
  · rw [if_pos c] at e
    refine V.pk [] rfl ?_
    exact vX5_canMeet_c37 q1.2 q e
  · rw [if_neg c] at e
    refine V.alq dX5_canMeet_7 (pc' := 8) rfl (j := 0) rfl ?_
    refine V.ilq dX5_canMeet_8 (pc' := 9) rfl (j := 1) rfl ?_
    obtain ⟨q2, eq2, e⟩ := bd_s e
    refine V.callVr dX5_canMeet_9 (pc' := 12) rfl CV_X5_214 (as := [.int a1]) (kX5_sideOf q1.2 a1 q2 eq2) (Gs_rm (by decide)) rfl (by decide) rfl (Nat.le_of_ble_eq_true rfl) rfl ?_
    obtain ⟨c3, e⟩ := gd_s e
    refine V.ilq dX5_canMeet_12 (pc' := 13) rfl (j := 2) rfl ?_
    refine V.iconst dX5_canMeet_13 (pc' := 14) rfl (v := 1) (by decide) ?_
    obtain ⟨q4, eq4, e⟩ := bd_s e
    refine V.callVi dX5_canMeet_14 (pc' := 17) rfl CV_X5_326 (as := [.int a2, .int (1 : Int32)]) (kX2_hasHeat q2.2 q2.1 a2 (1 : Int32) q4 eq4) (Gs_rm (by decide)) (isC_t c3) (by decide) rfl (Nat.le_of_ble_eq_true rfl) rfl ?_
    refine V.if_eq dX5_canMeet_17 (pc' := 20) rfl (tgt := 37) (by decide) (fun c => ?_) (fun c => ?_)
    · rw [if_pos c] at e
      refine V.pk [] rfl ?_
      exact vX5_canMeet_c37 q4.2 q e
    · rw [if_neg c] at e
      refine V.alq dX5_canMeet_20 (pc' := 21) rfl (j := 0) rfl ?_
      refine V.ilq dX5_canMeet_21 (pc' := 22) rfl (j := 1) rfl ?_
      obtain ⟨q5, eq5, e⟩ := bd_s e
      refine V.callVr dX5_canMeet_22 (pc' := 25) rfl CV_X5_214 (as := [.int a1]) (kX5_sideOf q4.2 a1 q5 eq5) (Gs_rm (by decide)) rfl (by decide) rfl (Nat.le_of_ble_eq_true rfl) rfl ?_
      obtain ⟨c6, e⟩ := gd_s e
      refine V.ilq dX5_canMeet_25 (pc' := 26) rfl (j := 3) rfl ?_
      refine V.iconst dX5_canMeet_26 (pc' := 27) rfl (v := 0) (by decide) ?_
      obtain ⟨q7, eq7, e⟩ := bd_s e
      refine V.callVi dX5_canMeet_27 (pc' := 30) rfl CV_X5_326 (as := [.int a3, .int (0 : Int32)]) (kX2_hasHeat q5.2 q5.1 a3 (0 : Int32) q7 eq7) (Gs_rm (by decide)) (isC_t c6) (by decide) rfl (Nat.le_of_ble_eq_true rfl) rfl ?_
      refine V.if_eq dX5_canMeet_30 (pc' := 33) rfl (tgt := 37) (by decide) (fun c => ?_) (fun c => ?_)
      · rw [if_pos c] at e
        refine V.pk [] rfl ?_
        exact vX5_canMeet_c37 q7.2 q e
      · rw [if_neg c] at e
        refine V.iconst dX5_canMeet_33 (pc' := 34) rfl (v := 1) (by decide) ?_
        refine V.goto dX5_canMeet_34 (pc' := 38) (by decide) ?_
        refine V.pk [] rfl ?_
        exact vX5_canMeet_c38 q7.2 (1 : Int32) q e

-- X6_entersPart (level 1)
theorem dX6_entersPart_0 : decode cX6_entersPart 0 = .ok (.lload_n 1, 1) := by decide +kernel
theorem dX6_entersPart_1 : decode cX6_entersPart 1 = .ok (.lload_n 3, 1) := by decide +kernel
theorem dX6_entersPart_2 : decode cX6_entersPart 2 = .ok (.invokestatic 14, 3) := by decide +kernel
theorem dX6_entersPart_5 : decode cX6_entersPart 5 = .ok (.lstore 5, 2) := by decide +kernel
theorem dX6_entersPart_7 : decode cX6_entersPart 7 = .ok (.aload_n 0, 1) := by decide +kernel
theorem dX6_entersPart_8 : decode cX6_entersPart 8 = .ok (.lload_n 1, 1) := by decide +kernel
theorem dX6_entersPart_9 : decode cX6_entersPart 9 = .ok (.lload 5, 2) := by decide +kernel
theorem dX6_entersPart_11 : decode cX6_entersPart 11 = .ok (.ldiv, 1) := by decide +kernel
theorem dX6_entersPart_12 : decode cX6_entersPart 12 = .ok (.invokevirtual 18, 3) := by decide +kernel
theorem dX6_entersPart_15 : decode cX6_entersPart 15 = .ok (.aload_n 0, 1) := by decide +kernel
theorem dX6_entersPart_16 : decode cX6_entersPart 16 = .ok (.lload_n 3, 1) := by decide +kernel
theorem dX6_entersPart_17 : decode cX6_entersPart 17 = .ok (.lload 5, 2) := by decide +kernel
theorem dX6_entersPart_19 : decode cX6_entersPart 19 = .ok (.ldiv, 1) := by decide +kernel
theorem dX6_entersPart_20 : decode cX6_entersPart 20 = .ok (.invokevirtual 18, 3) := by decide +kernel
theorem dX6_entersPart_23 : decode cX6_entersPart 23 = .ok (.return_, 1) := by decide +kernel
def sX6_entersPart (h : Hp) (a1 : Int64) (a3 : Int64) : Option Hp :=
  (sX6_common h a1 a3).bind fun q1 => gd (nzL q1.1) ((sX6_enters q1.2 (a1 / q1.1)).bind fun q3 => gd (nzL q1.1) ((sX6_enters q3 (a3 / q1.1)).bind fun q5 => some q5))
set_option maxRecDepth 10000 in
theorem kX6_entersPart (h : Hp) (a1 : Int64) (a3 : Int64) (q : Hp) (e : sX6_entersPart h a1 a3 = some q) : K 1 mX6_entersPart [.ref 54, .long a1, .long a3] h (pV q) := by
  unfold sX6_entersPart at e
  refine K.ofV (by decide) rfl (Nat.le_of_ble_eq_true rfl) ?_
  show V (Gs 1 (pV q)) mX6_entersPart (0, 0) 0 [(0, .ref 54), (1, .long a1), (3, .long a3)] [] h
  refine V.llq dX6_entersPart_0 (pc' := 1) rfl (j := 1) rfl ?_
  refine V.llq dX6_entersPart_1 (pc' := 2) rfl (j := 2) rfl ?_
  obtain ⟨q1, eq1, e⟩ := bd_s e
  refine V.callSl dX6_entersPart_2 (pc' := 5) rfl CS_X6_14 (as := [.long a1, .long a3]) (kX6_common h a1 a3 q1 eq1) (Gs_rm (by decide)) rfl (Nat.le_of_ble_eq_true rfl) rfl ?_
  refine V.ls dX6_entersPart_5 (pc' := 7) rfl (by decide) rfl (L' := [(5, .long q1.1), (0, .ref 54), (1, .long a1), (3, .long a3)]) rfl ?_
  refine V.alq dX6_entersPart_7 (pc' := 8) rfl (j := 1) rfl ?_
  refine V.llq dX6_entersPart_8 (pc' := 9) rfl (j := 2) rfl ?_
  refine V.ll dX6_entersPart_9 (pc' := 11) rfl (j := 0) rfl ?_
  obtain ⟨c2, e⟩ := gd_s e
  refine V.ldiv dX6_entersPart_11 (pc' := 12) rfl (nzL_t c2) ?_
  obtain ⟨q3, eq3, e⟩ := bd_s e
  refine V.callVv dX6_entersPart_12 (pc' := 15) rfl CV_X6_18 (as := [.long (a1 / q1.1)]) (kX6_enters q1.2 (a1 / q1.1) q3 eq3) (Gs_rm (by decide)) rfl (by decide) rfl (Nat.le_of_ble_eq_true rfl) rfl ?_
  refine V.alq dX6_entersPart_15 (pc' := 16) rfl (j := 1) rfl ?_
  refine V.llq dX6_entersPart_16 (pc' := 17) rfl (j := 3) rfl ?_
  refine V.ll dX6_entersPart_17 (pc' := 19) rfl (j := 0) rfl ?_
  obtain ⟨c4, e⟩ := gd_s e
  refine V.ldiv dX6_entersPart_19 (pc' := 20) rfl (nzL_t c4) ?_
  obtain ⟨q5, eq5, e⟩ := bd_s e
  refine V.callVv dX6_entersPart_20 (pc' := 23) rfl CV_X6_18 (as := [.long (a3 / q1.1)]) (kX6_enters q3 (a3 / q1.1) q5 eq5) (Gs_rm (by decide)) rfl (by decide) rfl (Nat.le_of_ble_eq_true rfl) rfl ?_
  exact V.vret dX6_entersPart_23 rfl (fnV e)

-- X6_end (level 1)
theorem dX6_end_0 : decode cX6_end 0 = .ok (.aload_n 0, 1) := by decide +kernel
theorem dX6_end_1 : decode cX6_end 1 = .ok (.iconst 0, 1) := by decide +kernel
theorem dX6_end_2 : decode cX6_end 2 = .ok (.putfield 1, 3) := by decide +kernel
theorem dX6_end_5 : decode cX6_end 5 = .ok (.iload_n 1, 1) := by decide +kernel
theorem dX6_end_6 : decode cX6_end 6 = .ok (.i2l, 1) := by decide +kernel
theorem dX6_end_7 : decode cX6_end 7 = .ok (.lconst 0, 1) := by decide +kernel
theorem dX6_end_8 : decode cX6_end 8 = .ok (.aload_n 0, 1) := by decide +kernel
theorem dX6_end_9 : decode cX6_end 9 = .ok (.getfield 22, 3) := by decide +kernel
theorem dX6_end_12 : decode cX6_end 12 = .ok (.i2l, 1) := by decide +kernel
theorem dX6_end_13 : decode cX6_end 13 = .ok (.invokestatic 29, 3) := by decide +kernel
theorem dX6_end_16 : decode cX6_end 16 = .ok (.ifCond .ne 5, 3) := by decide +kernel
theorem dX6_end_19 : decode cX6_end 19 = .ok (.iconst 0, 1) := by decide +kernel
theorem dX6_end_20 : decode cX6_end 20 = .ok (.ireturn, 1) := by decide +kernel
theorem dX6_end_21 : decode cX6_end 21 = .ok (.aload_n 0, 1) := by decide +kernel
theorem dX6_end_22 : decode cX6_end 22 = .ok (.iload_n 1, 1) := by decide +kernel
theorem dX6_end_23 : decode cX6_end 23 = .ok (.putfield 22, 3) := by decide +kernel
theorem dX6_end_26 : decode cX6_end 26 = .ok (.iconst 1, 1) := by decide +kernel
theorem dX6_end_27 : decode cX6_end 27 = .ok (.ireturn, 1) := by decide +kernel
def sX6_end (h : Hp) (a1 : Int32) : Option (Int32 × Hp) :=
  nm (u1 h 54 0 (0 : Int32)) fun h1 => (sX6_in h1 a1.toInt64 (0 : Int64) ((h1.1 54 4).toInt64)).bind fun q2 => if q2.1 = 0 then (some ((0 : Int32), q2.2)) else (nm (u1 q2.2 54 4 a1) fun h3 => some ((1 : Int32), h3))
set_option maxRecDepth 10000 in
theorem kX6_end (h : Hp) (a1 : Int32) (q : (Int32 × Hp)) (e : sX6_end h a1 = some q) : K 1 mX6_end [.ref 54, .int a1] h (pI q) := by
  unfold sX6_end at e
  refine K.ofV (by decide) rfl (Nat.le_of_ble_eq_true rfl) ?_
  show V (Gs 1 (pI q)) mX6_end (0, 0) 0 [(0, .ref 54), (1, .int a1)] [] h
  refine V.alq dX6_end_0 (pc' := 1) rfl (j := 0) rfl ?_
  refine V.iconst dX6_end_1 (pc' := 2) rfl (v := 0) (by decide) ?_
  obtain ⟨h1, eh1, e⟩ := nm_s e
  refine V.putf dX6_end_2 (pc' := 5) rfl FP_X6_1 rfl (by decide) rfl eh1 ?_
  refine V.ilq dX6_end_5 (pc' := 6) rfl (j := 1) rfl ?_
  refine V.i2l dX6_end_6 (pc' := 7) rfl ?_
  refine V.lconst dX6_end_7 (pc' := 8) rfl (v := 0) (by decide) ?_
  refine V.alq dX6_end_8 (pc' := 9) rfl (j := 0) rfl ?_
  refine V.getf dX6_end_9 (pc' := 12) rfl FL_X6_22 rfl (by decide) rfl ?_
  refine V.i2l dX6_end_12 (pc' := 13) rfl ?_
  obtain ⟨q2, eq2, e⟩ := bd_s e
  refine V.callSi dX6_end_13 (pc' := 16) rfl CS_X6_29 (as := [.long a1.toInt64, .long (0 : Int64), .long ((h1.1 54 4).toInt64)]) (kX6_in h1 a1.toInt64 (0 : Int64) ((h1.1 54 4).toInt64) q2 eq2) (Gs_rm (by decide)) rfl (Nat.le_of_ble_eq_true rfl) rfl ?_
  refine V.if_ne dX6_end_16 (pc' := 19) rfl (tgt := 21) (by decide) (fun c => ?_) (fun c => ?_)
  · rw [if_neg c] at e
    refine V.alq dX6_end_21 (pc' := 22) rfl (j := 0) rfl ?_
    refine V.ilq dX6_end_22 (pc' := 23) rfl (j := 1) rfl ?_
    obtain ⟨h3, eh3, e⟩ := nm_s e
    refine V.putf dX6_end_23 (pc' := 26) rfl FP_X6_22 rfl (by decide) rfl eh3 ?_
    refine V.iconst dX6_end_26 (pc' := 27) rfl (v := 1) (by decide) ?_
    exact V.zret dX6_end_27 rfl (Or.inr rfl) (fnI e)
  · rw [if_pos c] at e
    refine V.iconst dX6_end_19 (pc' := 20) rfl (v := 0) (by decide) ?_
    exact V.zret dX6_end_20 rfl (Or.inl rfl) (fnI e)

-- X6_takes (level 1)
theorem dX6_takes_0 : decode cX6_takes 0 = .ok (.aload_n 0, 1) := by decide +kernel
theorem dX6_takes_1 : decode cX6_takes 1 = .ok (.getfield 33, 3) := by decide +kernel
theorem dX6_takes_4 : decode cX6_takes 4 = .ok (.aload_n 0, 1) := by decide +kernel
theorem dX6_takes_5 : decode cX6_takes 5 = .ok (.getfield 36, 3) := by decide +kernel
theorem dX6_takes_8 : decode cX6_takes 8 = .ok (.if_icmp .ge 20, 3) := by decide +kernel
theorem dX6_takes_11 : decode cX6_takes 11 = .ok (.aload_n 0, 1) := by decide +kernel
theorem dX6_takes_12 : decode cX6_takes 12 = .ok (.getfield 25, 3) := by decide +kernel
theorem dX6_takes_15 : decode cX6_takes 15 = .ok (.aload_n 0, 1) := by decide +kernel
theorem dX6_takes_16 : decode cX6_takes 16 = .ok (.getfield 33, 3) := by decide +kernel
theorem dX6_takes_19 : decode cX6_takes 19 = .ok (.iaload, 1) := by decide +kernel
theorem dX6_takes_20 : decode cX6_takes 20 = .ok (.iload_n 1, 1) := by decide +kernel
theorem dX6_takes_21 : decode cX6_takes 21 = .ok (.if_icmp .ne 7, 3) := by decide +kernel
theorem dX6_takes_24 : decode cX6_takes 24 = .ok (.iconst 1, 1) := by decide +kernel
theorem dX6_takes_25 : decode cX6_takes 25 = .ok (.goto 4, 3) := by decide +kernel
theorem dX6_takes_28 : decode cX6_takes 28 = .ok (.iconst 0, 1) := by decide +kernel
theorem dX6_takes_29 : decode cX6_takes 29 = .ok (.istore_n 2, 1) := by decide +kernel
theorem dX6_takes_30 : decode cX6_takes 30 = .ok (.aload_n 0, 1) := by decide +kernel
theorem dX6_takes_31 : decode cX6_takes 31 = .ok (.dup, 1) := by decide +kernel
theorem dX6_takes_32 : decode cX6_takes 32 = .ok (.getfield 33, 3) := by decide +kernel
theorem dX6_takes_35 : decode cX6_takes 35 = .ok (.iload_n 2, 1) := by decide +kernel
theorem dX6_takes_36 : decode cX6_takes 36 = .ok (.invokestatic 39, 3) := by decide +kernel
theorem dX6_takes_39 : decode cX6_takes 39 = .ok (.iadd, 1) := by decide +kernel
theorem dX6_takes_40 : decode cX6_takes 40 = .ok (.putfield 33, 3) := by decide +kernel
theorem dX6_takes_43 : decode cX6_takes 43 = .ok (.iload_n 2, 1) := by decide +kernel
theorem dX6_takes_44 : decode cX6_takes 44 = .ok (.ireturn, 1) := by decide +kernel
def sX6_takes_c29 (h : Hp) (t0 : Int32) : Option (Int32 × Hp) :=
  (sX6_flag h t0).bind fun q2 => nm (u1 q2.2 54 5 ((h.1 54 5) + q2.1)) fun h3 => gd (zb t0) (some (t0, h3))
set_option maxRecDepth 10000 in
theorem vX6_takes_c29 (h : Hp) (t0 : Int32) (q : (Int32 × Hp)) (e : sX6_takes_c29 h t0 = some q) : V (Gs 1 (pI q)) mX6_takes (0, 0) 29 [(0, .ref 54)] [.int t0] h := by
  unfold sX6_takes_c29 at e
  refine V.isq dX6_takes_29 (pc' := 30) rfl (by decide) rfl (L' := [(2, .int t0), (0, .ref 54)]) rfl ?_
  refine V.alq dX6_takes_30 (pc' := 31) rfl (j := 1) rfl ?_
  refine V.dup dX6_takes_31 (pc' := 32) rfl rfl ?_
  refine V.getf dX6_takes_32 (pc' := 35) rfl FL_X6_33 rfl (by decide) rfl ?_
  refine V.ilq dX6_takes_35 (pc' := 36) rfl (j := 0) rfl ?_
  obtain ⟨q2, eq2, e⟩ := bd_s e
  refine V.callSi dX6_takes_36 (pc' := 39) rfl CS_X6_39 (as := [.int t0]) (kX6_flag h t0 q2 eq2) (Gs_rm (by decide)) rfl (Nat.le_of_ble_eq_true rfl) rfl ?_
  refine V.iadd dX6_takes_39 (pc' := 40) rfl ?_
  obtain ⟨h3, eh3, e⟩ := nm_s e
  refine V.putf dX6_takes_40 (pc' := 43) rfl FP_X6_33 rfl (by decide) rfl eh3 ?_
  refine V.ilq dX6_takes_43 (pc' := 44) rfl (j := 0) rfl ?_
  obtain ⟨c4, e⟩ := gd_s e
  exact V.zret dX6_takes_44 rfl (zb_t c4) (fnI e)
def sX6_takes_c28 (h : Hp) : Option (Int32 × Hp) :=
  sX6_takes_c29 h (0 : Int32)
set_option maxRecDepth 10000 in
theorem vX6_takes_c28 (h : Hp) (q : (Int32 × Hp)) (e : sX6_takes_c28 h = some q) : V (Gs 1 (pI q)) mX6_takes (0, 0) 28 [(0, .ref 54)] [] h := by
  unfold sX6_takes_c28 at e
  refine V.iconst dX6_takes_28 (pc' := 29) rfl (v := 0) (by decide) ?_
  exact vX6_takes_c29 h (0 : Int32) q e
def sX6_takes (h : Hp) (a1 : Int32) : Option (Int32 × Hp) :=
  if (h.1 54 6) ≤ (h.1 54 5) then (sX6_takes_c28 h) else (gd (inb (h.1 54 5) 120) (if (h.1 56 (h.1 54 5).toNatClampNeg) = a1 then (sX6_takes_c29 h (1 : Int32)) else (sX6_takes_c28 h)))
set_option maxRecDepth 10000 in
theorem kX6_takes (h : Hp) (a1 : Int32) (q : (Int32 × Hp)) (e : sX6_takes h a1 = some q) : K 1 mX6_takes [.ref 54, .int a1] h (pI q) := by
  unfold sX6_takes at e
  refine K.ofV (by decide) rfl (Nat.le_of_ble_eq_true rfl) ?_
  show V (Gs 1 (pI q)) mX6_takes (0, 0) 0 [(0, .ref 54), (1, .int a1)] [] h
  refine V.alq dX6_takes_0 (pc' := 1) rfl (j := 0) rfl ?_
  refine V.getf dX6_takes_1 (pc' := 4) rfl FL_X6_33 rfl (by decide) rfl ?_
  refine V.alq dX6_takes_4 (pc' := 5) rfl (j := 0) rfl ?_
  refine V.getf dX6_takes_5 (pc' := 8) rfl FL_X6_36 rfl (by decide) rfl ?_
  refine V.ic_ge dX6_takes_8 (pc' := 11) rfl (tgt := 28) (by decide) (fun c => ?_) (fun c => ?_)
  · rw [if_pos c] at e
    refine V.pk [0] rfl ?_
    exact vX6_takes_c28 h q e
  · rw [if_neg c] at e
    refine V.alq dX6_takes_11 (pc' := 12) rfl (j := 0) rfl ?_
    refine V.getr dX6_takes_12 (pc' := 15) rfl FL_X6_25 rfl (by decide) rfl (r' := 56) rfl ?_
    refine V.alq dX6_takes_15 (pc' := 16) rfl (j := 0) rfl ?_
    refine V.getf dX6_takes_16 (pc' := 19) rfl FL_X6_33 rfl (by decide) rfl ?_
    obtain ⟨c1, e⟩ := gd_s e
    refine V.iald dX6_takes_19 (pc' := 20) rfl rfl rfl (inb_t c1) ?_
    refine V.ilq dX6_takes_20 (pc' := 21) rfl (j := 1) rfl ?_
    refine V.ic_ne dX6_takes_21 (pc' := 24) rfl (tgt := 28) (by decide) (fun c => ?_) (fun c => ?_)
    · rw [if_neg c] at e
      refine V.pk [0] rfl ?_
      exact vX6_takes_c28 h q e
    · rw [if_pos c] at e
      refine V.iconst dX6_takes_24 (pc' := 25) rfl (v := 1) (by decide) ?_
      refine V.goto dX6_takes_25 (pc' := 29) (by decide) ?_
      refine V.pk [0] rfl ?_
      exact vX6_takes_c29 h (1 : Int32) q e

-- X6_isDigit (level 1)
theorem dX6_isDigit_0 : decode cX6_isDigit 0 = .ok (.aload_n 0, 1) := by decide +kernel
theorem dX6_isDigit_1 : decode cX6_isDigit 1 = .ok (.getfield 33, 3) := by decide +kernel
theorem dX6_isDigit_4 : decode cX6_isDigit 4 = .ok (.aload_n 0, 1) := by decide +kernel
theorem dX6_isDigit_5 : decode cX6_isDigit 5 = .ok (.getfield 36, 3) := by decide +kernel
theorem dX6_isDigit_8 : decode cX6_isDigit 8 = .ok (.if_icmp .ge 29, 3) := by decide +kernel
theorem dX6_isDigit_11 : decode cX6_isDigit 11 = .ok (.aload_n 0, 1) := by decide +kernel
theorem dX6_isDigit_12 : decode cX6_isDigit 12 = .ok (.getfield 25, 3) := by decide +kernel
theorem dX6_isDigit_15 : decode cX6_isDigit 15 = .ok (.aload_n 0, 1) := by decide +kernel
theorem dX6_isDigit_16 : decode cX6_isDigit 16 = .ok (.getfield 33, 3) := by decide +kernel
theorem dX6_isDigit_19 : decode cX6_isDigit 19 = .ok (.iaload, 1) := by decide +kernel
theorem dX6_isDigit_20 : decode cX6_isDigit 20 = .ok (.i2l, 1) := by decide +kernel
theorem dX6_isDigit_21 : decode cX6_isDigit 21 = .ok (.ldc2_w 43, 3) := by decide +kernel
theorem dX6_isDigit_24 : decode cX6_isDigit 24 = .ok (.ldc2_w 45, 3) := by decide +kernel
theorem dX6_isDigit_27 : decode cX6_isDigit 27 = .ok (.invokestatic 29, 3) := by decide +kernel
theorem dX6_isDigit_30 : decode cX6_isDigit 30 = .ok (.ifCond .eq 7, 3) := by decide +kernel
theorem dX6_isDigit_33 : decode cX6_isDigit 33 = .ok (.iconst 1, 1) := by decide +kernel
theorem dX6_isDigit_34 : decode cX6_isDigit 34 = .ok (.goto 4, 3) := by decide +kernel
theorem dX6_isDigit_37 : decode cX6_isDigit 37 = .ok (.iconst 0, 1) := by decide +kernel
theorem dX6_isDigit_38 : decode cX6_isDigit 38 = .ok (.ireturn, 1) := by decide +kernel
def sX6_isDigit_c38 (h : Hp) (t0 : Int32) : Option (Int32 × Hp) :=
  gd (zb t0) (some (t0, h))
set_option maxRecDepth 10000 in
theorem vX6_isDigit_c38 (h : Hp) (t0 : Int32) (q : (Int32 × Hp)) (e : sX6_isDigit_c38 h t0 = some q) : V (Gs 1 (pI q)) mX6_isDigit (0, 0) 38 [] [.int t0] h := by
  unfold sX6_isDigit_c38 at e
  obtain ⟨c3, e⟩ := gd_s e
  exact V.zret dX6_isDigit_38 rfl (zb_t c3) (fnI e)
def sX6_isDigit_c37 (h : Hp) : Option (Int32 × Hp) :=
  sX6_isDigit_c38 h (0 : Int32)
set_option maxRecDepth 10000 in
theorem vX6_isDigit_c37 (h : Hp) (q : (Int32 × Hp)) (e : sX6_isDigit_c37 h = some q) : V (Gs 1 (pI q)) mX6_isDigit (0, 0) 37 [] [] h := by
  unfold sX6_isDigit_c37 at e
  refine V.iconst dX6_isDigit_37 (pc' := 38) rfl (v := 0) (by decide) ?_
  exact vX6_isDigit_c38 h (0 : Int32) q e
def sX6_isDigit (h : Hp) : Option (Int32 × Hp) :=
  if (h.1 54 6) ≤ (h.1 54 5) then (sX6_isDigit_c37 h) else (gd (inb (h.1 54 5) 120) ((sX6_in h ((h.1 56 (h.1 54 5).toNatClampNeg).toInt64) (48 : Int64) (57 : Int64)).bind fun q2 => if q2.1 = 0 then (sX6_isDigit_c37 q2.2) else (sX6_isDigit_c38 q2.2 (1 : Int32))))
set_option maxRecDepth 10000 in
theorem kX6_isDigit (h : Hp) (q : (Int32 × Hp)) (e : sX6_isDigit h = some q) : K 1 mX6_isDigit [.ref 54] h (pI q) := by
  unfold sX6_isDigit at e
  refine K.ofV (by decide) rfl (Nat.le_of_ble_eq_true rfl) ?_
  show V (Gs 1 (pI q)) mX6_isDigit (0, 0) 0 [(0, .ref 54)] [] h
  refine V.alq dX6_isDigit_0 (pc' := 1) rfl (j := 0) rfl ?_
  refine V.getf dX6_isDigit_1 (pc' := 4) rfl FL_X6_33 rfl (by decide) rfl ?_
  refine V.alq dX6_isDigit_4 (pc' := 5) rfl (j := 0) rfl ?_
  refine V.getf dX6_isDigit_5 (pc' := 8) rfl FL_X6_36 rfl (by decide) rfl ?_
  refine V.ic_ge dX6_isDigit_8 (pc' := 11) rfl (tgt := 37) (by decide) (fun c => ?_) (fun c => ?_)
  · rw [if_pos c] at e
    refine V.pk [] rfl ?_
    exact vX6_isDigit_c37 h q e
  · rw [if_neg c] at e
    refine V.alq dX6_isDigit_11 (pc' := 12) rfl (j := 0) rfl ?_
    refine V.getr dX6_isDigit_12 (pc' := 15) rfl FL_X6_25 rfl (by decide) rfl (r' := 56) rfl ?_
    refine V.alq dX6_isDigit_15 (pc' := 16) rfl (j := 0) rfl ?_
    refine V.getf dX6_isDigit_16 (pc' := 19) rfl FL_X6_33 rfl (by decide) rfl ?_
    obtain ⟨c1, e⟩ := gd_s e
    refine V.iald dX6_isDigit_19 (pc' := 20) rfl rfl rfl (inb_t c1) ?_
    refine V.i2l dX6_isDigit_20 (pc' := 21) rfl ?_
    refine V.ldc2 dX6_isDigit_21 (pc' := 24) rfl (v := 48) (TBm 1025 (by decide +kernel) rfl) ?_
    refine V.ldc2 dX6_isDigit_24 (pc' := 27) rfl (v := 57) (TBm 1026 (by decide +kernel) rfl) ?_
    obtain ⟨q2, eq2, e⟩ := bd_s e
    refine V.callSi dX6_isDigit_27 (pc' := 30) rfl CS_X6_29 (as := [.long ((h.1 56 (h.1 54 5).toNatClampNeg).toInt64), .long (48 : Int64), .long (57 : Int64)]) (kX6_in h ((h.1 56 (h.1 54 5).toNatClampNeg).toInt64) (48 : Int64) (57 : Int64) q2 eq2) (Gs_rm (by decide)) rfl (Nat.le_of_ble_eq_true rfl) rfl ?_
    refine V.if_eq dX6_isDigit_30 (pc' := 33) rfl (tgt := 37) (by decide) (fun c => ?_) (fun c => ?_)
    · rw [if_pos c] at e
      refine V.pk [] rfl ?_
      exact vX6_isDigit_c37 q2.2 q e
    · rw [if_neg c] at e
      refine V.iconst dX6_isDigit_33 (pc' := 34) rfl (v := 1) (by decide) ?_
      refine V.goto dX6_isDigit_34 (pc' := 38) (by decide) ?_
      refine V.pk [] rfl ?_
      exact vX6_isDigit_c38 q2.2 (1 : Int32) q e

-- X6_isFit (level 1)
theorem dX6_isFit_0 : decode cX6_isFit 0 = .ok (.aload_n 0, 1) := by decide +kernel
theorem dX6_isFit_1 : decode cX6_isFit 1 = .ok (.dup, 1) := by decide +kernel
theorem dX6_isFit_2 : decode cX6_isFit 2 = .ok (.getfield 33, 3) := by decide +kernel
theorem dX6_isFit_5 : decode cX6_isFit 5 = .ok (.iload_n 1, 1) := by decide +kernel
theorem dX6_isFit_6 : decode cX6_isFit 6 = .ok (.ifCond .ne 7, 3) := by decide +kernel
theorem dX6_isFit_9 : decode cX6_isFit 9 = .ok (.iconst 1, 1) := by decide +kernel
theorem dX6_isFit_10 : decode cX6_isFit 10 = .ok (.goto 4, 3) := by decide +kernel
theorem dX6_isFit_13 : decode cX6_isFit 13 = .ok (.iconst 0, 1) := by decide +kernel
theorem dX6_isFit_14 : decode cX6_isFit 14 = .ok (.invokestatic 39, 3) := by decide +kernel
theorem dX6_isFit_17 : decode cX6_isFit 17 = .ok (.isub, 1) := by decide +kernel
theorem dX6_isFit_18 : decode cX6_isFit 18 = .ok (.putfield 33, 3) := by decide +kernel
theorem dX6_isFit_21 : decode cX6_isFit 21 = .ok (.iload_n 1, 1) := by decide +kernel
theorem dX6_isFit_22 : decode cX6_isFit 22 = .ok (.ireturn, 1) := by decide +kernel
def sX6_isFit_c14 (h : Hp) (v1 : Int32) (t0 : Int32) (t1 : Int32) : Option (Int32 × Hp) :=
  (sX6_flag h t0).bind fun q1 => nm (u1 q1.2 54 5 (t1 - q1.1)) fun h2 => gd (zb v1) (some (v1, h2))
set_option maxRecDepth 10000 in
theorem vX6_isFit_c14 (h : Hp) (v1 : Int32) (t0 : Int32) (t1 : Int32) (q : (Int32 × Hp)) (e : sX6_isFit_c14 h v1 t0 t1 = some q) : V (Gs 1 (pI q)) mX6_isFit (0, 0) 14 [(1, .int v1)] [.int t0, .int t1, .ref 54] h := by
  unfold sX6_isFit_c14 at e
  obtain ⟨q1, eq1, e⟩ := bd_s e
  refine V.callSi dX6_isFit_14 (pc' := 17) rfl CS_X6_39 (as := [.int t0]) (kX6_flag h t0 q1 eq1) (Gs_rm (by decide)) rfl (Nat.le_of_ble_eq_true rfl) rfl ?_
  refine V.isub dX6_isFit_17 (pc' := 18) rfl ?_
  obtain ⟨h2, eh2, e⟩ := nm_s e
  refine V.putf dX6_isFit_18 (pc' := 21) rfl FP_X6_33 rfl (by decide) rfl eh2 ?_
  refine V.ilq dX6_isFit_21 (pc' := 22) rfl (j := 0) rfl ?_
  obtain ⟨c3, e⟩ := gd_s e
  exact V.zret dX6_isFit_22 rfl (zb_t c3) (fnI e)
def sX6_isFit (h : Hp) (a1 : Int32) : Option (Int32 × Hp) :=
  if a1 = 0 then (sX6_isFit_c14 h a1 (1 : Int32) (h.1 54 5)) else (sX6_isFit_c14 h a1 (0 : Int32) (h.1 54 5))
set_option maxRecDepth 10000 in
theorem kX6_isFit (h : Hp) (a1 : Int32) (q : (Int32 × Hp)) (e : sX6_isFit h a1 = some q) : K 1 mX6_isFit [.ref 54, .int a1] h (pI q) := by
  unfold sX6_isFit at e
  refine K.ofV (by decide) rfl (Nat.le_of_ble_eq_true rfl) ?_
  show V (Gs 1 (pI q)) mX6_isFit (0, 0) 0 [(0, .ref 54), (1, .int a1)] [] h
  refine V.alq dX6_isFit_0 (pc' := 1) rfl (j := 0) rfl ?_
  refine V.dup dX6_isFit_1 (pc' := 2) rfl rfl ?_
  refine V.getf dX6_isFit_2 (pc' := 5) rfl FL_X6_33 rfl (by decide) rfl ?_
  refine V.ilq dX6_isFit_5 (pc' := 6) rfl (j := 1) rfl ?_
  refine V.if_ne dX6_isFit_6 (pc' := 9) rfl (tgt := 13) (by decide) (fun c => ?_) (fun c => ?_)
  · rw [if_neg c] at e
    refine V.iconst dX6_isFit_13 (pc' := 14) rfl (v := 0) (by decide) ?_
    refine V.pk [1] rfl ?_
    exact vX6_isFit_c14 h a1 (0 : Int32) (h.1 54 5) q e
  · rw [if_pos c] at e
    refine V.iconst dX6_isFit_9 (pc' := 10) rfl (v := 1) (by decide) ?_
    refine V.goto dX6_isFit_10 (pc' := 14) (by decide) ?_
    refine V.pk [1] rfl ?_
    exact vX6_isFit_c14 h a1 (1 : Int32) (h.1 54 5) q e

-- X6_isStream (level 1)
theorem dX6_isStream_0 : decode cX6_isStream 0 = .ok (.iload_n 1, 1) := by decide +kernel
theorem dX6_isStream_1 : decode cX6_isStream 1 = .ok (.i2l, 1) := by decide +kernel
theorem dX6_isStream_2 : decode cX6_isStream 2 = .ok (.lconst 0, 1) := by decide +kernel
theorem dX6_isStream_3 : decode cX6_isStream 3 = .ok (.aload_n 0, 1) := by decide +kernel
theorem dX6_isStream_4 : decode cX6_isStream 4 = .ok (.getfield 131, 3) := by decide +kernel
theorem dX6_isStream_7 : decode cX6_isStream 7 = .ok (.iconst 1, 1) := by decide +kernel
theorem dX6_isStream_8 : decode cX6_isStream 8 = .ok (.isub, 1) := by decide +kernel
theorem dX6_isStream_9 : decode cX6_isStream 9 = .ok (.i2l, 1) := by decide +kernel
theorem dX6_isStream_10 : decode cX6_isStream 10 = .ok (.invokestatic 29, 3) := by decide +kernel
theorem dX6_isStream_13 : decode cX6_isStream 13 = .ok (.ireturn, 1) := by decide +kernel
def sX6_isStream (h : Hp) (a1 : Int32) : Option (Int32 × Hp) :=
  (sX6_in h a1.toInt64 (0 : Int64) (((h.1 54 7) - (1 : Int32)).toInt64)).bind fun q1 => gd (zb q1.1) (some (q1.1, q1.2))
set_option maxRecDepth 10000 in
theorem kX6_isStream (h : Hp) (a1 : Int32) (q : (Int32 × Hp)) (e : sX6_isStream h a1 = some q) : K 1 mX6_isStream [.ref 54, .int a1] h (pI q) := by
  unfold sX6_isStream at e
  refine K.ofV (by decide) rfl (Nat.le_of_ble_eq_true rfl) ?_
  show V (Gs 1 (pI q)) mX6_isStream (0, 0) 0 [(0, .ref 54), (1, .int a1)] [] h
  refine V.ilq dX6_isStream_0 (pc' := 1) rfl (j := 1) rfl ?_
  refine V.i2l dX6_isStream_1 (pc' := 2) rfl ?_
  refine V.lconst dX6_isStream_2 (pc' := 3) rfl (v := 0) (by decide) ?_
  refine V.alq dX6_isStream_3 (pc' := 4) rfl (j := 0) rfl ?_
  refine V.getf dX6_isStream_4 (pc' := 7) rfl FL_X6_131 rfl (by decide) rfl ?_
  refine V.iconst dX6_isStream_7 (pc' := 8) rfl (v := 1) (by decide) ?_
  refine V.isub dX6_isStream_8 (pc' := 9) rfl ?_
  refine V.i2l dX6_isStream_9 (pc' := 10) rfl ?_
  obtain ⟨q1, eq1, e⟩ := bd_s e
  refine V.callSi dX6_isStream_10 (pc' := 13) rfl CS_X6_29 (as := [.long a1.toInt64, .long (0 : Int64), .long (((h.1 54 7) - (1 : Int32)).toInt64)]) (kX6_in h a1.toInt64 (0 : Int64) (((h.1 54 7) - (1 : Int32)).toInt64) q1 eq1) (Gs_rm (by decide)) rfl (Nat.le_of_ble_eq_true rfl) rfl ?_
  obtain ⟨c2, e⟩ := gd_s e
  exact V.zret dX6_isStream_13 rfl (zb_t c2) (fnI e)

-- X6_wouldTurn (level 1)
theorem dX6_wouldTurn_0 : decode cX6_wouldTurn 0 = .ok (.iload_n 2, 1) := by decide +kernel
theorem dX6_wouldTurn_1 : decode cX6_wouldTurn 1 = .ok (.ifCond .ne 7, 3) := by decide +kernel
theorem dX6_wouldTurn_4 : decode cX6_wouldTurn 4 = .ok (.iload_n 3, 1) := by decide +kernel
theorem dX6_wouldTurn_5 : decode cX6_wouldTurn 5 = .ok (.goto 9, 3) := by decide +kernel
theorem dX6_wouldTurn_8 : decode cX6_wouldTurn 8 = .ok (.aload_n 0, 1) := by decide +kernel
theorem dX6_wouldTurn_9 : decode cX6_wouldTurn 9 = .ok (.getfield 57, 3) := by decide +kernel
theorem dX6_wouldTurn_12 : decode cX6_wouldTurn 12 = .ok (.iload_n 1, 1) := by decide +kernel
theorem dX6_wouldTurn_13 : decode cX6_wouldTurn 13 = .ok (.iaload, 1) := by decide +kernel
theorem dX6_wouldTurn_14 : decode cX6_wouldTurn 14 = .ok (.istore 4, 2) := by decide +kernel
theorem dX6_wouldTurn_16 : decode cX6_wouldTurn 16 = .ok (.iload_n 2, 1) := by decide +kernel
theorem dX6_wouldTurn_17 : decode cX6_wouldTurn 17 = .ok (.iconst 1, 1) := by decide +kernel
theorem dX6_wouldTurn_18 : decode cX6_wouldTurn 18 = .ok (.if_icmp .ne 7, 3) := by decide +kernel
theorem dX6_wouldTurn_21 : decode cX6_wouldTurn 21 = .ok (.iload_n 3, 1) := by decide +kernel
theorem dX6_wouldTurn_22 : decode cX6_wouldTurn 22 = .ok (.goto 9, 3) := by decide +kernel
theorem dX6_wouldTurn_25 : decode cX6_wouldTurn 25 = .ok (.aload_n 0, 1) := by decide +kernel
theorem dX6_wouldTurn_26 : decode cX6_wouldTurn 26 = .ok (.getfield 60, 3) := by decide +kernel
theorem dX6_wouldTurn_29 : decode cX6_wouldTurn 29 = .ok (.iload_n 1, 1) := by decide +kernel
theorem dX6_wouldTurn_30 : decode cX6_wouldTurn 30 = .ok (.iaload, 1) := by decide +kernel
theorem dX6_wouldTurn_31 : decode cX6_wouldTurn 31 = .ok (.istore 5, 2) := by decide +kernel
theorem dX6_wouldTurn_33 : decode cX6_wouldTurn 33 = .ok (.aload_n 0, 1) := by decide +kernel
theorem dX6_wouldTurn_34 : decode cX6_wouldTurn 34 = .ok (.iload_n 1, 1) := by decide +kernel
theorem dX6_wouldTurn_35 : decode cX6_wouldTurn 35 = .ok (.invokevirtual 144, 3) := by decide +kernel
theorem dX6_wouldTurn_38 : decode cX6_wouldTurn 38 = .ok (.ifCond .eq 18, 3) := by decide +kernel
theorem dX6_wouldTurn_41 : decode cX6_wouldTurn 41 = .ok (.iload 4, 2) := by decide +kernel
theorem dX6_wouldTurn_43 : decode cX6_wouldTurn 43 = .ok (.iload 5, 2) := by decide +kernel
theorem dX6_wouldTurn_45 : decode cX6_wouldTurn 45 = .ok (.if_icmp .gt 7, 3) := by decide +kernel
theorem dX6_wouldTurn_48 : decode cX6_wouldTurn 48 = .ok (.iconst 1, 1) := by decide +kernel
theorem dX6_wouldTurn_49 : decode cX6_wouldTurn 49 = .ok (.goto 19, 3) := by decide +kernel
theorem dX6_wouldTurn_52 : decode cX6_wouldTurn 52 = .ok (.iconst 0, 1) := by decide +kernel
theorem dX6_wouldTurn_53 : decode cX6_wouldTurn 53 = .ok (.goto 15, 3) := by decide +kernel
theorem dX6_wouldTurn_56 : decode cX6_wouldTurn 56 = .ok (.iload 4, 2) := by decide +kernel
theorem dX6_wouldTurn_58 : decode cX6_wouldTurn 58 = .ok (.iload 5, 2) := by decide +kernel
theorem dX6_wouldTurn_60 : decode cX6_wouldTurn 60 = .ok (.if_icmp .lt 7, 3) := by decide +kernel
theorem dX6_wouldTurn_63 : decode cX6_wouldTurn 63 = .ok (.iconst 1, 1) := by decide +kernel
theorem dX6_wouldTurn_64 : decode cX6_wouldTurn 64 = .ok (.goto 4, 3) := by decide +kernel
theorem dX6_wouldTurn_67 : decode cX6_wouldTurn 67 = .ok (.iconst 0, 1) := by decide +kernel
theorem dX6_wouldTurn_68 : decode cX6_wouldTurn 68 = .ok (.ireturn, 1) := by decide +kernel
def sX6_wouldTurn_c68 (h : Hp) (t0 : Int32) : Option (Int32 × Hp) :=
  gd (zb t0) (some (t0, h))
set_option maxRecDepth 10000 in
theorem vX6_wouldTurn_c68 (h : Hp) (t0 : Int32) (q : (Int32 × Hp)) (e : sX6_wouldTurn_c68 h t0 = some q) : V (Gs 1 (pI q)) mX6_wouldTurn (0, 0) 68 [] [.int t0] h := by
  unfold sX6_wouldTurn_c68 at e
  obtain ⟨c4, e⟩ := gd_s e
  exact V.zret dX6_wouldTurn_68 rfl (zb_t c4) (fnI e)
def sX6_wouldTurn_c31 (h : Hp) (v1 : Int32) (v4 : Int32) (t0 : Int32) : Option (Int32 × Hp) :=
  (sX6_isHot h v1).bind fun q3 => if q3.1 = 0 then (if v4 < t0 then (sX6_wouldTurn_c68 q3.2 (0 : Int32)) else (sX6_wouldTurn_c68 q3.2 (1 : Int32))) else (if t0 < v4 then (sX6_wouldTurn_c68 q3.2 (0 : Int32)) else (sX6_wouldTurn_c68 q3.2 (1 : Int32)))
set_option maxRecDepth 10000 in
theorem vX6_wouldTurn_c31 (h : Hp) (v1 : Int32) (v4 : Int32) (t0 : Int32) (q : (Int32 × Hp)) (e : sX6_wouldTurn_c31 h v1 v4 t0 = some q) : V (Gs 1 (pI q)) mX6_wouldTurn (0, 0) 31 [(0, .ref 54), (1, .int v1), (4, .int v4)] [.int t0] h := by
  unfold sX6_wouldTurn_c31 at e
  refine V.is dX6_wouldTurn_31 (pc' := 33) rfl (by decide) rfl (L' := [(5, .int t0), (0, .ref 54), (1, .int v1), (4, .int v4)]) rfl ?_
  refine V.alq dX6_wouldTurn_33 (pc' := 34) rfl (j := 1) rfl ?_
  refine V.ilq dX6_wouldTurn_34 (pc' := 35) rfl (j := 2) rfl ?_
  obtain ⟨q3, eq3, e⟩ := bd_s e
  refine V.callVi dX6_wouldTurn_35 (pc' := 38) rfl CV_X6_144 (as := [.int v1]) (kX6_isHot h v1 q3 eq3) (Gs_rm (by decide)) rfl (by decide) rfl (Nat.le_of_ble_eq_true rfl) rfl ?_
  refine V.if_eq dX6_wouldTurn_38 (pc' := 41) rfl (tgt := 56) (by decide) (fun c => ?_) (fun c => ?_)
  · rw [if_pos c] at e
    refine V.il dX6_wouldTurn_56 (pc' := 58) rfl (j := 3) rfl ?_
    refine V.il dX6_wouldTurn_58 (pc' := 60) rfl (j := 0) rfl ?_
    refine V.ic_lt dX6_wouldTurn_60 (pc' := 63) rfl (tgt := 67) (by decide) (fun c => ?_) (fun c => ?_)
    · rw [if_pos c] at e
      refine V.iconst dX6_wouldTurn_67 (pc' := 68) rfl (v := 0) (by decide) ?_
      refine V.pk [] rfl ?_
      exact vX6_wouldTurn_c68 q3.2 (0 : Int32) q e
    · rw [if_neg c] at e
      refine V.iconst dX6_wouldTurn_63 (pc' := 64) rfl (v := 1) (by decide) ?_
      refine V.goto dX6_wouldTurn_64 (pc' := 68) (by decide) ?_
      refine V.pk [] rfl ?_
      exact vX6_wouldTurn_c68 q3.2 (1 : Int32) q e
  · rw [if_neg c] at e
    refine V.il dX6_wouldTurn_41 (pc' := 43) rfl (j := 3) rfl ?_
    refine V.il dX6_wouldTurn_43 (pc' := 45) rfl (j := 0) rfl ?_
    refine V.ic_gt dX6_wouldTurn_45 (pc' := 48) rfl (tgt := 52) (by decide) (fun c => ?_) (fun c => ?_)
    · rw [if_pos c] at e
      refine V.iconst dX6_wouldTurn_52 (pc' := 53) rfl (v := 0) (by decide) ?_
      refine V.goto dX6_wouldTurn_53 (pc' := 68) (by decide) ?_
      refine V.pk [] rfl ?_
      exact vX6_wouldTurn_c68 q3.2 (0 : Int32) q e
    · rw [if_neg c] at e
      refine V.iconst dX6_wouldTurn_48 (pc' := 49) rfl (v := 1) (by decide) ?_
      refine V.goto dX6_wouldTurn_49 (pc' := 68) (by decide) ?_
      refine V.pk [] rfl ?_
      exact vX6_wouldTurn_c68 q3.2 (1 : Int32) q e
def sX6_wouldTurn_c14 (h : Hp) (v1 : Int32) (v2 : Int32) (v3 : Int32) (t0 : Int32) : Option (Int32 × Hp) :=
  if v2 = (1 : Int32) then (sX6_wouldTurn_c31 h v1 t0 v3) else (gd (inb v1 10) (sX6_wouldTurn_c31 h v1 t0 (h.1 58 v1.toNatClampNeg)))
set_option maxRecDepth 10000 in
theorem vX6_wouldTurn_c14 (h : Hp) (v1 : Int32) (v2 : Int32) (v3 : Int32) (t0 : Int32) (q : (Int32 × Hp)) (e : sX6_wouldTurn_c14 h v1 v2 v3 t0 = some q) : V (Gs 1 (pI q)) mX6_wouldTurn (0, 0) 14 [(0, .ref 54), (1, .int v1), (2, .int v2), (3, .int v3)] [.int t0] h := by
  unfold sX6_wouldTurn_c14 at e
  refine V.is dX6_wouldTurn_14 (pc' := 16) rfl (by decide) rfl (L' := [(4, .int t0), (0, .ref 54), (1, .int v1), (2, .int v2), (3, .int v3)]) rfl ?_
  refine V.ilq dX6_wouldTurn_16 (pc' := 17) rfl (j := 3) rfl ?_
  refine V.iconst dX6_wouldTurn_17 (pc' := 18) rfl (v := 1) (by decide) ?_
  refine V.ic_ne dX6_wouldTurn_18 (pc' := 21) rfl (tgt := 25) (by decide) (fun c => ?_) (fun c => ?_)
  · rw [if_neg c] at e
    refine V.alq dX6_wouldTurn_25 (pc' := 26) rfl (j := 1) rfl ?_
    refine V.getr dX6_wouldTurn_26 (pc' := 29) rfl FL_X6_60 rfl (by decide) rfl (r' := 58) rfl ?_
    refine V.ilq dX6_wouldTurn_29 (pc' := 30) rfl (j := 2) rfl ?_
    obtain ⟨c2, e⟩ := gd_s e
    refine V.iald dX6_wouldTurn_30 (pc' := 31) rfl rfl rfl (inb_t c2) ?_
    refine V.pk [1, 2, 0] rfl ?_
    exact vX6_wouldTurn_c31 h v1 t0 (h.1 58 v1.toNatClampNeg) q e
  · rw [if_pos c] at e
    refine V.ilq dX6_wouldTurn_21 (pc' := 22) rfl (j := 4) rfl ?_
    refine V.goto dX6_wouldTurn_22 (pc' := 31) (by decide) ?_
    refine V.pk [1, 2, 0] rfl ?_
    exact vX6_wouldTurn_c31 h v1 t0 v3 q e
def sX6_wouldTurn (h : Hp) (a1 : Int32) (a2 : Int32) (a3 : Int32) : Option (Int32 × Hp) :=
  if a2 = 0 then (sX6_wouldTurn_c14 h a1 a2 a3 a3) else (gd (inb a1 10) (sX6_wouldTurn_c14 h a1 a2 a3 (h.1 57 a1.toNatClampNeg)))
set_option maxRecDepth 10000 in
theorem kX6_wouldTurn (h : Hp) (a1 : Int32) (a2 : Int32) (a3 : Int32) (q : (Int32 × Hp)) (e : sX6_wouldTurn h a1 a2 a3 = some q) : K 1 mX6_wouldTurn [.ref 54, .int a1, .int a2, .int a3] h (pI q) := by
  unfold sX6_wouldTurn at e
  refine K.ofV (by decide) rfl (Nat.le_of_ble_eq_true rfl) ?_
  show V (Gs 1 (pI q)) mX6_wouldTurn (0, 0) 0 [(0, .ref 54), (1, .int a1), (2, .int a2), (3, .int a3)] [] h
  refine V.ilq dX6_wouldTurn_0 (pc' := 1) rfl (j := 2) rfl ?_
  refine V.if_ne dX6_wouldTurn_1 (pc' := 4) rfl (tgt := 8) (by decide) (fun c => ?_) (fun c => ?_)
  · rw [if_neg c] at e
    refine V.alq dX6_wouldTurn_8 (pc' := 9) rfl (j := 0) rfl ?_
    refine V.getr dX6_wouldTurn_9 (pc' := 12) rfl FL_X6_57 rfl (by decide) rfl (r' := 57) rfl ?_
    refine V.ilq dX6_wouldTurn_12 (pc' := 13) rfl (j := 1) rfl ?_
    obtain ⟨c1, e⟩ := gd_s e
    refine V.iald dX6_wouldTurn_13 (pc' := 14) rfl rfl rfl (inb_t c1) ?_
    exact vX6_wouldTurn_c14 h a1 a2 a3 (h.1 57 a1.toNatClampNeg) q e
  · rw [if_pos c] at e
    refine V.ilq dX6_wouldTurn_4 (pc' := 5) rfl (j := 3) rfl ?_
    refine V.goto dX6_wouldTurn_5 (pc' := 14) (by decide) ?_
    exact vX6_wouldTurn_c14 h a1 a2 a3 a3 q e

-- X6_gap (level 1)
theorem dX6_gap_0 : decode cX6_gap 0 = .ok (.aload_n 0, 1) := by decide +kernel
theorem dX6_gap_1 : decode cX6_gap 1 = .ok (.iconst 0, 1) := by decide +kernel
theorem dX6_gap_2 : decode cX6_gap 2 = .ok (.putfield 1, 3) := by decide +kernel
theorem dX6_gap_5 : decode cX6_gap 5 = .ok (.iload_n 1, 1) := by decide +kernel
theorem dX6_gap_6 : decode cX6_gap 6 = .ok (.i2l, 1) := by decide +kernel
theorem dX6_gap_7 : decode cX6_gap 7 = .ok (.lconst 0, 1) := by decide +kernel
theorem dX6_gap_8 : decode cX6_gap 8 = .ok (.ldc2_w 162, 3) := by decide +kernel
theorem dX6_gap_11 : decode cX6_gap 11 = .ok (.invokestatic 29, 3) := by decide +kernel
theorem dX6_gap_14 : decode cX6_gap 14 = .ok (.ifCond .ne 5, 3) := by decide +kernel
theorem dX6_gap_17 : decode cX6_gap 17 = .ok (.iconst (-1), 1) := by decide +kernel
theorem dX6_gap_18 : decode cX6_gap 18 = .ok (.ireturn, 1) := by decide +kernel
theorem dX6_gap_19 : decode cX6_gap 19 = .ok (.aload_n 0, 1) := by decide +kernel
theorem dX6_gap_20 : decode cX6_gap 20 = .ok (.getfield 66, 3) := by decide +kernel
theorem dX6_gap_23 : decode cX6_gap 23 = .ok (.iload_n 1, 1) := by decide +kernel
theorem dX6_gap_24 : decode cX6_gap 24 = .ok (.if_icmp .ne 6, 3) := by decide +kernel
theorem dX6_gap_27 : decode cX6_gap 27 = .ok (.bipush (-2), 2) := by decide +kernel
theorem dX6_gap_29 : decode cX6_gap 29 = .ok (.ireturn, 1) := by decide +kernel
theorem dX6_gap_30 : decode cX6_gap 30 = .ok (.aload_n 0, 1) := by decide +kernel
theorem dX6_gap_31 : decode cX6_gap 31 = .ok (.getfield 66, 3) := by decide +kernel
theorem dX6_gap_34 : decode cX6_gap 34 = .ok (.istore_n 2, 1) := by decide +kernel
theorem dX6_gap_35 : decode cX6_gap 35 = .ok (.aload_n 0, 1) := by decide +kernel
theorem dX6_gap_36 : decode cX6_gap 36 = .ok (.iload_n 1, 1) := by decide +kernel
theorem dX6_gap_37 : decode cX6_gap 37 = .ok (.putfield 66, 3) := by decide +kernel
theorem dX6_gap_40 : decode cX6_gap 40 = .ok (.aload_n 0, 1) := by decide +kernel
theorem dX6_gap_41 : decode cX6_gap 41 = .ok (.invokevirtual 134, 3) := by decide +kernel
theorem dX6_gap_44 : decode cX6_gap 44 = .ok (.iload_n 2, 1) := by decide +kernel
theorem dX6_gap_45 : decode cX6_gap 45 = .ok (.ireturn, 1) := by decide +kernel
def sX6_gap (h : Hp) (a1 : Int32) : Option (Int32 × Hp) :=
  nm (u1 h 54 0 (0 : Int32)) fun h1 => (sX6_in h1 a1.toInt64 (0 : Int64) (60 : Int64)).bind fun q2 => if q2.1 = 0 then (some ((-1 : Int32), q2.2)) else (if (q2.2.1 54 11) = a1 then (some ((-2 : Int32), q2.2)) else (nm ((q2.2.1 54 11)) fun x3 => nm (u1 q2.2 54 11 a1) fun h4 => (sX6_allGo h4).bind fun q5 => some (x3, q5)))
set_option maxRecDepth 10000 in
theorem kX6_gap (h : Hp) (a1 : Int32) (q : (Int32 × Hp)) (e : sX6_gap h a1 = some q) : K 1 mX6_gap [.ref 54, .int a1] h (pI q) := by
  unfold sX6_gap at e
  refine K.ofV (by decide) rfl (Nat.le_of_ble_eq_true rfl) ?_
  show V (Gs 1 (pI q)) mX6_gap (0, 0) 0 [(0, .ref 54), (1, .int a1)] [] h
  refine V.alq dX6_gap_0 (pc' := 1) rfl (j := 0) rfl ?_
  refine V.iconst dX6_gap_1 (pc' := 2) rfl (v := 0) (by decide) ?_
  obtain ⟨h1, eh1, e⟩ := nm_s e
  refine V.putf dX6_gap_2 (pc' := 5) rfl FP_X6_1 rfl (by decide) rfl eh1 ?_
  refine V.ilq dX6_gap_5 (pc' := 6) rfl (j := 1) rfl ?_
  refine V.i2l dX6_gap_6 (pc' := 7) rfl ?_
  refine V.lconst dX6_gap_7 (pc' := 8) rfl (v := 0) (by decide) ?_
  refine V.ldc2 dX6_gap_8 (pc' := 11) rfl (v := 60) (TBm 1070 (by decide +kernel) rfl) ?_
  obtain ⟨q2, eq2, e⟩ := bd_s e
  refine V.callSi dX6_gap_11 (pc' := 14) rfl CS_X6_29 (as := [.long a1.toInt64, .long (0 : Int64), .long (60 : Int64)]) (kX6_in h1 a1.toInt64 (0 : Int64) (60 : Int64) q2 eq2) (Gs_rm (by decide)) rfl (Nat.le_of_ble_eq_true rfl) rfl ?_
  refine V.if_ne dX6_gap_14 (pc' := 17) rfl (tgt := 19) (by decide) (fun c => ?_) (fun c => ?_)
  · rw [if_neg c] at e
    refine V.alq dX6_gap_19 (pc' := 20) rfl (j := 0) rfl ?_
    refine V.getf dX6_gap_20 (pc' := 23) rfl FL_X6_66 rfl (by decide) rfl ?_
    refine V.ilq dX6_gap_23 (pc' := 24) rfl (j := 1) rfl ?_
    refine V.ic_ne dX6_gap_24 (pc' := 27) rfl (tgt := 30) (by decide) (fun c => ?_) (fun c => ?_)
    · rw [if_neg c] at e
      refine V.alq dX6_gap_30 (pc' := 31) rfl (j := 0) rfl ?_
      refine V.getf dX6_gap_31 (pc' := 34) rfl FL_X6_66 rfl (by decide) rfl ?_
      obtain ⟨x3, ex3, e⟩ := nm_s e
      refine V.isq dX6_gap_34 (pc' := 35) rfl (by decide) ex3 (L' := [(2, .int x3), (0, .ref 54), (1, .int a1)]) rfl ?_
      refine V.alq dX6_gap_35 (pc' := 36) rfl (j := 1) rfl ?_
      refine V.ilq dX6_gap_36 (pc' := 37) rfl (j := 2) rfl ?_
      obtain ⟨h4, eh4, e⟩ := nm_s e
      refine V.putf dX6_gap_37 (pc' := 40) rfl FP_X6_66 rfl (by decide) rfl eh4 ?_
      refine V.alq dX6_gap_40 (pc' := 41) rfl (j := 1) rfl ?_
      obtain ⟨q5, eq5, e⟩ := bd_s e
      refine V.callVv dX6_gap_41 (pc' := 44) rfl CV_X6_134 (as := []) (kX6_allGo h4 q5 eq5) (Gs_rm (by decide)) rfl (by decide) rfl (Nat.le_of_ble_eq_true rfl) rfl ?_
      refine V.ilq dX6_gap_44 (pc' := 45) rfl (j := 0) rfl ?_
      exact V.iret dX6_gap_45 rfl (fnI e)
    · rw [if_pos c] at e
      refine V.bipush dX6_gap_27 (pc' := 29) rfl (v := -2) (by decide) ?_
      exact V.iret dX6_gap_29 rfl (fnI e)
  · rw [if_pos c] at e
    refine V.iconst dX6_gap_17 (pc' := 18) rfl (v := -1) (by decide) ?_
    exact V.iret dX6_gap_18 rfl (fnI e)

-- X6_low (level 1)
theorem dX6_low_0 : decode cX6_low 0 = .ok (.aload_n 0, 1) := by decide +kernel
theorem dX6_low_1 : decode cX6_low 1 = .ok (.getfield 57, 3) := by decide +kernel
theorem dX6_low_4 : decode cX6_low 4 = .ok (.iload_n 1, 1) := by decide +kernel
theorem dX6_low_5 : decode cX6_low 5 = .ok (.iaload, 1) := by decide +kernel
theorem dX6_low_6 : decode cX6_low 6 = .ok (.aload_n 0, 1) := by decide +kernel
theorem dX6_low_7 : decode cX6_low 7 = .ok (.getfield 60, 3) := by decide +kernel
theorem dX6_low_10 : decode cX6_low 10 = .ok (.iload_n 1, 1) := by decide +kernel
theorem dX6_low_11 : decode cX6_low 11 = .ok (.iaload, 1) := by decide +kernel
theorem dX6_low_12 : decode cX6_low 12 = .ok (.invokestatic 168, 3) := by decide +kernel
theorem dX6_low_15 : decode cX6_low 15 = .ok (.ireturn, 1) := by decide +kernel
def sX6_low (h : Hp) (a1 : Int32) : Option (Int32 × Hp) :=
  gd (inb a1 10) (gd (inb a1 10) (some ((imin (h.1 57 a1.toNatClampNeg) (h.1 58 a1.toNatClampNeg)), h)))
set_option maxRecDepth 10000 in
theorem kX6_low (h : Hp) (a1 : Int32) (q : (Int32 × Hp)) (e : sX6_low h a1 = some q) : K 1 mX6_low [.ref 54, .int a1] h (pI q) := by
  unfold sX6_low at e
  refine K.ofV (by decide) rfl (Nat.le_of_ble_eq_true rfl) ?_
  show V (Gs 1 (pI q)) mX6_low (0, 0) 0 [(0, .ref 54), (1, .int a1)] [] h
  refine V.alq dX6_low_0 (pc' := 1) rfl (j := 0) rfl ?_
  refine V.getr dX6_low_1 (pc' := 4) rfl FL_X6_57 rfl (by decide) rfl (r' := 57) rfl ?_
  refine V.ilq dX6_low_4 (pc' := 5) rfl (j := 1) rfl ?_
  obtain ⟨c1, e⟩ := gd_s e
  refine V.iald dX6_low_5 (pc' := 6) rfl rfl rfl (inb_t c1) ?_
  refine V.alq dX6_low_6 (pc' := 7) rfl (j := 0) rfl ?_
  refine V.getr dX6_low_7 (pc' := 10) rfl FL_X6_60 rfl (by decide) rfl (r' := 58) rfl ?_
  refine V.ilq dX6_low_10 (pc' := 11) rfl (j := 1) rfl ?_
  obtain ⟨c2, e⟩ := gd_s e
  refine V.iald dX6_low_11 (pc' := 12) rfl rfl rfl (inb_t c2) ?_
  refine V.mmin dX6_low_12 (pc' := 15) rfl (Gs_rm (by decide)) ML_X6_168 MS_imin MI_Math MC_imin (Nat.le_of_ble_eq_true rfl) ?_
  exact V.iret dX6_low_15 rfl (fnI e)

-- X6_high (level 1)
theorem dX6_high_0 : decode cX6_high 0 = .ok (.aload_n 0, 1) := by decide +kernel
theorem dX6_high_1 : decode cX6_high 1 = .ok (.getfield 57, 3) := by decide +kernel
theorem dX6_high_4 : decode cX6_high 4 = .ok (.iload_n 1, 1) := by decide +kernel
theorem dX6_high_5 : decode cX6_high 5 = .ok (.iaload, 1) := by decide +kernel
theorem dX6_high_6 : decode cX6_high 6 = .ok (.aload_n 0, 1) := by decide +kernel
theorem dX6_high_7 : decode cX6_high 7 = .ok (.getfield 60, 3) := by decide +kernel
theorem dX6_high_10 : decode cX6_high 10 = .ok (.iload_n 1, 1) := by decide +kernel
theorem dX6_high_11 : decode cX6_high 11 = .ok (.iaload, 1) := by decide +kernel
theorem dX6_high_12 : decode cX6_high 12 = .ok (.invokestatic 173, 3) := by decide +kernel
theorem dX6_high_15 : decode cX6_high 15 = .ok (.ireturn, 1) := by decide +kernel
def sX6_high (h : Hp) (a1 : Int32) : Option (Int32 × Hp) :=
  gd (inb a1 10) (gd (inb a1 10) (some ((imax (h.1 57 a1.toNatClampNeg) (h.1 58 a1.toNatClampNeg)), h)))
set_option maxRecDepth 10000 in
theorem kX6_high (h : Hp) (a1 : Int32) (q : (Int32 × Hp)) (e : sX6_high h a1 = some q) : K 1 mX6_high [.ref 54, .int a1] h (pI q) := by
  unfold sX6_high at e
  refine K.ofV (by decide) rfl (Nat.le_of_ble_eq_true rfl) ?_
  show V (Gs 1 (pI q)) mX6_high (0, 0) 0 [(0, .ref 54), (1, .int a1)] [] h
  refine V.alq dX6_high_0 (pc' := 1) rfl (j := 0) rfl ?_
  refine V.getr dX6_high_1 (pc' := 4) rfl FL_X6_57 rfl (by decide) rfl (r' := 57) rfl ?_
  refine V.ilq dX6_high_4 (pc' := 5) rfl (j := 1) rfl ?_
  obtain ⟨c1, e⟩ := gd_s e
  refine V.iald dX6_high_5 (pc' := 6) rfl rfl rfl (inb_t c1) ?_
  refine V.alq dX6_high_6 (pc' := 7) rfl (j := 0) rfl ?_
  refine V.getr dX6_high_7 (pc' := 10) rfl FL_X6_60 rfl (by decide) rfl (r' := 58) rfl ?_
  refine V.ilq dX6_high_10 (pc' := 11) rfl (j := 1) rfl ?_
  obtain ⟨c2, e⟩ := gd_s e
  refine V.iald dX6_high_11 (pc' := 12) rfl rfl rfl (inb_t c2) ?_
  refine V.mmax dX6_high_12 (pc' := 15) rfl (Gs_rm (by decide)) ML_X6_173 MS_imax MI_Math MC_imax (Nat.le_of_ble_eq_true rfl) ?_
  exact V.iret dX6_high_15 rfl (fnI e)

-- X6_shift (level 1)
theorem dX6_shift_0 : decode cX6_shift 0 = .ok (.aload_n 0, 1) := by decide +kernel
theorem dX6_shift_1 : decode cX6_shift 1 = .ok (.iload_n 1, 1) := by decide +kernel
theorem dX6_shift_2 : decode cX6_shift 2 = .ok (.invokevirtual 144, 3) := by decide +kernel
theorem dX6_shift_5 : decode cX6_shift 5 = .ok (.ifCond .eq 10, 3) := by decide +kernel
theorem dX6_shift_8 : decode cX6_shift 8 = .ok (.aload_n 0, 1) := by decide +kernel
theorem dX6_shift_9 : decode cX6_shift 9 = .ok (.getfield 66, 3) := by decide +kernel
theorem dX6_shift_12 : decode cX6_shift 12 = .ok (.goto 4, 3) := by decide +kernel
theorem dX6_shift_15 : decode cX6_shift 15 = .ok (.iconst 0, 1) := by decide +kernel
theorem dX6_shift_16 : decode cX6_shift 16 = .ok (.ireturn, 1) := by decide +kernel
def sX6_shift_c16 (h : Hp) (t0 : Int32) : Option (Int32 × Hp) :=
  some (t0, h)
set_option maxRecDepth 10000 in
theorem vX6_shift_c16 (h : Hp) (t0 : Int32) (q : (Int32 × Hp)) (e : sX6_shift_c16 h t0 = some q) : V (Gs 1 (pI q)) mX6_shift (0, 0) 16 [] [.int t0] h := by
  unfold sX6_shift_c16 at e
  exact V.iret dX6_shift_16 rfl (fnI e)
def sX6_shift (h : Hp) (a1 : Int32) : Option (Int32 × Hp) :=
  (sX6_isHot h a1).bind fun q1 => if q1.1 = 0 then (sX6_shift_c16 q1.2 (0 : Int32)) else (sX6_shift_c16 q1.2 (q1.2.1 54 11))
set_option maxRecDepth 10000 in
theorem kX6_shift (h : Hp) (a1 : Int32) (q : (Int32 × Hp)) (e : sX6_shift h a1 = some q) : K 1 mX6_shift [.ref 54, .int a1] h (pI q) := by
  unfold sX6_shift at e
  refine K.ofV (by decide) rfl (Nat.le_of_ble_eq_true rfl) ?_
  show V (Gs 1 (pI q)) mX6_shift (0, 0) 0 [(0, .ref 54), (1, .int a1)] [] h
  refine V.alq dX6_shift_0 (pc' := 1) rfl (j := 0) rfl ?_
  refine V.ilq dX6_shift_1 (pc' := 2) rfl (j := 1) rfl ?_
  obtain ⟨q1, eq1, e⟩ := bd_s e
  refine V.callVi dX6_shift_2 (pc' := 5) rfl CV_X6_144 (as := [.int a1]) (kX6_isHot h a1 q1 eq1) (Gs_rm (by decide)) rfl (by decide) rfl (Nat.le_of_ble_eq_true rfl) rfl ?_
  refine V.if_eq dX6_shift_5 (pc' := 8) rfl (tgt := 15) (by decide) (fun c => ?_) (fun c => ?_)
  · rw [if_pos c] at e
    refine V.iconst dX6_shift_15 (pc' := 16) rfl (v := 0) (by decide) ?_
    refine V.pk [] rfl ?_
    exact vX6_shift_c16 q1.2 (0 : Int32) q e
  · rw [if_neg c] at e
    refine V.alq dX6_shift_8 (pc' := 9) rfl (j := 0) rfl ?_
    refine V.getf dX6_shift_9 (pc' := 12) rfl FL_X6_66 rfl (by decide) rfl ?_
    refine V.goto dX6_shift_12 (pc' := 16) (by decide) ?_
    refine V.pk [] rfl ?_
    exact vX6_shift_c16 q1.2 (q1.2.1 54 11) q e

-- X6_isSide (level 1)
theorem dX6_isSide_0 : decode cX6_isSide 0 = .ok (.iload_n 0, 1) := by decide +kernel
theorem dX6_isSide_1 : decode cX6_isSide 1 = .ok (.i2l, 1) := by decide +kernel
theorem dX6_isSide_2 : decode cX6_isSide 2 = .ok (.lconst 0, 1) := by decide +kernel
theorem dX6_isSide_3 : decode cX6_isSide 3 = .ok (.lconst 1, 1) := by decide +kernel
theorem dX6_isSide_4 : decode cX6_isSide 4 = .ok (.invokestatic 29, 3) := by decide +kernel
theorem dX6_isSide_7 : decode cX6_isSide 7 = .ok (.ireturn, 1) := by decide +kernel
def sX6_isSide (h : Hp) (a0 : Int32) : Option (Int32 × Hp) :=
  (sX6_in h a0.toInt64 (0 : Int64) (1 : Int64)).bind fun q1 => gd (zb q1.1) (some (q1.1, q1.2))
set_option maxRecDepth 10000 in
theorem kX6_isSide (h : Hp) (a0 : Int32) (q : (Int32 × Hp)) (e : sX6_isSide h a0 = some q) : K 1 mX6_isSide [.int a0] h (pI q) := by
  unfold sX6_isSide at e
  refine K.ofV (by decide) rfl (Nat.le_of_ble_eq_true rfl) ?_
  show V (Gs 1 (pI q)) mX6_isSide (0, 0) 0 [(0, .int a0)] [] h
  refine V.ilq dX6_isSide_0 (pc' := 1) rfl (j := 0) rfl ?_
  refine V.i2l dX6_isSide_1 (pc' := 2) rfl ?_
  refine V.lconst dX6_isSide_2 (pc' := 3) rfl (v := 0) (by decide) ?_
  refine V.lconst dX6_isSide_3 (pc' := 4) rfl (v := 1) (by decide) ?_
  obtain ⟨q1, eq1, e⟩ := bd_s e
  refine V.callSi dX6_isSide_4 (pc' := 7) rfl CS_X6_29 (as := [.long a0.toInt64, .long (0 : Int64), .long (1 : Int64)]) (kX6_in h a0.toInt64 (0 : Int64) (1 : Int64) q1 eq1) (Gs_rm (by decide)) rfl (Nat.le_of_ble_eq_true rfl) rfl ?_
  obtain ⟨c2, e⟩ := gd_s e
  exact V.zret dX6_isSide_7 rfl (zb_t c2) (fnI e)

-- X6_used (level 1)
theorem dX6_used_0 : decode cX6_used 0 = .ok (.iconst 0, 1) := by decide +kernel
theorem dX6_used_1 : decode cX6_used 1 = .ok (.istore 4, 2) := by decide +kernel
theorem dX6_used_3 : decode cX6_used 3 = .ok (.iconst 0, 1) := by decide +kernel
theorem dX6_used_4 : decode cX6_used 4 = .ok (.istore 5, 2) := by decide +kernel
theorem dX6_used_6 : decode cX6_used 6 = .ok (.iload 5, 2) := by decide +kernel
theorem dX6_used_8 : decode cX6_used 8 = .ok (.iload_n 3, 1) := by decide +kernel
theorem dX6_used_9 : decode cX6_used 9 = .ok (.if_icmp .ge 55, 3) := by decide +kernel
theorem dX6_used_12 : decode cX6_used 12 = .ok (.iload_n 1, 1) := by decide +kernel
theorem dX6_used_13 : decode cX6_used 13 = .ok (.iload 5, 2) := by decide +kernel
theorem dX6_used_15 : decode cX6_used 15 = .ok (.invokestatic 263, 3) := by decide +kernel
theorem dX6_used_18 : decode cX6_used 18 = .ok (.istore 6, 2) := by decide +kernel
theorem dX6_used_20 : decode cX6_used 20 = .ok (.iload 4, 2) := by decide +kernel
theorem dX6_used_22 : decode cX6_used 22 = .ok (.aload_n 0, 1) := by decide +kernel
theorem dX6_used_23 : decode cX6_used 23 = .ok (.getfield 93, 3) := by decide +kernel
theorem dX6_used_26 : decode cX6_used 26 = .ok (.iload 6, 2) := by decide +kernel
theorem dX6_used_28 : decode cX6_used 28 = .ok (.iaload, 1) := by decide +kernel
theorem dX6_used_29 : decode cX6_used 29 = .ok (.iload_n 2, 1) := by decide +kernel
theorem dX6_used_30 : decode cX6_used 30 = .ok (.if_icmp .eq 14, 3) := by decide +kernel
theorem dX6_used_33 : decode cX6_used 33 = .ok (.aload_n 0, 1) := by decide +kernel
theorem dX6_used_34 : decode cX6_used 34 = .ok (.getfield 96, 3) := by decide +kernel
theorem dX6_used_37 : decode cX6_used 37 = .ok (.iload 6, 2) := by decide +kernel
theorem dX6_used_39 : decode cX6_used 39 = .ok (.iaload, 1) := by decide +kernel
theorem dX6_used_40 : decode cX6_used 40 = .ok (.iload_n 2, 1) := by decide +kernel
theorem dX6_used_41 : decode cX6_used 41 = .ok (.if_icmp .ne 13, 3) := by decide +kernel
theorem dX6_used_44 : decode cX6_used 44 = .ok (.aload_n 0, 1) := by decide +kernel
theorem dX6_used_45 : decode cX6_used 45 = .ok (.getfield 99, 3) := by decide +kernel
theorem dX6_used_48 : decode cX6_used 48 = .ok (.iload 6, 2) := by decide +kernel
theorem dX6_used_50 : decode cX6_used 50 = .ok (.iaload, 1) := by decide +kernel
theorem dX6_used_51 : decode cX6_used 51 = .ok (.goto 4, 3) := by decide +kernel
theorem dX6_used_54 : decode cX6_used 54 = .ok (.iconst 0, 1) := by decide +kernel
theorem dX6_used_55 : decode cX6_used 55 = .ok (.iadd, 1) := by decide +kernel
theorem dX6_used_56 : decode cX6_used 56 = .ok (.istore 4, 2) := by decide +kernel
theorem dX6_used_58 : decode cX6_used 58 = .ok (.iinc 5 1, 3) := by decide +kernel
theorem dX6_used_61 : decode cX6_used 61 = .ok (.goto (-55), 3) := by decide +kernel
theorem dX6_used_64 : decode cX6_used 64 = .ok (.iload 4, 2) := by decide +kernel
theorem dX6_used_66 : decode cX6_used 66 = .ok (.ireturn, 1) := by decide +kernel
def sX6_used_c55 (k6 : Hp → Int32 → Int32 → Int32 → Int32 → Int32 → Option (Int32 × Hp)) (h : Hp) (v1 : Int32) (v2 : Int32) (v3 : Int32) (v5 : Int32) (t0 : Int32) (t1 : Int32) : Option (Int32 × Hp) :=
  nm ((t1 + t0)) fun x4 => nm (v5 + (1 : Int32)) fun x5 => k6 h v1 v2 v3 x4 x5
set_option maxRecDepth 10000 in
theorem vX6_used_c55 (k6 : Hp → Int32 → Int32 → Int32 → Int32 → Int32 → Option (Int32 × Hp)) (hk6 : ∀ (h : Hp) (v1 : Int32) (v2 : Int32) (v3 : Int32) (v4 : Int32) (v5 : Int32) (q : (Int32 × Hp)), k6 h v1 v2 v3 v4 v5 = some q → V (Gs 1 (pI q)) mX6_used (0, 0) 6 [(0, .ref 54), (1, .int v1), (2, .int v2), (3, .int v3), (4, .int v4), (5, .int v5)] [] h) (h : Hp) (v1 : Int32) (v2 : Int32) (v3 : Int32) (v5 : Int32) (t0 : Int32) (t1 : Int32) (q : (Int32 × Hp)) (e : sX6_used_c55 k6 h v1 v2 v3 v5 t0 t1 = some q) : V (Gs 1 (pI q)) mX6_used (0, 0) 55 [(0, .ref 54), (1, .int v1), (2, .int v2), (3, .int v3), (5, .int v5)] [.int t0, .int t1] h := by
  unfold sX6_used_c55 at e
  refine V.iadd dX6_used_55 (pc' := 56) rfl ?_
  obtain ⟨x4, ex4, e⟩ := nm_s e
  refine V.is dX6_used_56 (pc' := 58) rfl (by decide) ex4 (L' := [(4, .int x4), (0, .ref 54), (1, .int v1), (2, .int v2), (3, .int v3), (5, .int v5)]) rfl ?_
  obtain ⟨x5, ex5, e⟩ := nm_s e
  refine V.iinc dX6_used_58 (pc' := 61) rfl (j := 5) rfl (v := 1) (by decide) (by decide) ex5 (L' := [(5, .int x5), (4, .int x4), (0, .ref 54), (1, .int v1), (2, .int v2), (3, .int v3)]) rfl ?_
  refine V.goto dX6_used_61 (pc' := 6) (by decide) ?_
  refine V.pk [2, 3, 4, 5, 1, 0] rfl ?_
  exact hk6 h v1 v2 v3 x4 x5 q e
def sX6_used_c44 (k6 : Hp → Int32 → Int32 → Int32 → Int32 → Int32 → Option (Int32 × Hp)) (h : Hp) (v1 : Int32) (v2 : Int32) (v3 : Int32) (v5 : Int32) (v6 : Int32) (t0 : Int32) : Option (Int32 × Hp) :=
  gd (inb v6 50) (sX6_used_c55 k6 h v1 v2 v3 v5 (h.1 70 v6.toNatClampNeg) t0)
set_option maxRecDepth 10000 in
theorem vX6_used_c44 (k6 : Hp → Int32 → Int32 → Int32 → Int32 → Int32 → Option (Int32 × Hp)) (hk6 : ∀ (h : Hp) (v1 : Int32) (v2 : Int32) (v3 : Int32) (v4 : Int32) (v5 : Int32) (q : (Int32 × Hp)), k6 h v1 v2 v3 v4 v5 = some q → V (Gs 1 (pI q)) mX6_used (0, 0) 6 [(0, .ref 54), (1, .int v1), (2, .int v2), (3, .int v3), (4, .int v4), (5, .int v5)] [] h) (h : Hp) (v1 : Int32) (v2 : Int32) (v3 : Int32) (v5 : Int32) (v6 : Int32) (t0 : Int32) (q : (Int32 × Hp)) (e : sX6_used_c44 k6 h v1 v2 v3 v5 v6 t0 = some q) : V (Gs 1 (pI q)) mX6_used (0, 0) 44 [(0, .ref 54), (1, .int v1), (2, .int v2), (3, .int v3), (5, .int v5), (6, .int v6)] [.int t0] h := by
  unfold sX6_used_c44 at e
  refine V.alq dX6_used_44 (pc' := 45) rfl (j := 0) rfl ?_
  refine V.getr dX6_used_45 (pc' := 48) rfl FL_X6_99 rfl (by decide) rfl (r' := 70) rfl ?_
  refine V.il dX6_used_48 (pc' := 50) rfl (j := 5) rfl ?_
  obtain ⟨c6, e⟩ := gd_s e
  refine V.iald dX6_used_50 (pc' := 51) rfl rfl rfl (inb_t c6) ?_
  refine V.goto dX6_used_51 (pc' := 55) (by decide) ?_
  refine V.pk [0, 1, 2, 3, 4] rfl ?_
  exact vX6_used_c55 k6 hk6 h v1 v2 v3 v5 (h.1 70 v6.toNatClampNeg) t0 q e
def sX6_used_c6 (k6 : Hp → Int32 → Int32 → Int32 → Int32 → Int32 → Option (Int32 × Hp)) (h : Hp) (v1 : Int32) (v2 : Int32) (v3 : Int32) (v4 : Int32) (v5 : Int32) : Option (Int32 × Hp) :=
  if v3 ≤ v5 then (some (v4, h)) else ((sX6_place h v1 v5).bind fun q1 => gd (inb q1.1 50) (if (q1.2.1 68 q1.1.toNatClampNeg) = v2 then (sX6_used_c44 k6 q1.2 v1 v2 v3 v5 q1.1 v4) else (gd (inb q1.1 50) (if (q1.2.1 69 q1.1.toNatClampNeg) = v2 then (sX6_used_c44 k6 q1.2 v1 v2 v3 v5 q1.1 v4) else (sX6_used_c55 k6 q1.2 v1 v2 v3 v5 (0 : Int32) v4)))))
set_option maxRecDepth 10000 in
theorem vX6_used_c6 (k6 : Hp → Int32 → Int32 → Int32 → Int32 → Int32 → Option (Int32 × Hp)) (hk6 : ∀ (h : Hp) (v1 : Int32) (v2 : Int32) (v3 : Int32) (v4 : Int32) (v5 : Int32) (q : (Int32 × Hp)), k6 h v1 v2 v3 v4 v5 = some q → V (Gs 1 (pI q)) mX6_used (0, 0) 6 [(0, .ref 54), (1, .int v1), (2, .int v2), (3, .int v3), (4, .int v4), (5, .int v5)] [] h) (h : Hp) (v1 : Int32) (v2 : Int32) (v3 : Int32) (v4 : Int32) (v5 : Int32) (q : (Int32 × Hp)) (e : sX6_used_c6 k6 h v1 v2 v3 v4 v5 = some q) : V (Gs 1 (pI q)) mX6_used (0, 0) 6 [(0, .ref 54), (1, .int v1), (2, .int v2), (3, .int v3), (4, .int v4), (5, .int v5)] [] h := by
  unfold sX6_used_c6 at e
  refine V.il dX6_used_6 (pc' := 8) rfl (j := 5) rfl ?_
  refine V.ilq dX6_used_8 (pc' := 9) rfl (j := 3) rfl ?_
  refine V.ic_ge dX6_used_9 (pc' := 12) rfl (tgt := 64) (by decide) (fun c => ?_) (fun c => ?_)
  · rw [if_pos c] at e
    refine V.il dX6_used_64 (pc' := 66) rfl (j := 4) rfl ?_
    exact V.iret dX6_used_66 rfl (fnI e)
  · rw [if_neg c] at e
    refine V.ilq dX6_used_12 (pc' := 13) rfl (j := 1) rfl ?_
    refine V.il dX6_used_13 (pc' := 15) rfl (j := 5) rfl ?_
    obtain ⟨q1, eq1, e⟩ := bd_s e
    refine V.callSi dX6_used_15 (pc' := 18) rfl CS_X6_263 (as := [.int v1, .int v5]) (kX6_place h v1 v5 q1 eq1) (Gs_rm (by decide)) rfl (Nat.le_of_ble_eq_true rfl) rfl ?_
    refine V.is dX6_used_18 (pc' := 20) rfl (by decide) rfl (L' := [(6, .int q1.1), (0, .ref 54), (1, .int v1), (2, .int v2), (3, .int v3), (4, .int v4), (5, .int v5)]) rfl ?_
    refine V.il dX6_used_20 (pc' := 22) rfl (j := 5) rfl ?_
    refine V.alq dX6_used_22 (pc' := 23) rfl (j := 1) rfl ?_
    refine V.getr dX6_used_23 (pc' := 26) rfl FL_X6_93 rfl (by decide) rfl (r' := 68) rfl ?_
    refine V.il dX6_used_26 (pc' := 28) rfl (j := 0) rfl ?_
    obtain ⟨c2, e⟩ := gd_s e
    refine V.iald dX6_used_28 (pc' := 29) rfl rfl rfl (inb_t c2) ?_
    refine V.ilq dX6_used_29 (pc' := 30) rfl (j := 3) rfl ?_
    refine V.ic_eq dX6_used_30 (pc' := 33) rfl (tgt := 44) (by decide) (fun c => ?_) (fun c => ?_)
    · rw [if_pos c] at e
      refine V.pk [1, 2, 3, 4, 6, 0] rfl ?_
      exact vX6_used_c44 k6 hk6 q1.2 v1 v2 v3 v5 q1.1 v4 q e
    · rw [if_neg c] at e
      refine V.alq dX6_used_33 (pc' := 34) rfl (j := 1) rfl ?_
      refine V.getr dX6_used_34 (pc' := 37) rfl FL_X6_96 rfl (by decide) rfl (r' := 69) rfl ?_
      refine V.il dX6_used_37 (pc' := 39) rfl (j := 0) rfl ?_
      obtain ⟨c3, e⟩ := gd_s e
      refine V.iald dX6_used_39 (pc' := 40) rfl rfl rfl (inb_t c3) ?_
      refine V.ilq dX6_used_40 (pc' := 41) rfl (j := 3) rfl ?_
      refine V.ic_ne dX6_used_41 (pc' := 44) rfl (tgt := 54) (by decide) (fun c => ?_) (fun c => ?_)
      · rw [if_neg c] at e
        refine V.iconst dX6_used_54 (pc' := 55) rfl (v := 0) (by decide) ?_
        refine V.pk [1, 2, 3, 4, 6] rfl ?_
        exact vX6_used_c55 k6 hk6 q1.2 v1 v2 v3 v5 (0 : Int32) v4 q e
      · rw [if_pos c] at e
        refine V.pk [1, 2, 3, 4, 6, 0] rfl ?_
        exact vX6_used_c44 k6 hk6 q1.2 v1 v2 v3 v5 q1.1 v4 q e
def sX6_used_b6 : Nat → Hp → Int32 → Int32 → Int32 → Int32 → Int32 → Option (Int32 × Hp)
  | 0 => fun _ _ _ _ _ _ => none
  | n + 1 => sX6_used_c6 (sX6_used_b6 n)
theorem vX6_used_b6 : ∀ (n : Nat) (h : Hp) (v1 : Int32) (v2 : Int32) (v3 : Int32) (v4 : Int32) (v5 : Int32) (q : (Int32 × Hp)), sX6_used_b6 n h v1 v2 v3 v4 v5 = some q → V (Gs 1 (pI q)) mX6_used (0, 0) 6 [(0, .ref 54), (1, .int v1), (2, .int v2), (3, .int v3), (4, .int v4), (5, .int v5)] [] h
  | 0 => fun _ _ _ _ _ _ _ e => by cases e
  | n + 1 => fun h v1 v2 v3 v4 v5 q e => vX6_used_c6 (sX6_used_b6 n) (vX6_used_b6 n) h v1 v2 v3 v4 v5 q e
def sX6_used (h : Hp) (a1 : Int32) (a2 : Int32) (a3 : Int32) : Option (Int32 × Hp) :=
  sX6_used_b6 FU h a1 a2 a3 (0 : Int32) (0 : Int32)
set_option maxRecDepth 10000 in
theorem kX6_used (h : Hp) (a1 : Int32) (a2 : Int32) (a3 : Int32) (q : (Int32 × Hp)) (e : sX6_used h a1 a2 a3 = some q) : K 1 mX6_used [.ref 54, .int a1, .int a2, .int a3] h (pI q) := by
  unfold sX6_used at e
  refine K.ofV (by decide) rfl (Nat.le_of_ble_eq_true rfl) ?_
  show V (Gs 1 (pI q)) mX6_used (0, 0) 0 [(0, .ref 54), (1, .int a1), (2, .int a2), (3, .int a3)] [] h
  refine V.iconst dX6_used_0 (pc' := 1) rfl (v := 0) (by decide) ?_
  refine V.is dX6_used_1 (pc' := 3) rfl (by decide) rfl (L' := [(4, .int (0 : Int32)), (0, .ref 54), (1, .int a1), (2, .int a2), (3, .int a3)]) rfl ?_
  refine V.iconst dX6_used_3 (pc' := 4) rfl (v := 0) (by decide) ?_
  refine V.is dX6_used_4 (pc' := 6) rfl (by decide) rfl (L' := [(5, .int (0 : Int32)), (4, .int (0 : Int32)), (0, .ref 54), (1, .int a1), (2, .int a2), (3, .int a3)]) rfl ?_
  refine V.pk [2, 3, 4, 5, 1, 0] rfl ?_
  exact vX6_used_b6 FU h a1 a2 a3 (0 : Int32) (0 : Int32) q e

-- X6_least (level 1)
theorem dX6_least_0 : decode cX6_least 0 = .ok (.aload_n 0, 1) := by decide +kernel
theorem dX6_least_1 : decode cX6_least 1 = .ok (.getfield 66, 3) := by decide +kernel
theorem dX6_least_4 : decode cX6_least 4 = .ok (.i2l, 1) := by decide +kernel
theorem dX6_least_5 : decode cX6_least 5 = .ok (.aload_n 0, 1) := by decide +kernel
theorem dX6_least_6 : decode cX6_least 6 = .ok (.iload_n 1, 1) := by decide +kernel
theorem dX6_least_7 : decode cX6_least 7 = .ok (.iload_n 2, 1) := by decide +kernel
theorem dX6_least_8 : decode cX6_least 8 = .ok (.invokevirtual 277, 3) := by decide +kernel
theorem dX6_least_11 : decode cX6_least 11 = .ok (.lmul, 1) := by decide +kernel
theorem dX6_least_12 : decode cX6_least 12 = .ok (.lreturn, 1) := by decide +kernel
def sX6_least (h : Hp) (a1 : Int32) (a2 : Int32) : Option (Int64 × Hp) :=
  (sX6_under h a1 a2).bind fun q1 => some (((h.1 54 11).toInt64 * q1.1), q1.2)
set_option maxRecDepth 10000 in
theorem kX6_least (h : Hp) (a1 : Int32) (a2 : Int32) (q : (Int64 × Hp)) (e : sX6_least h a1 a2 = some q) : K 1 mX6_least [.ref 54, .int a1, .int a2] h (pL q) := by
  unfold sX6_least at e
  refine K.ofV (by decide) rfl (Nat.le_of_ble_eq_true rfl) ?_
  show V (Gs 1 (pL q)) mX6_least (0, 0) 0 [(0, .ref 54), (1, .int a1), (2, .int a2)] [] h
  refine V.alq dX6_least_0 (pc' := 1) rfl (j := 0) rfl ?_
  refine V.getf dX6_least_1 (pc' := 4) rfl FL_X6_66 rfl (by decide) rfl ?_
  refine V.i2l dX6_least_4 (pc' := 5) rfl ?_
  refine V.alq dX6_least_5 (pc' := 6) rfl (j := 0) rfl ?_
  refine V.ilq dX6_least_6 (pc' := 7) rfl (j := 1) rfl ?_
  refine V.ilq dX6_least_7 (pc' := 8) rfl (j := 2) rfl ?_
  obtain ⟨q1, eq1, e⟩ := bd_s e
  refine V.callVl dX6_least_8 (pc' := 11) rfl CV_X6_277 (as := [.int a1, .int a2]) (kX6_under h a1 a2 q1 eq1) (Gs_rm (by decide)) rfl (by decide) rfl (Nat.le_of_ble_eq_true rfl) rfl ?_
  refine V.lmul dX6_least_11 (pc' := 12) rfl ?_
  exact V.lret dX6_least_12 rfl (fnL e)

-- X6_laysMatch (level 1)
theorem dX6_laysMatch_0 : decode cX6_laysMatch 0 = .ok (.iload_n 1, 1) := by decide +kernel
theorem dX6_laysMatch_1 : decode cX6_laysMatch 1 = .ok (.aload_n 0, 1) := by decide +kernel
theorem dX6_laysMatch_2 : decode cX6_laysMatch 2 = .ok (.getfield 90, 3) := by decide +kernel
theorem dX6_laysMatch_5 : decode cX6_laysMatch 5 = .ok (.iload_n 1, 1) := by decide +kernel
theorem dX6_laysMatch_6 : decode cX6_laysMatch 6 = .ok (.iaload, 1) := by decide +kernel
theorem dX6_laysMatch_7 : decode cX6_laysMatch 7 = .ok (.invokestatic 263, 3) := by decide +kernel
theorem dX6_laysMatch_10 : decode cX6_laysMatch 10 = .ok (.istore 5, 2) := by decide +kernel
theorem dX6_laysMatch_12 : decode cX6_laysMatch 12 = .ok (.aload_n 0, 1) := by decide +kernel
theorem dX6_laysMatch_13 : decode cX6_laysMatch 13 = .ok (.getfield 93, 3) := by decide +kernel
theorem dX6_laysMatch_16 : decode cX6_laysMatch 16 = .ok (.iload 5, 2) := by decide +kernel
theorem dX6_laysMatch_18 : decode cX6_laysMatch 18 = .ok (.iload_n 2, 1) := by decide +kernel
theorem dX6_laysMatch_19 : decode cX6_laysMatch 19 = .ok (.iastore, 1) := by decide +kernel
theorem dX6_laysMatch_20 : decode cX6_laysMatch 20 = .ok (.aload_n 0, 1) := by decide +kernel
theorem dX6_laysMatch_21 : decode cX6_laysMatch 21 = .ok (.getfield 96, 3) := by decide +kernel
theorem dX6_laysMatch_24 : decode cX6_laysMatch 24 = .ok (.iload 5, 2) := by decide +kernel
theorem dX6_laysMatch_26 : decode cX6_laysMatch 26 = .ok (.iload_n 3, 1) := by decide +kernel
theorem dX6_laysMatch_27 : decode cX6_laysMatch 27 = .ok (.iastore, 1) := by decide +kernel
theorem dX6_laysMatch_28 : decode cX6_laysMatch 28 = .ok (.aload_n 0, 1) := by decide +kernel
theorem dX6_laysMatch_29 : decode cX6_laysMatch 29 = .ok (.getfield 99, 3) := by decide +kernel
theorem dX6_laysMatch_32 : decode cX6_laysMatch 32 = .ok (.iload 5, 2) := by decide +kernel
theorem dX6_laysMatch_34 : decode cX6_laysMatch 34 = .ok (.iload 4, 2) := by decide +kernel
theorem dX6_laysMatch_36 : decode cX6_laysMatch 36 = .ok (.iastore, 1) := by decide +kernel
theorem dX6_laysMatch_37 : decode cX6_laysMatch 37 = .ok (.return_, 1) := by decide +kernel
def sX6_laysMatch (h : Hp) (a1 : Int32) (a2 : Int32) (a3 : Int32) (a4 : Int32) : Option Hp :=
  gd (inb a1 2) ((sX6_place h a1 (h.1 67 a1.toNatClampNeg)).bind fun q2 => gd (inb q2.1 50) (nm (u1 q2.2 68 q2.1.toNatClampNeg a2) fun h4 => gd (inb q2.1 50) (nm (u1 h4 69 q2.1.toNatClampNeg a3) fun h6 => gd (inb q2.1 50) (nm (u1 h6 70 q2.1.toNatClampNeg a4) fun h8 => some h8))))
set_option maxRecDepth 10000 in
theorem kX6_laysMatch (h : Hp) (a1 : Int32) (a2 : Int32) (a3 : Int32) (a4 : Int32) (q : Hp) (e : sX6_laysMatch h a1 a2 a3 a4 = some q) : K 1 mX6_laysMatch [.ref 54, .int a1, .int a2, .int a3, .int a4] h (pV q) := by
  unfold sX6_laysMatch at e
  refine K.ofV (by decide) rfl (Nat.le_of_ble_eq_true rfl) ?_
  show V (Gs 1 (pV q)) mX6_laysMatch (0, 0) 0 [(0, .ref 54), (1, .int a1), (2, .int a2), (3, .int a3), (4, .int a4)] [] h
  refine V.ilq dX6_laysMatch_0 (pc' := 1) rfl (j := 1) rfl ?_
  refine V.alq dX6_laysMatch_1 (pc' := 2) rfl (j := 0) rfl ?_
  refine V.getr dX6_laysMatch_2 (pc' := 5) rfl FL_X6_90 rfl (by decide) rfl (r' := 67) rfl ?_
  refine V.ilq dX6_laysMatch_5 (pc' := 6) rfl (j := 1) rfl ?_
  obtain ⟨c1, e⟩ := gd_s e
  refine V.iald dX6_laysMatch_6 (pc' := 7) rfl rfl rfl (inb_t c1) ?_
  obtain ⟨q2, eq2, e⟩ := bd_s e
  refine V.callSi dX6_laysMatch_7 (pc' := 10) rfl CS_X6_263 (as := [.int a1, .int (h.1 67 a1.toNatClampNeg)]) (kX6_place h a1 (h.1 67 a1.toNatClampNeg) q2 eq2) (Gs_rm (by decide)) rfl (Nat.le_of_ble_eq_true rfl) rfl ?_
  refine V.is dX6_laysMatch_10 (pc' := 12) rfl (by decide) rfl (L' := [(5, .int q2.1), (0, .ref 54), (1, .int a1), (2, .int a2), (3, .int a3), (4, .int a4)]) rfl ?_
  refine V.alq dX6_laysMatch_12 (pc' := 13) rfl (j := 1) rfl ?_
  refine V.getr dX6_laysMatch_13 (pc' := 16) rfl FL_X6_93 rfl (by decide) rfl (r' := 68) rfl ?_
  refine V.il dX6_laysMatch_16 (pc' := 18) rfl (j := 0) rfl ?_
  refine V.ilq dX6_laysMatch_18 (pc' := 19) rfl (j := 3) rfl ?_
  obtain ⟨c3, e⟩ := gd_s e
  obtain ⟨h4, eh4, e⟩ := nm_s e
  refine V.iast dX6_laysMatch_19 (pc' := 20) rfl rfl rfl (inb_t c3) eh4 ?_
  refine V.alq dX6_laysMatch_20 (pc' := 21) rfl (j := 1) rfl ?_
  refine V.getr dX6_laysMatch_21 (pc' := 24) rfl FL_X6_96 rfl (by decide) rfl (r' := 69) rfl ?_
  refine V.il dX6_laysMatch_24 (pc' := 26) rfl (j := 0) rfl ?_
  refine V.ilq dX6_laysMatch_26 (pc' := 27) rfl (j := 4) rfl ?_
  obtain ⟨c5, e⟩ := gd_s e
  obtain ⟨h6, eh6, e⟩ := nm_s e
  refine V.iast dX6_laysMatch_27 (pc' := 28) rfl rfl rfl (inb_t c5) eh6 ?_
  refine V.alq dX6_laysMatch_28 (pc' := 29) rfl (j := 1) rfl ?_
  refine V.getr dX6_laysMatch_29 (pc' := 32) rfl FL_X6_99 rfl (by decide) rfl (r' := 70) rfl ?_
  refine V.il dX6_laysMatch_32 (pc' := 34) rfl (j := 0) rfl ?_
  refine V.il dX6_laysMatch_34 (pc' := 36) rfl (j := 5) rfl ?_
  obtain ⟨c7, e⟩ := gd_s e
  obtain ⟨h8, eh8, e⟩ := nm_s e
  refine V.iast dX6_laysMatch_36 (pc' := 37) rfl rfl rfl (inb_t c7) eh8 ?_
  exact V.vret dX6_laysMatch_37 rfl (fnV e)

-- X6_saves (level 1)
theorem dX6_saves_0 : decode cX6_saves 0 = .ok (.aload_n 0, 1) := by decide +kernel
theorem dX6_saves_1 : decode cX6_saves 1 = .ok (.aload_n 0, 1) := by decide +kernel
theorem dX6_saves_2 : decode cX6_saves 2 = .ok (.getfield 90, 3) := by decide +kernel
theorem dX6_saves_5 : decode cX6_saves 5 = .ok (.iload_n 1, 1) := by decide +kernel
theorem dX6_saves_6 : decode cX6_saves 6 = .ok (.iaload, 1) := by decide +kernel
theorem dX6_saves_7 : decode cX6_saves 7 = .ok (.putfield 324, 3) := by decide +kernel
theorem dX6_saves_10 : decode cX6_saves 10 = .ok (.iconst 0, 1) := by decide +kernel
theorem dX6_saves_11 : decode cX6_saves 11 = .ok (.istore_n 2, 1) := by decide +kernel
theorem dX6_saves_12 : decode cX6_saves 12 = .ok (.iload_n 2, 1) := by decide +kernel
theorem dX6_saves_13 : decode cX6_saves 13 = .ok (.aload_n 0, 1) := by decide +kernel
theorem dX6_saves_14 : decode cX6_saves 14 = .ok (.getfield 324, 3) := by decide +kernel
theorem dX6_saves_17 : decode cX6_saves 17 = .ok (.if_icmp .ge 57, 3) := by decide +kernel
theorem dX6_saves_20 : decode cX6_saves 20 = .ok (.aload_n 0, 1) := by decide +kernel
theorem dX6_saves_21 : decode cX6_saves 21 = .ok (.getfield 102, 3) := by decide +kernel
theorem dX6_saves_24 : decode cX6_saves 24 = .ok (.iload_n 2, 1) := by decide +kernel
theorem dX6_saves_25 : decode cX6_saves 25 = .ok (.aload_n 0, 1) := by decide +kernel
theorem dX6_saves_26 : decode cX6_saves 26 = .ok (.getfield 93, 3) := by decide +kernel
theorem dX6_saves_29 : decode cX6_saves 29 = .ok (.iload_n 1, 1) := by decide +kernel
theorem dX6_saves_30 : decode cX6_saves 30 = .ok (.iload_n 2, 1) := by decide +kernel
theorem dX6_saves_31 : decode cX6_saves 31 = .ok (.invokestatic 263, 3) := by decide +kernel
theorem dX6_saves_34 : decode cX6_saves 34 = .ok (.iaload, 1) := by decide +kernel
theorem dX6_saves_35 : decode cX6_saves 35 = .ok (.iastore, 1) := by decide +kernel
theorem dX6_saves_36 : decode cX6_saves 36 = .ok (.aload_n 0, 1) := by decide +kernel
theorem dX6_saves_37 : decode cX6_saves 37 = .ok (.getfield 105, 3) := by decide +kernel
theorem dX6_saves_40 : decode cX6_saves 40 = .ok (.iload_n 2, 1) := by decide +kernel
theorem dX6_saves_41 : decode cX6_saves 41 = .ok (.aload_n 0, 1) := by decide +kernel
theorem dX6_saves_42 : decode cX6_saves 42 = .ok (.getfield 96, 3) := by decide +kernel
theorem dX6_saves_45 : decode cX6_saves 45 = .ok (.iload_n 1, 1) := by decide +kernel
theorem dX6_saves_46 : decode cX6_saves 46 = .ok (.iload_n 2, 1) := by decide +kernel
theorem dX6_saves_47 : decode cX6_saves 47 = .ok (.invokestatic 263, 3) := by decide +kernel
theorem dX6_saves_50 : decode cX6_saves 50 = .ok (.iaload, 1) := by decide +kernel
theorem dX6_saves_51 : decode cX6_saves 51 = .ok (.iastore, 1) := by decide +kernel
theorem dX6_saves_52 : decode cX6_saves 52 = .ok (.aload_n 0, 1) := by decide +kernel
theorem dX6_saves_53 : decode cX6_saves 53 = .ok (.getfield 108, 3) := by decide +kernel
theorem dX6_saves_56 : decode cX6_saves 56 = .ok (.iload_n 2, 1) := by decide +kernel
theorem dX6_saves_57 : decode cX6_saves 57 = .ok (.aload_n 0, 1) := by decide +kernel
theorem dX6_saves_58 : decode cX6_saves 58 = .ok (.getfield 99, 3) := by decide +kernel
theorem dX6_saves_61 : decode cX6_saves 61 = .ok (.iload_n 1, 1) := by decide +kernel
theorem dX6_saves_62 : decode cX6_saves 62 = .ok (.iload_n 2, 1) := by decide +kernel
theorem dX6_saves_63 : decode cX6_saves 63 = .ok (.invokestatic 263, 3) := by decide +kernel
theorem dX6_saves_66 : decode cX6_saves 66 = .ok (.iaload, 1) := by decide +kernel
theorem dX6_saves_67 : decode cX6_saves 67 = .ok (.iastore, 1) := by decide +kernel
theorem dX6_saves_68 : decode cX6_saves 68 = .ok (.iinc 2 1, 3) := by decide +kernel
theorem dX6_saves_71 : decode cX6_saves 71 = .ok (.goto (-59), 3) := by decide +kernel
theorem dX6_saves_74 : decode cX6_saves 74 = .ok (.return_, 1) := by decide +kernel
def sX6_saves_c12 (k12 : Hp → Int32 → Int32 → Option Hp) (h : Hp) (v1 : Int32) (v2 : Int32) : Option Hp :=
  if (h.1 54 33) ≤ v2 then (some h) else ((sX6_place h v1 v2).bind fun q3 => gd (inb q3.1 50) (gd (inb v2 24) (nm (u1 q3.2 71 v2.toNatClampNeg (q3.2.1 68 q3.1.toNatClampNeg)) fun h6 => (sX6_place h6 v1 v2).bind fun q7 => gd (inb q7.1 50) (gd (inb v2 24) (nm (u1 q7.2 72 v2.toNatClampNeg (q7.2.1 69 q7.1.toNatClampNeg)) fun h10 => (sX6_place h10 v1 v2).bind fun q11 => gd (inb q11.1 50) (gd (inb v2 24) (nm (u1 q11.2 73 v2.toNatClampNeg (q11.2.1 70 q11.1.toNatClampNeg)) fun h14 => nm (v2 + (1 : Int32)) fun x15 => k12 h14 v1 x15)))))))
set_option maxRecDepth 10000 in
theorem vX6_saves_c12 (k12 : Hp → Int32 → Int32 → Option Hp) (hk12 : ∀ (h : Hp) (v1 : Int32) (v2 : Int32) (q : Hp), k12 h v1 v2 = some q → V (Gs 1 (pV q)) mX6_saves (0, 0) 12 [(0, .ref 54), (1, .int v1), (2, .int v2)] [] h) (h : Hp) (v1 : Int32) (v2 : Int32) (q : Hp) (e : sX6_saves_c12 k12 h v1 v2 = some q) : V (Gs 1 (pV q)) mX6_saves (0, 0) 12 [(0, .ref 54), (1, .int v1), (2, .int v2)] [] h := by
  unfold sX6_saves_c12 at e
  refine V.ilq dX6_saves_12 (pc' := 13) rfl (j := 2) rfl ?_
  refine V.alq dX6_saves_13 (pc' := 14) rfl (j := 0) rfl ?_
  refine V.getf dX6_saves_14 (pc' := 17) rfl FL_X6_324 rfl (by decide) rfl ?_
  refine V.ic_ge dX6_saves_17 (pc' := 20) rfl (tgt := 74) (by decide) (fun c => ?_) (fun c => ?_)
  · rw [if_pos c] at e
    exact V.vret dX6_saves_74 rfl (fnV e)
  · rw [if_neg c] at e
    refine V.alq dX6_saves_20 (pc' := 21) rfl (j := 0) rfl ?_
    refine V.getr dX6_saves_21 (pc' := 24) rfl FL_X6_102 rfl (by decide) rfl (r' := 71) rfl ?_
    refine V.ilq dX6_saves_24 (pc' := 25) rfl (j := 2) rfl ?_
    refine V.alq dX6_saves_25 (pc' := 26) rfl (j := 0) rfl ?_
    refine V.getr dX6_saves_26 (pc' := 29) rfl FL_X6_93 rfl (by decide) rfl (r' := 68) rfl ?_
    refine V.ilq dX6_saves_29 (pc' := 30) rfl (j := 1) rfl ?_
    refine V.ilq dX6_saves_30 (pc' := 31) rfl (j := 2) rfl ?_
    obtain ⟨q3, eq3, e⟩ := bd_s e
    refine V.callSi dX6_saves_31 (pc' := 34) rfl CS_X6_263 (as := [.int v1, .int v2]) (kX6_place h v1 v2 q3 eq3) (Gs_rm (by decide)) rfl (Nat.le_of_ble_eq_true rfl) rfl ?_
    obtain ⟨c4, e⟩ := gd_s e
    refine V.iald dX6_saves_34 (pc' := 35) rfl rfl rfl (inb_t c4) ?_
    obtain ⟨c5, e⟩ := gd_s e
    obtain ⟨h6, eh6, e⟩ := nm_s e
    refine V.iast dX6_saves_35 (pc' := 36) rfl rfl rfl (inb_t c5) eh6 ?_
    refine V.alq dX6_saves_36 (pc' := 37) rfl (j := 0) rfl ?_
    refine V.getr dX6_saves_37 (pc' := 40) rfl FL_X6_105 rfl (by decide) rfl (r' := 72) rfl ?_
    refine V.ilq dX6_saves_40 (pc' := 41) rfl (j := 2) rfl ?_
    refine V.alq dX6_saves_41 (pc' := 42) rfl (j := 0) rfl ?_
    refine V.getr dX6_saves_42 (pc' := 45) rfl FL_X6_96 rfl (by decide) rfl (r' := 69) rfl ?_
    refine V.ilq dX6_saves_45 (pc' := 46) rfl (j := 1) rfl ?_
    refine V.ilq dX6_saves_46 (pc' := 47) rfl (j := 2) rfl ?_
    obtain ⟨q7, eq7, e⟩ := bd_s e
    refine V.callSi dX6_saves_47 (pc' := 50) rfl CS_X6_263 (as := [.int v1, .int v2]) (kX6_place h6 v1 v2 q7 eq7) (Gs_rm (by decide)) rfl (Nat.le_of_ble_eq_true rfl) rfl ?_
    obtain ⟨c8, e⟩ := gd_s e
    refine V.iald dX6_saves_50 (pc' := 51) rfl rfl rfl (inb_t c8) ?_
    obtain ⟨c9, e⟩ := gd_s e
    obtain ⟨h10, eh10, e⟩ := nm_s e
    refine V.iast dX6_saves_51 (pc' := 52) rfl rfl rfl (inb_t c9) eh10 ?_
    refine V.alq dX6_saves_52 (pc' := 53) rfl (j := 0) rfl ?_
    refine V.getr dX6_saves_53 (pc' := 56) rfl FL_X6_108 rfl (by decide) rfl (r' := 73) rfl ?_
    refine V.ilq dX6_saves_56 (pc' := 57) rfl (j := 2) rfl ?_
    refine V.alq dX6_saves_57 (pc' := 58) rfl (j := 0) rfl ?_
    refine V.getr dX6_saves_58 (pc' := 61) rfl FL_X6_99 rfl (by decide) rfl (r' := 70) rfl ?_
    refine V.ilq dX6_saves_61 (pc' := 62) rfl (j := 1) rfl ?_
    refine V.ilq dX6_saves_62 (pc' := 63) rfl (j := 2) rfl ?_
    obtain ⟨q11, eq11, e⟩ := bd_s e
    refine V.callSi dX6_saves_63 (pc' := 66) rfl CS_X6_263 (as := [.int v1, .int v2]) (kX6_place h10 v1 v2 q11 eq11) (Gs_rm (by decide)) rfl (Nat.le_of_ble_eq_true rfl) rfl ?_
    obtain ⟨c12, e⟩ := gd_s e
    refine V.iald dX6_saves_66 (pc' := 67) rfl rfl rfl (inb_t c12) ?_
    obtain ⟨c13, e⟩ := gd_s e
    obtain ⟨h14, eh14, e⟩ := nm_s e
    refine V.iast dX6_saves_67 (pc' := 68) rfl rfl rfl (inb_t c13) eh14 ?_
    obtain ⟨x15, ex15, e⟩ := nm_s e
    refine V.iinc dX6_saves_68 (pc' := 71) rfl (j := 2) rfl (v := 1) (by decide) (by decide) ex15 (L' := [(2, .int x15), (0, .ref 54), (1, .int v1)]) rfl ?_
    refine V.goto dX6_saves_71 (pc' := 12) (by decide) ?_
    refine V.pk [1, 2, 0] rfl ?_
    exact hk12 h14 v1 x15 q e
def sX6_saves_b12 : Nat → Hp → Int32 → Int32 → Option Hp
  | 0 => fun _ _ _ => none
  | n + 1 => sX6_saves_c12 (sX6_saves_b12 n)
theorem vX6_saves_b12 : ∀ (n : Nat) (h : Hp) (v1 : Int32) (v2 : Int32) (q : Hp), sX6_saves_b12 n h v1 v2 = some q → V (Gs 1 (pV q)) mX6_saves (0, 0) 12 [(0, .ref 54), (1, .int v1), (2, .int v2)] [] h
  | 0 => fun _ _ _ _ e => by cases e
  | n + 1 => fun h v1 v2 q e => vX6_saves_c12 (sX6_saves_b12 n) (vX6_saves_b12 n) h v1 v2 q e
def sX6_saves (h : Hp) (a1 : Int32) : Option Hp :=
  gd (inb a1 2) (nm (u1 h 54 33 (h.1 67 a1.toNatClampNeg)) fun h2 => sX6_saves_b12 FU h2 a1 (0 : Int32))
set_option maxRecDepth 10000 in
theorem kX6_saves (h : Hp) (a1 : Int32) (q : Hp) (e : sX6_saves h a1 = some q) : K 1 mX6_saves [.ref 54, .int a1] h (pV q) := by
  unfold sX6_saves at e
  refine K.ofV (by decide) rfl (Nat.le_of_ble_eq_true rfl) ?_
  show V (Gs 1 (pV q)) mX6_saves (0, 0) 0 [(0, .ref 54), (1, .int a1)] [] h
  refine V.alq dX6_saves_0 (pc' := 1) rfl (j := 0) rfl ?_
  refine V.alq dX6_saves_1 (pc' := 2) rfl (j := 0) rfl ?_
  refine V.getr dX6_saves_2 (pc' := 5) rfl FL_X6_90 rfl (by decide) rfl (r' := 67) rfl ?_
  refine V.ilq dX6_saves_5 (pc' := 6) rfl (j := 1) rfl ?_
  obtain ⟨c1, e⟩ := gd_s e
  refine V.iald dX6_saves_6 (pc' := 7) rfl rfl rfl (inb_t c1) ?_
  obtain ⟨h2, eh2, e⟩ := nm_s e
  refine V.putf dX6_saves_7 (pc' := 10) rfl FP_X6_324 rfl (by decide) rfl eh2 ?_
  refine V.iconst dX6_saves_10 (pc' := 11) rfl (v := 0) (by decide) ?_
  refine V.isq dX6_saves_11 (pc' := 12) rfl (by decide) rfl (L' := [(2, .int (0 : Int32)), (0, .ref 54), (1, .int a1)]) rfl ?_
  refine V.pk [1, 2, 0] rfl ?_
  exact vX6_saves_b12 FU h2 a1 (0 : Int32) q e

-- X6_comesBack (level 1)
theorem dX6_comesBack_0 : decode cX6_comesBack 0 = .ok (.aload_n 0, 1) := by decide +kernel
theorem dX6_comesBack_1 : decode cX6_comesBack 1 = .ok (.getfield 90, 3) := by decide +kernel
theorem dX6_comesBack_4 : decode cX6_comesBack 4 = .ok (.iload_n 1, 1) := by decide +kernel
theorem dX6_comesBack_5 : decode cX6_comesBack 5 = .ok (.aload_n 0, 1) := by decide +kernel
theorem dX6_comesBack_6 : decode cX6_comesBack 6 = .ok (.getfield 324, 3) := by decide +kernel
theorem dX6_comesBack_9 : decode cX6_comesBack 9 = .ok (.iastore, 1) := by decide +kernel
theorem dX6_comesBack_10 : decode cX6_comesBack 10 = .ok (.iconst 0, 1) := by decide +kernel
theorem dX6_comesBack_11 : decode cX6_comesBack 11 = .ok (.istore_n 2, 1) := by decide +kernel
theorem dX6_comesBack_12 : decode cX6_comesBack 12 = .ok (.iload_n 2, 1) := by decide +kernel
theorem dX6_comesBack_13 : decode cX6_comesBack 13 = .ok (.aload_n 0, 1) := by decide +kernel
theorem dX6_comesBack_14 : decode cX6_comesBack 14 = .ok (.getfield 324, 3) := by decide +kernel
theorem dX6_comesBack_17 : decode cX6_comesBack 17 = .ok (.if_icmp .ge 57, 3) := by decide +kernel
theorem dX6_comesBack_20 : decode cX6_comesBack 20 = .ok (.aload_n 0, 1) := by decide +kernel
theorem dX6_comesBack_21 : decode cX6_comesBack 21 = .ok (.getfield 93, 3) := by decide +kernel
theorem dX6_comesBack_24 : decode cX6_comesBack 24 = .ok (.iload_n 1, 1) := by decide +kernel
theorem dX6_comesBack_25 : decode cX6_comesBack 25 = .ok (.iload_n 2, 1) := by decide +kernel
theorem dX6_comesBack_26 : decode cX6_comesBack 26 = .ok (.invokestatic 263, 3) := by decide +kernel
theorem dX6_comesBack_29 : decode cX6_comesBack 29 = .ok (.aload_n 0, 1) := by decide +kernel
theorem dX6_comesBack_30 : decode cX6_comesBack 30 = .ok (.getfield 102, 3) := by decide +kernel
theorem dX6_comesBack_33 : decode cX6_comesBack 33 = .ok (.iload_n 2, 1) := by decide +kernel
theorem dX6_comesBack_34 : decode cX6_comesBack 34 = .ok (.iaload, 1) := by decide +kernel
theorem dX6_comesBack_35 : decode cX6_comesBack 35 = .ok (.iastore, 1) := by decide +kernel
theorem dX6_comesBack_36 : decode cX6_comesBack 36 = .ok (.aload_n 0, 1) := by decide +kernel
theorem dX6_comesBack_37 : decode cX6_comesBack 37 = .ok (.getfield 96, 3) := by decide +kernel
theorem dX6_comesBack_40 : decode cX6_comesBack 40 = .ok (.iload_n 1, 1) := by decide +kernel
theorem dX6_comesBack_41 : decode cX6_comesBack 41 = .ok (.iload_n 2, 1) := by decide +kernel
theorem dX6_comesBack_42 : decode cX6_comesBack 42 = .ok (.invokestatic 263, 3) := by decide +kernel
theorem dX6_comesBack_45 : decode cX6_comesBack 45 = .ok (.aload_n 0, 1) := by decide +kernel
theorem dX6_comesBack_46 : decode cX6_comesBack 46 = .ok (.getfield 105, 3) := by decide +kernel
theorem dX6_comesBack_49 : decode cX6_comesBack 49 = .ok (.iload_n 2, 1) := by decide +kernel
theorem dX6_comesBack_50 : decode cX6_comesBack 50 = .ok (.iaload, 1) := by decide +kernel
theorem dX6_comesBack_51 : decode cX6_comesBack 51 = .ok (.iastore, 1) := by decide +kernel
theorem dX6_comesBack_52 : decode cX6_comesBack 52 = .ok (.aload_n 0, 1) := by decide +kernel
theorem dX6_comesBack_53 : decode cX6_comesBack 53 = .ok (.getfield 99, 3) := by decide +kernel
theorem dX6_comesBack_56 : decode cX6_comesBack 56 = .ok (.iload_n 1, 1) := by decide +kernel
theorem dX6_comesBack_57 : decode cX6_comesBack 57 = .ok (.iload_n 2, 1) := by decide +kernel
theorem dX6_comesBack_58 : decode cX6_comesBack 58 = .ok (.invokestatic 263, 3) := by decide +kernel
theorem dX6_comesBack_61 : decode cX6_comesBack 61 = .ok (.aload_n 0, 1) := by decide +kernel
theorem dX6_comesBack_62 : decode cX6_comesBack 62 = .ok (.getfield 108, 3) := by decide +kernel
theorem dX6_comesBack_65 : decode cX6_comesBack 65 = .ok (.iload_n 2, 1) := by decide +kernel
theorem dX6_comesBack_66 : decode cX6_comesBack 66 = .ok (.iaload, 1) := by decide +kernel
theorem dX6_comesBack_67 : decode cX6_comesBack 67 = .ok (.iastore, 1) := by decide +kernel
theorem dX6_comesBack_68 : decode cX6_comesBack 68 = .ok (.iinc 2 1, 3) := by decide +kernel
theorem dX6_comesBack_71 : decode cX6_comesBack 71 = .ok (.goto (-59), 3) := by decide +kernel
theorem dX6_comesBack_74 : decode cX6_comesBack 74 = .ok (.return_, 1) := by decide +kernel
def sX6_comesBack_c12 (k12 : Hp → Int32 → Int32 → Option Hp) (h : Hp) (v1 : Int32) (v2 : Int32) : Option Hp :=
  if (h.1 54 33) ≤ v2 then (some h) else ((sX6_place h v1 v2).bind fun q3 => gd (inb v2 24) (gd (inb q3.1 50) (nm (u1 q3.2 68 q3.1.toNatClampNeg (q3.2.1 71 v2.toNatClampNeg)) fun h6 => (sX6_place h6 v1 v2).bind fun q7 => gd (inb v2 24) (gd (inb q7.1 50) (nm (u1 q7.2 69 q7.1.toNatClampNeg (q7.2.1 72 v2.toNatClampNeg)) fun h10 => (sX6_place h10 v1 v2).bind fun q11 => gd (inb v2 24) (gd (inb q11.1 50) (nm (u1 q11.2 70 q11.1.toNatClampNeg (q11.2.1 73 v2.toNatClampNeg)) fun h14 => nm (v2 + (1 : Int32)) fun x15 => k12 h14 v1 x15)))))))
set_option maxRecDepth 10000 in
theorem vX6_comesBack_c12 (k12 : Hp → Int32 → Int32 → Option Hp) (hk12 : ∀ (h : Hp) (v1 : Int32) (v2 : Int32) (q : Hp), k12 h v1 v2 = some q → V (Gs 1 (pV q)) mX6_comesBack (0, 0) 12 [(0, .ref 54), (1, .int v1), (2, .int v2)] [] h) (h : Hp) (v1 : Int32) (v2 : Int32) (q : Hp) (e : sX6_comesBack_c12 k12 h v1 v2 = some q) : V (Gs 1 (pV q)) mX6_comesBack (0, 0) 12 [(0, .ref 54), (1, .int v1), (2, .int v2)] [] h := by
  unfold sX6_comesBack_c12 at e
  refine V.ilq dX6_comesBack_12 (pc' := 13) rfl (j := 2) rfl ?_
  refine V.alq dX6_comesBack_13 (pc' := 14) rfl (j := 0) rfl ?_
  refine V.getf dX6_comesBack_14 (pc' := 17) rfl FL_X6_324 rfl (by decide) rfl ?_
  refine V.ic_ge dX6_comesBack_17 (pc' := 20) rfl (tgt := 74) (by decide) (fun c => ?_) (fun c => ?_)
  · rw [if_pos c] at e
    exact V.vret dX6_comesBack_74 rfl (fnV e)
  · rw [if_neg c] at e
    refine V.alq dX6_comesBack_20 (pc' := 21) rfl (j := 0) rfl ?_
    refine V.getr dX6_comesBack_21 (pc' := 24) rfl FL_X6_93 rfl (by decide) rfl (r' := 68) rfl ?_
    refine V.ilq dX6_comesBack_24 (pc' := 25) rfl (j := 1) rfl ?_
    refine V.ilq dX6_comesBack_25 (pc' := 26) rfl (j := 2) rfl ?_
    obtain ⟨q3, eq3, e⟩ := bd_s e
    refine V.callSi dX6_comesBack_26 (pc' := 29) rfl CS_X6_263 (as := [.int v1, .int v2]) (kX6_place h v1 v2 q3 eq3) (Gs_rm (by decide)) rfl (Nat.le_of_ble_eq_true rfl) rfl ?_
    refine V.alq dX6_comesBack_29 (pc' := 30) rfl (j := 0) rfl ?_
    refine V.getr dX6_comesBack_30 (pc' := 33) rfl FL_X6_102 rfl (by decide) rfl (r' := 71) rfl ?_
    refine V.ilq dX6_comesBack_33 (pc' := 34) rfl (j := 2) rfl ?_
    obtain ⟨c4, e⟩ := gd_s e
    refine V.iald dX6_comesBack_34 (pc' := 35) rfl rfl rfl (inb_t c4) ?_
    obtain ⟨c5, e⟩ := gd_s e
    obtain ⟨h6, eh6, e⟩ := nm_s e
    refine V.iast dX6_comesBack_35 (pc' := 36) rfl rfl rfl (inb_t c5) eh6 ?_
    refine V.alq dX6_comesBack_36 (pc' := 37) rfl (j := 0) rfl ?_
    refine V.getr dX6_comesBack_37 (pc' := 40) rfl FL_X6_96 rfl (by decide) rfl (r' := 69) rfl ?_
    refine V.ilq dX6_comesBack_40 (pc' := 41) rfl (j := 1) rfl ?_
    refine V.ilq dX6_comesBack_41 (pc' := 42) rfl (j := 2) rfl ?_
    obtain ⟨q7, eq7, e⟩ := bd_s e
    refine V.callSi dX6_comesBack_42 (pc' := 45) rfl CS_X6_263 (as := [.int v1, .int v2]) (kX6_place h6 v1 v2 q7 eq7) (Gs_rm (by decide)) rfl (Nat.le_of_ble_eq_true rfl) rfl ?_
    refine V.alq dX6_comesBack_45 (pc' := 46) rfl (j := 0) rfl ?_
    refine V.getr dX6_comesBack_46 (pc' := 49) rfl FL_X6_105 rfl (by decide) rfl (r' := 72) rfl ?_
    refine V.ilq dX6_comesBack_49 (pc' := 50) rfl (j := 2) rfl ?_
    obtain ⟨c8, e⟩ := gd_s e
    refine V.iald dX6_comesBack_50 (pc' := 51) rfl rfl rfl (inb_t c8) ?_
    obtain ⟨c9, e⟩ := gd_s e
    obtain ⟨h10, eh10, e⟩ := nm_s e
    refine V.iast dX6_comesBack_51 (pc' := 52) rfl rfl rfl (inb_t c9) eh10 ?_
    refine V.alq dX6_comesBack_52 (pc' := 53) rfl (j := 0) rfl ?_
    refine V.getr dX6_comesBack_53 (pc' := 56) rfl FL_X6_99 rfl (by decide) rfl (r' := 70) rfl ?_
    refine V.ilq dX6_comesBack_56 (pc' := 57) rfl (j := 1) rfl ?_
    refine V.ilq dX6_comesBack_57 (pc' := 58) rfl (j := 2) rfl ?_
    obtain ⟨q11, eq11, e⟩ := bd_s e
    refine V.callSi dX6_comesBack_58 (pc' := 61) rfl CS_X6_263 (as := [.int v1, .int v2]) (kX6_place h10 v1 v2 q11 eq11) (Gs_rm (by decide)) rfl (Nat.le_of_ble_eq_true rfl) rfl ?_
    refine V.alq dX6_comesBack_61 (pc' := 62) rfl (j := 0) rfl ?_
    refine V.getr dX6_comesBack_62 (pc' := 65) rfl FL_X6_108 rfl (by decide) rfl (r' := 73) rfl ?_
    refine V.ilq dX6_comesBack_65 (pc' := 66) rfl (j := 2) rfl ?_
    obtain ⟨c12, e⟩ := gd_s e
    refine V.iald dX6_comesBack_66 (pc' := 67) rfl rfl rfl (inb_t c12) ?_
    obtain ⟨c13, e⟩ := gd_s e
    obtain ⟨h14, eh14, e⟩ := nm_s e
    refine V.iast dX6_comesBack_67 (pc' := 68) rfl rfl rfl (inb_t c13) eh14 ?_
    obtain ⟨x15, ex15, e⟩ := nm_s e
    refine V.iinc dX6_comesBack_68 (pc' := 71) rfl (j := 2) rfl (v := 1) (by decide) (by decide) ex15 (L' := [(2, .int x15), (0, .ref 54), (1, .int v1)]) rfl ?_
    refine V.goto dX6_comesBack_71 (pc' := 12) (by decide) ?_
    refine V.pk [1, 2, 0] rfl ?_
    exact hk12 h14 v1 x15 q e
def sX6_comesBack_b12 : Nat → Hp → Int32 → Int32 → Option Hp
  | 0 => fun _ _ _ => none
  | n + 1 => sX6_comesBack_c12 (sX6_comesBack_b12 n)
theorem vX6_comesBack_b12 : ∀ (n : Nat) (h : Hp) (v1 : Int32) (v2 : Int32) (q : Hp), sX6_comesBack_b12 n h v1 v2 = some q → V (Gs 1 (pV q)) mX6_comesBack (0, 0) 12 [(0, .ref 54), (1, .int v1), (2, .int v2)] [] h
  | 0 => fun _ _ _ _ e => by cases e
  | n + 1 => fun h v1 v2 q e => vX6_comesBack_c12 (sX6_comesBack_b12 n) (vX6_comesBack_b12 n) h v1 v2 q e
def sX6_comesBack (h : Hp) (a1 : Int32) : Option Hp :=
  gd (inb a1 2) (nm (u1 h 67 a1.toNatClampNeg (h.1 54 33)) fun h2 => sX6_comesBack_b12 FU h2 a1 (0 : Int32))
set_option maxRecDepth 10000 in
theorem kX6_comesBack (h : Hp) (a1 : Int32) (q : Hp) (e : sX6_comesBack h a1 = some q) : K 1 mX6_comesBack [.ref 54, .int a1] h (pV q) := by
  unfold sX6_comesBack at e
  refine K.ofV (by decide) rfl (Nat.le_of_ble_eq_true rfl) ?_
  show V (Gs 1 (pV q)) mX6_comesBack (0, 0) 0 [(0, .ref 54), (1, .int a1)] [] h
  refine V.alq dX6_comesBack_0 (pc' := 1) rfl (j := 0) rfl ?_
  refine V.getr dX6_comesBack_1 (pc' := 4) rfl FL_X6_90 rfl (by decide) rfl (r' := 67) rfl ?_
  refine V.ilq dX6_comesBack_4 (pc' := 5) rfl (j := 1) rfl ?_
  refine V.alq dX6_comesBack_5 (pc' := 6) rfl (j := 0) rfl ?_
  refine V.getf dX6_comesBack_6 (pc' := 9) rfl FL_X6_324 rfl (by decide) rfl ?_
  obtain ⟨c1, e⟩ := gd_s e
  obtain ⟨h2, eh2, e⟩ := nm_s e
  refine V.iast dX6_comesBack_9 (pc' := 10) rfl rfl rfl (inb_t c1) eh2 ?_
  refine V.iconst dX6_comesBack_10 (pc' := 11) rfl (v := 0) (by decide) ?_
  refine V.isq dX6_comesBack_11 (pc' := 12) rfl (by decide) rfl (L' := [(2, .int (0 : Int32)), (0, .ref 54), (1, .int a1)]) rfl ?_
  refine V.pk [1, 2, 0] rfl ?_
  exact vX6_comesBack_b12 FU h2 a1 (0 : Int32) q e

-- X6_closesUp (level 1)
theorem dX6_closesUp_0 : decode cX6_closesUp 0 = .ok (.iconst 0, 1) := by decide +kernel
theorem dX6_closesUp_1 : decode cX6_closesUp 1 = .ok (.istore_n 2, 1) := by decide +kernel
theorem dX6_closesUp_2 : decode cX6_closesUp 2 = .ok (.iconst 0, 1) := by decide +kernel
theorem dX6_closesUp_3 : decode cX6_closesUp 3 = .ok (.istore_n 3, 1) := by decide +kernel
theorem dX6_closesUp_4 : decode cX6_closesUp 4 = .ok (.iload_n 3, 1) := by decide +kernel
theorem dX6_closesUp_5 : decode cX6_closesUp 5 = .ok (.aload_n 0, 1) := by decide +kernel
theorem dX6_closesUp_6 : decode cX6_closesUp 6 = .ok (.getfield 90, 3) := by decide +kernel
theorem dX6_closesUp_9 : decode cX6_closesUp 9 = .ok (.iload_n 1, 1) := by decide +kernel
theorem dX6_closesUp_10 : decode cX6_closesUp 10 = .ok (.iaload, 1) := by decide +kernel
theorem dX6_closesUp_11 : decode cX6_closesUp 11 = .ok (.if_icmp .ge 81, 3) := by decide +kernel
theorem dX6_closesUp_14 : decode cX6_closesUp 14 = .ok (.iload_n 1, 1) := by decide +kernel
theorem dX6_closesUp_15 : decode cX6_closesUp 15 = .ok (.iload_n 3, 1) := by decide +kernel
theorem dX6_closesUp_16 : decode cX6_closesUp 16 = .ok (.invokestatic 263, 3) := by decide +kernel
theorem dX6_closesUp_19 : decode cX6_closesUp 19 = .ok (.istore 4, 2) := by decide +kernel
theorem dX6_closesUp_21 : decode cX6_closesUp 21 = .ok (.aload_n 0, 1) := by decide +kernel
theorem dX6_closesUp_22 : decode cX6_closesUp 22 = .ok (.getfield 99, 3) := by decide +kernel
theorem dX6_closesUp_25 : decode cX6_closesUp 25 = .ok (.iload 4, 2) := by decide +kernel
theorem dX6_closesUp_27 : decode cX6_closesUp 27 = .ok (.iaload, 1) := by decide +kernel
theorem dX6_closesUp_28 : decode cX6_closesUp 28 = .ok (.ifCond .ne 6, 3) := by decide +kernel
theorem dX6_closesUp_31 : decode cX6_closesUp 31 = .ok (.goto 55, 3) := by decide +kernel
theorem dX6_closesUp_34 : decode cX6_closesUp 34 = .ok (.iload_n 1, 1) := by decide +kernel
theorem dX6_closesUp_35 : decode cX6_closesUp 35 = .ok (.iload_n 2, 1) := by decide +kernel
theorem dX6_closesUp_36 : decode cX6_closesUp 36 = .ok (.invokestatic 263, 3) := by decide +kernel
theorem dX6_closesUp_39 : decode cX6_closesUp 39 = .ok (.istore 5, 2) := by decide +kernel
theorem dX6_closesUp_41 : decode cX6_closesUp 41 = .ok (.aload_n 0, 1) := by decide +kernel
theorem dX6_closesUp_42 : decode cX6_closesUp 42 = .ok (.getfield 93, 3) := by decide +kernel
theorem dX6_closesUp_45 : decode cX6_closesUp 45 = .ok (.iload 5, 2) := by decide +kernel
theorem dX6_closesUp_47 : decode cX6_closesUp 47 = .ok (.aload_n 0, 1) := by decide +kernel
theorem dX6_closesUp_48 : decode cX6_closesUp 48 = .ok (.getfield 93, 3) := by decide +kernel
theorem dX6_closesUp_51 : decode cX6_closesUp 51 = .ok (.iload 4, 2) := by decide +kernel
theorem dX6_closesUp_53 : decode cX6_closesUp 53 = .ok (.iaload, 1) := by decide +kernel
theorem dX6_closesUp_54 : decode cX6_closesUp 54 = .ok (.iastore, 1) := by decide +kernel
theorem dX6_closesUp_55 : decode cX6_closesUp 55 = .ok (.aload_n 0, 1) := by decide +kernel
theorem dX6_closesUp_56 : decode cX6_closesUp 56 = .ok (.getfield 96, 3) := by decide +kernel
theorem dX6_closesUp_59 : decode cX6_closesUp 59 = .ok (.iload 5, 2) := by decide +kernel
theorem dX6_closesUp_61 : decode cX6_closesUp 61 = .ok (.aload_n 0, 1) := by decide +kernel
theorem dX6_closesUp_62 : decode cX6_closesUp 62 = .ok (.getfield 96, 3) := by decide +kernel
theorem dX6_closesUp_65 : decode cX6_closesUp 65 = .ok (.iload 4, 2) := by decide +kernel
theorem dX6_closesUp_67 : decode cX6_closesUp 67 = .ok (.iaload, 1) := by decide +kernel
theorem dX6_closesUp_68 : decode cX6_closesUp 68 = .ok (.iastore, 1) := by decide +kernel
theorem dX6_closesUp_69 : decode cX6_closesUp 69 = .ok (.aload_n 0, 1) := by decide +kernel
theorem dX6_closesUp_70 : decode cX6_closesUp 70 = .ok (.getfield 99, 3) := by decide +kernel
theorem dX6_closesUp_73 : decode cX6_closesUp 73 = .ok (.iload 5, 2) := by decide +kernel
theorem dX6_closesUp_75 : decode cX6_closesUp 75 = .ok (.aload_n 0, 1) := by decide +kernel
theorem dX6_closesUp_76 : decode cX6_closesUp 76 = .ok (.getfield 99, 3) := by decide +kernel
theorem dX6_closesUp_79 : decode cX6_closesUp 79 = .ok (.iload 4, 2) := by decide +kernel
theorem dX6_closesUp_81 : decode cX6_closesUp 81 = .ok (.iaload, 1) := by decide +kernel
theorem dX6_closesUp_82 : decode cX6_closesUp 82 = .ok (.iastore, 1) := by decide +kernel
theorem dX6_closesUp_83 : decode cX6_closesUp 83 = .ok (.iinc 2 1, 3) := by decide +kernel
theorem dX6_closesUp_86 : decode cX6_closesUp 86 = .ok (.iinc 3 1, 3) := by decide +kernel
theorem dX6_closesUp_89 : decode cX6_closesUp 89 = .ok (.goto (-85), 3) := by decide +kernel
theorem dX6_closesUp_92 : decode cX6_closesUp 92 = .ok (.aload_n 0, 1) := by decide +kernel
theorem dX6_closesUp_93 : decode cX6_closesUp 93 = .ok (.getfield 90, 3) := by decide +kernel
theorem dX6_closesUp_96 : decode cX6_closesUp 96 = .ok (.iload_n 1, 1) := by decide +kernel
theorem dX6_closesUp_97 : decode cX6_closesUp 97 = .ok (.iload_n 2, 1) := by decide +kernel
theorem dX6_closesUp_98 : decode cX6_closesUp 98 = .ok (.iastore, 1) := by decide +kernel
theorem dX6_closesUp_99 : decode cX6_closesUp 99 = .ok (.return_, 1) := by decide +kernel
def sX6_closesUp_c86 (k4 : Hp → Int32 → Int32 → Int32 → Option Hp) (h : Hp) (v1 : Int32) (v2 : Int32) (v3 : Int32) : Option Hp :=
  nm (v3 + (1 : Int32)) fun x17 => k4 h v1 v2 x17
set_option maxRecDepth 10000 in
theorem vX6_closesUp_c86 (k4 : Hp → Int32 → Int32 → Int32 → Option Hp) (hk4 : ∀ (h : Hp) (v1 : Int32) (v2 : Int32) (v3 : Int32) (q : Hp), k4 h v1 v2 v3 = some q → V (Gs 1 (pV q)) mX6_closesUp (0, 0) 4 [(0, .ref 54), (1, .int v1), (2, .int v2), (3, .int v3)] [] h) (h : Hp) (v1 : Int32) (v2 : Int32) (v3 : Int32) (q : Hp) (e : sX6_closesUp_c86 k4 h v1 v2 v3 = some q) : V (Gs 1 (pV q)) mX6_closesUp (0, 0) 86 [(0, .ref 54), (1, .int v1), (2, .int v2), (3, .int v3)] [] h := by
  unfold sX6_closesUp_c86 at e
  obtain ⟨x17, ex17, e⟩ := nm_s e
  refine V.iinc dX6_closesUp_86 (pc' := 89) rfl (j := 3) rfl (v := 1) (by decide) (by decide) ex17 (L' := [(3, .int x17), (0, .ref 54), (1, .int v1), (2, .int v2)]) rfl ?_
  refine V.goto dX6_closesUp_89 (pc' := 4) (by decide) ?_
  refine V.pk [1, 2, 3, 0] rfl ?_
  exact hk4 h v1 v2 x17 q e
def sX6_closesUp_c4 (k4 : Hp → Int32 → Int32 → Int32 → Option Hp) (h : Hp) (v1 : Int32) (v2 : Int32) (v3 : Int32) : Option Hp :=
  gd (inb v1 2) (if (h.1 67 v1.toNatClampNeg) ≤ v3 then (gd (inb v1 2) (nm (u1 h 67 v1.toNatClampNeg v2) fun h3 => some h3)) else ((sX6_place h v1 v3).bind fun q4 => gd (inb q4.1 50) (if (q4.2.1 70 q4.1.toNatClampNeg) = 0 then (sX6_closesUp_c86 k4 q4.2 v1 v2 v3) else ((sX6_place q4.2 v1 v2).bind fun q6 => gd (inb q4.1 50) (gd (inb q6.1 50) (nm (u1 q6.2 68 q6.1.toNatClampNeg (q6.2.1 68 q4.1.toNatClampNeg)) fun h9 => gd (inb q4.1 50) (gd (inb q6.1 50) (nm (u1 h9 69 q6.1.toNatClampNeg (h9.1 69 q4.1.toNatClampNeg)) fun h12 => gd (inb q4.1 50) (gd (inb q6.1 50) (nm (u1 h12 70 q6.1.toNatClampNeg (h12.1 70 q4.1.toNatClampNeg)) fun h15 => nm (v2 + (1 : Int32)) fun x16 => sX6_closesUp_c86 k4 h15 v1 x16 v3))))))))))
set_option maxRecDepth 10000 in
theorem vX6_closesUp_c4 (k4 : Hp → Int32 → Int32 → Int32 → Option Hp) (hk4 : ∀ (h : Hp) (v1 : Int32) (v2 : Int32) (v3 : Int32) (q : Hp), k4 h v1 v2 v3 = some q → V (Gs 1 (pV q)) mX6_closesUp (0, 0) 4 [(0, .ref 54), (1, .int v1), (2, .int v2), (3, .int v3)] [] h) (h : Hp) (v1 : Int32) (v2 : Int32) (v3 : Int32) (q : Hp) (e : sX6_closesUp_c4 k4 h v1 v2 v3 = some q) : V (Gs 1 (pV q)) mX6_closesUp (0, 0) 4 [(0, .ref 54), (1, .int v1), (2, .int v2), (3, .int v3)] [] h := by
  unfold sX6_closesUp_c4 at e
  refine V.ilq dX6_closesUp_4 (pc' := 5) rfl (j := 3) rfl ?_
  refine V.alq dX6_closesUp_5 (pc' := 6) rfl (j := 0) rfl ?_
  refine V.getr dX6_closesUp_6 (pc' := 9) rfl FL_X6_90 rfl (by decide) rfl (r' := 67) rfl ?_
  refine V.ilq dX6_closesUp_9 (pc' := 10) rfl (j := 1) rfl ?_
  obtain ⟨c1, e⟩ := gd_s e
  refine V.iald dX6_closesUp_10 (pc' := 11) rfl rfl rfl (inb_t c1) ?_
  refine V.ic_ge dX6_closesUp_11 (pc' := 14) rfl (tgt := 92) (by decide) (fun c => ?_) (fun c => ?_)
  · rw [if_pos c] at e
    refine V.alq dX6_closesUp_92 (pc' := 93) rfl (j := 0) rfl ?_
    refine V.getr dX6_closesUp_93 (pc' := 96) rfl FL_X6_90 rfl (by decide) rfl (r' := 67) rfl ?_
    refine V.ilq dX6_closesUp_96 (pc' := 97) rfl (j := 1) rfl ?_
    refine V.ilq dX6_closesUp_97 (pc' := 98) rfl (j := 2) rfl ?_
    obtain ⟨c2, e⟩ := gd_s e
    obtain ⟨h3, eh3, e⟩ := nm_s e
    refine V.iast dX6_closesUp_98 (pc' := 99) rfl rfl rfl (inb_t c2) eh3 ?_
    exact V.vret dX6_closesUp_99 rfl (fnV e)
  · rw [if_neg c] at e
    refine V.ilq dX6_closesUp_14 (pc' := 15) rfl (j := 1) rfl ?_
    refine V.ilq dX6_closesUp_15 (pc' := 16) rfl (j := 3) rfl ?_
    obtain ⟨q4, eq4, e⟩ := bd_s e
    refine V.callSi dX6_closesUp_16 (pc' := 19) rfl CS_X6_263 (as := [.int v1, .int v3]) (kX6_place h v1 v3 q4 eq4) (Gs_rm (by decide)) rfl (Nat.le_of_ble_eq_true rfl) rfl ?_
    refine V.is dX6_closesUp_19 (pc' := 21) rfl (by decide) rfl (L' := [(4, .int q4.1), (0, .ref 54), (1, .int v1), (2, .int v2), (3, .int v3)]) rfl ?_
    refine V.alq dX6_closesUp_21 (pc' := 22) rfl (j := 1) rfl ?_
    refine V.getr dX6_closesUp_22 (pc' := 25) rfl FL_X6_99 rfl (by decide) rfl (r' := 70) rfl ?_
    refine V.il dX6_closesUp_25 (pc' := 27) rfl (j := 0) rfl ?_
    obtain ⟨c5, e⟩ := gd_s e
    refine V.iald dX6_closesUp_27 (pc' := 28) rfl rfl rfl (inb_t c5) ?_
    refine V.if_ne dX6_closesUp_28 (pc' := 31) rfl (tgt := 34) (by decide) (fun c => ?_) (fun c => ?_)
    · rw [if_neg c] at e
      refine V.ilq dX6_closesUp_34 (pc' := 35) rfl (j := 2) rfl ?_
      refine V.ilq dX6_closesUp_35 (pc' := 36) rfl (j := 3) rfl ?_
      obtain ⟨q6, eq6, e⟩ := bd_s e
      refine V.callSi dX6_closesUp_36 (pc' := 39) rfl CS_X6_263 (as := [.int v1, .int v2]) (kX6_place q4.2 v1 v2 q6 eq6) (Gs_rm (by decide)) rfl (Nat.le_of_ble_eq_true rfl) rfl ?_
      refine V.is dX6_closesUp_39 (pc' := 41) rfl (by decide) rfl (L' := [(5, .int q6.1), (4, .int q4.1), (0, .ref 54), (1, .int v1), (2, .int v2), (3, .int v3)]) rfl ?_
      refine V.alq dX6_closesUp_41 (pc' := 42) rfl (j := 2) rfl ?_
      refine V.getr dX6_closesUp_42 (pc' := 45) rfl FL_X6_93 rfl (by decide) rfl (r' := 68) rfl ?_
      refine V.il dX6_closesUp_45 (pc' := 47) rfl (j := 0) rfl ?_
      refine V.alq dX6_closesUp_47 (pc' := 48) rfl (j := 2) rfl ?_
      refine V.getr dX6_closesUp_48 (pc' := 51) rfl FL_X6_93 rfl (by decide) rfl (r' := 68) rfl ?_
      refine V.il dX6_closesUp_51 (pc' := 53) rfl (j := 1) rfl ?_
      obtain ⟨c7, e⟩ := gd_s e
      refine V.iald dX6_closesUp_53 (pc' := 54) rfl rfl rfl (inb_t c7) ?_
      obtain ⟨c8, e⟩ := gd_s e
      obtain ⟨h9, eh9, e⟩ := nm_s e
      refine V.iast dX6_closesUp_54 (pc' := 55) rfl rfl rfl (inb_t c8) eh9 ?_
      refine V.alq dX6_closesUp_55 (pc' := 56) rfl (j := 2) rfl ?_
      refine V.getr dX6_closesUp_56 (pc' := 59) rfl FL_X6_96 rfl (by decide) rfl (r' := 69) rfl ?_
      refine V.il dX6_closesUp_59 (pc' := 61) rfl (j := 0) rfl ?_
      refine V.alq dX6_closesUp_61 (pc' := 62) rfl (j := 2) rfl ?_
      refine V.getr dX6_closesUp_62 (pc' := 65) rfl FL_X6_96 rfl (by decide) rfl (r' := 69) rfl ?_
      refine V.il dX6_closesUp_65 (pc' := 67) rfl (j := 1) rfl ?_
      obtain ⟨c10, e⟩ := gd_s e
      refine V.iald dX6_closesUp_67 (pc' := 68) rfl rfl rfl (inb_t c10) ?_
      obtain ⟨c11, e⟩ := gd_s e
      obtain ⟨h12, eh12, e⟩ := nm_s e
      refine V.iast dX6_closesUp_68 (pc' := 69) rfl rfl rfl (inb_t c11) eh12 ?_
      refine V.alq dX6_closesUp_69 (pc' := 70) rfl (j := 2) rfl ?_
      refine V.getr dX6_closesUp_70 (pc' := 73) rfl FL_X6_99 rfl (by decide) rfl (r' := 70) rfl ?_
      refine V.il dX6_closesUp_73 (pc' := 75) rfl (j := 0) rfl ?_
      refine V.alq dX6_closesUp_75 (pc' := 76) rfl (j := 2) rfl ?_
      refine V.getr dX6_closesUp_76 (pc' := 79) rfl FL_X6_99 rfl (by decide) rfl (r' := 70) rfl ?_
      refine V.il dX6_closesUp_79 (pc' := 81) rfl (j := 1) rfl ?_
      obtain ⟨c13, e⟩ := gd_s e
      refine V.iald dX6_closesUp_81 (pc' := 82) rfl rfl rfl (inb_t c13) ?_
      obtain ⟨c14, e⟩ := gd_s e
      obtain ⟨h15, eh15, e⟩ := nm_s e
      refine V.iast dX6_closesUp_82 (pc' := 83) rfl rfl rfl (inb_t c14) eh15 ?_
      obtain ⟨x16, ex16, e⟩ := nm_s e
      refine V.iinc dX6_closesUp_83 (pc' := 86) rfl (j := 4) rfl (v := 1) (by decide) (by decide) ex16 (L' := [(2, .int x16), (5, .int q6.1), (4, .int q4.1), (0, .ref 54), (1, .int v1), (3, .int v3)]) rfl ?_
      refine V.pk [3, 4, 0, 5] rfl ?_
      exact vX6_closesUp_c86 k4 hk4 h15 v1 x16 v3 q e
    · rw [if_pos c] at e
      refine V.goto dX6_closesUp_31 (pc' := 86) (by decide) ?_
      refine V.pk [1, 2, 3, 4] rfl ?_
      exact vX6_closesUp_c86 k4 hk4 q4.2 v1 v2 v3 q e
def sX6_closesUp_b4 : Nat → Hp → Int32 → Int32 → Int32 → Option Hp
  | 0 => fun _ _ _ _ => none
  | n + 1 => sX6_closesUp_c4 (sX6_closesUp_b4 n)
theorem vX6_closesUp_b4 : ∀ (n : Nat) (h : Hp) (v1 : Int32) (v2 : Int32) (v3 : Int32) (q : Hp), sX6_closesUp_b4 n h v1 v2 v3 = some q → V (Gs 1 (pV q)) mX6_closesUp (0, 0) 4 [(0, .ref 54), (1, .int v1), (2, .int v2), (3, .int v3)] [] h
  | 0 => fun _ _ _ _ _ e => by cases e
  | n + 1 => fun h v1 v2 v3 q e => vX6_closesUp_c4 (sX6_closesUp_b4 n) (vX6_closesUp_b4 n) h v1 v2 v3 q e
def sX6_closesUp (h : Hp) (a1 : Int32) : Option Hp :=
  sX6_closesUp_b4 FU h a1 (0 : Int32) (0 : Int32)
set_option maxRecDepth 10000 in
theorem kX6_closesUp (h : Hp) (a1 : Int32) (q : Hp) (e : sX6_closesUp h a1 = some q) : K 1 mX6_closesUp [.ref 54, .int a1] h (pV q) := by
  unfold sX6_closesUp at e
  refine K.ofV (by decide) rfl (Nat.le_of_ble_eq_true rfl) ?_
  show V (Gs 1 (pV q)) mX6_closesUp (0, 0) 0 [(0, .ref 54), (1, .int a1)] [] h
  refine V.iconst dX6_closesUp_0 (pc' := 1) rfl (v := 0) (by decide) ?_
  refine V.isq dX6_closesUp_1 (pc' := 2) rfl (by decide) rfl (L' := [(2, .int (0 : Int32)), (0, .ref 54), (1, .int a1)]) rfl ?_
  refine V.iconst dX6_closesUp_2 (pc' := 3) rfl (v := 0) (by decide) ?_
  refine V.isq dX6_closesUp_3 (pc' := 4) rfl (by decide) rfl (L' := [(3, .int (0 : Int32)), (2, .int (0 : Int32)), (0, .ref 54), (1, .int a1)]) rfl ?_
  refine V.pk [2, 3, 1, 0] rfl ?_
  exact vX6_closesUp_b4 FU h a1 (0 : Int32) (0 : Int32) q e

-- X6_hangsWith (level 1)
theorem dX6_hangsWith_0 : decode cX6_hangsWith 0 = .ok (.iconst 1, 1) := by decide +kernel
theorem dX6_hangsWith_1 : decode cX6_hangsWith 1 = .ok (.iload_n 2, 1) := by decide +kernel
theorem dX6_hangsWith_2 : decode cX6_hangsWith 2 = .ok (.ishl, 1) := by decide +kernel
theorem dX6_hangsWith_3 : decode cX6_hangsWith 3 = .ok (.istore_n 3, 1) := by decide +kernel
theorem dX6_hangsWith_4 : decode cX6_hangsWith 4 = .ok (.iconst 0, 1) := by decide +kernel
theorem dX6_hangsWith_5 : decode cX6_hangsWith 5 = .ok (.istore 4, 2) := by decide +kernel
theorem dX6_hangsWith_7 : decode cX6_hangsWith 7 = .ok (.iload 4, 2) := by decide +kernel
theorem dX6_hangsWith_9 : decode cX6_hangsWith 9 = .ok (.iload_n 3, 1) := by decide +kernel
theorem dX6_hangsWith_10 : decode cX6_hangsWith 10 = .ok (.if_icmp .eq 74, 3) := by decide +kernel
theorem dX6_hangsWith_13 : decode cX6_hangsWith 13 = .ok (.iload_n 3, 1) := by decide +kernel
theorem dX6_hangsWith_14 : decode cX6_hangsWith 14 = .ok (.istore 4, 2) := by decide +kernel
theorem dX6_hangsWith_16 : decode cX6_hangsWith 16 = .ok (.iconst 0, 1) := by decide +kernel
theorem dX6_hangsWith_17 : decode cX6_hangsWith 17 = .ok (.istore 5, 2) := by decide +kernel
theorem dX6_hangsWith_19 : decode cX6_hangsWith 19 = .ok (.iload 5, 2) := by decide +kernel
theorem dX6_hangsWith_21 : decode cX6_hangsWith 21 = .ok (.aload_n 0, 1) := by decide +kernel
theorem dX6_hangsWith_22 : decode cX6_hangsWith 22 = .ok (.getfield 90, 3) := by decide +kernel
theorem dX6_hangsWith_25 : decode cX6_hangsWith 25 = .ok (.iload_n 1, 1) := by decide +kernel
theorem dX6_hangsWith_26 : decode cX6_hangsWith 26 = .ok (.iaload, 1) := by decide +kernel
theorem dX6_hangsWith_27 : decode cX6_hangsWith 27 = .ok (.if_icmp .ge 54, 3) := by decide +kernel
theorem dX6_hangsWith_30 : decode cX6_hangsWith 30 = .ok (.iconst 1, 1) := by decide +kernel
theorem dX6_hangsWith_31 : decode cX6_hangsWith 31 = .ok (.aload_n 0, 1) := by decide +kernel
theorem dX6_hangsWith_32 : decode cX6_hangsWith 32 = .ok (.getfield 93, 3) := by decide +kernel
theorem dX6_hangsWith_35 : decode cX6_hangsWith 35 = .ok (.iload_n 1, 1) := by decide +kernel
theorem dX6_hangsWith_36 : decode cX6_hangsWith 36 = .ok (.iload 5, 2) := by decide +kernel
theorem dX6_hangsWith_38 : decode cX6_hangsWith 38 = .ok (.invokestatic 263, 3) := by decide +kernel
theorem dX6_hangsWith_41 : decode cX6_hangsWith 41 = .ok (.iaload, 1) := by decide +kernel
theorem dX6_hangsWith_42 : decode cX6_hangsWith 42 = .ok (.ishl, 1) := by decide +kernel
theorem dX6_hangsWith_43 : decode cX6_hangsWith 43 = .ok (.iconst 1, 1) := by decide +kernel
theorem dX6_hangsWith_44 : decode cX6_hangsWith 44 = .ok (.aload_n 0, 1) := by decide +kernel
theorem dX6_hangsWith_45 : decode cX6_hangsWith 45 = .ok (.getfield 96, 3) := by decide +kernel
theorem dX6_hangsWith_48 : decode cX6_hangsWith 48 = .ok (.iload_n 1, 1) := by decide +kernel
theorem dX6_hangsWith_49 : decode cX6_hangsWith 49 = .ok (.iload 5, 2) := by decide +kernel
theorem dX6_hangsWith_51 : decode cX6_hangsWith 51 = .ok (.invokestatic 263, 3) := by decide +kernel
theorem dX6_hangsWith_54 : decode cX6_hangsWith 54 = .ok (.iaload, 1) := by decide +kernel
theorem dX6_hangsWith_55 : decode cX6_hangsWith 55 = .ok (.ishl, 1) := by decide +kernel
theorem dX6_hangsWith_56 : decode cX6_hangsWith 56 = .ok (.ior, 1) := by decide +kernel
theorem dX6_hangsWith_57 : decode cX6_hangsWith 57 = .ok (.istore 6, 2) := by decide +kernel
theorem dX6_hangsWith_59 : decode cX6_hangsWith 59 = .ok (.iload_n 3, 1) := by decide +kernel
theorem dX6_hangsWith_60 : decode cX6_hangsWith 60 = .ok (.iload_n 3, 1) := by decide +kernel
theorem dX6_hangsWith_61 : decode cX6_hangsWith 61 = .ok (.iload 6, 2) := by decide +kernel
theorem dX6_hangsWith_63 : decode cX6_hangsWith 63 = .ok (.iand, 1) := by decide +kernel
theorem dX6_hangsWith_64 : decode cX6_hangsWith 64 = .ok (.ifCond .eq 8, 3) := by decide +kernel
theorem dX6_hangsWith_67 : decode cX6_hangsWith 67 = .ok (.iload 6, 2) := by decide +kernel
theorem dX6_hangsWith_69 : decode cX6_hangsWith 69 = .ok (.goto 4, 3) := by decide +kernel
theorem dX6_hangsWith_72 : decode cX6_hangsWith 72 = .ok (.iconst 0, 1) := by decide +kernel
theorem dX6_hangsWith_73 : decode cX6_hangsWith 73 = .ok (.ior, 1) := by decide +kernel
theorem dX6_hangsWith_74 : decode cX6_hangsWith 74 = .ok (.istore_n 3, 1) := by decide +kernel
theorem dX6_hangsWith_75 : decode cX6_hangsWith 75 = .ok (.iinc 5 1, 3) := by decide +kernel
theorem dX6_hangsWith_78 : decode cX6_hangsWith 78 = .ok (.goto (-59), 3) := by decide +kernel
theorem dX6_hangsWith_81 : decode cX6_hangsWith 81 = .ok (.goto (-74), 3) := by decide +kernel
theorem dX6_hangsWith_84 : decode cX6_hangsWith 84 = .ok (.iload_n 3, 1) := by decide +kernel
theorem dX6_hangsWith_85 : decode cX6_hangsWith 85 = .ok (.ireturn, 1) := by decide +kernel
def sX6_hangsWith_c73 (k7 : Hp → Int32 → Int32 → Int32 → Option (Int32 × Hp)) (k19 : Hp → Int32 → Int32 → Int32 → Int32 → Option (Int32 × Hp)) (h : Hp) (v1 : Int32) (v4 : Int32) (v5 : Int32) (t0 : Int32) (t1 : Int32) : Option (Int32 × Hp) :=
  nm ((t1 ||| t0)) fun x8 => nm (v5 + (1 : Int32)) fun x9 => k19 h v1 x8 v4 x9
set_option maxRecDepth 10000 in
theorem vX6_hangsWith_c73 (k7 : Hp → Int32 → Int32 → Int32 → Option (Int32 × Hp)) (hk7 : ∀ (h : Hp) (v1 : Int32) (v3 : Int32) (v4 : Int32) (q : (Int32 × Hp)), k7 h v1 v3 v4 = some q → V (Gs 1 (pI q)) mX6_hangsWith (0, 0) 7 [(0, .ref 54), (1, .int v1), (3, .int v3), (4, .int v4)] [] h) (k19 : Hp → Int32 → Int32 → Int32 → Int32 → Option (Int32 × Hp)) (hk19 : ∀ (h : Hp) (v1 : Int32) (v3 : Int32) (v4 : Int32) (v5 : Int32) (q : (Int32 × Hp)), k19 h v1 v3 v4 v5 = some q → V (Gs 1 (pI q)) mX6_hangsWith (0, 0) 19 [(0, .ref 54), (1, .int v1), (3, .int v3), (4, .int v4), (5, .int v5)] [] h) (h : Hp) (v1 : Int32) (v4 : Int32) (v5 : Int32) (t0 : Int32) (t1 : Int32) (q : (Int32 × Hp)) (e : sX6_hangsWith_c73 k7 k19 h v1 v4 v5 t0 t1 = some q) : V (Gs 1 (pI q)) mX6_hangsWith (0, 0) 73 [(0, .ref 54), (1, .int v1), (4, .int v4), (5, .int v5)] [.int t0, .int t1] h := by
  unfold sX6_hangsWith_c73 at e
  refine V.ior dX6_hangsWith_73 (pc' := 74) rfl ?_
  obtain ⟨x8, ex8, e⟩ := nm_s e
  refine V.isq dX6_hangsWith_74 (pc' := 75) rfl (by decide) ex8 (L' := [(3, .int x8), (0, .ref 54), (1, .int v1), (4, .int v4), (5, .int v5)]) rfl ?_
  obtain ⟨x9, ex9, e⟩ := nm_s e
  refine V.iinc dX6_hangsWith_75 (pc' := 78) rfl (j := 4) rfl (v := 1) (by decide) (by decide) ex9 (L' := [(5, .int x9), (3, .int x8), (0, .ref 54), (1, .int v1), (4, .int v4)]) rfl ?_
  refine V.goto dX6_hangsWith_78 (pc' := 19) (by decide) ?_
  refine V.pk [2, 3, 1, 4, 0] rfl ?_
  exact hk19 h v1 x8 v4 x9 q e
def sX6_hangsWith_c19 (k7 : Hp → Int32 → Int32 → Int32 → Option (Int32 × Hp)) (k19 : Hp → Int32 → Int32 → Int32 → Int32 → Option (Int32 × Hp)) (h : Hp) (v1 : Int32) (v3 : Int32) (v4 : Int32) (v5 : Int32) : Option (Int32 × Hp) :=
  gd (inb v1 2) (if (h.1 67 v1.toNatClampNeg) ≤ v5 then (k7 h v1 v3 v4) else ((sX6_place h v1 v5).bind fun q3 => gd (inb q3.1 50) ((sX6_place q3.2 v1 v5).bind fun q5 => gd (inb q5.1 50) (nm ((((1 : Int32) <<< ((q3.2.1 68 q3.1.toNatClampNeg) &&& 31)) ||| ((1 : Int32) <<< ((q5.2.1 69 q5.1.toNatClampNeg) &&& 31)))) fun x7 => if (v3 &&& x7) = 0 then (sX6_hangsWith_c73 k7 k19 q5.2 v1 v4 v5 (0 : Int32) v3) else (sX6_hangsWith_c73 k7 k19 q5.2 v1 v4 v5 x7 v3)))))
set_option maxRecDepth 10000 in
theorem vX6_hangsWith_c19 (k7 : Hp → Int32 → Int32 → Int32 → Option (Int32 × Hp)) (hk7 : ∀ (h : Hp) (v1 : Int32) (v3 : Int32) (v4 : Int32) (q : (Int32 × Hp)), k7 h v1 v3 v4 = some q → V (Gs 1 (pI q)) mX6_hangsWith (0, 0) 7 [(0, .ref 54), (1, .int v1), (3, .int v3), (4, .int v4)] [] h) (k19 : Hp → Int32 → Int32 → Int32 → Int32 → Option (Int32 × Hp)) (hk19 : ∀ (h : Hp) (v1 : Int32) (v3 : Int32) (v4 : Int32) (v5 : Int32) (q : (Int32 × Hp)), k19 h v1 v3 v4 v5 = some q → V (Gs 1 (pI q)) mX6_hangsWith (0, 0) 19 [(0, .ref 54), (1, .int v1), (3, .int v3), (4, .int v4), (5, .int v5)] [] h) (h : Hp) (v1 : Int32) (v3 : Int32) (v4 : Int32) (v5 : Int32) (q : (Int32 × Hp)) (e : sX6_hangsWith_c19 k7 k19 h v1 v3 v4 v5 = some q) : V (Gs 1 (pI q)) mX6_hangsWith (0, 0) 19 [(0, .ref 54), (1, .int v1), (3, .int v3), (4, .int v4), (5, .int v5)] [] h := by
  unfold sX6_hangsWith_c19 at e
  refine V.il dX6_hangsWith_19 (pc' := 21) rfl (j := 4) rfl ?_
  refine V.alq dX6_hangsWith_21 (pc' := 22) rfl (j := 0) rfl ?_
  refine V.getr dX6_hangsWith_22 (pc' := 25) rfl FL_X6_90 rfl (by decide) rfl (r' := 67) rfl ?_
  refine V.ilq dX6_hangsWith_25 (pc' := 26) rfl (j := 1) rfl ?_
  obtain ⟨c2, e⟩ := gd_s e
  refine V.iald dX6_hangsWith_26 (pc' := 27) rfl rfl rfl (inb_t c2) ?_
  refine V.ic_ge dX6_hangsWith_27 (pc' := 30) rfl (tgt := 81) (by decide) (fun c => ?_) (fun c => ?_)
  · rw [if_pos c] at e
    refine V.goto dX6_hangsWith_81 (pc' := 7) (by decide) ?_
    refine V.pk [0, 1, 2, 3] rfl ?_
    exact hk7 h v1 v3 v4 q e
  · rw [if_neg c] at e
    refine V.iconst dX6_hangsWith_30 (pc' := 31) rfl (v := 1) (by decide) ?_
    refine V.alq dX6_hangsWith_31 (pc' := 32) rfl (j := 0) rfl ?_
    refine V.getr dX6_hangsWith_32 (pc' := 35) rfl FL_X6_93 rfl (by decide) rfl (r' := 68) rfl ?_
    refine V.ilq dX6_hangsWith_35 (pc' := 36) rfl (j := 1) rfl ?_
    refine V.il dX6_hangsWith_36 (pc' := 38) rfl (j := 4) rfl ?_
    obtain ⟨q3, eq3, e⟩ := bd_s e
    refine V.callSi dX6_hangsWith_38 (pc' := 41) rfl CS_X6_263 (as := [.int v1, .int v5]) (kX6_place h v1 v5 q3 eq3) (Gs_rm (by decide)) rfl (Nat.le_of_ble_eq_true rfl) rfl ?_
    obtain ⟨c4, e⟩ := gd_s e
    refine V.iald dX6_hangsWith_41 (pc' := 42) rfl rfl rfl (inb_t c4) ?_
    refine V.ishl dX6_hangsWith_42 (pc' := 43) rfl ?_
    refine V.iconst dX6_hangsWith_43 (pc' := 44) rfl (v := 1) (by decide) ?_
    refine V.alq dX6_hangsWith_44 (pc' := 45) rfl (j := 0) rfl ?_
    refine V.getr dX6_hangsWith_45 (pc' := 48) rfl FL_X6_96 rfl (by decide) rfl (r' := 69) rfl ?_
    refine V.ilq dX6_hangsWith_48 (pc' := 49) rfl (j := 1) rfl ?_
    refine V.il dX6_hangsWith_49 (pc' := 51) rfl (j := 4) rfl ?_
    obtain ⟨q5, eq5, e⟩ := bd_s e
    refine V.callSi dX6_hangsWith_51 (pc' := 54) rfl CS_X6_263 (as := [.int v1, .int v5]) (kX6_place q3.2 v1 v5 q5 eq5) (Gs_rm (by decide)) rfl (Nat.le_of_ble_eq_true rfl) rfl ?_
    obtain ⟨c6, e⟩ := gd_s e
    refine V.iald dX6_hangsWith_54 (pc' := 55) rfl rfl rfl (inb_t c6) ?_
    refine V.ishl dX6_hangsWith_55 (pc' := 56) rfl ?_
    refine V.ior dX6_hangsWith_56 (pc' := 57) rfl ?_
    obtain ⟨x7, ex7, e⟩ := nm_s e
    refine V.is dX6_hangsWith_57 (pc' := 59) rfl (by decide) ex7 (L' := [(6, .int x7), (0, .ref 54), (1, .int v1), (3, .int v3), (4, .int v4), (5, .int v5)]) rfl ?_
    refine V.ilq dX6_hangsWith_59 (pc' := 60) rfl (j := 3) rfl ?_
    refine V.ilq dX6_hangsWith_60 (pc' := 61) rfl (j := 3) rfl ?_
    refine V.il dX6_hangsWith_61 (pc' := 63) rfl (j := 0) rfl ?_
    refine V.iand dX6_hangsWith_63 (pc' := 64) rfl ?_
    refine V.if_eq dX6_hangsWith_64 (pc' := 67) rfl (tgt := 72) (by decide) (fun c => ?_) (fun c => ?_)
    · rw [if_pos c] at e
      refine V.iconst dX6_hangsWith_72 (pc' := 73) rfl (v := 0) (by decide) ?_
      refine V.pk [1, 2, 4, 5] rfl ?_
      exact vX6_hangsWith_c73 k7 hk7 k19 hk19 q5.2 v1 v4 v5 (0 : Int32) v3 q e
    · rw [if_neg c] at e
      refine V.il dX6_hangsWith_67 (pc' := 69) rfl (j := 0) rfl ?_
      refine V.goto dX6_hangsWith_69 (pc' := 73) (by decide) ?_
      refine V.pk [1, 2, 4, 5] rfl ?_
      exact vX6_hangsWith_c73 k7 hk7 k19 hk19 q5.2 v1 v4 v5 x7 v3 q e
def sX6_hangsWith_b19 (k7 : Hp → Int32 → Int32 → Int32 → Option (Int32 × Hp)) : Nat → Hp → Int32 → Int32 → Int32 → Int32 → Option (Int32 × Hp)
  | 0 => fun _ _ _ _ _ => none
  | n + 1 => sX6_hangsWith_c19 k7 (sX6_hangsWith_b19 k7 n)
theorem vX6_hangsWith_b19 (k7 : Hp → Int32 → Int32 → Int32 → Option (Int32 × Hp)) (hk7 : ∀ (h : Hp) (v1 : Int32) (v3 : Int32) (v4 : Int32) (q : (Int32 × Hp)), k7 h v1 v3 v4 = some q → V (Gs 1 (pI q)) mX6_hangsWith (0, 0) 7 [(0, .ref 54), (1, .int v1), (3, .int v3), (4, .int v4)] [] h) : ∀ (n : Nat) (h : Hp) (v1 : Int32) (v3 : Int32) (v4 : Int32) (v5 : Int32) (q : (Int32 × Hp)), sX6_hangsWith_b19 k7 n h v1 v3 v4 v5 = some q → V (Gs 1 (pI q)) mX6_hangsWith (0, 0) 19 [(0, .ref 54), (1, .int v1), (3, .int v3), (4, .int v4), (5, .int v5)] [] h
  | 0 => fun _ _ _ _ _ _ e => by cases e
  | n + 1 => fun h v1 v3 v4 v5 q e => vX6_hangsWith_c19 k7 hk7 (sX6_hangsWith_b19 k7 n) (vX6_hangsWith_b19 k7 hk7 n) h v1 v3 v4 v5 q e
def sX6_hangsWith_c7 (k7 : Hp → Int32 → Int32 → Int32 → Option (Int32 × Hp)) (h : Hp) (v1 : Int32) (v3 : Int32) (v4 : Int32) : Option (Int32 × Hp) :=
  if v4 = v3 then (some (v3, h)) else (sX6_hangsWith_b19 k7 FU h v1 v3 v3 (0 : Int32))
set_option maxRecDepth 10000 in
theorem vX6_hangsWith_c7 (k7 : Hp → Int32 → Int32 → Int32 → Option (Int32 × Hp)) (hk7 : ∀ (h : Hp) (v1 : Int32) (v3 : Int32) (v4 : Int32) (q : (Int32 × Hp)), k7 h v1 v3 v4 = some q → V (Gs 1 (pI q)) mX6_hangsWith (0, 0) 7 [(0, .ref 54), (1, .int v1), (3, .int v3), (4, .int v4)] [] h) (h : Hp) (v1 : Int32) (v3 : Int32) (v4 : Int32) (q : (Int32 × Hp)) (e : sX6_hangsWith_c7 k7 h v1 v3 v4 = some q) : V (Gs 1 (pI q)) mX6_hangsWith (0, 0) 7 [(0, .ref 54), (1, .int v1), (3, .int v3), (4, .int v4)] [] h := by
  unfold sX6_hangsWith_c7 at e
  refine V.il dX6_hangsWith_7 (pc' := 9) rfl (j := 3) rfl ?_
  refine V.ilq dX6_hangsWith_9 (pc' := 10) rfl (j := 2) rfl ?_
  refine V.ic_eq dX6_hangsWith_10 (pc' := 13) rfl (tgt := 84) (by decide) (fun c => ?_) (fun c => ?_)
  · rw [if_pos c] at e
    refine V.ilq dX6_hangsWith_84 (pc' := 85) rfl (j := 2) rfl ?_
    exact V.iret dX6_hangsWith_85 rfl (fnI e)
  · rw [if_neg c] at e
    refine V.ilq dX6_hangsWith_13 (pc' := 14) rfl (j := 2) rfl ?_
    refine V.is dX6_hangsWith_14 (pc' := 16) rfl (by decide) rfl (L' := [(4, .int v3), (0, .ref 54), (1, .int v1), (3, .int v3)]) rfl ?_
    refine V.iconst dX6_hangsWith_16 (pc' := 17) rfl (v := 0) (by decide) ?_
    refine V.is dX6_hangsWith_17 (pc' := 19) rfl (by decide) rfl (L' := [(5, .int (0 : Int32)), (4, .int v3), (0, .ref 54), (1, .int v1), (3, .int v3)]) rfl ?_
    refine V.pk [2, 3, 4, 1, 0] rfl ?_
    exact vX6_hangsWith_b19 k7 hk7 FU h v1 v3 v3 (0 : Int32) q e
def sX6_hangsWith_b7 : Nat → Hp → Int32 → Int32 → Int32 → Option (Int32 × Hp)
  | 0 => fun _ _ _ _ => none
  | n + 1 => sX6_hangsWith_c7 (sX6_hangsWith_b7 n)
theorem vX6_hangsWith_b7 : ∀ (n : Nat) (h : Hp) (v1 : Int32) (v3 : Int32) (v4 : Int32) (q : (Int32 × Hp)), sX6_hangsWith_b7 n h v1 v3 v4 = some q → V (Gs 1 (pI q)) mX6_hangsWith (0, 0) 7 [(0, .ref 54), (1, .int v1), (3, .int v3), (4, .int v4)] [] h
  | 0 => fun _ _ _ _ _ e => by cases e
  | n + 1 => fun h v1 v3 v4 q e => vX6_hangsWith_c7 (sX6_hangsWith_b7 n) (vX6_hangsWith_b7 n) h v1 v3 v4 q e
def sX6_hangsWith (h : Hp) (a1 : Int32) (a2 : Int32) : Option (Int32 × Hp) :=
  nm (((1 : Int32) <<< (a2 &&& 31))) fun x1 => sX6_hangsWith_b7 FU h a1 x1 (0 : Int32)
set_option maxRecDepth 10000 in
theorem kX6_hangsWith (h : Hp) (a1 : Int32) (a2 : Int32) (q : (Int32 × Hp)) (e : sX6_hangsWith h a1 a2 = some q) : K 1 mX6_hangsWith [.ref 54, .int a1, .int a2] h (pI q) := by
  unfold sX6_hangsWith at e
  refine K.ofV (by decide) rfl (Nat.le_of_ble_eq_true rfl) ?_
  show V (Gs 1 (pI q)) mX6_hangsWith (0, 0) 0 [(0, .ref 54), (1, .int a1), (2, .int a2)] [] h
  refine V.iconst dX6_hangsWith_0 (pc' := 1) rfl (v := 1) (by decide) ?_
  refine V.ilq dX6_hangsWith_1 (pc' := 2) rfl (j := 2) rfl ?_
  refine V.ishl dX6_hangsWith_2 (pc' := 3) rfl ?_
  obtain ⟨x1, ex1, e⟩ := nm_s e
  refine V.isq dX6_hangsWith_3 (pc' := 4) rfl (by decide) ex1 (L' := [(3, .int x1), (0, .ref 54), (1, .int a1), (2, .int a2)]) rfl ?_
  refine V.iconst dX6_hangsWith_4 (pc' := 5) rfl (v := 0) (by decide) ?_
  refine V.is dX6_hangsWith_5 (pc' := 7) rfl (by decide) rfl (L' := [(4, .int (0 : Int32)), (3, .int x1), (0, .ref 54), (1, .int a1), (2, .int a2)]) rfl ?_
  refine V.pk [2, 3, 1, 0] rfl ?_
  exact vX6_hangsWith_b7 FU h a1 x1 (0 : Int32) q e

-- X6_goesRound (level 1)
theorem dX6_goesRound_0 : decode cX6_goesRound 0 = .ok (.iload_n 2, 1) := by decide +kernel
theorem dX6_goesRound_1 : decode cX6_goesRound 1 = .ok (.aload_n 0, 1) := by decide +kernel
theorem dX6_goesRound_2 : decode cX6_goesRound 2 = .ok (.getfield 345, 3) := by decide +kernel
theorem dX6_goesRound_5 : decode cX6_goesRound 5 = .ok (.if_icmp .ne 5, 3) := by decide +kernel
theorem dX6_goesRound_8 : decode cX6_goesRound 8 = .ok (.iconst 1, 1) := by decide +kernel
theorem dX6_goesRound_9 : decode cX6_goesRound 9 = .ok (.ireturn, 1) := by decide +kernel
theorem dX6_goesRound_10 : decode cX6_goesRound 10 = .ok (.iload_n 1, 1) := by decide +kernel
theorem dX6_goesRound_11 : decode cX6_goesRound 11 = .ok (.aload_n 0, 1) := by decide +kernel
theorem dX6_goesRound_12 : decode cX6_goesRound 12 = .ok (.getfield 111, 3) := by decide +kernel
theorem dX6_goesRound_15 : decode cX6_goesRound 15 = .ok (.iload_n 2, 1) := by decide +kernel
theorem dX6_goesRound_16 : decode cX6_goesRound 16 = .ok (.iconst 1, 1) := by decide +kernel
theorem dX6_goesRound_17 : decode cX6_goesRound 17 = .ok (.isub, 1) := by decide +kernel
theorem dX6_goesRound_18 : decode cX6_goesRound 18 = .ok (.iaload, 1) := by decide +kernel
theorem dX6_goesRound_19 : decode cX6_goesRound 19 = .ok (.invokestatic 263, 3) := by decide +kernel
theorem dX6_goesRound_22 : decode cX6_goesRound 22 = .ok (.istore 5, 2) := by decide +kernel
theorem dX6_goesRound_24 : decode cX6_goesRound 24 = .ok (.aload_n 0, 1) := by decide +kernel
theorem dX6_goesRound_25 : decode cX6_goesRound 25 = .ok (.getfield 93, 3) := by decide +kernel
theorem dX6_goesRound_28 : decode cX6_goesRound 28 = .ok (.iload_n 1, 1) := by decide +kernel
theorem dX6_goesRound_29 : decode cX6_goesRound 29 = .ok (.aload_n 0, 1) := by decide +kernel
theorem dX6_goesRound_30 : decode cX6_goesRound 30 = .ok (.getfield 111, 3) := by decide +kernel
theorem dX6_goesRound_33 : decode cX6_goesRound 33 = .ok (.iconst 0, 1) := by decide +kernel
theorem dX6_goesRound_34 : decode cX6_goesRound 34 = .ok (.iaload, 1) := by decide +kernel
theorem dX6_goesRound_35 : decode cX6_goesRound 35 = .ok (.invokestatic 263, 3) := by decide +kernel
theorem dX6_goesRound_38 : decode cX6_goesRound 38 = .ok (.iaload, 1) := by decide +kernel
theorem dX6_goesRound_39 : decode cX6_goesRound 39 = .ok (.istore 6, 2) := by decide +kernel
theorem dX6_goesRound_41 : decode cX6_goesRound 41 = .ok (.iload_n 2, 1) := by decide +kernel
theorem dX6_goesRound_42 : decode cX6_goesRound 42 = .ok (.iconst 2, 1) := by decide +kernel
theorem dX6_goesRound_43 : decode cX6_goesRound 43 = .ok (.irem, 1) := by decide +kernel
theorem dX6_goesRound_44 : decode cX6_goesRound 44 = .ok (.iconst 1, 1) := by decide +kernel
theorem dX6_goesRound_45 : decode cX6_goesRound 45 = .ok (.if_icmp .ne 7, 3) := by decide +kernel
theorem dX6_goesRound_48 : decode cX6_goesRound 48 = .ok (.iconst 1, 1) := by decide +kernel
theorem dX6_goesRound_49 : decode cX6_goesRound 49 = .ok (.goto 4, 3) := by decide +kernel
theorem dX6_goesRound_52 : decode cX6_goesRound 52 = .ok (.iconst 0, 1) := by decide +kernel
theorem dX6_goesRound_53 : decode cX6_goesRound 53 = .ok (.istore 7, 2) := by decide +kernel
theorem dX6_goesRound_55 : decode cX6_goesRound 55 = .ok (.iconst 0, 1) := by decide +kernel
theorem dX6_goesRound_56 : decode cX6_goesRound 56 = .ok (.istore 8, 2) := by decide +kernel
theorem dX6_goesRound_58 : decode cX6_goesRound 58 = .ok (.iload 8, 2) := by decide +kernel
theorem dX6_goesRound_60 : decode cX6_goesRound 60 = .ok (.aload_n 0, 1) := by decide +kernel
theorem dX6_goesRound_61 : decode cX6_goesRound 61 = .ok (.getfield 90, 3) := by decide +kernel
theorem dX6_goesRound_64 : decode cX6_goesRound 64 = .ok (.iload_n 1, 1) := by decide +kernel
theorem dX6_goesRound_65 : decode cX6_goesRound 65 = .ok (.iaload, 1) := by decide +kernel
theorem dX6_goesRound_66 : decode cX6_goesRound 66 = .ok (.if_icmp .ge 201, 3) := by decide +kernel
theorem dX6_goesRound_69 : decode cX6_goesRound 69 = .ok (.iload_n 1, 1) := by decide +kernel
theorem dX6_goesRound_70 : decode cX6_goesRound 70 = .ok (.iload 8, 2) := by decide +kernel
theorem dX6_goesRound_72 : decode cX6_goesRound 72 = .ok (.invokestatic 263, 3) := by decide +kernel
theorem dX6_goesRound_75 : decode cX6_goesRound 75 = .ok (.istore 9, 2) := by decide +kernel
theorem dX6_goesRound_77 : decode cX6_goesRound 77 = .ok (.iload 7, 2) := by decide +kernel
theorem dX6_goesRound_79 : decode cX6_goesRound 79 = .ok (.ifCond .eq 28, 3) := by decide +kernel
theorem dX6_goesRound_82 : decode cX6_goesRound 82 = .ok (.aload_n 0, 1) := by decide +kernel
theorem dX6_goesRound_83 : decode cX6_goesRound 83 = .ok (.getfield 96, 3) := by decide +kernel
theorem dX6_goesRound_86 : decode cX6_goesRound 86 = .ok (.iload 9, 2) := by decide +kernel
theorem dX6_goesRound_88 : decode cX6_goesRound 88 = .ok (.iaload, 1) := by decide +kernel
theorem dX6_goesRound_89 : decode cX6_goesRound 89 = .ok (.aload_n 0, 1) := by decide +kernel
theorem dX6_goesRound_90 : decode cX6_goesRound 90 = .ok (.getfield 96, 3) := by decide +kernel
theorem dX6_goesRound_93 : decode cX6_goesRound 93 = .ok (.iload 5, 2) := by decide +kernel
theorem dX6_goesRound_95 : decode cX6_goesRound 95 = .ok (.iaload, 1) := by decide +kernel
theorem dX6_goesRound_96 : decode cX6_goesRound 96 = .ok (.if_icmp .ne 7, 3) := by decide +kernel
theorem dX6_goesRound_99 : decode cX6_goesRound 99 = .ok (.iconst 1, 1) := by decide +kernel
theorem dX6_goesRound_100 : decode cX6_goesRound 100 = .ok (.goto 29, 3) := by decide +kernel
theorem dX6_goesRound_103 : decode cX6_goesRound 103 = .ok (.iconst 0, 1) := by decide +kernel
theorem dX6_goesRound_104 : decode cX6_goesRound 104 = .ok (.goto 25, 3) := by decide +kernel
theorem dX6_goesRound_107 : decode cX6_goesRound 107 = .ok (.aload_n 0, 1) := by decide +kernel
theorem dX6_goesRound_108 : decode cX6_goesRound 108 = .ok (.getfield 93, 3) := by decide +kernel
theorem dX6_goesRound_111 : decode cX6_goesRound 111 = .ok (.iload 9, 2) := by decide +kernel
theorem dX6_goesRound_113 : decode cX6_goesRound 113 = .ok (.iaload, 1) := by decide +kernel
theorem dX6_goesRound_114 : decode cX6_goesRound 114 = .ok (.aload_n 0, 1) := by decide +kernel
theorem dX6_goesRound_115 : decode cX6_goesRound 115 = .ok (.getfield 93, 3) := by decide +kernel
theorem dX6_goesRound_118 : decode cX6_goesRound 118 = .ok (.iload 5, 2) := by decide +kernel
theorem dX6_goesRound_120 : decode cX6_goesRound 120 = .ok (.iaload, 1) := by decide +kernel
theorem dX6_goesRound_121 : decode cX6_goesRound 121 = .ok (.if_icmp .ne 7, 3) := by decide +kernel
theorem dX6_goesRound_124 : decode cX6_goesRound 124 = .ok (.iconst 1, 1) := by decide +kernel
theorem dX6_goesRound_125 : decode cX6_goesRound 125 = .ok (.goto 4, 3) := by decide +kernel
theorem dX6_goesRound_128 : decode cX6_goesRound 128 = .ok (.iconst 0, 1) := by decide +kernel
theorem dX6_goesRound_129 : decode cX6_goesRound 129 = .ok (.istore 10, 2) := by decide +kernel
theorem dX6_goesRound_131 : decode cX6_goesRound 131 = .ok (.iload 7, 2) := by decide +kernel
theorem dX6_goesRound_133 : decode cX6_goesRound 133 = .ok (.ifCond .eq 13, 3) := by decide +kernel
theorem dX6_goesRound_136 : decode cX6_goesRound 136 = .ok (.aload_n 0, 1) := by decide +kernel
theorem dX6_goesRound_137 : decode cX6_goesRound 137 = .ok (.getfield 93, 3) := by decide +kernel
theorem dX6_goesRound_140 : decode cX6_goesRound 140 = .ok (.iload 9, 2) := by decide +kernel
theorem dX6_goesRound_142 : decode cX6_goesRound 142 = .ok (.iaload, 1) := by decide +kernel
theorem dX6_goesRound_143 : decode cX6_goesRound 143 = .ok (.goto 10, 3) := by decide +kernel
theorem dX6_goesRound_146 : decode cX6_goesRound 146 = .ok (.aload_n 0, 1) := by decide +kernel
theorem dX6_goesRound_147 : decode cX6_goesRound 147 = .ok (.getfield 96, 3) := by decide +kernel
theorem dX6_goesRound_150 : decode cX6_goesRound 150 = .ok (.iload 9, 2) := by decide +kernel
theorem dX6_goesRound_152 : decode cX6_goesRound 152 = .ok (.iaload, 1) := by decide +kernel
theorem dX6_goesRound_153 : decode cX6_goesRound 153 = .ok (.istore 11, 2) := by decide +kernel
theorem dX6_goesRound_155 : decode cX6_goesRound 155 = .ok (.iload_n 2, 1) := by decide +kernel
theorem dX6_goesRound_156 : decode cX6_goesRound 156 = .ok (.aload_n 0, 1) := by decide +kernel
theorem dX6_goesRound_157 : decode cX6_goesRound 157 = .ok (.getfield 345, 3) := by decide +kernel
theorem dX6_goesRound_160 : decode cX6_goesRound 160 = .ok (.iconst 1, 1) := by decide +kernel
theorem dX6_goesRound_161 : decode cX6_goesRound 161 = .ok (.isub, 1) := by decide +kernel
theorem dX6_goesRound_162 : decode cX6_goesRound 162 = .ok (.if_icmp .ne 18, 3) := by decide +kernel
theorem dX6_goesRound_165 : decode cX6_goesRound 165 = .ok (.iload 11, 2) := by decide +kernel
theorem dX6_goesRound_167 : decode cX6_goesRound 167 = .ok (.iload 6, 2) := by decide +kernel
theorem dX6_goesRound_169 : decode cX6_goesRound 169 = .ok (.if_icmp .ne 7, 3) := by decide +kernel
theorem dX6_goesRound_172 : decode cX6_goesRound 172 = .ok (.iconst 1, 1) := by decide +kernel
theorem dX6_goesRound_173 : decode cX6_goesRound 173 = .ok (.goto 28, 3) := by decide +kernel
theorem dX6_goesRound_176 : decode cX6_goesRound 176 = .ok (.iconst 0, 1) := by decide +kernel
theorem dX6_goesRound_177 : decode cX6_goesRound 177 = .ok (.goto 24, 3) := by decide +kernel
theorem dX6_goesRound_180 : decode cX6_goesRound 180 = .ok (.iload 11, 2) := by decide +kernel
theorem dX6_goesRound_182 : decode cX6_goesRound 182 = .ok (.iload 6, 2) := by decide +kernel
theorem dX6_goesRound_184 : decode cX6_goesRound 184 = .ok (.if_icmp .eq 16, 3) := by decide +kernel
theorem dX6_goesRound_187 : decode cX6_goesRound 187 = .ok (.iload_n 3, 1) := by decide +kernel
theorem dX6_goesRound_188 : decode cX6_goesRound 188 = .ok (.iload 11, 2) := by decide +kernel
theorem dX6_goesRound_190 : decode cX6_goesRound 190 = .ok (.ishr, 1) := by decide +kernel
theorem dX6_goesRound_191 : decode cX6_goesRound 191 = .ok (.iconst 1, 1) := by decide +kernel
theorem dX6_goesRound_192 : decode cX6_goesRound 192 = .ok (.iand, 1) := by decide +kernel
theorem dX6_goesRound_193 : decode cX6_goesRound 193 = .ok (.ifCond .ne 7, 3) := by decide +kernel
theorem dX6_goesRound_196 : decode cX6_goesRound 196 = .ok (.iconst 1, 1) := by decide +kernel
theorem dX6_goesRound_197 : decode cX6_goesRound 197 = .ok (.goto 4, 3) := by decide +kernel
theorem dX6_goesRound_200 : decode cX6_goesRound 200 = .ok (.iconst 0, 1) := by decide +kernel
theorem dX6_goesRound_201 : decode cX6_goesRound 201 = .ok (.istore 12, 2) := by decide +kernel
theorem dX6_goesRound_203 : decode cX6_goesRound 203 = .ok (.iload 4, 2) := by decide +kernel
theorem dX6_goesRound_205 : decode cX6_goesRound 205 = .ok (.iload 8, 2) := by decide +kernel
theorem dX6_goesRound_207 : decode cX6_goesRound 207 = .ok (.ishr, 1) := by decide +kernel
theorem dX6_goesRound_208 : decode cX6_goesRound 208 = .ok (.iconst 1, 1) := by decide +kernel
theorem dX6_goesRound_209 : decode cX6_goesRound 209 = .ok (.iand, 1) := by decide +kernel
theorem dX6_goesRound_210 : decode cX6_goesRound 210 = .ok (.iconst 1, 1) := by decide +kernel
theorem dX6_goesRound_211 : decode cX6_goesRound 211 = .ok (.if_icmp .eq 50, 3) := by decide +kernel
theorem dX6_goesRound_214 : decode cX6_goesRound 214 = .ok (.iload 10, 2) := by decide +kernel
theorem dX6_goesRound_216 : decode cX6_goesRound 216 = .ok (.ifCond .eq 45, 3) := by decide +kernel
theorem dX6_goesRound_219 : decode cX6_goesRound 219 = .ok (.iload 12, 2) := by decide +kernel
theorem dX6_goesRound_221 : decode cX6_goesRound 221 = .ok (.ifCond .ne 6, 3) := by decide +kernel
theorem dX6_goesRound_224 : decode cX6_goesRound 224 = .ok (.goto 37, 3) := by decide +kernel
theorem dX6_goesRound_227 : decode cX6_goesRound 227 = .ok (.aload_n 0, 1) := by decide +kernel
theorem dX6_goesRound_228 : decode cX6_goesRound 228 = .ok (.getfield 111, 3) := by decide +kernel
theorem dX6_goesRound_231 : decode cX6_goesRound 231 = .ok (.iload_n 2, 1) := by decide +kernel
theorem dX6_goesRound_232 : decode cX6_goesRound 232 = .ok (.iload 8, 2) := by decide +kernel
theorem dX6_goesRound_234 : decode cX6_goesRound 234 = .ok (.iastore, 1) := by decide +kernel
theorem dX6_goesRound_235 : decode cX6_goesRound 235 = .ok (.aload_n 0, 1) := by decide +kernel
theorem dX6_goesRound_236 : decode cX6_goesRound 236 = .ok (.iload_n 1, 1) := by decide +kernel
theorem dX6_goesRound_237 : decode cX6_goesRound 237 = .ok (.iload_n 2, 1) := by decide +kernel
theorem dX6_goesRound_238 : decode cX6_goesRound 238 = .ok (.iconst 1, 1) := by decide +kernel
theorem dX6_goesRound_239 : decode cX6_goesRound 239 = .ok (.iadd, 1) := by decide +kernel
theorem dX6_goesRound_240 : decode cX6_goesRound 240 = .ok (.iload_n 3, 1) := by decide +kernel
theorem dX6_goesRound_241 : decode cX6_goesRound 241 = .ok (.iconst 1, 1) := by decide +kernel
theorem dX6_goesRound_242 : decode cX6_goesRound 242 = .ok (.iload 11, 2) := by decide +kernel
theorem dX6_goesRound_244 : decode cX6_goesRound 244 = .ok (.ishl, 1) := by decide +kernel
theorem dX6_goesRound_245 : decode cX6_goesRound 245 = .ok (.ior, 1) := by decide +kernel
theorem dX6_goesRound_246 : decode cX6_goesRound 246 = .ok (.iload 4, 2) := by decide +kernel
theorem dX6_goesRound_248 : decode cX6_goesRound 248 = .ok (.iconst 1, 1) := by decide +kernel
theorem dX6_goesRound_249 : decode cX6_goesRound 249 = .ok (.iload 8, 2) := by decide +kernel
theorem dX6_goesRound_251 : decode cX6_goesRound 251 = .ok (.ishl, 1) := by decide +kernel
theorem dX6_goesRound_252 : decode cX6_goesRound 252 = .ok (.ior, 1) := by decide +kernel
theorem dX6_goesRound_253 : decode cX6_goesRound 253 = .ok (.invokevirtual 348, 3) := by decide +kernel
theorem dX6_goesRound_256 : decode cX6_goesRound 256 = .ok (.ifCond .eq 5, 3) := by decide +kernel
theorem dX6_goesRound_259 : decode cX6_goesRound 259 = .ok (.iconst 1, 1) := by decide +kernel
theorem dX6_goesRound_260 : decode cX6_goesRound 260 = .ok (.ireturn, 1) := by decide +kernel
theorem dX6_goesRound_261 : decode cX6_goesRound 261 = .ok (.iinc 8 1, 3) := by decide +kernel
theorem dX6_goesRound_264 : decode cX6_goesRound 264 = .ok (.goto (-206), 3) := by decide +kernel
theorem dX6_goesRound_267 : decode cX6_goesRound 267 = .ok (.iconst 0, 1) := by decide +kernel
theorem dX6_goesRound_268 : decode cX6_goesRound 268 = .ok (.ireturn, 1) := by decide +kernel
def sX6_goesRound_c261 (kr : Hp → Int32 → Int32 → Int32 → Int32 → Option (Int32 × Hp)) (k58 : Hp → Int32 → Int32 → Int32 → Int32 → Int32 → Int32 → Int32 → Int32 → Option (Int32 × Hp)) (h : Hp) (v1 : Int32) (v2 : Int32) (v3 : Int32) (v4 : Int32) (v5 : Int32) (v6 : Int32) (v7 : Int32) (v8 : Int32) : Option (Int32 × Hp) :=
  nm (v8 + (1 : Int32)) fun x17 => k58 h v1 v2 v3 v4 v5 v6 v7 x17
set_option maxRecDepth 10000 in
theorem vX6_goesRound_c261 (kr : Hp → Int32 → Int32 → Int32 → Int32 → Option (Int32 × Hp)) (nr : Nat) (hkr : ∀ (h : Hp) (a1 : Int32) (a2 : Int32) (a3 : Int32) (a4 : Int32) (q : (Int32 × Hp)), kr h a1 a2 a3 a4 = some q → K (1 + nr) mX6_goesRound [.ref 54, .int a1, .int a2, .int a3, .int a4] h (pI q)) (k58 : Hp → Int32 → Int32 → Int32 → Int32 → Int32 → Int32 → Int32 → Int32 → Option (Int32 × Hp)) (hk58 : ∀ (h : Hp) (v1 : Int32) (v2 : Int32) (v3 : Int32) (v4 : Int32) (v5 : Int32) (v6 : Int32) (v7 : Int32) (v8 : Int32) (q : (Int32 × Hp)), k58 h v1 v2 v3 v4 v5 v6 v7 v8 = some q → V (Gs (1 + nr + 1) (pI q)) mX6_goesRound (0, 0) 58 [(0, .ref 54), (1, .int v1), (2, .int v2), (3, .int v3), (4, .int v4), (5, .int v5), (6, .int v6), (7, .int v7), (8, .int v8)] [] h) (h : Hp) (v1 : Int32) (v2 : Int32) (v3 : Int32) (v4 : Int32) (v5 : Int32) (v6 : Int32) (v7 : Int32) (v8 : Int32) (q : (Int32 × Hp)) (e : sX6_goesRound_c261 kr k58 h v1 v2 v3 v4 v5 v6 v7 v8 = some q) : V (Gs (1 + nr + 1) (pI q)) mX6_goesRound (0, 0) 261 [(0, .ref 54), (1, .int v1), (2, .int v2), (3, .int v3), (4, .int v4), (5, .int v5), (6, .int v6), (7, .int v7), (8, .int v8)] [] h := by
  unfold sX6_goesRound_c261 at e
  obtain ⟨x17, ex17, e⟩ := nm_s e
  refine V.iinc dX6_goesRound_261 (pc' := 264) rfl (j := 8) rfl (v := 1) (by decide) (by decide) ex17 (L' := [(8, .int x17), (0, .ref 54), (1, .int v1), (2, .int v2), (3, .int v3), (4, .int v4), (5, .int v5), (6, .int v6), (7, .int v7)]) rfl ?_
  refine V.goto dX6_goesRound_264 (pc' := 58) (by decide) ?_
  refine V.pk [1, 2, 3, 4, 5, 6, 7, 8, 0] rfl ?_
  exact hk58 h v1 v2 v3 v4 v5 v6 v7 x17 q e
def sX6_goesRound_c201 (kr : Hp → Int32 → Int32 → Int32 → Int32 → Option (Int32 × Hp)) (k58 : Hp → Int32 → Int32 → Int32 → Int32 → Int32 → Int32 → Int32 → Int32 → Option (Int32 × Hp)) (h : Hp) (v1 : Int32) (v2 : Int32) (v3 : Int32) (v4 : Int32) (v5 : Int32) (v6 : Int32) (v7 : Int32) (v8 : Int32) (v10 : Int32) (v11 : Int32) (t0 : Int32) : Option (Int32 × Hp) :=
  if ((v4 >>> (v8 &&& 31)) &&& (1 : Int32)) = (1 : Int32) then (sX6_goesRound_c261 kr k58 h v1 v2 v3 v4 v5 v6 v7 v8) else (if v10 = 0 then (sX6_goesRound_c261 kr k58 h v1 v2 v3 v4 v5 v6 v7 v8) else (if t0 = 0 then (sX6_goesRound_c261 kr k58 h v1 v2 v3 v4 v5 v6 v7 v8) else (gd (inb v2 24) (nm (u1 h 74 v2.toNatClampNeg v8) fun h15 => (kr h15 v1 (v2 + (1 : Int32)) (v3 ||| ((1 : Int32) <<< (v11 &&& 31))) (v4 ||| ((1 : Int32) <<< (v8 &&& 31)))).bind fun q16 => if q16.1 = 0 then (sX6_goesRound_c261 kr k58 q16.2 v1 v2 v3 v4 v5 v6 v7 v8) else (some ((1 : Int32), q16.2))))))
set_option maxRecDepth 10000 in
theorem vX6_goesRound_c201 (kr : Hp → Int32 → Int32 → Int32 → Int32 → Option (Int32 × Hp)) (nr : Nat) (hkr : ∀ (h : Hp) (a1 : Int32) (a2 : Int32) (a3 : Int32) (a4 : Int32) (q : (Int32 × Hp)), kr h a1 a2 a3 a4 = some q → K (1 + nr) mX6_goesRound [.ref 54, .int a1, .int a2, .int a3, .int a4] h (pI q)) (k58 : Hp → Int32 → Int32 → Int32 → Int32 → Int32 → Int32 → Int32 → Int32 → Option (Int32 × Hp)) (hk58 : ∀ (h : Hp) (v1 : Int32) (v2 : Int32) (v3 : Int32) (v4 : Int32) (v5 : Int32) (v6 : Int32) (v7 : Int32) (v8 : Int32) (q : (Int32 × Hp)), k58 h v1 v2 v3 v4 v5 v6 v7 v8 = some q → V (Gs (1 + nr + 1) (pI q)) mX6_goesRound (0, 0) 58 [(0, .ref 54), (1, .int v1), (2, .int v2), (3, .int v3), (4, .int v4), (5, .int v5), (6, .int v6), (7, .int v7), (8, .int v8)] [] h) (h : Hp) (v1 : Int32) (v2 : Int32) (v3 : Int32) (v4 : Int32) (v5 : Int32) (v6 : Int32) (v7 : Int32) (v8 : Int32) (v10 : Int32) (v11 : Int32) (t0 : Int32) (q : (Int32 × Hp)) (e : sX6_goesRound_c201 kr k58 h v1 v2 v3 v4 v5 v6 v7 v8 v10 v11 t0 = some q) : V (Gs (1 + nr + 1) (pI q)) mX6_goesRound (0, 0) 201 [(0, .ref 54), (1, .int v1), (2, .int v2), (3, .int v3), (4, .int v4), (5, .int v5), (6, .int v6), (7, .int v7), (8, .int v8), (10, .int v10), (11, .int v11)] [.int t0] h := by
  unfold sX6_goesRound_c201 at e
  refine V.is dX6_goesRound_201 (pc' := 203) rfl (by decide) rfl (L' := [(12, .int t0), (0, .ref 54), (1, .int v1), (2, .int v2), (3, .int v3), (4, .int v4), (5, .int v5), (6, .int v6), (7, .int v7), (8, .int v8), (10, .int v10), (11, .int v11)]) rfl ?_
  refine V.il dX6_goesRound_203 (pc' := 205) rfl (j := 5) rfl ?_
  refine V.il dX6_goesRound_205 (pc' := 207) rfl (j := 9) rfl ?_
  refine V.ishr dX6_goesRound_207 (pc' := 208) rfl ?_
  refine V.iconst dX6_goesRound_208 (pc' := 209) rfl (v := 1) (by decide) ?_
  refine V.iand dX6_goesRound_209 (pc' := 210) rfl ?_
  refine V.iconst dX6_goesRound_210 (pc' := 211) rfl (v := 1) (by decide) ?_
  refine V.ic_eq dX6_goesRound_211 (pc' := 214) rfl (tgt := 261) (by decide) (fun c => ?_) (fun c => ?_)
  · rw [if_pos c] at e
    refine V.pk [1, 2, 3, 4, 5, 6, 7, 8, 9] rfl ?_
    exact vX6_goesRound_c261 kr nr hkr k58 hk58 h v1 v2 v3 v4 v5 v6 v7 v8 q e
  · rw [if_neg c] at e
    refine V.il dX6_goesRound_214 (pc' := 216) rfl (j := 10) rfl ?_
    refine V.if_eq dX6_goesRound_216 (pc' := 219) rfl (tgt := 261) (by decide) (fun c => ?_) (fun c => ?_)
    · rw [if_pos c] at e
      refine V.pk [1, 2, 3, 4, 5, 6, 7, 8, 9] rfl ?_
      exact vX6_goesRound_c261 kr nr hkr k58 hk58 h v1 v2 v3 v4 v5 v6 v7 v8 q e
    · rw [if_neg c] at e
      refine V.il dX6_goesRound_219 (pc' := 221) rfl (j := 0) rfl ?_
      refine V.if_ne dX6_goesRound_221 (pc' := 224) rfl (tgt := 227) (by decide) (fun c => ?_) (fun c => ?_)
      · rw [if_neg c] at e
        refine V.alq dX6_goesRound_227 (pc' := 228) rfl (j := 1) rfl ?_
        refine V.getr dX6_goesRound_228 (pc' := 231) rfl FL_X6_111 rfl (by decide) rfl (r' := 74) rfl ?_
        refine V.ilq dX6_goesRound_231 (pc' := 232) rfl (j := 3) rfl ?_
        refine V.il dX6_goesRound_232 (pc' := 234) rfl (j := 9) rfl ?_
        obtain ⟨c14, e⟩ := gd_s e
        obtain ⟨h15, eh15, e⟩ := nm_s e
        refine V.iast dX6_goesRound_234 (pc' := 235) rfl rfl rfl (inb_t c14) eh15 ?_
        refine V.alq dX6_goesRound_235 (pc' := 236) rfl (j := 1) rfl ?_
        refine V.ilq dX6_goesRound_236 (pc' := 237) rfl (j := 2) rfl ?_
        refine V.ilq dX6_goesRound_237 (pc' := 238) rfl (j := 3) rfl ?_
        refine V.iconst dX6_goesRound_238 (pc' := 239) rfl (v := 1) (by decide) ?_
        refine V.iadd dX6_goesRound_239 (pc' := 240) rfl ?_
        refine V.ilq dX6_goesRound_240 (pc' := 241) rfl (j := 4) rfl ?_
        refine V.iconst dX6_goesRound_241 (pc' := 242) rfl (v := 1) (by decide) ?_
        refine V.il dX6_goesRound_242 (pc' := 244) rfl (j := 11) rfl ?_
        refine V.ishl dX6_goesRound_244 (pc' := 245) rfl ?_
        refine V.ior dX6_goesRound_245 (pc' := 246) rfl ?_
        refine V.il dX6_goesRound_246 (pc' := 248) rfl (j := 5) rfl ?_
        refine V.iconst dX6_goesRound_248 (pc' := 249) rfl (v := 1) (by decide) ?_
        refine V.il dX6_goesRound_249 (pc' := 251) rfl (j := 9) rfl ?_
        refine V.ishl dX6_goesRound_251 (pc' := 252) rfl ?_
        refine V.ior dX6_goesRound_252 (pc' := 253) rfl ?_
        obtain ⟨q16, eq16, e⟩ := bd_s e
        refine V.callVi dX6_goesRound_253 (pc' := 256) rfl CV_X6_348 (as := [.int v1, .int (v2 + (1 : Int32)), .int (v3 ||| ((1 : Int32) <<< (v11 &&& 31))), .int (v4 ||| ((1 : Int32) <<< (v8 &&& 31)))]) (hkr h15 v1 (v2 + (1 : Int32)) (v3 ||| ((1 : Int32) <<< (v11 &&& 31))) (v4 ||| ((1 : Int32) <<< (v8 &&& 31))) q16 eq16) (Gs_rm (by omega)) rfl (by decide) rfl (Nat.le_of_ble_eq_true rfl) rfl ?_
        refine V.if_eq dX6_goesRound_256 (pc' := 259) rfl (tgt := 261) (by decide) (fun c => ?_) (fun c => ?_)
        · rw [if_pos c] at e
          refine V.pk [1, 2, 3, 4, 5, 6, 7, 8, 9] rfl ?_
          exact vX6_goesRound_c261 kr nr hkr k58 hk58 q16.2 v1 v2 v3 v4 v5 v6 v7 v8 q e
        · rw [if_neg c] at e
          refine V.iconst dX6_goesRound_259 (pc' := 260) rfl (v := 1) (by decide) ?_
          exact V.zret dX6_goesRound_260 rfl (Or.inr rfl) (fnI e)
      · rw [if_pos c] at e
        refine V.goto dX6_goesRound_224 (pc' := 261) (by decide) ?_
        refine V.pk [1, 2, 3, 4, 5, 6, 7, 8, 9] rfl ?_
        exact vX6_goesRound_c261 kr nr hkr k58 hk58 h v1 v2 v3 v4 v5 v6 v7 v8 q e
def sX6_goesRound_c200 (kr : Hp → Int32 → Int32 → Int32 → Int32 → Option (Int32 × Hp)) (k58 : Hp → Int32 → Int32 → Int32 → Int32 → Int32 → Int32 → Int32 → Int32 → Option (Int32 × Hp)) (h : Hp) (v1 : Int32) (v2 : Int32) (v3 : Int32) (v4 : Int32) (v5 : Int32) (v6 : Int32) (v7 : Int32) (v8 : Int32) (v10 : Int32) (v11 : Int32) : Option (Int32 × Hp) :=
  sX6_goesRound_c201 kr k58 h v1 v2 v3 v4 v5 v6 v7 v8 v10 v11 (0 : Int32)
set_option maxRecDepth 10000 in
theorem vX6_goesRound_c200 (kr : Hp → Int32 → Int32 → Int32 → Int32 → Option (Int32 × Hp)) (nr : Nat) (hkr : ∀ (h : Hp) (a1 : Int32) (a2 : Int32) (a3 : Int32) (a4 : Int32) (q : (Int32 × Hp)), kr h a1 a2 a3 a4 = some q → K (1 + nr) mX6_goesRound [.ref 54, .int a1, .int a2, .int a3, .int a4] h (pI q)) (k58 : Hp → Int32 → Int32 → Int32 → Int32 → Int32 → Int32 → Int32 → Int32 → Option (Int32 × Hp)) (hk58 : ∀ (h : Hp) (v1 : Int32) (v2 : Int32) (v3 : Int32) (v4 : Int32) (v5 : Int32) (v6 : Int32) (v7 : Int32) (v8 : Int32) (q : (Int32 × Hp)), k58 h v1 v2 v3 v4 v5 v6 v7 v8 = some q → V (Gs (1 + nr + 1) (pI q)) mX6_goesRound (0, 0) 58 [(0, .ref 54), (1, .int v1), (2, .int v2), (3, .int v3), (4, .int v4), (5, .int v5), (6, .int v6), (7, .int v7), (8, .int v8)] [] h) (h : Hp) (v1 : Int32) (v2 : Int32) (v3 : Int32) (v4 : Int32) (v5 : Int32) (v6 : Int32) (v7 : Int32) (v8 : Int32) (v10 : Int32) (v11 : Int32) (q : (Int32 × Hp)) (e : sX6_goesRound_c200 kr k58 h v1 v2 v3 v4 v5 v6 v7 v8 v10 v11 = some q) : V (Gs (1 + nr + 1) (pI q)) mX6_goesRound (0, 0) 200 [(0, .ref 54), (1, .int v1), (2, .int v2), (3, .int v3), (4, .int v4), (5, .int v5), (6, .int v6), (7, .int v7), (8, .int v8), (10, .int v10), (11, .int v11)] [] h := by
  unfold sX6_goesRound_c200 at e
  refine V.iconst dX6_goesRound_200 (pc' := 201) rfl (v := 0) (by decide) ?_
  exact vX6_goesRound_c201 kr nr hkr k58 hk58 h v1 v2 v3 v4 v5 v6 v7 v8 v10 v11 (0 : Int32) q e
def sX6_goesRound_c153 (kr : Hp → Int32 → Int32 → Int32 → Int32 → Option (Int32 × Hp)) (k58 : Hp → Int32 → Int32 → Int32 → Int32 → Int32 → Int32 → Int32 → Int32 → Option (Int32 × Hp)) (h : Hp) (v1 : Int32) (v2 : Int32) (v3 : Int32) (v4 : Int32) (v5 : Int32) (v6 : Int32) (v7 : Int32) (v8 : Int32) (v10 : Int32) (t0 : Int32) : Option (Int32 × Hp) :=
  if v2 = ((h.1 54 35) - (1 : Int32)) then (if t0 = v6 then (sX6_goesRound_c201 kr k58 h v1 v2 v3 v4 v5 v6 v7 v8 v10 t0 (1 : Int32)) else (sX6_goesRound_c201 kr k58 h v1 v2 v3 v4 v5 v6 v7 v8 v10 t0 (0 : Int32))) else (if t0 = v6 then (sX6_goesRound_c200 kr k58 h v1 v2 v3 v4 v5 v6 v7 v8 v10 t0) else (if ((v3 >>> (t0 &&& 31)) &&& (1 : Int32)) = 0 then (sX6_goesRound_c201 kr k58 h v1 v2 v3 v4 v5 v6 v7 v8 v10 t0 (1 : Int32)) else (sX6_goesRound_c200 kr k58 h v1 v2 v3 v4 v5 v6 v7 v8 v10 t0)))
set_option maxRecDepth 10000 in
theorem vX6_goesRound_c153 (kr : Hp → Int32 → Int32 → Int32 → Int32 → Option (Int32 × Hp)) (nr : Nat) (hkr : ∀ (h : Hp) (a1 : Int32) (a2 : Int32) (a3 : Int32) (a4 : Int32) (q : (Int32 × Hp)), kr h a1 a2 a3 a4 = some q → K (1 + nr) mX6_goesRound [.ref 54, .int a1, .int a2, .int a3, .int a4] h (pI q)) (k58 : Hp → Int32 → Int32 → Int32 → Int32 → Int32 → Int32 → Int32 → Int32 → Option (Int32 × Hp)) (hk58 : ∀ (h : Hp) (v1 : Int32) (v2 : Int32) (v3 : Int32) (v4 : Int32) (v5 : Int32) (v6 : Int32) (v7 : Int32) (v8 : Int32) (q : (Int32 × Hp)), k58 h v1 v2 v3 v4 v5 v6 v7 v8 = some q → V (Gs (1 + nr + 1) (pI q)) mX6_goesRound (0, 0) 58 [(0, .ref 54), (1, .int v1), (2, .int v2), (3, .int v3), (4, .int v4), (5, .int v5), (6, .int v6), (7, .int v7), (8, .int v8)] [] h) (h : Hp) (v1 : Int32) (v2 : Int32) (v3 : Int32) (v4 : Int32) (v5 : Int32) (v6 : Int32) (v7 : Int32) (v8 : Int32) (v10 : Int32) (t0 : Int32) (q : (Int32 × Hp)) (e : sX6_goesRound_c153 kr k58 h v1 v2 v3 v4 v5 v6 v7 v8 v10 t0 = some q) : V (Gs (1 + nr + 1) (pI q)) mX6_goesRound (0, 0) 153 [(0, .ref 54), (1, .int v1), (2, .int v2), (3, .int v3), (4, .int v4), (5, .int v5), (6, .int v6), (7, .int v7), (8, .int v8), (10, .int v10)] [.int t0] h := by
  unfold sX6_goesRound_c153 at e
  refine V.is dX6_goesRound_153 (pc' := 155) rfl (by decide) rfl (L' := [(11, .int t0), (0, .ref 54), (1, .int v1), (2, .int v2), (3, .int v3), (4, .int v4), (5, .int v5), (6, .int v6), (7, .int v7), (8, .int v8), (10, .int v10)]) rfl ?_
  refine V.ilq dX6_goesRound_155 (pc' := 156) rfl (j := 3) rfl ?_
  refine V.alq dX6_goesRound_156 (pc' := 157) rfl (j := 1) rfl ?_
  refine V.getf dX6_goesRound_157 (pc' := 160) rfl FL_X6_345 rfl (by decide) rfl ?_
  refine V.iconst dX6_goesRound_160 (pc' := 161) rfl (v := 1) (by decide) ?_
  refine V.isub dX6_goesRound_161 (pc' := 162) rfl ?_
  refine V.ic_ne dX6_goesRound_162 (pc' := 165) rfl (tgt := 180) (by decide) (fun c => ?_) (fun c => ?_)
  · rw [if_neg c] at e
    refine V.il dX6_goesRound_180 (pc' := 182) rfl (j := 0) rfl ?_
    refine V.il dX6_goesRound_182 (pc' := 184) rfl (j := 7) rfl ?_
    refine V.ic_eq dX6_goesRound_184 (pc' := 187) rfl (tgt := 200) (by decide) (fun c => ?_) (fun c => ?_)
    · rw [if_pos c] at e
      refine V.pk [1, 2, 3, 4, 5, 6, 7, 8, 9, 10, 0] rfl ?_
      exact vX6_goesRound_c200 kr nr hkr k58 hk58 h v1 v2 v3 v4 v5 v6 v7 v8 v10 t0 q e
    · rw [if_neg c] at e
      refine V.ilq dX6_goesRound_187 (pc' := 188) rfl (j := 4) rfl ?_
      refine V.il dX6_goesRound_188 (pc' := 190) rfl (j := 0) rfl ?_
      refine V.ishr dX6_goesRound_190 (pc' := 191) rfl ?_
      refine V.iconst dX6_goesRound_191 (pc' := 192) rfl (v := 1) (by decide) ?_
      refine V.iand dX6_goesRound_192 (pc' := 193) rfl ?_
      refine V.if_ne dX6_goesRound_193 (pc' := 196) rfl (tgt := 200) (by decide) (fun c => ?_) (fun c => ?_)
      · rw [if_neg c] at e
        refine V.pk [1, 2, 3, 4, 5, 6, 7, 8, 9, 10, 0] rfl ?_
        exact vX6_goesRound_c200 kr nr hkr k58 hk58 h v1 v2 v3 v4 v5 v6 v7 v8 v10 t0 q e
      · rw [if_pos c] at e
        refine V.iconst dX6_goesRound_196 (pc' := 197) rfl (v := 1) (by decide) ?_
        refine V.goto dX6_goesRound_197 (pc' := 201) (by decide) ?_
        refine V.pk [1, 2, 3, 4, 5, 6, 7, 8, 9, 10, 0] rfl ?_
        exact vX6_goesRound_c201 kr nr hkr k58 hk58 h v1 v2 v3 v4 v5 v6 v7 v8 v10 t0 (1 : Int32) q e
  · rw [if_pos c] at e
    refine V.il dX6_goesRound_165 (pc' := 167) rfl (j := 0) rfl ?_
    refine V.il dX6_goesRound_167 (pc' := 169) rfl (j := 7) rfl ?_
    refine V.ic_ne dX6_goesRound_169 (pc' := 172) rfl (tgt := 176) (by decide) (fun c => ?_) (fun c => ?_)
    · rw [if_neg c] at e
      refine V.iconst dX6_goesRound_176 (pc' := 177) rfl (v := 0) (by decide) ?_
      refine V.goto dX6_goesRound_177 (pc' := 201) (by decide) ?_
      refine V.pk [1, 2, 3, 4, 5, 6, 7, 8, 9, 10, 0] rfl ?_
      exact vX6_goesRound_c201 kr nr hkr k58 hk58 h v1 v2 v3 v4 v5 v6 v7 v8 v10 t0 (0 : Int32) q e
    · rw [if_pos c] at e
      refine V.iconst dX6_goesRound_172 (pc' := 173) rfl (v := 1) (by decide) ?_
      refine V.goto dX6_goesRound_173 (pc' := 201) (by decide) ?_
      refine V.pk [1, 2, 3, 4, 5, 6, 7, 8, 9, 10, 0] rfl ?_
      exact vX6_goesRound_c201 kr nr hkr k58 hk58 h v1 v2 v3 v4 v5 v6 v7 v8 v10 t0 (1 : Int32) q e
def sX6_goesRound_c129 (kr : Hp → Int32 → Int32 → Int32 → Int32 → Option (Int32 × Hp)) (k58 : Hp → Int32 → Int32 → Int32 → Int32 → Int32 → Int32 → Int32 → Int32 → Option (Int32 × Hp)) (h : Hp) (v1 : Int32) (v2 : Int32) (v3 : Int32) (v4 : Int32) (v5 : Int32) (v6 : Int32) (v7 : Int32) (v8 : Int32) (v9 : Int32) (t0 : Int32) : Option (Int32 × Hp) :=
  if v7 = 0 then (gd (inb v9 50) (sX6_goesRound_c153 kr k58 h v1 v2 v3 v4 v5 v6 v7 v8 t0 (h.1 69 v9.toNatClampNeg))) else (gd (inb v9 50) (sX6_goesRound_c153 kr k58 h v1 v2 v3 v4 v5 v6 v7 v8 t0 (h.1 68 v9.toNatClampNeg)))
set_option maxRecDepth 10000 in
theorem vX6_goesRound_c129 (kr : Hp → Int32 → Int32 → Int32 → Int32 → Option (Int32 × Hp)) (nr : Nat) (hkr : ∀ (h : Hp) (a1 : Int32) (a2 : Int32) (a3 : Int32) (a4 : Int32) (q : (Int32 × Hp)), kr h a1 a2 a3 a4 = some q → K (1 + nr) mX6_goesRound [.ref 54, .int a1, .int a2, .int a3, .int a4] h (pI q)) (k58 : Hp → Int32 → Int32 → Int32 → Int32 → Int32 → Int32 → Int32 → Int32 → Option (Int32 × Hp)) (hk58 : ∀ (h : Hp) (v1 : Int32) (v2 : Int32) (v3 : Int32) (v4 : Int32) (v5 : Int32) (v6 : Int32) (v7 : Int32) (v8 : Int32) (q : (Int32 × Hp)), k58 h v1 v2 v3 v4 v5 v6 v7 v8 = some q → V (Gs (1 + nr + 1) (pI q)) mX6_goesRound (0, 0) 58 [(0, .ref 54), (1, .int v1), (2, .int v2), (3, .int v3), (4, .int v4), (5, .int v5), (6, .int v6), (7, .int v7), (8, .int v8)] [] h) (h : Hp) (v1 : Int32) (v2 : Int32) (v3 : Int32) (v4 : Int32) (v5 : Int32) (v6 : Int32) (v7 : Int32) (v8 : Int32) (v9 : Int32) (t0 : Int32) (q : (Int32 × Hp)) (e : sX6_goesRound_c129 kr k58 h v1 v2 v3 v4 v5 v6 v7 v8 v9 t0 = some q) : V (Gs (1 + nr + 1) (pI q)) mX6_goesRound (0, 0) 129 [(0, .ref 54), (1, .int v1), (2, .int v2), (3, .int v3), (4, .int v4), (5, .int v5), (6, .int v6), (7, .int v7), (8, .int v8), (9, .int v9)] [.int t0] h := by
  unfold sX6_goesRound_c129 at e
  refine V.is dX6_goesRound_129 (pc' := 131) rfl (by decide) rfl (L' := [(10, .int t0), (0, .ref 54), (1, .int v1), (2, .int v2), (3, .int v3), (4, .int v4), (5, .int v5), (6, .int v6), (7, .int v7), (8, .int v8), (9, .int v9)]) rfl ?_
  refine V.il dX6_goesRound_131 (pc' := 133) rfl (j := 8) rfl ?_
  refine V.if_eq dX6_goesRound_133 (pc' := 136) rfl (tgt := 146) (by decide) (fun c => ?_) (fun c => ?_)
  · rw [if_pos c] at e
    refine V.alq dX6_goesRound_146 (pc' := 147) rfl (j := 1) rfl ?_
    refine V.getr dX6_goesRound_147 (pc' := 150) rfl FL_X6_96 rfl (by decide) rfl (r' := 69) rfl ?_
    refine V.il dX6_goesRound_150 (pc' := 152) rfl (j := 10) rfl ?_
    obtain ⟨c12, e⟩ := gd_s e
    refine V.iald dX6_goesRound_152 (pc' := 153) rfl rfl rfl (inb_t c12) ?_
    refine V.pk [1, 2, 3, 4, 5, 6, 7, 8, 9, 0] rfl ?_
    exact vX6_goesRound_c153 kr nr hkr k58 hk58 h v1 v2 v3 v4 v5 v6 v7 v8 t0 (h.1 69 v9.toNatClampNeg) q e
  · rw [if_neg c] at e
    refine V.alq dX6_goesRound_136 (pc' := 137) rfl (j := 1) rfl ?_
    refine V.getr dX6_goesRound_137 (pc' := 140) rfl FL_X6_93 rfl (by decide) rfl (r' := 68) rfl ?_
    refine V.il dX6_goesRound_140 (pc' := 142) rfl (j := 10) rfl ?_
    obtain ⟨c13, e⟩ := gd_s e
    refine V.iald dX6_goesRound_142 (pc' := 143) rfl rfl rfl (inb_t c13) ?_
    refine V.goto dX6_goesRound_143 (pc' := 153) (by decide) ?_
    refine V.pk [1, 2, 3, 4, 5, 6, 7, 8, 9, 0] rfl ?_
    exact vX6_goesRound_c153 kr nr hkr k58 hk58 h v1 v2 v3 v4 v5 v6 v7 v8 t0 (h.1 68 v9.toNatClampNeg) q e
def sX6_goesRound_c58 (kr : Hp → Int32 → Int32 → Int32 → Int32 → Option (Int32 × Hp)) (k58 : Hp → Int32 → Int32 → Int32 → Int32 → Int32 → Int32 → Int32 → Int32 → Option (Int32 × Hp)) (h : Hp) (v1 : Int32) (v2 : Int32) (v3 : Int32) (v4 : Int32) (v5 : Int32) (v6 : Int32) (v7 : Int32) (v8 : Int32) : Option (Int32 × Hp) :=
  gd (inb v1 2) (if (h.1 67 v1.toNatClampNeg) ≤ v8 then (some ((0 : Int32), h)) else ((sX6_place h v1 v8).bind fun q7 => if v7 = 0 then (gd (inb q7.1 50) (gd (inb v5 50) (if (q7.2.1 68 q7.1.toNatClampNeg) = (q7.2.1 68 v5.toNatClampNeg) then (sX6_goesRound_c129 kr k58 q7.2 v1 v2 v3 v4 v5 v6 v7 v8 q7.1 (1 : Int32)) else (sX6_goesRound_c129 kr k58 q7.2 v1 v2 v3 v4 v5 v6 v7 v8 q7.1 (0 : Int32))))) else (gd (inb q7.1 50) (gd (inb v5 50) (if (q7.2.1 69 q7.1.toNatClampNeg) = (q7.2.1 69 v5.toNatClampNeg) then (sX6_goesRound_c129 kr k58 q7.2 v1 v2 v3 v4 v5 v6 v7 v8 q7.1 (1 : Int32)) else (sX6_goesRound_c129 kr k58 q7.2 v1 v2 v3 v4 v5 v6 v7 v8 q7.1 (0 : Int32)))))))
set_option maxRecDepth 10000 in
theorem vX6_goesRound_c58 (kr : Hp → Int32 → Int32 → Int32 → Int32 → Option (Int32 × Hp)) (nr : Nat) (hkr : ∀ (h : Hp) (a1 : Int32) (a2 : Int32) (a3 : Int32) (a4 : Int32) (q : (Int32 × Hp)), kr h a1 a2 a3 a4 = some q → K (1 + nr) mX6_goesRound [.ref 54, .int a1, .int a2, .int a3, .int a4] h (pI q)) (k58 : Hp → Int32 → Int32 → Int32 → Int32 → Int32 → Int32 → Int32 → Int32 → Option (Int32 × Hp)) (hk58 : ∀ (h : Hp) (v1 : Int32) (v2 : Int32) (v3 : Int32) (v4 : Int32) (v5 : Int32) (v6 : Int32) (v7 : Int32) (v8 : Int32) (q : (Int32 × Hp)), k58 h v1 v2 v3 v4 v5 v6 v7 v8 = some q → V (Gs (1 + nr + 1) (pI q)) mX6_goesRound (0, 0) 58 [(0, .ref 54), (1, .int v1), (2, .int v2), (3, .int v3), (4, .int v4), (5, .int v5), (6, .int v6), (7, .int v7), (8, .int v8)] [] h) (h : Hp) (v1 : Int32) (v2 : Int32) (v3 : Int32) (v4 : Int32) (v5 : Int32) (v6 : Int32) (v7 : Int32) (v8 : Int32) (q : (Int32 × Hp)) (e : sX6_goesRound_c58 kr k58 h v1 v2 v3 v4 v5 v6 v7 v8 = some q) : V (Gs (1 + nr + 1) (pI q)) mX6_goesRound (0, 0) 58 [(0, .ref 54), (1, .int v1), (2, .int v2), (3, .int v3), (4, .int v4), (5, .int v5), (6, .int v6), (7, .int v7), (8, .int v8)] [] h := by
  unfold sX6_goesRound_c58 at e
  refine V.il dX6_goesRound_58 (pc' := 60) rfl (j := 8) rfl ?_
  refine V.alq dX6_goesRound_60 (pc' := 61) rfl (j := 0) rfl ?_
  refine V.getr dX6_goesRound_61 (pc' := 64) rfl FL_X6_90 rfl (by decide) rfl (r' := 67) rfl ?_
  refine V.ilq dX6_goesRound_64 (pc' := 65) rfl (j := 1) rfl ?_
  obtain ⟨c6, e⟩ := gd_s e
  refine V.iald dX6_goesRound_65 (pc' := 66) rfl rfl rfl (inb_t c6) ?_
  refine V.ic_ge dX6_goesRound_66 (pc' := 69) rfl (tgt := 267) (by decide) (fun c => ?_) (fun c => ?_)
  · rw [if_pos c] at e
    refine V.iconst dX6_goesRound_267 (pc' := 268) rfl (v := 0) (by decide) ?_
    exact V.zret dX6_goesRound_268 rfl (Or.inl rfl) (fnI e)
  · rw [if_neg c] at e
    refine V.ilq dX6_goesRound_69 (pc' := 70) rfl (j := 1) rfl ?_
    refine V.il dX6_goesRound_70 (pc' := 72) rfl (j := 8) rfl ?_
    obtain ⟨q7, eq7, e⟩ := bd_s e
    refine V.callSi dX6_goesRound_72 (pc' := 75) rfl CS_X6_263 (as := [.int v1, .int v8]) (kX6_place h v1 v8 q7 eq7) (Gs_rm (by omega)) rfl (Nat.le_of_ble_eq_true rfl) rfl ?_
    refine V.is dX6_goesRound_75 (pc' := 77) rfl (by decide) rfl (L' := [(9, .int q7.1), (0, .ref 54), (1, .int v1), (2, .int v2), (3, .int v3), (4, .int v4), (5, .int v5), (6, .int v6), (7, .int v7), (8, .int v8)]) rfl ?_
    refine V.il dX6_goesRound_77 (pc' := 79) rfl (j := 8) rfl ?_
    refine V.if_eq dX6_goesRound_79 (pc' := 82) rfl (tgt := 107) (by decide) (fun c => ?_) (fun c => ?_)
    · rw [if_pos c] at e
      refine V.alq dX6_goesRound_107 (pc' := 108) rfl (j := 1) rfl ?_
      refine V.getr dX6_goesRound_108 (pc' := 111) rfl FL_X6_93 rfl (by decide) rfl (r' := 68) rfl ?_
      refine V.il dX6_goesRound_111 (pc' := 113) rfl (j := 0) rfl ?_
      obtain ⟨c8, e⟩ := gd_s e
      refine V.iald dX6_goesRound_113 (pc' := 114) rfl rfl rfl (inb_t c8) ?_
      refine V.alq dX6_goesRound_114 (pc' := 115) rfl (j := 1) rfl ?_
      refine V.getr dX6_goesRound_115 (pc' := 118) rfl FL_X6_93 rfl (by decide) rfl (r' := 68) rfl ?_
      refine V.il dX6_goesRound_118 (pc' := 120) rfl (j := 6) rfl ?_
      obtain ⟨c9, e⟩ := gd_s e
      refine V.iald dX6_goesRound_120 (pc' := 121) rfl rfl rfl (inb_t c9) ?_
      refine V.ic_ne dX6_goesRound_121 (pc' := 124) rfl (tgt := 128) (by decide) (fun c => ?_) (fun c => ?_)
      · rw [if_neg c] at e
        refine V.iconst dX6_goesRound_128 (pc' := 129) rfl (v := 0) (by decide) ?_
        refine V.pk [1, 2, 3, 4, 5, 6, 7, 8, 9, 0] rfl ?_
        exact vX6_goesRound_c129 kr nr hkr k58 hk58 q7.2 v1 v2 v3 v4 v5 v6 v7 v8 q7.1 (0 : Int32) q e
      · rw [if_pos c] at e
        refine V.iconst dX6_goesRound_124 (pc' := 125) rfl (v := 1) (by decide) ?_
        refine V.goto dX6_goesRound_125 (pc' := 129) (by decide) ?_
        refine V.pk [1, 2, 3, 4, 5, 6, 7, 8, 9, 0] rfl ?_
        exact vX6_goesRound_c129 kr nr hkr k58 hk58 q7.2 v1 v2 v3 v4 v5 v6 v7 v8 q7.1 (1 : Int32) q e
    · rw [if_neg c] at e
      refine V.alq dX6_goesRound_82 (pc' := 83) rfl (j := 1) rfl ?_
      refine V.getr dX6_goesRound_83 (pc' := 86) rfl FL_X6_96 rfl (by decide) rfl (r' := 69) rfl ?_
      refine V.il dX6_goesRound_86 (pc' := 88) rfl (j := 0) rfl ?_
      obtain ⟨c10, e⟩ := gd_s e
      refine V.iald dX6_goesRound_88 (pc' := 89) rfl rfl rfl (inb_t c10) ?_
      refine V.alq dX6_goesRound_89 (pc' := 90) rfl (j := 1) rfl ?_
      refine V.getr dX6_goesRound_90 (pc' := 93) rfl FL_X6_96 rfl (by decide) rfl (r' := 69) rfl ?_
      refine V.il dX6_goesRound_93 (pc' := 95) rfl (j := 6) rfl ?_
      obtain ⟨c11, e⟩ := gd_s e
      refine V.iald dX6_goesRound_95 (pc' := 96) rfl rfl rfl (inb_t c11) ?_
      refine V.ic_ne dX6_goesRound_96 (pc' := 99) rfl (tgt := 103) (by decide) (fun c => ?_) (fun c => ?_)
      · rw [if_neg c] at e
        refine V.iconst dX6_goesRound_103 (pc' := 104) rfl (v := 0) (by decide) ?_
        refine V.goto dX6_goesRound_104 (pc' := 129) (by decide) ?_
        refine V.pk [1, 2, 3, 4, 5, 6, 7, 8, 9, 0] rfl ?_
        exact vX6_goesRound_c129 kr nr hkr k58 hk58 q7.2 v1 v2 v3 v4 v5 v6 v7 v8 q7.1 (0 : Int32) q e
      · rw [if_pos c] at e
        refine V.iconst dX6_goesRound_99 (pc' := 100) rfl (v := 1) (by decide) ?_
        refine V.goto dX6_goesRound_100 (pc' := 129) (by decide) ?_
        refine V.pk [1, 2, 3, 4, 5, 6, 7, 8, 9, 0] rfl ?_
        exact vX6_goesRound_c129 kr nr hkr k58 hk58 q7.2 v1 v2 v3 v4 v5 v6 v7 v8 q7.1 (1 : Int32) q e
def sX6_goesRound_b58 (kr : Hp → Int32 → Int32 → Int32 → Int32 → Option (Int32 × Hp)) : Nat → Hp → Int32 → Int32 → Int32 → Int32 → Int32 → Int32 → Int32 → Int32 → Option (Int32 × Hp)
  | 0 => fun _ _ _ _ _ _ _ _ _ => none
  | n + 1 => sX6_goesRound_c58 kr (sX6_goesRound_b58 kr n)
theorem vX6_goesRound_b58 (kr : Hp → Int32 → Int32 → Int32 → Int32 → Option (Int32 × Hp)) (nr : Nat) (hkr : ∀ (h : Hp) (a1 : Int32) (a2 : Int32) (a3 : Int32) (a4 : Int32) (q : (Int32 × Hp)), kr h a1 a2 a3 a4 = some q → K (1 + nr) mX6_goesRound [.ref 54, .int a1, .int a2, .int a3, .int a4] h (pI q)) : ∀ (n : Nat) (h : Hp) (v1 : Int32) (v2 : Int32) (v3 : Int32) (v4 : Int32) (v5 : Int32) (v6 : Int32) (v7 : Int32) (v8 : Int32) (q : (Int32 × Hp)), sX6_goesRound_b58 kr n h v1 v2 v3 v4 v5 v6 v7 v8 = some q → V (Gs (1 + nr + 1) (pI q)) mX6_goesRound (0, 0) 58 [(0, .ref 54), (1, .int v1), (2, .int v2), (3, .int v3), (4, .int v4), (5, .int v5), (6, .int v6), (7, .int v7), (8, .int v8)] [] h
  | 0 => fun _ _ _ _ _ _ _ _ _ _ e => by cases e
  | n + 1 => fun h v1 v2 v3 v4 v5 v6 v7 v8 q e => vX6_goesRound_c58 kr nr hkr (sX6_goesRound_b58 kr n) (vX6_goesRound_b58 kr nr hkr n) h v1 v2 v3 v4 v5 v6 v7 v8 q e
def sX6_goesRound_c53 (kr : Hp → Int32 → Int32 → Int32 → Int32 → Option (Int32 × Hp)) (h : Hp) (v1 : Int32) (v2 : Int32) (v3 : Int32) (v4 : Int32) (v5 : Int32) (v6 : Int32) (t0 : Int32) : Option (Int32 × Hp) :=
  sX6_goesRound_b58 kr FU h v1 v2 v3 v4 v5 v6 t0 (0 : Int32)
set_option maxRecDepth 10000 in
theorem vX6_goesRound_c53 (kr : Hp → Int32 → Int32 → Int32 → Int32 → Option (Int32 × Hp)) (nr : Nat) (hkr : ∀ (h : Hp) (a1 : Int32) (a2 : Int32) (a3 : Int32) (a4 : Int32) (q : (Int32 × Hp)), kr h a1 a2 a3 a4 = some q → K (1 + nr) mX6_goesRound [.ref 54, .int a1, .int a2, .int a3, .int a4] h (pI q)) (h : Hp) (v1 : Int32) (v2 : Int32) (v3 : Int32) (v4 : Int32) (v5 : Int32) (v6 : Int32) (t0 : Int32) (q : (Int32 × Hp)) (e : sX6_goesRound_c53 kr h v1 v2 v3 v4 v5 v6 t0 = some q) : V (Gs (1 + nr + 1) (pI q)) mX6_goesRound (0, 0) 53 [(0, .ref 54), (1, .int v1), (2, .int v2), (3, .int v3), (4, .int v4), (5, .int v5), (6, .int v6)] [.int t0] h := by
  unfold sX6_goesRound_c53 at e
  refine V.is dX6_goesRound_53 (pc' := 55) rfl (by decide) rfl (L' := [(7, .int t0), (0, .ref 54), (1, .int v1), (2, .int v2), (3, .int v3), (4, .int v4), (5, .int v5), (6, .int v6)]) rfl ?_
  refine V.iconst dX6_goesRound_55 (pc' := 56) rfl (v := 0) (by decide) ?_
  refine V.is dX6_goesRound_56 (pc' := 58) rfl (by decide) rfl (L' := [(8, .int (0 : Int32)), (7, .int t0), (0, .ref 54), (1, .int v1), (2, .int v2), (3, .int v3), (4, .int v4), (5, .int v5), (6, .int v6)]) rfl ?_
  refine V.pk [2, 3, 4, 5, 6, 7, 8, 1, 0] rfl ?_
  exact vX6_goesRound_b58 kr nr hkr FU h v1 v2 v3 v4 v5 v6 t0 (0 : Int32) q e
def sX6_goesRound_e (kr : Hp → Int32 → Int32 → Int32 → Int32 → Option (Int32 × Hp)) (h : Hp) (a1 : Int32) (a2 : Int32) (a3 : Int32) (a4 : Int32) : Option (Int32 × Hp) :=
  if a2 = (h.1 54 35) then (some ((1 : Int32), h)) else (gd (inb (a2 - (1 : Int32)) 24) ((sX6_place h a1 (h.1 74 (a2 - (1 : Int32)).toNatClampNeg)).bind fun q2 => (sX6_place q2.2 a1 (q2.2.1 74 (0 : Int32).toNatClampNeg)).bind fun q3 => gd (inb q3.1 50) (nm ((q3.2.1 68 q3.1.toNatClampNeg)) fun x5 => if (a2 - a2 / (2 : Int32) * (2 : Int32)) = (1 : Int32) then (sX6_goesRound_c53 kr q3.2 a1 a2 a3 a4 q2.1 x5 (1 : Int32)) else (sX6_goesRound_c53 kr q3.2 a1 a2 a3 a4 q2.1 x5 (0 : Int32)))))
set_option maxRecDepth 10000 in
theorem kX6_goesRound_e (kr : Hp → Int32 → Int32 → Int32 → Int32 → Option (Int32 × Hp)) (nr : Nat) (hkr : ∀ (h : Hp) (a1 : Int32) (a2 : Int32) (a3 : Int32) (a4 : Int32) (q : (Int32 × Hp)), kr h a1 a2 a3 a4 = some q → K (1 + nr) mX6_goesRound [.ref 54, .int a1, .int a2, .int a3, .int a4] h (pI q)) (h : Hp) (a1 : Int32) (a2 : Int32) (a3 : Int32) (a4 : Int32) (q : (Int32 × Hp)) (e : sX6_goesRound_e kr h a1 a2 a3 a4 = some q) : K (1 + nr + 1) mX6_goesRound [.ref 54, .int a1, .int a2, .int a3, .int a4] h (pI q) := by
  unfold sX6_goesRound_e at e
  refine K.ofV (by decide) rfl (Nat.le_of_ble_eq_true rfl) ?_
  show V (Gs (1 + nr + 1) (pI q)) mX6_goesRound (0, 0) 0 [(0, .ref 54), (1, .int a1), (2, .int a2), (3, .int a3), (4, .int a4)] [] h
  refine V.ilq dX6_goesRound_0 (pc' := 1) rfl (j := 2) rfl ?_
  refine V.alq dX6_goesRound_1 (pc' := 2) rfl (j := 0) rfl ?_
  refine V.getf dX6_goesRound_2 (pc' := 5) rfl FL_X6_345 rfl (by decide) rfl ?_
  refine V.ic_ne dX6_goesRound_5 (pc' := 8) rfl (tgt := 10) (by decide) (fun c => ?_) (fun c => ?_)
  · rw [if_neg c] at e
    refine V.ilq dX6_goesRound_10 (pc' := 11) rfl (j := 1) rfl ?_
    refine V.alq dX6_goesRound_11 (pc' := 12) rfl (j := 0) rfl ?_
    refine V.getr dX6_goesRound_12 (pc' := 15) rfl FL_X6_111 rfl (by decide) rfl (r' := 74) rfl ?_
    refine V.ilq dX6_goesRound_15 (pc' := 16) rfl (j := 2) rfl ?_
    refine V.iconst dX6_goesRound_16 (pc' := 17) rfl (v := 1) (by decide) ?_
    refine V.isub dX6_goesRound_17 (pc' := 18) rfl ?_
    obtain ⟨c1, e⟩ := gd_s e
    refine V.iald dX6_goesRound_18 (pc' := 19) rfl rfl rfl (inb_t c1) ?_
    obtain ⟨q2, eq2, e⟩ := bd_s e
    refine V.callSi dX6_goesRound_19 (pc' := 22) rfl CS_X6_263 (as := [.int a1, .int (h.1 74 (a2 - (1 : Int32)).toNatClampNeg)]) (kX6_place h a1 (h.1 74 (a2 - (1 : Int32)).toNatClampNeg) q2 eq2) (Gs_rm (by omega)) rfl (Nat.le_of_ble_eq_true rfl) rfl ?_
    refine V.is dX6_goesRound_22 (pc' := 24) rfl (by decide) rfl (L' := [(5, .int q2.1), (0, .ref 54), (1, .int a1), (2, .int a2), (3, .int a3), (4, .int a4)]) rfl ?_
    refine V.alq dX6_goesRound_24 (pc' := 25) rfl (j := 1) rfl ?_
    refine V.getr dX6_goesRound_25 (pc' := 28) rfl FL_X6_93 rfl (by decide) rfl (r' := 68) rfl ?_
    refine V.ilq dX6_goesRound_28 (pc' := 29) rfl (j := 2) rfl ?_
    refine V.alq dX6_goesRound_29 (pc' := 30) rfl (j := 1) rfl ?_
    refine V.getr dX6_goesRound_30 (pc' := 33) rfl FL_X6_111 rfl (by decide) rfl (r' := 74) rfl ?_
    refine V.iconst dX6_goesRound_33 (pc' := 34) rfl (v := 0) (by decide) ?_
    refine V.iald dX6_goesRound_34 (pc' := 35) rfl rfl rfl (inb_t (by decide)) ?_
    obtain ⟨q3, eq3, e⟩ := bd_s e
    refine V.callSi dX6_goesRound_35 (pc' := 38) rfl CS_X6_263 (as := [.int a1, .int (q2.2.1 74 (0 : Int32).toNatClampNeg)]) (kX6_place q2.2 a1 (q2.2.1 74 (0 : Int32).toNatClampNeg) q3 eq3) (Gs_rm (by omega)) rfl (Nat.le_of_ble_eq_true rfl) rfl ?_
    obtain ⟨c4, e⟩ := gd_s e
    refine V.iald dX6_goesRound_38 (pc' := 39) rfl rfl rfl (inb_t c4) ?_
    obtain ⟨x5, ex5, e⟩ := nm_s e
    refine V.is dX6_goesRound_39 (pc' := 41) rfl (by decide) ex5 (L' := [(6, .int x5), (5, .int q2.1), (0, .ref 54), (1, .int a1), (2, .int a2), (3, .int a3), (4, .int a4)]) rfl ?_
    refine V.ilq dX6_goesRound_41 (pc' := 42) rfl (j := 4) rfl ?_
    refine V.iconst dX6_goesRound_42 (pc' := 43) rfl (v := 2) (by decide) ?_
    refine V.irem dX6_goesRound_43 (pc' := 44) rfl (by decide) ?_
    refine V.iconst dX6_goesRound_44 (pc' := 45) rfl (v := 1) (by decide) ?_
    refine V.ic_ne dX6_goesRound_45 (pc' := 48) rfl (tgt := 52) (by decide) (fun c => ?_) (fun c => ?_)
    · rw [if_neg c] at e
      refine V.iconst dX6_goesRound_52 (pc' := 53) rfl (v := 0) (by decide) ?_
      refine V.pk [2, 3, 4, 5, 6, 1, 0] rfl ?_
      exact vX6_goesRound_c53 kr nr hkr q3.2 a1 a2 a3 a4 q2.1 x5 (0 : Int32) q e
    · rw [if_pos c] at e
      refine V.iconst dX6_goesRound_48 (pc' := 49) rfl (v := 1) (by decide) ?_
      refine V.goto dX6_goesRound_49 (pc' := 53) (by decide) ?_
      refine V.pk [2, 3, 4, 5, 6, 1, 0] rfl ?_
      exact vX6_goesRound_c53 kr nr hkr q3.2 a1 a2 a3 a4 q2.1 x5 (1 : Int32) q e
  · rw [if_pos c] at e
    refine V.iconst dX6_goesRound_8 (pc' := 9) rfl (v := 1) (by decide) ?_
    exact V.zret dX6_goesRound_9 rfl (Or.inr rfl) (fnI e)
def sX6_goesRound : Nat → Hp → Int32 → Int32 → Int32 → Int32 → Option (Int32 × Hp)
  | 0 => fun _ _ _ _ _ => none
  | n + 1 => sX6_goesRound_e (sX6_goesRound n)
theorem kX6_goesRound : ∀ (n : Nat) (h : Hp) (a1 : Int32) (a2 : Int32) (a3 : Int32) (a4 : Int32) (q : (Int32 × Hp)), sX6_goesRound n h a1 a2 a3 a4 = some q → K (1 + n) mX6_goesRound [.ref 54, .int a1, .int a2, .int a3, .int a4] h (pI q)
  | 0 => fun _ _ _ _ _ _ e => by cases e
  | n + 1 => fun h a1 a2 a3 a4 q e => kX6_goesRound_e (sX6_goesRound n) n (kX6_goesRound n) h a1 a2 a3 a4 q e

-- X6_row (level 1)
theorem dX6_row_0 : decode cX6_row 0 = .ok (.aload_n 0, 1) := by decide +kernel
theorem dX6_row_1 : decode cX6_row 1 = .ok (.iload_n 1, 1) := by decide +kernel
theorem dX6_row_2 : decode cX6_row 2 = .ok (.i2l, 1) := by decide +kernel
theorem dX6_row_3 : decode cX6_row 3 = .ok (.lconst 0, 1) := by decide +kernel
theorem dX6_row_4 : decode cX6_row 4 = .ok (.aload_n 0, 1) := by decide +kernel
theorem dX6_row_5 : decode cX6_row 5 = .ok (.getfield 11, 3) := by decide +kernel
theorem dX6_row_8 : decode cX6_row 8 = .ok (.iconst 1, 1) := by decide +kernel
theorem dX6_row_9 : decode cX6_row 9 = .ok (.isub, 1) := by decide +kernel
theorem dX6_row_10 : decode cX6_row 10 = .ok (.i2l, 1) := by decide +kernel
theorem dX6_row_11 : decode cX6_row 11 = .ok (.invokestatic 29, 3) := by decide +kernel
theorem dX6_row_14 : decode cX6_row 14 = .ok (.ifCond .ne 7, 3) := by decide +kernel
theorem dX6_row_17 : decode cX6_row 17 = .ok (.iconst 1, 1) := by decide +kernel
theorem dX6_row_18 : decode cX6_row 18 = .ok (.goto 4, 3) := by decide +kernel
theorem dX6_row_21 : decode cX6_row 21 = .ok (.iconst 0, 1) := by decide +kernel
theorem dX6_row_22 : decode cX6_row 22 = .ok (.invokestatic 39, 3) := by decide +kernel
theorem dX6_row_25 : decode cX6_row 25 = .ok (.putfield 1, 3) := by decide +kernel
theorem dX6_row_28 : decode cX6_row 28 = .ok (.aload_n 0, 1) := by decide +kernel
theorem dX6_row_29 : decode cX6_row 29 = .ok (.getfield 1, 3) := by decide +kernel
theorem dX6_row_32 : decode cX6_row 32 = .ok (.iconst 1, 1) := by decide +kernel
theorem dX6_row_33 : decode cX6_row 33 = .ok (.if_icmp .ne 7, 3) := by decide +kernel
theorem dX6_row_36 : decode cX6_row 36 = .ok (.lconst 0, 1) := by decide +kernel
theorem dX6_row_37 : decode cX6_row 37 = .ok (.goto 9, 3) := by decide +kernel
theorem dX6_row_40 : decode cX6_row 40 = .ok (.aload_n 0, 1) := by decide +kernel
theorem dX6_row_41 : decode cX6_row 41 = .ok (.getfield 7, 3) := by decide +kernel
theorem dX6_row_44 : decode cX6_row 44 = .ok (.iload_n 1, 1) := by decide +kernel
theorem dX6_row_45 : decode cX6_row 45 = .ok (.laload, 1) := by decide +kernel
theorem dX6_row_46 : decode cX6_row 46 = .ok (.lreturn, 1) := by decide +kernel
def sX6_row_c46 (h : Hp) (t0 : Int64) : Option (Int64 × Hp) :=
  some (t0, h)
set_option maxRecDepth 10000 in
theorem vX6_row_c46 (h : Hp) (t0 : Int64) (q : (Int64 × Hp)) (e : sX6_row_c46 h t0 = some q) : V (Gs 1 (pL q)) mX6_row (0, 0) 46 [] [.long t0] h := by
  unfold sX6_row_c46 at e
  exact V.lret dX6_row_46 rfl (fnL e)
def sX6_row_c22 (h : Hp) (v1 : Int32) (t0 : Int32) : Option (Int64 × Hp) :=
  (sX6_flag h t0).bind fun q2 => nm (u1 q2.2 54 0 q2.1) fun h3 => if (h3.1 54 0) = (1 : Int32) then (sX6_row_c46 h3 (0 : Int64)) else (gd (inb v1 64) (sX6_row_c46 h3 (h3.2 55 v1.toNatClampNeg)))
set_option maxRecDepth 10000 in
theorem vX6_row_c22 (h : Hp) (v1 : Int32) (t0 : Int32) (q : (Int64 × Hp)) (e : sX6_row_c22 h v1 t0 = some q) : V (Gs 1 (pL q)) mX6_row (0, 0) 22 [(0, .ref 54), (1, .int v1)] [.int t0, .ref 54] h := by
  unfold sX6_row_c22 at e
  obtain ⟨q2, eq2, e⟩ := bd_s e
  refine V.callSi dX6_row_22 (pc' := 25) rfl CS_X6_39 (as := [.int t0]) (kX6_flag h t0 q2 eq2) (Gs_rm (by decide)) rfl (Nat.le_of_ble_eq_true rfl) rfl ?_
  obtain ⟨h3, eh3, e⟩ := nm_s e
  refine V.putf dX6_row_25 (pc' := 28) rfl FP_X6_1 rfl (by decide) rfl eh3 ?_
  refine V.alq dX6_row_28 (pc' := 29) rfl (j := 0) rfl ?_
  refine V.getf dX6_row_29 (pc' := 32) rfl FL_X6_1 rfl (by decide) rfl ?_
  refine V.iconst dX6_row_32 (pc' := 33) rfl (v := 1) (by decide) ?_
  refine V.ic_ne dX6_row_33 (pc' := 36) rfl (tgt := 40) (by decide) (fun c => ?_) (fun c => ?_)
  · rw [if_neg c] at e
    refine V.alq dX6_row_40 (pc' := 41) rfl (j := 0) rfl ?_
    refine V.getr dX6_row_41 (pc' := 44) rfl FL_X6_7 rfl (by decide) rfl (r' := 55) rfl ?_
    refine V.ilq dX6_row_44 (pc' := 45) rfl (j := 1) rfl ?_
    obtain ⟨c4, e⟩ := gd_s e
    refine V.lald dX6_row_45 (pc' := 46) rfl rfl rfl (inb_t c4) ?_
    refine V.pk [] rfl ?_
    exact vX6_row_c46 h3 (h3.2 55 v1.toNatClampNeg) q e
  · rw [if_pos c] at e
    refine V.lconst dX6_row_36 (pc' := 37) rfl (v := 0) (by decide) ?_
    refine V.goto dX6_row_37 (pc' := 46) (by decide) ?_
    refine V.pk [] rfl ?_
    exact vX6_row_c46 h3 (0 : Int64) q e
def sX6_row (h : Hp) (a1 : Int32) : Option (Int64 × Hp) :=
  (sX6_in h a1.toInt64 (0 : Int64) (((h.1 54 1) - (1 : Int32)).toInt64)).bind fun q1 => if q1.1 = 0 then (sX6_row_c22 q1.2 a1 (1 : Int32)) else (sX6_row_c22 q1.2 a1 (0 : Int32))
set_option maxRecDepth 10000 in
theorem kX6_row (h : Hp) (a1 : Int32) (q : (Int64 × Hp)) (e : sX6_row h a1 = some q) : K 1 mX6_row [.ref 54, .int a1] h (pL q) := by
  unfold sX6_row at e
  refine K.ofV (by decide) rfl (Nat.le_of_ble_eq_true rfl) ?_
  show V (Gs 1 (pL q)) mX6_row (0, 0) 0 [(0, .ref 54), (1, .int a1)] [] h
  refine V.alq dX6_row_0 (pc' := 1) rfl (j := 0) rfl ?_
  refine V.ilq dX6_row_1 (pc' := 2) rfl (j := 1) rfl ?_
  refine V.i2l dX6_row_2 (pc' := 3) rfl ?_
  refine V.lconst dX6_row_3 (pc' := 4) rfl (v := 0) (by decide) ?_
  refine V.alq dX6_row_4 (pc' := 5) rfl (j := 0) rfl ?_
  refine V.getf dX6_row_5 (pc' := 8) rfl FL_X6_11 rfl (by decide) rfl ?_
  refine V.iconst dX6_row_8 (pc' := 9) rfl (v := 1) (by decide) ?_
  refine V.isub dX6_row_9 (pc' := 10) rfl ?_
  refine V.i2l dX6_row_10 (pc' := 11) rfl ?_
  obtain ⟨q1, eq1, e⟩ := bd_s e
  refine V.callSi dX6_row_11 (pc' := 14) rfl CS_X6_29 (as := [.long a1.toInt64, .long (0 : Int64), .long (((h.1 54 1) - (1 : Int32)).toInt64)]) (kX6_in h a1.toInt64 (0 : Int64) (((h.1 54 1) - (1 : Int32)).toInt64) q1 eq1) (Gs_rm (by decide)) rfl (Nat.le_of_ble_eq_true rfl) rfl ?_
  refine V.if_ne dX6_row_14 (pc' := 17) rfl (tgt := 21) (by decide) (fun c => ?_) (fun c => ?_)
  · rw [if_neg c] at e
    refine V.iconst dX6_row_21 (pc' := 22) rfl (v := 0) (by decide) ?_
    exact vX6_row_c22 q1.2 a1 (0 : Int32) q e
  · rw [if_pos c] at e
    refine V.iconst dX6_row_17 (pc' := 18) rfl (v := 1) (by decide) ?_
    refine V.goto dX6_row_18 (pc' := 22) (by decide) ?_
    exact vX6_row_c22 q1.2 a1 (1 : Int32) q e

-- X1_heatOf (level 2)
theorem dX1_heatOf_0 : decode cX1_heatOf 0 = .ok (.aload_n 0, 1) := by decide +kernel
theorem dX1_heatOf_1 : decode cX1_heatOf 1 = .ok (.getfield 22, 3) := by decide +kernel
theorem dX1_heatOf_4 : decode cX1_heatOf 4 = .ok (.iload_n 1, 1) := by decide +kernel
theorem dX1_heatOf_5 : decode cX1_heatOf 5 = .ok (.iaload, 1) := by decide +kernel
theorem dX1_heatOf_6 : decode cX1_heatOf 6 = .ok (.aload_n 0, 1) := by decide +kernel
theorem dX1_heatOf_7 : decode cX1_heatOf 7 = .ok (.iload_n 1, 1) := by decide +kernel
theorem dX1_heatOf_8 : decode cX1_heatOf 8 = .ok (.invokevirtual 42, 3) := by decide +kernel
theorem dX1_heatOf_11 : decode cX1_heatOf 11 = .ok (.aload_n 0, 1) := by decide +kernel
theorem dX1_heatOf_12 : decode cX1_heatOf 12 = .ok (.iload_n 1, 1) := by decide +kernel
theorem dX1_heatOf_13 : decode cX1_heatOf 13 = .ok (.invokevirtual 46, 3) := by decide +kernel
theorem dX1_heatOf_16 : decode cX1_heatOf 16 = .ok (.isub, 1) := by decide +kernel
theorem dX1_heatOf_17 : decode cX1_heatOf 17 = .ok (.imul, 1) := by decide +kernel
theorem dX1_heatOf_18 : decode cX1_heatOf 18 = .ok (.ireturn, 1) := by decide +kernel
def sX1_heatOf (h : Hp) (r : Nat) (a1 : Int32) : Option (Int32 × Hp) :=
  gd (isC r 1) (gd (inb a1 10) ((sX1_high h r a1).bind fun q2 => (sX1_low q2.2 r a1).bind fun q3 => some (((h.1 (r + 4) a1.toNatClampNeg) * (q2.1 - q3.1)), q3.2)))
set_option maxRecDepth 10000 in
theorem kX1_heatOf (h : Hp) (r : Nat) (a1 : Int32) (q : (Int32 × Hp)) (e : sX1_heatOf h r a1 = some q) : K 2 mX1_heatOf [.ref r, .int a1] h (pI q) := by
  unfold sX1_heatOf at e
  obtain ⟨hr, e⟩ := gd_s e
  have hr := isC_t hr
  refine K.ofV (by decide) rfl (Nat.le_of_ble_eq_true rfl) ?_
  show V (Gs 2 (pI q)) mX1_heatOf (0, 0) 0 [(0, .ref r), (1, .int a1)] [] h
  refine V.alq dX1_heatOf_0 (pc' := 1) rfl (j := 0) rfl ?_
  refine V.getr dX1_heatOf_1 (pc' := 4) rfl FL_X1_22 hr (by decide) rfl (r' := r + 4) rfl ?_
  refine V.ilq dX1_heatOf_4 (pc' := 5) rfl (j := 1) rfl ?_
  obtain ⟨c1, e⟩ := gd_s e
  refine V.iald dX1_heatOf_5 (pc' := 6) rfl (akX1_4 hr).1 (akX1_4 hr).2 (inb_t c1) ?_
  refine V.alq dX1_heatOf_6 (pc' := 7) rfl (j := 0) rfl ?_
  refine V.ilq dX1_heatOf_7 (pc' := 8) rfl (j := 1) rfl ?_
  obtain ⟨q2, eq2, e⟩ := bd_s e
  refine V.callVi dX1_heatOf_8 (pc' := 11) rfl CV_X1_42 (as := [.int a1]) (kX1_high h r a1 q2 eq2) (Gs_rm (by decide)) hr (by decide) rfl (Nat.le_of_ble_eq_true rfl) rfl ?_
  refine V.alq dX1_heatOf_11 (pc' := 12) rfl (j := 0) rfl ?_
  refine V.ilq dX1_heatOf_12 (pc' := 13) rfl (j := 1) rfl ?_
  obtain ⟨q3, eq3, e⟩ := bd_s e
  refine V.callVi dX1_heatOf_13 (pc' := 16) rfl CV_X1_46 (as := [.int a1]) (kX1_low q2.2 r a1 q3 eq3) (Gs_rm (by decide)) hr (by decide) rfl (Nat.le_of_ble_eq_true rfl) rfl ?_
  refine V.isub dX1_heatOf_16 (pc' := 17) rfl ?_
  refine V.imul dX1_heatOf_17 (pc' := 18) rfl ?_
  exact V.iret dX1_heatOf_18 rfl (fnI e)

-- X1_heatAbove (level 2)
theorem dX1_heatAbove_0 : decode cX1_heatAbove 0 = .ok (.iconst 0, 1) := by decide +kernel
theorem dX1_heatAbove_1 : decode cX1_heatAbove 1 = .ok (.istore_n 3, 1) := by decide +kernel
theorem dX1_heatAbove_2 : decode cX1_heatAbove 2 = .ok (.iconst 0, 1) := by decide +kernel
theorem dX1_heatAbove_3 : decode cX1_heatAbove 3 = .ok (.istore 4, 2) := by decide +kernel
theorem dX1_heatAbove_5 : decode cX1_heatAbove 5 = .ok (.iload 4, 2) := by decide +kernel
theorem dX1_heatAbove_7 : decode cX1_heatAbove 7 = .ok (.aload_n 0, 1) := by decide +kernel
theorem dX1_heatAbove_8 : decode cX1_heatAbove 8 = .ok (.getfield 25, 3) := by decide +kernel
theorem dX1_heatAbove_11 : decode cX1_heatAbove 11 = .ok (.if_icmp .ge 58, 3) := by decide +kernel
theorem dX1_heatAbove_14 : decode cX1_heatAbove 14 = .ok (.aload_n 0, 1) := by decide +kernel
theorem dX1_heatAbove_15 : decode cX1_heatAbove 15 = .ok (.getfield 9, 3) := by decide +kernel
theorem dX1_heatAbove_18 : decode cX1_heatAbove 18 = .ok (.iload 4, 2) := by decide +kernel
theorem dX1_heatAbove_20 : decode cX1_heatAbove 20 = .ok (.baload, 1) := by decide +kernel
theorem dX1_heatAbove_21 : decode cX1_heatAbove 21 = .ok (.iload_n 1, 1) := by decide +kernel
theorem dX1_heatAbove_22 : decode cX1_heatAbove 22 = .ok (.if_icmp .ne 41, 3) := by decide +kernel
theorem dX1_heatAbove_25 : decode cX1_heatAbove 25 = .ok (.aload_n 0, 1) := by decide +kernel
theorem dX1_heatAbove_26 : decode cX1_heatAbove 26 = .ok (.iload 4, 2) := by decide +kernel
theorem dX1_heatAbove_28 : decode cX1_heatAbove 28 = .ok (.invokevirtual 42, 3) := by decide +kernel
theorem dX1_heatAbove_31 : decode cX1_heatAbove 31 = .ok (.iload_n 2, 1) := by decide +kernel
theorem dX1_heatAbove_32 : decode cX1_heatAbove 32 = .ok (.if_icmp .le 31, 3) := by decide +kernel
theorem dX1_heatAbove_35 : decode cX1_heatAbove 35 = .ok (.iload_n 3, 1) := by decide +kernel
theorem dX1_heatAbove_36 : decode cX1_heatAbove 36 = .ok (.aload_n 0, 1) := by decide +kernel
theorem dX1_heatAbove_37 : decode cX1_heatAbove 37 = .ok (.getfield 22, 3) := by decide +kernel
theorem dX1_heatAbove_40 : decode cX1_heatAbove 40 = .ok (.iload 4, 2) := by decide +kernel
theorem dX1_heatAbove_42 : decode cX1_heatAbove 42 = .ok (.iaload, 1) := by decide +kernel
theorem dX1_heatAbove_43 : decode cX1_heatAbove 43 = .ok (.aload_n 0, 1) := by decide +kernel
theorem dX1_heatAbove_44 : decode cX1_heatAbove 44 = .ok (.iload 4, 2) := by decide +kernel
theorem dX1_heatAbove_46 : decode cX1_heatAbove 46 = .ok (.invokevirtual 42, 3) := by decide +kernel
theorem dX1_heatAbove_49 : decode cX1_heatAbove 49 = .ok (.aload_n 0, 1) := by decide +kernel
theorem dX1_heatAbove_50 : decode cX1_heatAbove 50 = .ok (.iload 4, 2) := by decide +kernel
theorem dX1_heatAbove_52 : decode cX1_heatAbove 52 = .ok (.invokevirtual 46, 3) := by decide +kernel
theorem dX1_heatAbove_55 : decode cX1_heatAbove 55 = .ok (.iload_n 2, 1) := by decide +kernel
theorem dX1_heatAbove_56 : decode cX1_heatAbove 56 = .ok (.invokestatic 39, 3) := by decide +kernel
theorem dX1_heatAbove_59 : decode cX1_heatAbove 59 = .ok (.isub, 1) := by decide +kernel
theorem dX1_heatAbove_60 : decode cX1_heatAbove 60 = .ok (.imul, 1) := by decide +kernel
theorem dX1_heatAbove_61 : decode cX1_heatAbove 61 = .ok (.iadd, 1) := by decide +kernel
theorem dX1_heatAbove_62 : decode cX1_heatAbove 62 = .ok (.istore_n 3, 1) := by decide +kernel
theorem dX1_heatAbove_63 : decode cX1_heatAbove 63 = .ok (.iinc 4 1, 3) := by decide +kernel
theorem dX1_heatAbove_66 : decode cX1_heatAbove 66 = .ok (.goto (-61), 3) := by decide +kernel
theorem dX1_heatAbove_69 : decode cX1_heatAbove 69 = .ok (.iload_n 3, 1) := by decide +kernel
theorem dX1_heatAbove_70 : decode cX1_heatAbove 70 = .ok (.ireturn, 1) := by decide +kernel
def sX1_heatAbove_c63 (k5 : Hp → Nat → Int32 → Int32 → Int32 → Int32 → Option (Int32 × Hp)) (h : Hp) (r : Nat) (v1 : Int32) (v2 : Int32) (v3 : Int32) (v4 : Int32) : Option (Int32 × Hp) :=
  nm (v4 + (1 : Int32)) fun x7 => k5 h r v1 v2 v3 x7
set_option maxRecDepth 10000 in
theorem vX1_heatAbove_c63 (k5 : Hp → Nat → Int32 → Int32 → Int32 → Int32 → Option (Int32 × Hp)) (hk5 : ∀ (h : Hp) (r : Nat) (v1 : Int32) (v2 : Int32) (v3 : Int32) (v4 : Int32) (hr : ck r = 1) (q : (Int32 × Hp)), k5 h r v1 v2 v3 v4 = some q → V (Gs 2 (pI q)) mX1_heatAbove (0, 0) 5 [(0, .ref r), (1, .int v1), (2, .int v2), (3, .int v3), (4, .int v4)] [] h) (h : Hp) (r : Nat) (v1 : Int32) (v2 : Int32) (v3 : Int32) (v4 : Int32) (hr : ck r = 1) (q : (Int32 × Hp)) (e : sX1_heatAbove_c63 k5 h r v1 v2 v3 v4 = some q) : V (Gs 2 (pI q)) mX1_heatAbove (0, 0) 63 [(0, .ref r), (1, .int v1), (2, .int v2), (3, .int v3), (4, .int v4)] [] h := by
  unfold sX1_heatAbove_c63 at e
  obtain ⟨x7, ex7, e⟩ := nm_s e
  refine V.iinc dX1_heatAbove_63 (pc' := 66) rfl (j := 4) rfl (v := 1) (by decide) (by decide) ex7 (L' := [(4, .int x7), (0, .ref r), (1, .int v1), (2, .int v2), (3, .int v3)]) rfl ?_
  refine V.goto dX1_heatAbove_66 (pc' := 5) (by decide) ?_
  refine V.pk [1, 2, 3, 4, 0] rfl ?_
  exact hk5 h r v1 v2 v3 x7 hr q e
def sX1_heatAbove_c5 (k5 : Hp → Nat → Int32 → Int32 → Int32 → Int32 → Option (Int32 × Hp)) (h : Hp) (r : Nat) (v1 : Int32) (v2 : Int32) (v3 : Int32) (v4 : Int32) : Option (Int32 × Hp) :=
  if (h.1 r 4) ≤ v4 then (some (v3, h)) else (gd (inb v4 10) (if (h.1 (r + 1) v4.toNatClampNeg) = v1 then ((sX1_high h r v4).bind fun q2 => if q2.1 ≤ v2 then (sX1_heatAbove_c63 k5 q2.2 r v1 v2 v3 v4) else (gd (inb v4 10) ((sX1_high q2.2 r v4).bind fun q4 => (sX1_low q4.2 r v4).bind fun q5 => nm ((v3 + ((q2.2.1 (r + 4) v4.toNatClampNeg) * (q4.1 - (imax q5.1 v2))))) fun x6 => sX1_heatAbove_c63 k5 q5.2 r v1 v2 x6 v4))) else (sX1_heatAbove_c63 k5 h r v1 v2 v3 v4)))
set_option maxRecDepth 10000 in
theorem vX1_heatAbove_c5 (k5 : Hp → Nat → Int32 → Int32 → Int32 → Int32 → Option (Int32 × Hp)) (hk5 : ∀ (h : Hp) (r : Nat) (v1 : Int32) (v2 : Int32) (v3 : Int32) (v4 : Int32) (hr : ck r = 1) (q : (Int32 × Hp)), k5 h r v1 v2 v3 v4 = some q → V (Gs 2 (pI q)) mX1_heatAbove (0, 0) 5 [(0, .ref r), (1, .int v1), (2, .int v2), (3, .int v3), (4, .int v4)] [] h) (h : Hp) (r : Nat) (v1 : Int32) (v2 : Int32) (v3 : Int32) (v4 : Int32) (hr : ck r = 1) (q : (Int32 × Hp)) (e : sX1_heatAbove_c5 k5 h r v1 v2 v3 v4 = some q) : V (Gs 2 (pI q)) mX1_heatAbove (0, 0) 5 [(0, .ref r), (1, .int v1), (2, .int v2), (3, .int v3), (4, .int v4)] [] h := by
  unfold sX1_heatAbove_c5 at e
  refine V.il dX1_heatAbove_5 (pc' := 7) rfl (j := 4) rfl ?_
  refine V.alq dX1_heatAbove_7 (pc' := 8) rfl (j := 0) rfl ?_
  refine V.getf dX1_heatAbove_8 (pc' := 11) rfl FL_X1_25 hr (by decide) rfl ?_
  refine V.ic_ge dX1_heatAbove_11 (pc' := 14) rfl (tgt := 69) (by decide) (fun c => ?_) (fun c => ?_)
  · rw [if_pos c] at e
    refine V.ilq dX1_heatAbove_69 (pc' := 70) rfl (j := 3) rfl ?_
    exact V.iret dX1_heatAbove_70 rfl (fnI e)
  · rw [if_neg c] at e
    refine V.alq dX1_heatAbove_14 (pc' := 15) rfl (j := 0) rfl ?_
    refine V.getr dX1_heatAbove_15 (pc' := 18) rfl FL_X1_9 hr (by decide) rfl (r' := r + 1) rfl ?_
    refine V.il dX1_heatAbove_18 (pc' := 20) rfl (j := 4) rfl ?_
    obtain ⟨c1, e⟩ := gd_s e
    refine V.zald dX1_heatAbove_20 (pc' := 21) rfl (akX1_1 hr).1 (akX1_1 hr).2 (inb_t c1) ?_
    refine V.ilq dX1_heatAbove_21 (pc' := 22) rfl (j := 1) rfl ?_
    refine V.ic_ne dX1_heatAbove_22 (pc' := 25) rfl (tgt := 63) (by decide) (fun c => ?_) (fun c => ?_)
    · rw [if_neg c] at e
      exact vX1_heatAbove_c63 k5 hk5 h r v1 v2 v3 v4 hr q e
    · rw [if_pos c] at e
      refine V.alq dX1_heatAbove_25 (pc' := 26) rfl (j := 0) rfl ?_
      refine V.il dX1_heatAbove_26 (pc' := 28) rfl (j := 4) rfl ?_
      obtain ⟨q2, eq2, e⟩ := bd_s e
      refine V.callVi dX1_heatAbove_28 (pc' := 31) rfl CV_X1_42 (as := [.int v4]) (kX1_high h r v4 q2 eq2) (Gs_rm (by decide)) hr (by decide) rfl (Nat.le_of_ble_eq_true rfl) rfl ?_
      refine V.ilq dX1_heatAbove_31 (pc' := 32) rfl (j := 2) rfl ?_
      refine V.ic_le dX1_heatAbove_32 (pc' := 35) rfl (tgt := 63) (by decide) (fun c => ?_) (fun c => ?_)
      · rw [if_pos c] at e
        exact vX1_heatAbove_c63 k5 hk5 q2.2 r v1 v2 v3 v4 hr q e
      · rw [if_neg c] at e
        refine V.ilq dX1_heatAbove_35 (pc' := 36) rfl (j := 3) rfl ?_
        refine V.alq dX1_heatAbove_36 (pc' := 37) rfl (j := 0) rfl ?_
        refine V.getr dX1_heatAbove_37 (pc' := 40) rfl FL_X1_22 hr (by decide) rfl (r' := r + 4) rfl ?_
        refine V.il dX1_heatAbove_40 (pc' := 42) rfl (j := 4) rfl ?_
        obtain ⟨c3, e⟩ := gd_s e
        refine V.iald dX1_heatAbove_42 (pc' := 43) rfl (akX1_4 hr).1 (akX1_4 hr).2 (inb_t c3) ?_
        refine V.alq dX1_heatAbove_43 (pc' := 44) rfl (j := 0) rfl ?_
        refine V.il dX1_heatAbove_44 (pc' := 46) rfl (j := 4) rfl ?_
        obtain ⟨q4, eq4, e⟩ := bd_s e
        refine V.callVi dX1_heatAbove_46 (pc' := 49) rfl CV_X1_42 (as := [.int v4]) (kX1_high q2.2 r v4 q4 eq4) (Gs_rm (by decide)) hr (by decide) rfl (Nat.le_of_ble_eq_true rfl) rfl ?_
        refine V.alq dX1_heatAbove_49 (pc' := 50) rfl (j := 0) rfl ?_
        refine V.il dX1_heatAbove_50 (pc' := 52) rfl (j := 4) rfl ?_
        obtain ⟨q5, eq5, e⟩ := bd_s e
        refine V.callVi dX1_heatAbove_52 (pc' := 55) rfl CV_X1_46 (as := [.int v4]) (kX1_low q4.2 r v4 q5 eq5) (Gs_rm (by decide)) hr (by decide) rfl (Nat.le_of_ble_eq_true rfl) rfl ?_
        refine V.ilq dX1_heatAbove_55 (pc' := 56) rfl (j := 2) rfl ?_
        refine V.mmax dX1_heatAbove_56 (pc' := 59) rfl (Gs_rm (by decide)) ML_X1_39 MS_imax MI_Math MC_imax (Nat.le_of_ble_eq_true rfl) ?_
        refine V.isub dX1_heatAbove_59 (pc' := 60) rfl ?_
        refine V.imul dX1_heatAbove_60 (pc' := 61) rfl ?_
        refine V.iadd dX1_heatAbove_61 (pc' := 62) rfl ?_
        obtain ⟨x6, ex6, e⟩ := nm_s e
        refine V.isq dX1_heatAbove_62 (pc' := 63) rfl (by decide) ex6 (L' := [(3, .int x6), (0, .ref r), (1, .int v1), (2, .int v2), (4, .int v4)]) rfl ?_
        refine V.pk [1, 2, 3, 0, 4] rfl ?_
        exact vX1_heatAbove_c63 k5 hk5 q5.2 r v1 v2 x6 v4 hr q e
def sX1_heatAbove_b5 : Nat → Hp → Nat → Int32 → Int32 → Int32 → Int32 → Option (Int32 × Hp)
  | 0 => fun _ _ _ _ _ _ => none
  | n + 1 => sX1_heatAbove_c5 (sX1_heatAbove_b5 n)
theorem vX1_heatAbove_b5 : ∀ (n : Nat) (h : Hp) (r : Nat) (v1 : Int32) (v2 : Int32) (v3 : Int32) (v4 : Int32) (hr : ck r = 1) (q : (Int32 × Hp)), sX1_heatAbove_b5 n h r v1 v2 v3 v4 = some q → V (Gs 2 (pI q)) mX1_heatAbove (0, 0) 5 [(0, .ref r), (1, .int v1), (2, .int v2), (3, .int v3), (4, .int v4)] [] h
  | 0 => fun _ _ _ _ _ _ _ _ e => by cases e
  | n + 1 => fun h r v1 v2 v3 v4 hr q e => vX1_heatAbove_c5 (sX1_heatAbove_b5 n) (vX1_heatAbove_b5 n) h r v1 v2 v3 v4 hr q e
def sX1_heatAbove (h : Hp) (r : Nat) (a1 : Int32) (a2 : Int32) : Option (Int32 × Hp) :=
  gd (isC r 1) (sX1_heatAbove_b5 FU h r a1 a2 (0 : Int32) (0 : Int32))
set_option maxRecDepth 10000 in
theorem kX1_heatAbove (h : Hp) (r : Nat) (a1 : Int32) (a2 : Int32) (q : (Int32 × Hp)) (e : sX1_heatAbove h r a1 a2 = some q) : K 2 mX1_heatAbove [.ref r, .int a1, .int a2] h (pI q) := by
  unfold sX1_heatAbove at e
  obtain ⟨hr, e⟩ := gd_s e
  have hr := isC_t hr
  refine K.ofV (by decide) rfl (Nat.le_of_ble_eq_true rfl) ?_
  show V (Gs 2 (pI q)) mX1_heatAbove (0, 0) 0 [(0, .ref r), (1, .int a1), (2, .int a2)] [] h
  refine V.iconst dX1_heatAbove_0 (pc' := 1) rfl (v := 0) (by decide) ?_
  refine V.isq dX1_heatAbove_1 (pc' := 2) rfl (by decide) rfl (L' := [(3, .int (0 : Int32)), (0, .ref r), (1, .int a1), (2, .int a2)]) rfl ?_
  refine V.iconst dX1_heatAbove_2 (pc' := 3) rfl (v := 0) (by decide) ?_
  refine V.is dX1_heatAbove_3 (pc' := 5) rfl (by decide) rfl (L' := [(4, .int (0 : Int32)), (3, .int (0 : Int32)), (0, .ref r), (1, .int a1), (2, .int a2)]) rfl ?_
  refine V.pk [2, 3, 4, 1, 0] rfl ?_
  exact vX1_heatAbove_b5 FU h r a1 a2 (0 : Int32) (0 : Int32) hr q e
