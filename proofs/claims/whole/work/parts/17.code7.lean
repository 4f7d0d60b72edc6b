-- X5_drops (level 5)
theorem dX5_drops_0 : decode cX5_drops 0 = .ok (.aload_n 0, 1) := by decide +kernel
theorem dX5_drops_1 : decode cX5_drops 1 = .ok (.getfield 26, 3) := by decide +kernel
theorem dX5_drops_4 : decode cX5_drops 4 = .ok (.iload_n 1, 1) := by decide +kernel
theorem dX5_drops_5 : decode cX5_drops 5 = .ok (.invokevirtual 81, 3) := by decide +kernel
theorem dX5_drops_8 : decode cX5_drops 8 = .ok (.ifCond .ne 5, 3) := by decide +kernel
theorem dX5_drops_11 : decode cX5_drops 11 = .ok (.iconst (-1), 1) := by decide +kernel
theorem dX5_drops_12 : decode cX5_drops 12 = .ok (.ireturn, 1) := by decide +kernel
theorem dX5_drops_13 : decode cX5_drops 13 = .ok (.aload_n 0, 1) := by decide +kernel
theorem dX5_drops_14 : decode cX5_drops 14 = .ok (.getfield 26, 3) := by decide +kernel
theorem dX5_drops_17 : decode cX5_drops 17 = .ok (.iload_n 1, 1) := by decide +kernel
theorem dX5_drops_18 : decode cX5_drops 18 = .ok (.invokevirtual 120, 3) := by decide +kernel
theorem dX5_drops_21 : decode cX5_drops 21 = .ok (.aload_n 0, 1) := by decide +kernel
theorem dX5_drops_22 : decode cX5_drops 22 = .ok (.invokevirtual 77, 3) := by decide +kernel
theorem dX5_drops_25 : decode cX5_drops 25 = .ok (.aload_n 0, 1) := by decide +kernel
theorem dX5_drops_26 : decode cX5_drops 26 = .ok (.getfield 26, 3) := by decide +kernel
theorem dX5_drops_29 : decode cX5_drops 29 = .ok (.getfield 80, 3) := by decide +kernel
theorem dX5_drops_32 : decode cX5_drops 32 = .ok (.ireturn, 1) := by decide +kernel
def sX5_drops (h : Hp) (a1 : Int32) : Option (Int32 × Hp) :=
  (sX1_has h 6 a1).bind fun q1 => if q1.1 = 0 then (some ((-1 : Int32), q1.2)) else ((sX1_remove q1.2 6 a1).bind fun q2 => (sX5_settle q2).bind fun q3 => some ((q3.1 6 4), q3))
set_option maxRecDepth 10000 in
theorem kX5_drops (h : Hp) (a1 : Int32) (q : (Int32 × Hp)) (e : sX5_drops h a1 = some q) : K 5 mX5_drops [.ref 1, .int a1] h (pI q) := by
  unfold sX5_drops at e
  refine K.ofV (by decide) rfl (Nat.le_of_ble_eq_true rfl) ?_
  show V (Gs 5 (pI q)) mX5_drops (0, 0) 0 [(0, .ref 1), (1, .int a1)] [] h
  refine V.alq dX5_drops_0 (pc' := 1) rfl (j := 0) rfl ?_
  refine V.getr dX5_drops_1 (pc' := 4) rfl FL_X5_26 rfl (by decide) rfl (r' := 6) rfl ?_
  refine V.ilq dX5_drops_4 (pc' := 5) rfl (j := 1) rfl ?_
  obtain ⟨q1, eq1, e⟩ := bd_s e
  refine V.callVi dX5_drops_5 (pc' := 8) rfl CV_X5_81 (as := [.int a1]) (kX1_has h 6 a1 q1 eq1) (Gs_rm (by decide)) rfl (by decide) rfl (Nat.le_of_ble_eq_true rfl) rfl ?_
  refine V.if_ne dX5_drops_8 (pc' := 11) rfl (tgt := 13) (by decide) (fun c => ?_) (fun c => ?_)
  · rw [if_neg c] at e
    refine V.alq dX5_drops_13 (pc' := 14) rfl (j := 0) rfl ?_
    refine V.getr dX5_drops_14 (pc' := 17) rfl FL_X5_26 rfl (by decide) rfl (r' := 6) rfl ?_
    refine V.ilq dX5_drops_17 (pc' := 18) rfl (j := 1) rfl ?_
    obtain ⟨q2, eq2, e⟩ := bd_s e
    refine V.callVv dX5_drops_18 (pc' := 21) rfl CV_X5_120 (as := [.int a1]) (kX1_remove q1.2 6 a1 q2 eq2) (Gs_rm (by decide)) rfl (by decide) rfl (Nat.le_of_ble_eq_true rfl) rfl ?_
    refine V.alq dX5_drops_21 (pc' := 22) rfl (j := 0) rfl ?_
    obtain ⟨q3, eq3, e⟩ := bd_s e
    refine V.callVv dX5_drops_22 (pc' := 25) rfl CV_X5_77 (as := []) (kX5_settle q2 q3 eq3) (Gs_rm (by decide)) rfl (by decide) rfl (Nat.le_of_ble_eq_true rfl) rfl ?_
    refine V.alq dX5_drops_25 (pc' := 26) rfl (j := 0) rfl ?_
    refine V.getr dX5_drops_26 (pc' := 29) rfl FL_X5_26 rfl (by decide) rfl (r' := 6) rfl ?_
    refine V.getf dX5_drops_29 (pc' := 32) rfl FL_X5_80 rfl (by decide) rfl ?_
    exact V.iret dX5_drops_32 rfl (fnI e)
  · rw [if_pos c] at e
    refine V.iconst dX5_drops_11 (pc' := 12) rfl (v := -1) (by decide) ?_
    exact V.iret dX5_drops_12 rfl (fnI e)

-- X5_were (level 5)
theorem dX5_were_0 : decode cX5_were 0 = .ok (.aload_n 0, 1) := by decide +kernel
theorem dX5_were_1 : decode cX5_were 1 = .ok (.getfield 26, 3) := by decide +kernel
theorem dX5_were_4 : decode cX5_were 4 = .ok (.iload_n 1, 1) := by decide +kernel
theorem dX5_were_5 : decode cX5_were 5 = .ok (.invokevirtual 81, 3) := by decide +kernel
theorem dX5_were_8 : decode cX5_were 8 = .ok (.ifCond .eq 11, 3) := by decide +kernel
theorem dX5_were_11 : decode cX5_were 11 = .ok (.iload_n 2, 1) := by decide +kernel
theorem dX5_were_12 : decode cX5_were 12 = .ok (.iload_n 3, 1) := by decide +kernel
theorem dX5_were_13 : decode cX5_were 13 = .ok (.invokestatic 84, 3) := by decide +kernel
theorem dX5_were_16 : decode cX5_were 16 = .ok (.ifCond .ne 5, 3) := by decide +kernel
theorem dX5_were_19 : decode cX5_were 19 = .ok (.iconst (-1), 1) := by decide +kernel
theorem dX5_were_20 : decode cX5_were 20 = .ok (.ireturn, 1) := by decide +kernel
theorem dX5_were_21 : decode cX5_were 21 = .ok (.aload_n 0, 1) := by decide +kernel
theorem dX5_were_22 : decode cX5_were 22 = .ok (.getfield 26, 3) := by decide +kernel
theorem dX5_were_25 : decode cX5_were 25 = .ok (.iload_n 1, 1) := by decide +kernel
theorem dX5_were_26 : decode cX5_were 26 = .ok (.iload_n 2, 1) := by decide +kernel
theorem dX5_were_27 : decode cX5_were 27 = .ok (.iload_n 3, 1) := by decide +kernel
theorem dX5_were_28 : decode cX5_were 28 = .ok (.invokevirtual 92, 3) := by decide +kernel
theorem dX5_were_31 : decode cX5_were 31 = .ok (.ifCond .eq 6, 3) := by decide +kernel
theorem dX5_were_34 : decode cX5_were 34 = .ok (.bipush (-3), 2) := by decide +kernel
theorem dX5_were_36 : decode cX5_were 36 = .ok (.ireturn, 1) := by decide +kernel
theorem dX5_were_37 : decode cX5_were 37 = .ok (.aload_n 0, 1) := by decide +kernel
theorem dX5_were_38 : decode cX5_were 38 = .ok (.getfield 30, 3) := by decide +kernel
theorem dX5_were_41 : decode cX5_were 41 = .ok (.aload_n 0, 1) := by decide +kernel
theorem dX5_were_42 : decode cX5_were 42 = .ok (.getfield 26, 3) := by decide +kernel
theorem dX5_were_45 : decode cX5_were 45 = .ok (.invokevirtual 73, 3) := by decide +kernel
theorem dX5_were_48 : decode cX5_were 48 = .ok (.aload_n 0, 1) := by decide +kernel
theorem dX5_were_49 : decode cX5_were 49 = .ok (.getfield 30, 3) := by decide +kernel
theorem dX5_were_52 : decode cX5_were 52 = .ok (.iload_n 1, 1) := by decide +kernel
theorem dX5_were_53 : decode cX5_were 53 = .ok (.iload_n 2, 1) := by decide +kernel
theorem dX5_were_54 : decode cX5_were 54 = .ok (.iload_n 3, 1) := by decide +kernel
theorem dX5_were_55 : decode cX5_were 55 = .ok (.invokevirtual 96, 3) := by decide +kernel
theorem dX5_were_58 : decode cX5_were 58 = .ok (.aload_n 0, 1) := by decide +kernel
theorem dX5_were_59 : decode cX5_were 59 = .ok (.invokevirtual 208, 3) := by decide +kernel
theorem dX5_were_62 : decode cX5_were 62 = .ok (.ireturn, 1) := by decide +kernel
def sX5_were_c19 (h : Hp) : Option (Int32 × Hp) :=
  some ((-1 : Int32), h)
set_option maxRecDepth 10000 in
theorem vX5_were_c19 (h : Hp) (q : (Int32 × Hp)) (e : sX5_were_c19 h = some q) : V (Gs 5 (pI q)) mX5_were (0, 0) 19 [] [] h := by
  unfold sX5_were_c19 at e
  refine V.iconst dX5_were_19 (pc' := 20) rfl (v := -1) (by decide) ?_
  exact V.iret dX5_were_20 rfl (fnI e)
def sX5_were (h : Hp) (a1 : Int32) (a2 : Int32) (a3 : Int32) : Option (Int32 × Hp) :=
  (sX1_has h 6 a1).bind fun q1 => if q1.1 = 0 then (sX5_were_c19 q1.2) else ((sX5_isValue q1.2 a2 a3).bind fun q2 => if q2.1 = 0 then (sX5_were_c19 q2.2) else ((sX1_turns q2.2 6 a1 a2 a3).bind fun q3 => if q3.1 = 0 then ((sX1_copy q3.2 11 6).bind fun q4 => (sX1_put q4 11 a1 a2 a3).bind fun q5 => (sX5_fuelOfOther q5).bind fun q6 => some (q6.1, q6.2)) else (some ((-3 : Int32), q3.2))))
set_option maxRecDepth 10000 in
theorem kX5_were (h : Hp) (a1 : Int32) (a2 : Int32) (a3 : Int32) (q : (Int32 × Hp)) (e : sX5_were h a1 a2 a3 = some q) : K 5 mX5_were [.ref 1, .int a1, .int a2, .int a3] h (pI q) := by
  unfold sX5_were at e
  refine K.ofV (by decide) rfl (Nat.le_of_ble_eq_true rfl) ?_
  show V (Gs 5 (pI q)) mX5_were (0, 0) 0 [(0, .ref 1), (1, .int a1), (2, .int a2), (3, .int a3)] [] h
  refine V.alq dX5_were_0 (pc' := 1) rfl (j := 0) rfl ?_
  refine V.getr dX5_were_1 (pc' := 4) rfl FL_X5_26 rfl (by decide) rfl (r' := 6) rfl ?_
  refine V.ilq dX5_were_4 (pc' := 5) rfl (j := 1) rfl ?_
  obtain ⟨q1, eq1, e⟩ := bd_s e
  refine V.callVi dX5_were_5 (pc' := 8) rfl CV_X5_81 (as := [.int a1]) (kX1_has h 6 a1 q1 eq1) (Gs_rm (by decide)) rfl (by decide) rfl (Nat.le_of_ble_eq_true rfl) rfl ?_
  refine V.if_eq dX5_were_8 (pc' := 11) rfl (tgt := 19) (by decide) (fun c => ?_) (fun c => ?_)
  · rw [if_pos c] at e
    refine V.pk [] rfl ?_
    exact vX5_were_c19 q1.2 q e
  · rw [if_neg c] at e
    refine V.ilq dX5_were_11 (pc' := 12) rfl (j := 2) rfl ?_
    refine V.ilq dX5_were_12 (pc' := 13) rfl (j := 3) rfl ?_
    obtain ⟨q2, eq2, e⟩ := bd_s e
    refine V.callSi dX5_were_13 (pc' := 16) rfl CS_X5_84 (as := [.int a2, .int a3]) (kX5_isValue q1.2 a2 a3 q2 eq2) (Gs_rm (by decide)) rfl (Nat.le_of_ble_eq_true rfl) rfl ?_
    refine V.if_ne dX5_were_16 (pc' := 19) rfl (tgt := 21) (by decide) (fun c => ?_) (fun c => ?_)
    · rw [if_neg c] at e
      refine V.alq dX5_were_21 (pc' := 22) rfl (j := 0) rfl ?_
      refine V.getr dX5_were_22 (pc' := 25) rfl FL_X5_26 rfl (by decide) rfl (r' := 6) rfl ?_
      refine V.ilq dX5_were_25 (pc' := 26) rfl (j := 1) rfl ?_
      refine V.ilq dX5_were_26 (pc' := 27) rfl (j := 2) rfl ?_
      refine V.ilq dX5_were_27 (pc' := 28) rfl (j := 3) rfl ?_
      obtain ⟨q3, eq3, e⟩ := bd_s e
      refine V.callVi dX5_were_28 (pc' := 31) rfl CV_X5_92 (as := [.int a1, .int a2, .int a3]) (kX1_turns q2.2 6 a1 a2 a3 q3 eq3) (Gs_rm (by decide)) rfl (by decide) rfl (Nat.le_of_ble_eq_true rfl) rfl ?_
      refine V.if_eq dX5_were_31 (pc' := 34) rfl (tgt := 37) (by decide) (fun c => ?_) (fun c => ?_)
      · rw [if_pos c] at e
        refine V.alq dX5_were_37 (pc' := 38) rfl (j := 0) rfl ?_
        refine V.getr dX5_were_38 (pc' := 41) rfl FL_X5_30 rfl (by decide) rfl (r' := 11) rfl ?_
        refine V.alq dX5_were_41 (pc' := 42) rfl (j := 0) rfl ?_
        refine V.getr dX5_were_42 (pc' := 45) rfl FL_X5_26 rfl (by decide) rfl (r' := 6) rfl ?_
        obtain ⟨q4, eq4, e⟩ := bd_s e
        refine V.callVv dX5_were_45 (pc' := 48) rfl CV_X5_73 (as := [.ref 6]) (kX1_copy q3.2 11 6 q4 eq4) (Gs_rm (by decide)) rfl (by decide) rfl (Nat.le_of_ble_eq_true rfl) rfl ?_
        refine V.alq dX5_were_48 (pc' := 49) rfl (j := 0) rfl ?_
        refine V.getr dX5_were_49 (pc' := 52) rfl FL_X5_30 rfl (by decide) rfl (r' := 11) rfl ?_
        refine V.ilq dX5_were_52 (pc' := 53) rfl (j := 1) rfl ?_
        refine V.ilq dX5_were_53 (pc' := 54) rfl (j := 2) rfl ?_
        refine V.ilq dX5_were_54 (pc' := 55) rfl (j := 3) rfl ?_
        obtain ⟨q5, eq5, e⟩ := bd_s e
        refine V.callVv dX5_were_55 (pc' := 58) rfl CV_X5_96 (as := [.int a1, .int a2, .int a3]) (kX1_put q4 11 a1 a2 a3 q5 eq5) (Gs_rm (by decide)) rfl (by decide) rfl (Nat.le_of_ble_eq_true rfl) rfl ?_
        refine V.alq dX5_were_58 (pc' := 59) rfl (j := 0) rfl ?_
        obtain ⟨q6, eq6, e⟩ := bd_s e
        refine V.callVi dX5_were_59 (pc' := 62) rfl CV_X5_208 (as := []) (kX5_fuelOfOther q5 q6 eq6) (Gs_rm (by decide)) rfl (by decide) rfl (Nat.le_of_ble_eq_true rfl) rfl ?_
        exact V.iret dX5_were_62 rfl (fnI e)
      · rw [if_neg c] at e
        refine V.bipush dX5_were_34 (pc' := 36) rfl (v := -3) (by decide) ?_
        exact V.iret dX5_were_36 rfl (fnI e)
    · rw [if_pos c] at e
      refine V.pk [] rfl ?_
      exact vX5_were_c19 q2.2 q e

-- X5_without (level 5)
theorem dX5_without_0 : decode cX5_without 0 = .ok (.aload_n 0, 1) := by decide +kernel
theorem dX5_without_1 : decode cX5_without 1 = .ok (.getfield 26, 3) := by decide +kernel
theorem dX5_without_4 : decode cX5_without 4 = .ok (.iload_n 1, 1) := by decide +kernel
theorem dX5_without_5 : decode cX5_without 5 = .ok (.invokevirtual 81, 3) := by decide +kernel
theorem dX5_without_8 : decode cX5_without 8 = .ok (.ifCond .ne 5, 3) := by decide +kernel
theorem dX5_without_11 : decode cX5_without 11 = .ok (.iconst (-1), 1) := by decide +kernel
theorem dX5_without_12 : decode cX5_without 12 = .ok (.ireturn, 1) := by decide +kernel
theorem dX5_without_13 : decode cX5_without 13 = .ok (.aload_n 0, 1) := by decide +kernel
theorem dX5_without_14 : decode cX5_without 14 = .ok (.getfield 30, 3) := by decide +kernel
theorem dX5_without_17 : decode cX5_without 17 = .ok (.aload_n 0, 1) := by decide +kernel
theorem dX5_without_18 : decode cX5_without 18 = .ok (.getfield 26, 3) := by decide +kernel
theorem dX5_without_21 : decode cX5_without 21 = .ok (.invokevirtual 73, 3) := by decide +kernel
theorem dX5_without_24 : decode cX5_without 24 = .ok (.aload_n 0, 1) := by decide +kernel
theorem dX5_without_25 : decode cX5_without 25 = .ok (.getfield 30, 3) := by decide +kernel
theorem dX5_without_28 : decode cX5_without 28 = .ok (.iload_n 1, 1) := by decide +kernel
theorem dX5_without_29 : decode cX5_without 29 = .ok (.invokevirtual 120, 3) := by decide +kernel
theorem dX5_without_32 : decode cX5_without 32 = .ok (.aload_n 0, 1) := by decide +kernel
theorem dX5_without_33 : decode cX5_without 33 = .ok (.invokevirtual 208, 3) := by decide +kernel
theorem dX5_without_36 : decode cX5_without 36 = .ok (.ireturn, 1) := by decide +kernel
def sX5_without (h : Hp) (a1 : Int32) : Option (Int32 × Hp) :=
  (sX1_has h 6 a1).bind fun q1 => if q1.1 = 0 then (some ((-1 : Int32), q1.2)) else ((sX1_copy q1.2 11 6).bind fun q2 => (sX1_remove q2 11 a1).bind fun q3 => (sX5_fuelOfOther q3).bind fun q4 => some (q4.1, q4.2))
set_option maxRecDepth 10000 in
theorem kX5_without (h : Hp) (a1 : Int32) (q : (Int32 × Hp)) (e : sX5_without h a1 = some q) : K 5 mX5_without [.ref 1, .int a1] h (pI q) := by
  unfold sX5_without at e
  refine K.ofV (by decide) rfl (Nat.le_of_ble_eq_true rfl) ?_
  show V (Gs 5 (pI q)) mX5_without (0, 0) 0 [(0, .ref 1), (1, .int a1)] [] h
  refine V.alq dX5_without_0 (pc' := 1) rfl (j := 0) rfl ?_
  refine V.getr dX5_without_1 (pc' := 4) rfl FL_X5_26 rfl (by decide) rfl (r' := 6) rfl ?_
  refine V.ilq dX5_without_4 (pc' := 5) rfl (j := 1) rfl ?_
  obtain ⟨q1, eq1, e⟩ := bd_s e
  refine V.callVi dX5_without_5 (pc' := 8) rfl CV_X5_81 (as := [.int a1]) (kX1_has h 6 a1 q1 eq1) (Gs_rm (by decide)) rfl (by decide) rfl (Nat.le_of_ble_eq_true rfl) rfl ?_
  refine V.if_ne dX5_without_8 (pc' := 11) rfl (tgt := 13) (by decide) (fun c => ?_) (fun c => ?_)
  · rw [if_neg c] at e
    refine V.alq dX5_without_13 (pc' := 14) rfl (j := 0) rfl ?_
    refine V.getr dX5_without_14 (pc' := 17) rfl FL_X5_30 rfl (by decide) rfl (r' := 11) rfl ?_
    refine V.alq dX5_without_17 (pc' := 18) rfl (j := 0) rfl ?_
    refine V.getr dX5_without_18 (pc' := 21) rfl FL_X5_26 rfl (by decide) rfl (r' := 6) rfl ?_
    obtain ⟨q2, eq2, e⟩ := bd_s e
    refine V.callVv dX5_without_21 (pc' := 24) rfl CV_X5_73 (as := [.ref 6]) (kX1_copy q1.2 11 6 q2 eq2) (Gs_rm (by decide)) rfl (by decide) rfl (Nat.le_of_ble_eq_true rfl) rfl ?_
    refine V.alq dX5_without_24 (pc' := 25) rfl (j := 0) rfl ?_
    refine V.getr dX5_without_25 (pc' := 28) rfl FL_X5_30 rfl (by decide) rfl (r' := 11) rfl ?_
    refine V.ilq dX5_without_28 (pc' := 29) rfl (j := 1) rfl ?_
    obtain ⟨q3, eq3, e⟩ := bd_s e
    refine V.callVv dX5_without_29 (pc' := 32) rfl CV_X5_120 (as := [.int a1]) (kX1_remove q2 11 a1 q3 eq3) (Gs_rm (by decide)) rfl (by decide) rfl (Nat.le_of_ble_eq_true rfl) rfl ?_
    refine V.alq dX5_without_32 (pc' := 33) rfl (j := 0) rfl ?_
    obtain ⟨q4, eq4, e⟩ := bd_s e
    refine V.callVi dX5_without_33 (pc' := 36) rfl CV_X5_208 (as := []) (kX5_fuelOfOther q3 q4 eq4) (Gs_rm (by decide)) rfl (by decide) rfl (Nat.le_of_ble_eq_true rfl) rfl ?_
    exact V.iret dX5_without_36 rfl (fnI e)
  · rw [if_pos c] at e
    refine V.iconst dX5_without_11 (pc' := 12) rfl (v := -1) (by decide) ?_
    exact V.iret dX5_without_12 rfl (fnI e)

-- X5_range (level 5)
theorem dX5_range_0 : decode cX5_range 0 = .ok (.iload_n 1, 1) := by decide +kernel
theorem dX5_range_1 : decode cX5_range 1 = .ok (.invokestatic 211, 3) := by decide +kernel
theorem dX5_range_4 : decode cX5_range 4 = .ok (.ifCond .eq 14, 3) := by decide +kernel
theorem dX5_range_7 : decode cX5_range 7 = .ok (.aload_n 0, 1) := by decide +kernel
theorem dX5_range_8 : decode cX5_range 8 = .ok (.getfield 26, 3) := by decide +kernel
theorem dX5_range_11 : decode cX5_range 11 = .ok (.iload_n 2, 1) := by decide +kernel
theorem dX5_range_12 : decode cX5_range 12 = .ok (.invokevirtual 81, 3) := by decide +kernel
theorem dX5_range_15 : decode cX5_range 15 = .ok (.ifCond .ne 5, 3) := by decide +kernel
theorem dX5_range_18 : decode cX5_range 18 = .ok (.iconst (-1), 1) := by decide +kernel
theorem dX5_range_19 : decode cX5_range 19 = .ok (.ireturn, 1) := by decide +kernel
theorem dX5_range_20 : decode cX5_range 20 = .ok (.aload_n 0, 1) := by decide +kernel
theorem dX5_range_21 : decode cX5_range 21 = .ok (.iload_n 1, 1) := by decide +kernel
theorem dX5_range_22 : decode cX5_range 22 = .ok (.invokevirtual 214, 3) := by decide +kernel
theorem dX5_range_25 : decode cX5_range 25 = .ok (.astore_n 3, 1) := by decide +kernel
theorem dX5_range_26 : decode cX5_range 26 = .ok (.aload_n 0, 1) := by decide +kernel
theorem dX5_range_27 : decode cX5_range 27 = .ok (.getfield 19, 3) := by decide +kernel
theorem dX5_range_30 : decode cX5_range 30 = .ok (.aload_n 3, 1) := by decide +kernel
theorem dX5_range_31 : decode cX5_range 31 = .ok (.getfield 228, 3) := by decide +kernel
theorem dX5_range_34 : decode cX5_range 34 = .ok (.iload_n 2, 1) := by decide +kernel
theorem dX5_range_35 : decode cX5_range 35 = .ok (.iaload, 1) := by decide +kernel
theorem dX5_range_36 : decode cX5_range 36 = .ok (.i2l, 1) := by decide +kernel
theorem dX5_range_37 : decode cX5_range 37 = .ok (.aload_n 3, 1) := by decide +kernel
theorem dX5_range_38 : decode cX5_range 38 = .ok (.getfield 231, 3) := by decide +kernel
theorem dX5_range_41 : decode cX5_range 41 = .ok (.iload_n 2, 1) := by decide +kernel
theorem dX5_range_42 : decode cX5_range 42 = .ok (.iaload, 1) := by decide +kernel
theorem dX5_range_43 : decode cX5_range 43 = .ok (.i2l, 1) := by decide +kernel
theorem dX5_range_44 : decode cX5_range 44 = .ok (.aload_n 3, 1) := by decide +kernel
theorem dX5_range_45 : decode cX5_range 45 = .ok (.getfield 234, 3) := by decide +kernel
theorem dX5_range_48 : decode cX5_range 48 = .ok (.iload_n 2, 1) := by decide +kernel
theorem dX5_range_49 : decode cX5_range 49 = .ok (.iaload, 1) := by decide +kernel
theorem dX5_range_50 : decode cX5_range 50 = .ok (.i2l, 1) := by decide +kernel
theorem dX5_range_51 : decode cX5_range 51 = .ok (.aload_n 3, 1) := by decide +kernel
theorem dX5_range_52 : decode cX5_range 52 = .ok (.iload_n 2, 1) := by decide +kernel
theorem dX5_range_53 : decode cX5_range 53 = .ok (.invokevirtual 237, 3) := by decide +kernel
theorem dX5_range_56 : decode cX5_range 56 = .ok (.i2l, 1) := by decide +kernel
theorem dX5_range_57 : decode cX5_range 57 = .ok (.invokevirtual 149, 3) := by decide +kernel
theorem dX5_range_60 : decode cX5_range 60 = .ok (.aload_n 3, 1) := by decide +kernel
theorem dX5_range_61 : decode cX5_range 61 = .ok (.getfield 234, 3) := by decide +kernel
theorem dX5_range_64 : decode cX5_range 64 = .ok (.iload_n 2, 1) := by decide +kernel
theorem dX5_range_65 : decode cX5_range 65 = .ok (.iaload, 1) := by decide +kernel
theorem dX5_range_66 : decode cX5_range 66 = .ok (.ifCond .le 7, 3) := by decide +kernel
theorem dX5_range_69 : decode cX5_range 69 = .ok (.iconst 1, 1) := by decide +kernel
theorem dX5_range_70 : decode cX5_range 70 = .ok (.goto 4, 3) := by decide +kernel
theorem dX5_range_73 : decode cX5_range 73 = .ok (.iconst 0, 1) := by decide +kernel
theorem dX5_range_74 : decode cX5_range 74 = .ok (.ireturn, 1) := by decide +kernel
def sX5_range_c18 (h : Hp) : Option (Int32 × Hp) :=
  some ((-1 : Int32), h)
set_option maxRecDepth 10000 in
theorem vX5_range_c18 (h : Hp) (q : (Int32 × Hp)) (e : sX5_range_c18 h = some q) : V (Gs 5 (pI q)) mX5_range (0, 0) 18 [] [] h := by
  unfold sX5_range_c18 at e
  refine V.iconst dX5_range_18 (pc' := 19) rfl (v := -1) (by decide) ?_
  exact V.iret dX5_range_19 rfl (fnI e)
def sX5_range_c74 (h : Hp) (t0 : Int32) : Option (Int32 × Hp) :=
  some (t0, h)
set_option maxRecDepth 10000 in
theorem vX5_range_c74 (h : Hp) (t0 : Int32) (q : (Int32 × Hp)) (e : sX5_range_c74 h t0 = some q) : V (Gs 5 (pI q)) mX5_range (0, 0) 74 [] [.int t0] h := by
  unfold sX5_range_c74 at e
  exact V.iret dX5_range_74 rfl (fnI e)
def sX5_range (h : Hp) (a1 : Int32) (a2 : Int32) : Option (Int32 × Hp) :=
  (sX5_isSide h a1).bind fun q1 => if q1.1 = 0 then (sX5_range_c18 q1.2) else ((sX1_has q1.2 6 a2).bind fun q2 => if q2.1 = 0 then (sX5_range_c18 q2.2) else ((sX5_sideOf q2.2 a1).bind fun q3 => gd (isC q3.1 2) (gd (inb a2 10) (gd (inb a2 10) (gd (inb a2 10) ((sX2_rest q3.2 q3.1 a2).bind fun q8 => (sX4_tell___ q8.2 ((q3.2.1 (q3.1 + 4) a2.toNatClampNeg).toInt64) ((q3.2.1 (q3.1 + 5) a2.toNatClampNeg).toInt64) ((q3.2.1 (q3.1 + 6) a2.toNatClampNeg).toInt64) q8.1.toInt64).bind fun q9 => gd (inb a2 10) (if (q9.1 (q3.1 + 6) a2.toNatClampNeg) ≤ 0 then (sX5_range_c74 q9 (0 : Int32)) else (sX5_range_c74 q9 (1 : Int32)))))))))
set_option maxRecDepth 10000 in
theorem kX5_range (h : Hp) (a1 : Int32) (a2 : Int32) (q : (Int32 × Hp)) (e : sX5_range h a1 a2 = some q) : K 5 mX5_range [.ref 1, .int a1, .int a2] h (pI q) := by
  unfold sX5_range at e
  refine K.ofV (by decide) rfl (Nat.le_of_ble_eq_true rfl) ?_
  show V (Gs 5 (pI q)) mX5_range (0, 0) 0 [(0, .ref 1), (1, .int a1), (2, .int a2)] [] h
  refine V.ilq dX5_range_0 (pc' := 1) rfl (j := 1) rfl ?_
  obtain ⟨q1, eq1, e⟩ := bd_s e
  refine V.callSi dX5_range_1 (pc' := 4) rfl CS_X5_211 (as := [.int a1]) (kX5_isSide h a1 q1 eq1) (Gs_rm (by decide)) rfl (Nat.le_of_ble_eq_true rfl) rfl ?_
  refine V.if_eq dX5_range_4 (pc' := 7) rfl (tgt := 18) (by decide) (fun c => ?_) (fun c => ?_)
  · rw [if_pos c] at e
    refine V.pk [] rfl ?_
    exact vX5_range_c18 q1.2 q e
  · rw [if_neg c] at e
    refine V.alq dX5_range_7 (pc' := 8) rfl (j := 0) rfl ?_
    refine V.getr dX5_range_8 (pc' := 11) rfl FL_X5_26 rfl (by decide) rfl (r' := 6) rfl ?_
    refine V.ilq dX5_range_11 (pc' := 12) rfl (j := 2) rfl ?_
    obtain ⟨q2, eq2, e⟩ := bd_s e
    refine V.callVi dX5_range_12 (pc' := 15) rfl CV_X5_81 (as := [.int a2]) (kX1_has q1.2 6 a2 q2 eq2) (Gs_rm (by decide)) rfl (by decide) rfl (Nat.le_of_ble_eq_true rfl) rfl ?_
    refine V.if_ne dX5_range_15 (pc' := 18) rfl (tgt := 20) (by decide) (fun c => ?_) (fun c => ?_)
    · rw [if_neg c] at e
      refine V.alq dX5_range_20 (pc' := 21) rfl (j := 0) rfl ?_
      refine V.ilq dX5_range_21 (pc' := 22) rfl (j := 1) rfl ?_
      obtain ⟨q3, eq3, e⟩ := bd_s e
      refine V.callVr dX5_range_22 (pc' := 25) rfl CV_X5_214 (as := [.int a1]) (kX5_sideOf q2.2 a1 q3 eq3) (Gs_rm (by decide)) rfl (by decide) rfl (Nat.le_of_ble_eq_true rfl) rfl ?_
      obtain ⟨c4, e⟩ := gd_s e
      refine V.asq dX5_range_25 (pc' := 26) rfl (by decide) rfl (L' := [(3, .ref q3.1), (0, .ref 1), (1, .int a1), (2, .int a2)]) rfl ?_
      refine V.alq dX5_range_26 (pc' := 27) rfl (j := 1) rfl ?_
      refine V.getr dX5_range_27 (pc' := 30) rfl FL_X5_19 rfl (by decide) rfl (r' := 4) rfl ?_
      refine V.alq dX5_range_30 (pc' := 31) rfl (j := 0) rfl ?_
      refine V.getr dX5_range_31 (pc' := 34) rfl FL_X5_228 (isC_t c4) (by decide) rfl (r' := q3.1 + 4) rfl ?_
      refine V.ilq dX5_range_34 (pc' := 35) rfl (j := 3) rfl ?_
      obtain ⟨c5, e⟩ := gd_s e
      refine V.iald dX5_range_35 (pc' := 36) rfl (akX2_4 (isC_t c4)).1 (akX2_4 (isC_t c4)).2 (inb_t c5) ?_
      refine V.i2l dX5_range_36 (pc' := 37) rfl ?_
      refine V.alq dX5_range_37 (pc' := 38) rfl (j := 0) rfl ?_
      refine V.getr dX5_range_38 (pc' := 41) rfl FL_X5_231 (isC_t c4) (by decide) rfl (r' := q3.1 + 5) rfl ?_
      refine V.ilq dX5_range_41 (pc' := 42) rfl (j := 3) rfl ?_
      obtain ⟨c6, e⟩ := gd_s e
      refine V.iald dX5_range_42 (pc' := 43) rfl (akX2_5 (isC_t c4)).1 (akX2_5 (isC_t c4)).2 (inb_t c6) ?_
      refine V.i2l dX5_range_43 (pc' := 44) rfl ?_
      refine V.alq dX5_range_44 (pc' := 45) rfl (j := 0) rfl ?_
      refine V.getr dX5_range_45 (pc' := 48) rfl FL_X5_234 (isC_t c4) (by decide) rfl (r' := q3.1 + 6) rfl ?_
      refine V.ilq dX5_range_48 (pc' := 49) rfl (j := 3) rfl ?_
      obtain ⟨c7, e⟩ := gd_s e
      refine V.iald dX5_range_49 (pc' := 50) rfl (akX2_6 (isC_t c4)).1 (akX2_6 (isC_t c4)).2 (inb_t c7) ?_
      refine V.i2l dX5_range_50 (pc' := 51) rfl ?_
      refine V.alq dX5_range_51 (pc' := 52) rfl (j := 0) rfl ?_
      refine V.ilq dX5_range_52 (pc' := 53) rfl (j := 3) rfl ?_
      obtain ⟨q8, eq8, e⟩ := bd_s e
      refine V.callVi dX5_range_53 (pc' := 56) rfl CV_X5_237 (as := [.int a2]) (kX2_rest q3.2 q3.1 a2 q8 eq8) (Gs_rm (by decide)) (isC_t c4) (by decide) rfl (Nat.le_of_ble_eq_true rfl) rfl ?_
      refine V.i2l dX5_range_56 (pc' := 57) rfl ?_
      obtain ⟨q9, eq9, e⟩ := bd_s e
      refine V.callVv dX5_range_57 (pc' := 60) rfl CV_X5_149 (as := [.long ((q3.2.1 (q3.1 + 4) a2.toNatClampNeg).toInt64), .long ((q3.2.1 (q3.1 + 5) a2.toNatClampNeg).toInt64), .long ((q3.2.1 (q3.1 + 6) a2.toNatClampNeg).toInt64), .long q8.1.toInt64]) (kX4_tell___ q8.2 ((q3.2.1 (q3.1 + 4) a2.toNatClampNeg).toInt64) ((q3.2.1 (q3.1 + 5) a2.toNatClampNeg).toInt64) ((q3.2.1 (q3.1 + 6) a2.toNatClampNeg).toInt64) q8.1.toInt64 q9 eq9) (Gs_rm (by decide)) rfl (by decide) rfl (Nat.le_of_ble_eq_true rfl) rfl ?_
      refine V.alq dX5_range_60 (pc' := 61) rfl (j := 0) rfl ?_
      refine V.getr dX5_range_61 (pc' := 64) rfl FL_X5_234 (isC_t c4) (by decide) rfl (r' := q3.1 + 6) rfl ?_
      refine V.ilq dX5_range_64 (pc' := 65) rfl (j := 3) rfl ?_
      obtain ⟨c10, e⟩ := gd_s e
      refine V.iald dX5_range_65 (pc' := 66) rfl (akX2_6 (isC_t c4)).1 (akX2_6 (isC_t c4)).2 (inb_t c10) ?_
      refine V.if_le dX5_range_66 (pc' := 69) rfl (tgt := 73) (by decide) (fun c => ?_) (fun c => ?_)
      · rw [if_pos c] at e
        refine V.iconst dX5_range_73 (pc' := 74) rfl (v := 0) (by decide) ?_
        refine V.pk [] rfl ?_
        exact vX5_range_c74 q9 (0 : Int32) q e
      · rw [if_neg c] at e
        refine V.iconst dX5_range_69 (pc' := 70) rfl (v := 1) (by decide) ?_
        refine V.goto dX5_range_70 (pc' := 74) (by decide) ?_
        refine V.pk [] rfl ?_
        exact vX5_range_c74 q9 (1 : Int32) q e
    · rw [if_pos c] at e
      refine V.pk [] rfl ?_
      exact vX5_range_c18 q2.2 q e

-- X5_ticks (level 5)
theorem dX5_ticks_0 : decode cX5_ticks 0 = .ok (.iload_n 1, 1) := by decide +kernel
theorem dX5_ticks_1 : decode cX5_ticks 1 = .ok (.invokestatic 211, 3) := by decide +kernel
theorem dX5_ticks_4 : decode cX5_ticks 4 = .ok (.ifCond .ne 5, 3) := by decide +kernel
theorem dX5_ticks_7 : decode cX5_ticks 7 = .ok (.iconst (-1), 1) := by decide +kernel
theorem dX5_ticks_8 : decode cX5_ticks 8 = .ok (.ireturn, 1) := by decide +kernel
theorem dX5_ticks_9 : decode cX5_ticks 9 = .ok (.aload_n 0, 1) := by decide +kernel
theorem dX5_ticks_10 : decode cX5_ticks 10 = .ok (.iload_n 1, 1) := by decide +kernel
theorem dX5_ticks_11 : decode cX5_ticks 11 = .ok (.invokevirtual 214, 3) := by decide +kernel
theorem dX5_ticks_14 : decode cX5_ticks 14 = .ok (.astore_n 2, 1) := by decide +kernel
theorem dX5_ticks_15 : decode cX5_ticks 15 = .ok (.aload_n 2, 1) := by decide +kernel
theorem dX5_ticks_16 : decode cX5_ticks 16 = .ok (.getfield 243, 3) := by decide +kernel
theorem dX5_ticks_19 : decode cX5_ticks 19 = .ok (.istore_n 3, 1) := by decide +kernel
theorem dX5_ticks_20 : decode cX5_ticks 20 = .ok (.iload_n 3, 1) := by decide +kernel
theorem dX5_ticks_21 : decode cX5_ticks 21 = .ok (.istore 4, 2) := by decide +kernel
theorem dX5_ticks_23 : decode cX5_ticks 23 = .ok (.iload 4, 2) := by decide +kernel
theorem dX5_ticks_25 : decode cX5_ticks 25 = .ok (.bipush 24, 2) := by decide +kernel
theorem dX5_ticks_27 : decode cX5_ticks 27 = .ok (.if_icmp .ge 19, 3) := by decide +kernel
theorem dX5_ticks_30 : decode cX5_ticks 30 = .ok (.aload_n 2, 1) := by decide +kernel
theorem dX5_ticks_31 : decode cX5_ticks 31 = .ok (.invokevirtual 256, 3) := by decide +kernel
theorem dX5_ticks_34 : decode cX5_ticks 34 = .ok (.ifCond .ne 6, 3) := by decide +kernel
theorem dX5_ticks_37 : decode cX5_ticks 37 = .ok (.goto 9, 3) := by decide +kernel
theorem dX5_ticks_40 : decode cX5_ticks 40 = .ok (.iinc 4 1, 3) := by decide +kernel
theorem dX5_ticks_43 : decode cX5_ticks 43 = .ok (.goto (-20), 3) := by decide +kernel
theorem dX5_ticks_46 : decode cX5_ticks 46 = .ok (.aload_n 0, 1) := by decide +kernel
theorem dX5_ticks_47 : decode cX5_ticks 47 = .ok (.getfield 19, 3) := by decide +kernel
theorem dX5_ticks_50 : decode cX5_ticks 50 = .ok (.aload_n 2, 1) := by decide +kernel
theorem dX5_ticks_51 : decode cX5_ticks 51 = .ok (.iconst 1, 1) := by decide +kernel
theorem dX5_ticks_52 : decode cX5_ticks 52 = .ok (.invokevirtual 260, 3) := by decide +kernel
theorem dX5_ticks_55 : decode cX5_ticks 55 = .ok (.i2l, 1) := by decide +kernel
theorem dX5_ticks_56 : decode cX5_ticks 56 = .ok (.aload_n 2, 1) := by decide +kernel
theorem dX5_ticks_57 : decode cX5_ticks 57 = .ok (.iconst 0, 1) := by decide +kernel
theorem dX5_ticks_58 : decode cX5_ticks 58 = .ok (.invokevirtual 260, 3) := by decide +kernel
theorem dX5_ticks_61 : decode cX5_ticks 61 = .ok (.i2l, 1) := by decide +kernel
theorem dX5_ticks_62 : decode cX5_ticks 62 = .ok (.invokevirtual 160, 3) := by decide +kernel
theorem dX5_ticks_65 : decode cX5_ticks 65 = .ok (.aload_n 2, 1) := by decide +kernel
theorem dX5_ticks_66 : decode cX5_ticks 66 = .ok (.getfield 243, 3) := by decide +kernel
theorem dX5_ticks_69 : decode cX5_ticks 69 = .ok (.iload_n 3, 1) := by decide +kernel
theorem dX5_ticks_70 : decode cX5_ticks 70 = .ok (.isub, 1) := by decide +kernel
theorem dX5_ticks_71 : decode cX5_ticks 71 = .ok (.ireturn, 1) := by decide +kernel
def sX5_ticks_c46 (h : Hp) (v2 : Nat) (v3 : Int32) : Option (Int32 × Hp) :=
  (sX2_restOfKind h v2 (1 : Int32)).bind fun q7 => (sX2_restOfKind q7.2 v2 (0 : Int32)).bind fun q8 => (sX4_tell_ q8.2 q7.1.toInt64 q8.1.toInt64).bind fun q9 => some (((q9.1 v2 14) - v3), q9)
set_option maxRecDepth 10000 in
theorem vX5_ticks_c46 (h : Hp) (v2 : Nat) (v3 : Int32) (hv2 : ck v2 = 2) (q : (Int32 × Hp)) (e : sX5_ticks_c46 h v2 v3 = some q) : V (Gs 5 (pI q)) mX5_ticks (0, 0) 46 [(0, .ref 1), (2, .ref v2), (3, .int v3)] [] h := by
  unfold sX5_ticks_c46 at e
  refine V.alq dX5_ticks_46 (pc' := 47) rfl (j := 0) rfl ?_
  refine V.getr dX5_ticks_47 (pc' := 50) rfl FL_X5_19 rfl (by decide) rfl (r' := 4) rfl ?_
  refine V.alq dX5_ticks_50 (pc' := 51) rfl (j := 1) rfl ?_
  refine V.iconst dX5_ticks_51 (pc' := 52) rfl (v := 1) (by decide) ?_
  obtain ⟨q7, eq7, e⟩ := bd_s e
  refine V.callVi dX5_ticks_52 (pc' := 55) rfl CV_X5_260 (as := [.int (1 : Int32)]) (kX2_restOfKind h v2 (1 : Int32) q7 eq7) (Gs_rm (by decide)) hv2 (by decide) rfl (Nat.le_of_ble_eq_true rfl) rfl ?_
  refine V.i2l dX5_ticks_55 (pc' := 56) rfl ?_
  refine V.alq dX5_ticks_56 (pc' := 57) rfl (j := 1) rfl ?_
  refine V.iconst dX5_ticks_57 (pc' := 58) rfl (v := 0) (by decide) ?_
  obtain ⟨q8, eq8, e⟩ := bd_s e
  refine V.callVi dX5_ticks_58 (pc' := 61) rfl CV_X5_260 (as := [.int (0 : Int32)]) (kX2_restOfKind q7.2 v2 (0 : Int32) q8 eq8) (Gs_rm (by decide)) hv2 (by decide) rfl (Nat.le_of_ble_eq_true rfl) rfl ?_
  refine V.i2l dX5_ticks_61 (pc' := 62) rfl ?_
  obtain ⟨q9, eq9, e⟩ := bd_s e
  refine V.callVv dX5_ticks_62 (pc' := 65) rfl CV_X5_160 (as := [.long q7.1.toInt64, .long q8.1.toInt64]) (kX4_tell_ q8.2 q7.1.toInt64 q8.1.toInt64 q9 eq9) (Gs_rm (by decide)) rfl (by decide) rfl (Nat.le_of_ble_eq_true rfl) rfl ?_
  refine V.alq dX5_ticks_65 (pc' := 66) rfl (j := 1) rfl ?_
  refine V.getf dX5_ticks_66 (pc' := 69) rfl FL_X5_243 hv2 (by decide) rfl ?_
  refine V.ilq dX5_ticks_69 (pc' := 70) rfl (j := 2) rfl ?_
  refine V.isub dX5_ticks_70 (pc' := 71) rfl ?_
  exact V.iret dX5_ticks_71 rfl (fnI e)
def sX5_ticks_c23 (k23 : Hp → Nat → Int32 → Int32 → Option (Int32 × Hp)) (h : Hp) (v2 : Nat) (v3 : Int32) (v4 : Int32) : Option (Int32 × Hp) :=
  if (24 : Int32) ≤ v4 then (sX5_ticks_c46 h v2 v3) else ((sX2_joinGreatest h v2).bind fun q5 => if q5.1 = 0 then (sX5_ticks_c46 q5.2 v2 v3) else (nm (v4 + (1 : Int32)) fun x6 => k23 q5.2 v2 v3 x6))
set_option maxRecDepth 10000 in
theorem vX5_ticks_c23 (k23 : Hp → Nat → Int32 → Int32 → Option (Int32 × Hp)) (hk23 : ∀ (h : Hp) (v2 : Nat) (v3 : Int32) (v4 : Int32) (hv2 : ck v2 = 2) (q : (Int32 × Hp)), k23 h v2 v3 v4 = some q → V (Gs 5 (pI q)) mX5_ticks (0, 0) 23 [(0, .ref 1), (2, .ref v2), (3, .int v3), (4, .int v4)] [] h) (h : Hp) (v2 : Nat) (v3 : Int32) (v4 : Int32) (hv2 : ck v2 = 2) (q : (Int32 × Hp)) (e : sX5_ticks_c23 k23 h v2 v3 v4 = some q) : V (Gs 5 (pI q)) mX5_ticks (0, 0) 23 [(0, .ref 1), (2, .ref v2), (3, .int v3), (4, .int v4)] [] h := by
  unfold sX5_ticks_c23 at e
  refine V.il dX5_ticks_23 (pc' := 25) rfl (j := 3) rfl ?_
  refine V.bipush dX5_ticks_25 (pc' := 27) rfl (v := 24) (by decide) ?_
  refine V.ic_ge dX5_ticks_27 (pc' := 30) rfl (tgt := 46) (by decide) (fun c => ?_) (fun c => ?_)
  · rw [if_pos c] at e
    refine V.pk [0, 1, 2] rfl ?_
    exact vX5_ticks_c46 h v2 v3 hv2 q e
  · rw [if_neg c] at e
    refine V.alq dX5_ticks_30 (pc' := 31) rfl (j := 1) rfl ?_
    obtain ⟨q5, eq5, e⟩ := bd_s e
    refine V.callVi dX5_ticks_31 (pc' := 34) rfl CV_X5_256 (as := []) (kX2_joinGreatest h v2 q5 eq5) (Gs_rm (by decide)) hv2 (by decide) rfl (Nat.le_of_ble_eq_true rfl) rfl ?_
    refine V.if_ne dX5_ticks_34 (pc' := 37) rfl (tgt := 40) (by decide) (fun c => ?_) (fun c => ?_)
    · rw [if_neg c] at e
      obtain ⟨x6, ex6, e⟩ := nm_s e
      refine V.iinc dX5_ticks_40 (pc' := 43) rfl (j := 3) rfl (v := 1) (by decide) (by decide) ex6 (L' := [(4, .int x6), (0, .ref 1), (2, .ref v2), (3, .int v3)]) rfl ?_
      refine V.goto dX5_ticks_43 (pc' := 23) (by decide) ?_
      refine V.pk [1, 2, 3, 0] rfl ?_
      exact hk23 q5.2 v2 v3 x6 hv2 q e
    · rw [if_pos c] at e
      refine V.goto dX5_ticks_37 (pc' := 46) (by decide) ?_
      refine V.pk [0, 1, 2] rfl ?_
      exact vX5_ticks_c46 q5.2 v2 v3 hv2 q e
def sX5_ticks_b23 : Nat → Hp → Nat → Int32 → Int32 → Option (Int32 × Hp)
  | 0 => fun _ _ _ _ => none
  | n + 1 => sX5_ticks_c23 (sX5_ticks_b23 n)
theorem vX5_ticks_b23 : ∀ (n : Nat) (h : Hp) (v2 : Nat) (v3 : Int32) (v4 : Int32) (hv2 : ck v2 = 2) (q : (Int32 × Hp)), sX5_ticks_b23 n h v2 v3 v4 = some q → V (Gs 5 (pI q)) mX5_ticks (0, 0) 23 [(0, .ref 1), (2, .ref v2), (3, .int v3), (4, .int v4)] [] h
  | 0 => fun _ _ _ _ _ _ e => by cases e
  | n + 1 => fun h v2 v3 v4 hv2 q e => vX5_ticks_c23 (sX5_ticks_b23 n) (vX5_ticks_b23 n) h v2 v3 v4 hv2 q e
def sX5_ticks (h : Hp) (a1 : Int32) : Option (Int32 × Hp) :=
  (sX5_isSide h a1).bind fun q1 => if q1.1 = 0 then (some ((-1 : Int32), q1.2)) else ((sX5_sideOf q1.2 a1).bind fun q2 => gd (isC q2.1 2) (nm ((q2.2.1 q2.1 14)) fun x4 => sX5_ticks_b23 FU q2.2 q2.1 x4 x4))
set_option maxRecDepth 10000 in
theorem kX5_ticks (h : Hp) (a1 : Int32) (q : (Int32 × Hp)) (e : sX5_ticks h a1 = some q) : K 5 mX5_ticks [.ref 1, .int a1] h (pI q) := by
  unfold sX5_ticks at e
  refine K.ofV (by decide) rfl (Nat.le_of_ble_eq_true rfl) ?_
  show V (Gs 5 (pI q)) mX5_ticks (0, 0) 0 [(0, .ref 1), (1, .int a1)] [] h
  refine V.ilq dX5_ticks_0 (pc' := 1) rfl (j := 1) rfl ?_
  obtain ⟨q1, eq1, e⟩ := bd_s e
  refine V.callSi dX5_ticks_1 (pc' := 4) rfl CS_X5_211 (as := [.int a1]) (kX5_isSide h a1 q1 eq1) (Gs_rm (by decide)) rfl (Nat.le_of_ble_eq_true rfl) rfl ?_
  refine V.if_ne dX5_ticks_4 (pc' := 7) rfl (tgt := 9) (by decide) (fun c => ?_) (fun c => ?_)
  · rw [if_neg c] at e
    refine V.alq dX5_ticks_9 (pc' := 10) rfl (j := 0) rfl ?_
    refine V.ilq dX5_ticks_10 (pc' := 11) rfl (j := 1) rfl ?_
    obtain ⟨q2, eq2, e⟩ := bd_s e
    refine V.callVr dX5_ticks_11 (pc' := 14) rfl CV_X5_214 (as := [.int a1]) (kX5_sideOf q1.2 a1 q2 eq2) (Gs_rm (by decide)) rfl (by decide) rfl (Nat.le_of_ble_eq_true rfl) rfl ?_
    obtain ⟨c3, e⟩ := gd_s e
    refine V.asq dX5_ticks_14 (pc' := 15) rfl (by decide) rfl (L' := [(2, .ref q2.1), (0, .ref 1), (1, .int a1)]) rfl ?_
    refine V.alq dX5_ticks_15 (pc' := 16) rfl (j := 0) rfl ?_
    refine V.getf dX5_ticks_16 (pc' := 19) rfl FL_X5_243 (isC_t c3) (by decide) rfl ?_
    obtain ⟨x4, ex4, e⟩ := nm_s e
    refine V.isq dX5_ticks_19 (pc' := 20) rfl (by decide) ex4 (L' := [(3, .int x4), (2, .ref q2.1), (0, .ref 1), (1, .int a1)]) rfl ?_
    refine V.ilq dX5_ticks_20 (pc' := 21) rfl (j := 0) rfl ?_
    refine V.is dX5_ticks_21 (pc' := 23) rfl (by decide) rfl (L' := [(4, .int x4), (3, .int x4), (2, .ref q2.1), (0, .ref 1), (1, .int a1)]) rfl ?_
    refine V.pk [3, 2, 1, 0] rfl ?_
    exact vX5_ticks_b23 FU q2.2 q2.1 x4 x4 (isC_t c3) q e
  · rw [if_pos c] at e
    refine V.iconst dX5_ticks_7 (pc' := 8) rfl (v := -1) (by decide) ?_
    exact V.iret dX5_ticks_8 rfl (fnI e)

-- X5_takesWanted (level 5)
theorem dX5_takesWanted_0 : decode cX5_takesWanted 0 = .ok (.aload_n 1, 1) := by decide +kernel
theorem dX5_takesWanted_1 : decode cX5_takesWanted 1 = .ok (.invokevirtual 334, 3) := by decide +kernel
theorem dX5_takesWanted_4 : decode cX5_takesWanted 4 = .ok (.istore_n 2, 1) := by decide +kernel
theorem dX5_takesWanted_5 : decode cX5_takesWanted 5 = .ok (.iload_n 2, 1) := by decide +kernel
theorem dX5_takesWanted_6 : decode cX5_takesWanted 6 = .ok (.iconst (-1), 1) := by decide +kernel
theorem dX5_takesWanted_7 : decode cX5_takesWanted 7 = .ok (.if_icmp .eq 14, 3) := by decide +kernel
theorem dX5_takesWanted_10 : decode cX5_takesWanted 10 = .ok (.aload_n 0, 1) := by decide +kernel
theorem dX5_takesWanted_11 : decode cX5_takesWanted 11 = .ok (.getfield 19, 3) := by decide +kernel
theorem dX5_takesWanted_14 : decode cX5_takesWanted 14 = .ok (.iload_n 2, 1) := by decide +kernel
theorem dX5_takesWanted_15 : decode cX5_takesWanted 15 = .ok (.i2l, 1) := by decide +kernel
theorem dX5_takesWanted_16 : decode cX5_takesWanted 16 = .ok (.invokevirtual 181, 3) := by decide +kernel
theorem dX5_takesWanted_19 : decode cX5_takesWanted 19 = .ok (.iconst 0, 1) := by decide +kernel
theorem dX5_takesWanted_20 : decode cX5_takesWanted 20 = .ok (.ireturn, 1) := by decide +kernel
theorem dX5_takesWanted_21 : decode cX5_takesWanted 21 = .ok (.aload_n 1, 1) := by decide +kernel
theorem dX5_takesWanted_22 : decode cX5_takesWanted 22 = .ok (.invokevirtual 337, 3) := by decide +kernel
theorem dX5_takesWanted_25 : decode cX5_takesWanted 25 = .ok (.iconst 1, 1) := by decide +kernel
theorem dX5_takesWanted_26 : decode cX5_takesWanted 26 = .ok (.ireturn, 1) := by decide +kernel
def sX5_takesWanted (h : Hp) (a1 : Nat) : Option (Int32 × Hp) :=
  gd (isC a1 2) ((sX2_firstTooNarrow h a1).bind fun q1 => if q1.1 = (-1 : Int32) then ((sX2_takeWanted q1.2 a1).bind fun q2 => some ((1 : Int32), q2)) else ((sX4_tell q1.2 q1.1.toInt64).bind fun q3 => some ((0 : Int32), q3)))
set_option maxRecDepth 10000 in
theorem kX5_takesWanted (h : Hp) (a1 : Nat) (q : (Int32 × Hp)) (e : sX5_takesWanted h a1 = some q) : K 5 mX5_takesWanted [.ref 1, .ref a1] h (pI q) := by
  unfold sX5_takesWanted at e
  obtain ⟨ha1, e⟩ := gd_s e
  have ha1 := isC_t ha1
  refine K.ofV (by decide) rfl (Nat.le_of_ble_eq_true rfl) ?_
  show V (Gs 5 (pI q)) mX5_takesWanted (0, 0) 0 [(0, .ref 1), (1, .ref a1)] [] h
  refine V.alq dX5_takesWanted_0 (pc' := 1) rfl (j := 1) rfl ?_
  obtain ⟨q1, eq1, e⟩ := bd_s e
  refine V.callVi dX5_takesWanted_1 (pc' := 4) rfl CV_X5_334 (as := []) (kX2_firstTooNarrow h a1 q1 eq1) (Gs_rm (by decide)) ha1 (by decide) rfl (Nat.le_of_ble_eq_true rfl) rfl ?_
  refine V.isq dX5_takesWanted_4 (pc' := 5) rfl (by decide) rfl (L' := [(2, .int q1.1), (0, .ref 1), (1, .ref a1)]) rfl ?_
  refine V.ilq dX5_takesWanted_5 (pc' := 6) rfl (j := 0) rfl ?_
  refine V.iconst dX5_takesWanted_6 (pc' := 7) rfl (v := -1) (by decide) ?_
  refine V.ic_eq dX5_takesWanted_7 (pc' := 10) rfl (tgt := 21) (by decide) (fun c => ?_) (fun c => ?_)
  · rw [if_pos c] at e
    refine V.alq dX5_takesWanted_21 (pc' := 22) rfl (j := 2) rfl ?_
    obtain ⟨q2, eq2, e⟩ := bd_s e
    refine V.callVv dX5_takesWanted_22 (pc' := 25) rfl CV_X5_337 (as := []) (kX2_takeWanted q1.2 a1 q2 eq2) (Gs_rm (by decide)) ha1 (by decide) rfl (Nat.le_of_ble_eq_true rfl) rfl ?_
    refine V.iconst dX5_takesWanted_25 (pc' := 26) rfl (v := 1) (by decide) ?_
    exact V.zret dX5_takesWanted_26 rfl (Or.inr rfl) (fnI e)
  · rw [if_neg c] at e
    refine V.alq dX5_takesWanted_10 (pc' := 11) rfl (j := 1) rfl ?_
    refine V.getr dX5_takesWanted_11 (pc' := 14) rfl FL_X5_19 rfl (by decide) rfl (r' := 4) rfl ?_
    refine V.ilq dX5_takesWanted_14 (pc' := 15) rfl (j := 0) rfl ?_
    refine V.i2l dX5_takesWanted_15 (pc' := 16) rfl ?_
    obtain ⟨q3, eq3, e⟩ := bd_s e
    refine V.callVv dX5_takesWanted_16 (pc' := 19) rfl CV_X5_181 (as := [.long q1.1.toInt64]) (kX4_tell q1.2 q1.1.toInt64 q3 eq3) (Gs_rm (by decide)) rfl (by decide) rfl (Nat.le_of_ble_eq_true rfl) rfl ?_
    refine V.iconst dX5_takesWanted_19 (pc' := 20) rfl (v := 0) (by decide) ?_
    exact V.zret dX5_takesWanted_20 rfl (Or.inl rfl) (fnI e)

-- X6_border (level 5)
theorem dX6_border_0 : decode cX6_border 0 = .ok (.aload_n 0, 1) := by decide +kernel
theorem dX6_border_1 : decode cX6_border 1 = .ok (.invokevirtual 209, 3) := by decide +kernel
theorem dX6_border_4 : decode cX6_border 4 = .ok (.aload_n 0, 1) := by decide +kernel
theorem dX6_border_5 : decode cX6_border 5 = .ok (.iload_n 1, 1) := by decide +kernel
theorem dX6_border_6 : decode cX6_border 6 = .ok (.i2l, 1) := by decide +kernel
theorem dX6_border_7 : decode cX6_border 7 = .ok (.lconst 0, 1) := by decide +kernel
theorem dX6_border_8 : decode cX6_border 8 = .ok (.aload_n 0, 1) := by decide +kernel
theorem dX6_border_9 : decode cX6_border 9 = .ok (.getfield 187, 3) := by decide +kernel
theorem dX6_border_12 : decode cX6_border 12 = .ok (.iconst 1, 1) := by decide +kernel
theorem dX6_border_13 : decode cX6_border 13 = .ok (.isub, 1) := by decide +kernel
theorem dX6_border_14 : decode cX6_border 14 = .ok (.i2l, 1) := by decide +kernel
theorem dX6_border_15 : decode cX6_border 15 = .ok (.invokestatic 29, 3) := by decide +kernel
theorem dX6_border_18 : decode cX6_border 18 = .ok (.ifCond .ne 7, 3) := by decide +kernel
theorem dX6_border_21 : decode cX6_border 21 = .ok (.iconst 1, 1) := by decide +kernel
theorem dX6_border_22 : decode cX6_border 22 = .ok (.goto 4, 3) := by decide +kernel
theorem dX6_border_25 : decode cX6_border 25 = .ok (.iconst 0, 1) := by decide +kernel
theorem dX6_border_26 : decode cX6_border 26 = .ok (.invokestatic 39, 3) := by decide +kernel
theorem dX6_border_29 : decode cX6_border 29 = .ok (.putfield 1, 3) := by decide +kernel
theorem dX6_border_32 : decode cX6_border 32 = .ok (.aload_n 0, 1) := by decide +kernel
theorem dX6_border_33 : decode cX6_border 33 = .ok (.getfield 1, 3) := by decide +kernel
theorem dX6_border_36 : decode cX6_border 36 = .ok (.iconst 1, 1) := by decide +kernel
theorem dX6_border_37 : decode cX6_border 37 = .ok (.if_icmp .ne 5, 3) := by decide +kernel
theorem dX6_border_40 : decode cX6_border 40 = .ok (.iconst 0, 1) := by decide +kernel
theorem dX6_border_41 : decode cX6_border 41 = .ok (.ireturn, 1) := by decide +kernel
theorem dX6_border_42 : decode cX6_border 42 = .ok (.iload_n 1, 1) := by decide +kernel
theorem dX6_border_43 : decode cX6_border 43 = .ok (.iconst 1, 1) := by decide +kernel
theorem dX6_border_44 : decode cX6_border 44 = .ok (.iadd, 1) := by decide +kernel
theorem dX6_border_45 : decode cX6_border 45 = .ok (.aload_n 0, 1) := by decide +kernel
theorem dX6_border_46 : decode cX6_border 46 = .ok (.getfield 187, 3) := by decide +kernel
theorem dX6_border_49 : decode cX6_border 49 = .ok (.if_icmp .ne 7, 3) := by decide +kernel
theorem dX6_border_52 : decode cX6_border 52 = .ok (.iconst 1, 1) := by decide +kernel
theorem dX6_border_53 : decode cX6_border 53 = .ok (.goto 4, 3) := by decide +kernel
theorem dX6_border_56 : decode cX6_border 56 = .ok (.iconst 0, 1) := by decide +kernel
theorem dX6_border_57 : decode cX6_border 57 = .ok (.istore_n 2, 1) := by decide +kernel
theorem dX6_border_58 : decode cX6_border 58 = .ok (.aload_n 0, 1) := by decide +kernel
theorem dX6_border_59 : decode cX6_border 59 = .ok (.iconst 0, 1) := by decide +kernel
theorem dX6_border_60 : decode cX6_border 60 = .ok (.putfield 11, 3) := by decide +kernel
theorem dX6_border_63 : decode cX6_border 63 = .ok (.aload_n 0, 1) := by decide +kernel
theorem dX6_border_64 : decode cX6_border 64 = .ok (.aload_n 0, 1) := by decide +kernel
theorem dX6_border_65 : decode cX6_border 65 = .ok (.getfield 81, 3) := by decide +kernel
theorem dX6_border_68 : decode cX6_border 68 = .ok (.iload_n 1, 1) := by decide +kernel
theorem dX6_border_69 : decode cX6_border 69 = .ok (.iaload, 1) := by decide +kernel
theorem dX6_border_70 : decode cX6_border 70 = .ok (.i2l, 1) := by decide +kernel
theorem dX6_border_71 : decode cX6_border 71 = .ok (.invokevirtual 18, 3) := by decide +kernel
theorem dX6_border_74 : decode cX6_border 74 = .ok (.aload_n 0, 1) := by decide +kernel
theorem dX6_border_75 : decode cX6_border 75 = .ok (.aload_n 0, 1) := by decide +kernel
theorem dX6_border_76 : decode cX6_border 76 = .ok (.iload_n 1, 1) := by decide +kernel
theorem dX6_border_77 : decode cX6_border 77 = .ok (.invokevirtual 203, 3) := by decide +kernel
theorem dX6_border_80 : decode cX6_border 80 = .ok (.i2l, 1) := by decide +kernel
theorem dX6_border_81 : decode cX6_border 81 = .ok (.invokevirtual 18, 3) := by decide +kernel
theorem dX6_border_84 : decode cX6_border 84 = .ok (.aload_n 0, 1) := by decide +kernel
theorem dX6_border_85 : decode cX6_border 85 = .ok (.iload_n 2, 1) := by decide +kernel
theorem dX6_border_86 : decode cX6_border 86 = .ok (.ifCond .eq 7, 3) := by decide +kernel
theorem dX6_border_89 : decode cX6_border 89 = .ok (.lconst 0, 1) := by decide +kernel
theorem dX6_border_90 : decode cX6_border 90 = .ok (.goto 23, 3) := by decide +kernel
theorem dX6_border_93 : decode cX6_border 93 = .ok (.aload_n 0, 1) := by decide +kernel
theorem dX6_border_94 : decode cX6_border 94 = .ok (.iconst 1, 1) := by decide +kernel
theorem dX6_border_95 : decode cX6_border 95 = .ok (.aload_n 0, 1) := by decide +kernel
theorem dX6_border_96 : decode cX6_border 96 = .ok (.getfield 78, 3) := by decide +kernel
theorem dX6_border_99 : decode cX6_border 99 = .ok (.iload_n 1, 1) := by decide +kernel
theorem dX6_border_100 : decode cX6_border 100 = .ok (.iaload, 1) := by decide +kernel
theorem dX6_border_101 : decode cX6_border 101 = .ok (.aload_n 0, 1) := by decide +kernel
theorem dX6_border_102 : decode cX6_border 102 = .ok (.getfield 78, 3) := by decide +kernel
theorem dX6_border_105 : decode cX6_border 105 = .ok (.iload_n 1, 1) := by decide +kernel
theorem dX6_border_106 : decode cX6_border 106 = .ok (.iconst 1, 1) := by decide +kernel
theorem dX6_border_107 : decode cX6_border 107 = .ok (.iadd, 1) := by decide +kernel
theorem dX6_border_108 : decode cX6_border 108 = .ok (.iaload, 1) := by decide +kernel
theorem dX6_border_109 : decode cX6_border 109 = .ok (.invokevirtual 193, 3) := by decide +kernel
theorem dX6_border_112 : decode cX6_border 112 = .ok (.i2l, 1) := by decide +kernel
theorem dX6_border_113 : decode cX6_border 113 = .ok (.invokevirtual 18, 3) := by decide +kernel
theorem dX6_border_116 : decode cX6_border 116 = .ok (.aload_n 0, 1) := by decide +kernel
theorem dX6_border_117 : decode cX6_border 117 = .ok (.iload_n 2, 1) := by decide +kernel
theorem dX6_border_118 : decode cX6_border 118 = .ok (.ifCond .eq 7, 3) := by decide +kernel
theorem dX6_border_121 : decode cX6_border 121 = .ok (.lconst 0, 1) := by decide +kernel
theorem dX6_border_122 : decode cX6_border 122 = .ok (.goto 23, 3) := by decide +kernel
theorem dX6_border_125 : decode cX6_border 125 = .ok (.aload_n 0, 1) := by decide +kernel
theorem dX6_border_126 : decode cX6_border 126 = .ok (.iconst 0, 1) := by decide +kernel
theorem dX6_border_127 : decode cX6_border 127 = .ok (.aload_n 0, 1) := by decide +kernel
theorem dX6_border_128 : decode cX6_border 128 = .ok (.getfield 78, 3) := by decide +kernel
theorem dX6_border_131 : decode cX6_border 131 = .ok (.iload_n 1, 1) := by decide +kernel
theorem dX6_border_132 : decode cX6_border 132 = .ok (.iaload, 1) := by decide +kernel
theorem dX6_border_133 : decode cX6_border 133 = .ok (.aload_n 0, 1) := by decide +kernel
theorem dX6_border_134 : decode cX6_border 134 = .ok (.getfield 78, 3) := by decide +kernel
theorem dX6_border_137 : decode cX6_border 137 = .ok (.iload_n 1, 1) := by decide +kernel
theorem dX6_border_138 : decode cX6_border 138 = .ok (.iconst 1, 1) := by decide +kernel
theorem dX6_border_139 : decode cX6_border 139 = .ok (.iadd, 1) := by decide +kernel
theorem dX6_border_140 : decode cX6_border 140 = .ok (.iaload, 1) := by decide +kernel
theorem dX6_border_141 : decode cX6_border 141 = .ok (.invokevirtual 193, 3) := by decide +kernel
theorem dX6_border_144 : decode cX6_border 144 = .ok (.i2l, 1) := by decide +kernel
theorem dX6_border_145 : decode cX6_border 145 = .ok (.invokevirtual 18, 3) := by decide +kernel
theorem dX6_border_148 : decode cX6_border 148 = .ok (.aload_n 0, 1) := by decide +kernel
theorem dX6_border_149 : decode cX6_border 149 = .ok (.getfield 78, 3) := by decide +kernel
theorem dX6_border_152 : decode cX6_border 152 = .ok (.iload_n 1, 1) := by decide +kernel
theorem dX6_border_153 : decode cX6_border 153 = .ok (.iaload, 1) := by decide +kernel
theorem dX6_border_154 : decode cX6_border 154 = .ok (.ireturn, 1) := by decide +kernel
def sX6_border_c145 (h : Hp) (v1 : Int32) (t0 : Int64) : Option (Int32 × Hp) :=
  (sX6_enters h t0).bind fun q17 => gd (inb v1 20) (some ((q17.1 63 v1.toNatClampNeg), q17))
set_option maxRecDepth 10000 in
theorem vX6_border_c145 (h : Hp) (v1 : Int32) (t0 : Int64) (q : (Int32 × Hp)) (e : sX6_border_c145 h v1 t0 = some q) : V (Gs 5 (pI q)) mX6_border (0, 0) 145 [(0, .ref 54), (1, .int v1)] [.long t0, .ref 54] h := by
  unfold sX6_border_c145 at e
  obtain ⟨q17, eq17, e⟩ := bd_s e
  refine V.callVv dX6_border_145 (pc' := 148) rfl CV_X6_18 (as := [.long t0]) (kX6_enters h t0 q17 eq17) (Gs_rm (by decide)) rfl (by decide) rfl (Nat.le_of_ble_eq_true rfl) rfl ?_
  refine V.alq dX6_border_148 (pc' := 149) rfl (j := 0) rfl ?_
  refine V.getr dX6_border_149 (pc' := 152) rfl FL_X6_78 rfl (by decide) rfl (r' := 63) rfl ?_
  refine V.ilq dX6_border_152 (pc' := 153) rfl (j := 1) rfl ?_
  obtain ⟨c18, e⟩ := gd_s e
  refine V.iald dX6_border_153 (pc' := 154) rfl rfl rfl (inb_t c18) ?_
  exact V.iret dX6_border_154 rfl (fnI e)
def sX6_border_c113 (h : Hp) (v1 : Int32) (v2 : Int32) (t0 : Int64) : Option (Int32 × Hp) :=
  (sX6_enters h t0).bind fun q13 => if v2 = 0 then (gd (inb v1 20) (gd (inb (v1 + (1 : Int32)) 20) ((sX6_through q13 (0 : Int32) (q13.1 63 v1.toNatClampNeg) (q13.1 63 (v1 + (1 : Int32)).toNatClampNeg)).bind fun q16 => sX6_border_c145 q16.2 v1 q16.1.toInt64))) else (sX6_border_c145 q13 v1 (0 : Int64))
set_option maxRecDepth 10000 in
theorem vX6_border_c113 (h : Hp) (v1 : Int32) (v2 : Int32) (t0 : Int64) (q : (Int32 × Hp)) (e : sX6_border_c113 h v1 v2 t0 = some q) : V (Gs 5 (pI q)) mX6_border (0, 0) 113 [(0, .ref 54), (1, .int v1), (2, .int v2)] [.long t0, .ref 54] h := by
  unfold sX6_border_c113 at e
  obtain ⟨q13, eq13, e⟩ := bd_s e
  refine V.callVv dX6_border_113 (pc' := 116) rfl CV_X6_18 (as := [.long t0]) (kX6_enters h t0 q13 eq13) (Gs_rm (by decide)) rfl (by decide) rfl (Nat.le_of_ble_eq_true rfl) rfl ?_
  refine V.alq dX6_border_116 (pc' := 117) rfl (j := 0) rfl ?_
  refine V.ilq dX6_border_117 (pc' := 118) rfl (j := 2) rfl ?_
  refine V.if_eq dX6_border_118 (pc' := 121) rfl (tgt := 125) (by decide) (fun c => ?_) (fun c => ?_)
  · rw [if_pos c] at e
    refine V.alq dX6_border_125 (pc' := 126) rfl (j := 0) rfl ?_
    refine V.iconst dX6_border_126 (pc' := 127) rfl (v := 0) (by decide) ?_
    refine V.alq dX6_border_127 (pc' := 128) rfl (j := 0) rfl ?_
    refine V.getr dX6_border_128 (pc' := 131) rfl FL_X6_78 rfl (by decide) rfl (r' := 63) rfl ?_
    refine V.ilq dX6_border_131 (pc' := 132) rfl (j := 1) rfl ?_
    obtain ⟨c14, e⟩ := gd_s e
    refine V.iald dX6_border_132 (pc' := 133) rfl rfl rfl (inb_t c14) ?_
    refine V.alq dX6_border_133 (pc' := 134) rfl (j := 0) rfl ?_
    refine V.getr dX6_border_134 (pc' := 137) rfl FL_X6_78 rfl (by decide) rfl (r' := 63) rfl ?_
    refine V.ilq dX6_border_137 (pc' := 138) rfl (j := 1) rfl ?_
    refine V.iconst dX6_border_138 (pc' := 139) rfl (v := 1) (by decide) ?_
    refine V.iadd dX6_border_139 (pc' := 140) rfl ?_
    obtain ⟨c15, e⟩ := gd_s e
    refine V.iald dX6_border_140 (pc' := 141) rfl rfl rfl (inb_t c15) ?_
    obtain ⟨q16, eq16, e⟩ := bd_s e
    refine V.callVi dX6_border_141 (pc' := 144) rfl CV_X6_193 (as := [.int (0 : Int32), .int (q13.1 63 v1.toNatClampNeg), .int (q13.1 63 (v1 + (1 : Int32)).toNatClampNeg)]) (kX6_through q13 (0 : Int32) (q13.1 63 v1.toNatClampNeg) (q13.1 63 (v1 + (1 : Int32)).toNatClampNeg) q16 eq16) (Gs_rm (by decide)) rfl (by decide) rfl (Nat.le_of_ble_eq_true rfl) rfl ?_
    refine V.i2l dX6_border_144 (pc' := 145) rfl ?_
    refine V.pk [0, 1] rfl ?_
    exact vX6_border_c145 q16.2 v1 q16.1.toInt64 q e
  · rw [if_neg c] at e
    refine V.lconst dX6_border_121 (pc' := 122) rfl (v := 0) (by decide) ?_
    refine V.goto dX6_border_122 (pc' := 145) (by decide) ?_
    refine V.pk [0, 1] rfl ?_
    exact vX6_border_c145 q13 v1 (0 : Int64) q e
def sX6_border_c57 (h : Hp) (v1 : Int32) (t0 : Int32) : Option (Int32 × Hp) :=
  nm (u1 h 54 1 (0 : Int32)) fun h5 => gd (inb v1 20) ((sX6_enters h5 ((h5.1 64 v1.toNatClampNeg).toInt64)).bind fun q7 => (sX6_surplus q7 v1).bind fun q8 => (sX6_enters q8.2 q8.1.toInt64).bind fun q9 => if t0 = 0 then (gd (inb v1 20) (gd (inb (v1 + (1 : Int32)) 20) ((sX6_through q9 (1 : Int32) (q9.1 63 v1.toNatClampNeg) (q9.1 63 (v1 + (1 : Int32)).toNatClampNeg)).bind fun q12 => sX6_border_c113 q12.2 v1 t0 q12.1.toInt64))) else (sX6_border_c113 q9 v1 t0 (0 : Int64)))
set_option maxRecDepth 10000 in
theorem vX6_border_c57 (h : Hp) (v1 : Int32) (t0 : Int32) (q : (Int32 × Hp)) (e : sX6_border_c57 h v1 t0 = some q) : V (Gs 5 (pI q)) mX6_border (0, 0) 57 [(0, .ref 54), (1, .int v1)] [.int t0] h := by
  unfold sX6_border_c57 at e
  refine V.isq dX6_border_57 (pc' := 58) rfl (by decide) rfl (L' := [(2, .int t0), (0, .ref 54), (1, .int v1)]) rfl ?_
  refine V.alq dX6_border_58 (pc' := 59) rfl (j := 1) rfl ?_
  refine V.iconst dX6_border_59 (pc' := 60) rfl (v := 0) (by decide) ?_
  obtain ⟨h5, eh5, e⟩ := nm_s e
  refine V.putf dX6_border_60 (pc' := 63) rfl FP_X6_11 rfl (by decide) rfl eh5 ?_
  refine V.alq dX6_border_63 (pc' := 64) rfl (j := 1) rfl ?_
  refine V.alq dX6_border_64 (pc' := 65) rfl (j := 1) rfl ?_
  refine V.getr dX6_border_65 (pc' := 68) rfl FL_X6_81 rfl (by decide) rfl (r' := 64) rfl ?_
  refine V.ilq dX6_border_68 (pc' := 69) rfl (j := 2) rfl ?_
  obtain ⟨c6, e⟩ := gd_s e
  refine V.iald dX6_border_69 (pc' := 70) rfl rfl rfl (inb_t c6) ?_
  refine V.i2l dX6_border_70 (pc' := 71) rfl ?_
  obtain ⟨q7, eq7, e⟩ := bd_s e
  refine V.callVv dX6_border_71 (pc' := 74) rfl CV_X6_18 (as := [.long ((h5.1 64 v1.toNatClampNeg).toInt64)]) (kX6_enters h5 ((h5.1 64 v1.toNatClampNeg).toInt64) q7 eq7) (Gs_rm (by decide)) rfl (by decide) rfl (Nat.le_of_ble_eq_true rfl) rfl ?_
  refine V.alq dX6_border_74 (pc' := 75) rfl (j := 1) rfl ?_
  refine V.alq dX6_border_75 (pc' := 76) rfl (j := 1) rfl ?_
  refine V.ilq dX6_border_76 (pc' := 77) rfl (j := 2) rfl ?_
  obtain ⟨q8, eq8, e⟩ := bd_s e
  refine V.callVi dX6_border_77 (pc' := 80) rfl CV_X6_203 (as := [.int v1]) (kX6_surplus q7 v1 q8 eq8) (Gs_rm (by decide)) rfl (by decide) rfl (Nat.le_of_ble_eq_true rfl) rfl ?_
  refine V.i2l dX6_border_80 (pc' := 81) rfl ?_
  obtain ⟨q9, eq9, e⟩ := bd_s e
  refine V.callVv dX6_border_81 (pc' := 84) rfl CV_X6_18 (as := [.long q8.1.toInt64]) (kX6_enters q8.2 q8.1.toInt64 q9 eq9) (Gs_rm (by decide)) rfl (by decide) rfl (Nat.le_of_ble_eq_true rfl) rfl ?_
  refine V.alq dX6_border_84 (pc' := 85) rfl (j := 1) rfl ?_
  refine V.ilq dX6_border_85 (pc' := 86) rfl (j := 0) rfl ?_
  refine V.if_eq dX6_border_86 (pc' := 89) rfl (tgt := 93) (by decide) (fun c => ?_) (fun c => ?_)
  · rw [if_pos c] at e
    refine V.alq dX6_border_93 (pc' := 94) rfl (j := 1) rfl ?_
    refine V.iconst dX6_border_94 (pc' := 95) rfl (v := 1) (by decide) ?_
    refine V.alq dX6_border_95 (pc' := 96) rfl (j := 1) rfl ?_
    refine V.getr dX6_border_96 (pc' := 99) rfl FL_X6_78 rfl (by decide) rfl (r' := 63) rfl ?_
    refine V.ilq dX6_border_99 (pc' := 100) rfl (j := 2) rfl ?_
    obtain ⟨c10, e⟩ := gd_s e
    refine V.iald dX6_border_100 (pc' := 101) rfl rfl rfl (inb_t c10) ?_
    refine V.alq dX6_border_101 (pc' := 102) rfl (j := 1) rfl ?_
    refine V.getr dX6_border_102 (pc' := 105) rfl FL_X6_78 rfl (by decide) rfl (r' := 63) rfl ?_
    refine V.ilq dX6_border_105 (pc' := 106) rfl (j := 2) rfl ?_
    refine V.iconst dX6_border_106 (pc' := 107) rfl (v := 1) (by decide) ?_
    refine V.iadd dX6_border_107 (pc' := 108) rfl ?_
    obtain ⟨c11, e⟩ := gd_s e
    refine V.iald dX6_border_108 (pc' := 109) rfl rfl rfl (inb_t c11) ?_
    obtain ⟨q12, eq12, e⟩ := bd_s e
    refine V.callVi dX6_border_109 (pc' := 112) rfl CV_X6_193 (as := [.int (1 : Int32), .int (q9.1 63 v1.toNatClampNeg), .int (q9.1 63 (v1 + (1 : Int32)).toNatClampNeg)]) (kX6_through q9 (1 : Int32) (q9.1 63 v1.toNatClampNeg) (q9.1 63 (v1 + (1 : Int32)).toNatClampNeg) q12 eq12) (Gs_rm (by decide)) rfl (by decide) rfl (Nat.le_of_ble_eq_true rfl) rfl ?_
    refine V.i2l dX6_border_112 (pc' := 113) rfl ?_
    refine V.pk [1, 2, 0] rfl ?_
    exact vX6_border_c113 q12.2 v1 t0 q12.1.toInt64 q e
  · rw [if_neg c] at e
    refine V.lconst dX6_border_89 (pc' := 90) rfl (v := 0) (by decide) ?_
    refine V.goto dX6_border_90 (pc' := 113) (by decide) ?_
    refine V.pk [1, 2, 0] rfl ?_
    exact vX6_border_c113 q9 v1 t0 (0 : Int64) q e
def sX6_border_c26 (h : Hp) (v1 : Int32) (t0 : Int32) : Option (Int32 × Hp) :=
  (sX6_flag h t0).bind fun q3 => nm (u1 q3.2 54 0 q3.1) fun h4 => if (h4.1 54 0) = (1 : Int32) then (some ((0 : Int32), h4)) else (if (v1 + (1 : Int32)) = (h4.1 54 17) then (sX6_border_c57 h4 v1 (1 : Int32)) else (sX6_border_c57 h4 v1 (0 : Int32)))
set_option maxRecDepth 10000 in
theorem vX6_border_c26 (h : Hp) (v1 : Int32) (t0 : Int32) (q : (Int32 × Hp)) (e : sX6_border_c26 h v1 t0 = some q) : V (Gs 5 (pI q)) mX6_border (0, 0) 26 [(0, .ref 54), (1, .int v1)] [.int t0, .ref 54] h := by
  unfold sX6_border_c26 at e
  obtain ⟨q3, eq3, e⟩ := bd_s e
  refine V.callSi dX6_border_26 (pc' := 29) rfl CS_X6_39 (as := [.int t0]) (kX6_flag h t0 q3 eq3) (Gs_rm (by decide)) rfl (Nat.le_of_ble_eq_true rfl) rfl ?_
  obtain ⟨h4, eh4, e⟩ := nm_s e
  refine V.putf dX6_border_29 (pc' := 32) rfl FP_X6_1 rfl (by decide) rfl eh4 ?_
  refine V.alq dX6_border_32 (pc' := 33) rfl (j := 0) rfl ?_
  refine V.getf dX6_border_33 (pc' := 36) rfl FL_X6_1 rfl (by decide) rfl ?_
  refine V.iconst dX6_border_36 (pc' := 37) rfl (v := 1) (by decide) ?_
  refine V.ic_ne dX6_border_37 (pc' := 40) rfl (tgt := 42) (by decide) (fun c => ?_) (fun c => ?_)
  · rw [if_neg c] at e
    refine V.ilq dX6_border_42 (pc' := 43) rfl (j := 1) rfl ?_
    refine V.iconst dX6_border_43 (pc' := 44) rfl (v := 1) (by decide) ?_
    refine V.iadd dX6_border_44 (pc' := 45) rfl ?_
    refine V.alq dX6_border_45 (pc' := 46) rfl (j := 0) rfl ?_
    refine V.getf dX6_border_46 (pc' := 49) rfl FL_X6_187 rfl (by decide) rfl ?_
    refine V.ic_ne dX6_border_49 (pc' := 52) rfl (tgt := 56) (by decide) (fun c => ?_) (fun c => ?_)
    · rw [if_neg c] at e
      refine V.iconst dX6_border_56 (pc' := 57) rfl (v := 0) (by decide) ?_
      exact vX6_border_c57 h4 v1 (0 : Int32) q e
    · rw [if_pos c] at e
      refine V.iconst dX6_border_52 (pc' := 53) rfl (v := 1) (by decide) ?_
      refine V.goto dX6_border_53 (pc' := 57) (by decide) ?_
      exact vX6_border_c57 h4 v1 (1 : Int32) q e
  · rw [if_pos c] at e
    refine V.iconst dX6_border_40 (pc' := 41) rfl (v := 0) (by decide) ?_
    exact V.iret dX6_border_41 rfl (fnI e)
def sX6_border (h : Hp) (a1 : Int32) : Option (Int32 × Hp) :=
  (sX6_works h).bind fun q1 => (sX6_in q1 a1.toInt64 (0 : Int64) (((q1.1 54 17) - (1 : Int32)).toInt64)).bind fun q2 => if q2.1 = 0 then (sX6_border_c26 q2.2 a1 (1 : Int32)) else (sX6_border_c26 q2.2 a1 (0 : Int32))
set_option maxRecDepth 10000 in
theorem kX6_border (h : Hp) (a1 : Int32) (q : (Int32 × Hp)) (e : sX6_border h a1 = some q) : K 5 mX6_border [.ref 54, .int a1] h (pI q) := by
  unfold sX6_border at e
  refine K.ofV (by decide) rfl (Nat.le_of_ble_eq_true rfl) ?_
  show V (Gs 5 (pI q)) mX6_border (0, 0) 0 [(0, .ref 54), (1, .int a1)] [] h
  refine V.alq dX6_border_0 (pc' := 1) rfl (j := 0) rfl ?_
  obtain ⟨q1, eq1, e⟩ := bd_s e
  refine V.callVv dX6_border_1 (pc' := 4) rfl CV_X6_209 (as := []) (kX6_works h q1 eq1) (Gs_rm (by decide)) rfl (by decide) rfl (Nat.le_of_ble_eq_true rfl) rfl ?_
  refine V.alq dX6_border_4 (pc' := 5) rfl (j := 0) rfl ?_
  refine V.ilq dX6_border_5 (pc' := 6) rfl (j := 1) rfl ?_
  refine V.i2l dX6_border_6 (pc' := 7) rfl ?_
  refine V.lconst dX6_border_7 (pc' := 8) rfl (v := 0) (by decide) ?_
  refine V.alq dX6_border_8 (pc' := 9) rfl (j := 0) rfl ?_
  refine V.getf dX6_border_9 (pc' := 12) rfl FL_X6_187 rfl (by decide) rfl ?_
  refine V.iconst dX6_border_12 (pc' := 13) rfl (v := 1) (by decide) ?_
  refine V.isub dX6_border_13 (pc' := 14) rfl ?_
  refine V.i2l dX6_border_14 (pc' := 15) rfl ?_
  obtain ⟨q2, eq2, e⟩ := bd_s e
  refine V.callSi dX6_border_15 (pc' := 18) rfl CS_X6_29 (as := [.long a1.toInt64, .long (0 : Int64), .long (((q1.1 54 17) - (1 : Int32)).toInt64)]) (kX6_in q1 a1.toInt64 (0 : Int64) (((q1.1 54 17) - (1 : Int32)).toInt64) q2 eq2) (Gs_rm (by decide)) rfl (Nat.le_of_ble_eq_true rfl) rfl ?_
  refine V.if_ne dX6_border_18 (pc' := 21) rfl (tgt := 25) (by decide) (fun c => ?_) (fun c => ?_)
  · rw [if_neg c] at e
    refine V.iconst dX6_border_25 (pc' := 26) rfl (v := 0) (by decide) ?_
    exact vX6_border_c26 q2.2 a1 (0 : Int32) q e
  · rw [if_pos c] at e
    refine V.iconst dX6_border_21 (pc' := 22) rfl (v := 1) (by decide) ?_
    refine V.goto dX6_border_22 (pc' := 26) (by decide) ?_
    exact vX6_border_c26 q2.2 a1 (1 : Int32) q e

-- X6_fuel (level 5)
theorem dX6_fuel_0 : decode cX6_fuel 0 = .ok (.aload_n 0, 1) := by decide +kernel
theorem dX6_fuel_1 : decode cX6_fuel 1 = .ok (.iconst 0, 1) := by decide +kernel
theorem dX6_fuel_2 : decode cX6_fuel 2 = .ok (.putfield 1, 3) := by decide +kernel
theorem dX6_fuel_5 : decode cX6_fuel 5 = .ok (.aload_n 0, 1) := by decide +kernel
theorem dX6_fuel_6 : decode cX6_fuel 6 = .ok (.invokevirtual 209, 3) := by decide +kernel
theorem dX6_fuel_9 : decode cX6_fuel 9 = .ok (.aload_n 0, 1) := by decide +kernel
theorem dX6_fuel_10 : decode cX6_fuel 10 = .ok (.iconst 0, 1) := by decide +kernel
theorem dX6_fuel_11 : decode cX6_fuel 11 = .ok (.putfield 11, 3) := by decide +kernel
theorem dX6_fuel_14 : decode cX6_fuel 14 = .ok (.aload_n 0, 1) := by decide +kernel
theorem dX6_fuel_15 : decode cX6_fuel 15 = .ok (.aload_n 0, 1) := by decide +kernel
theorem dX6_fuel_16 : decode cX6_fuel 16 = .ok (.getfield 206, 3) := by decide +kernel
theorem dX6_fuel_19 : decode cX6_fuel 19 = .ok (.i2l, 1) := by decide +kernel
theorem dX6_fuel_20 : decode cX6_fuel 20 = .ok (.invokevirtual 18, 3) := by decide +kernel
theorem dX6_fuel_23 : decode cX6_fuel 23 = .ok (.aload_n 0, 1) := by decide +kernel
theorem dX6_fuel_24 : decode cX6_fuel 24 = .ok (.aload_n 0, 1) := by decide +kernel
theorem dX6_fuel_25 : decode cX6_fuel 25 = .ok (.getfield 187, 3) := by decide +kernel
theorem dX6_fuel_28 : decode cX6_fuel 28 = .ok (.i2l, 1) := by decide +kernel
theorem dX6_fuel_29 : decode cX6_fuel 29 = .ok (.invokevirtual 18, 3) := by decide +kernel
theorem dX6_fuel_32 : decode cX6_fuel 32 = .ok (.aload_n 0, 1) := by decide +kernel
theorem dX6_fuel_33 : decode cX6_fuel 33 = .ok (.getfield 200, 3) := by decide +kernel
theorem dX6_fuel_36 : decode cX6_fuel 36 = .ok (.ireturn, 1) := by decide +kernel
def sX6_fuel (h : Hp) : Option (Int32 × Hp) :=
  nm (u1 h 54 0 (0 : Int32)) fun h1 => (sX6_works h1).bind fun q2 => nm (u1 q2 54 1 (0 : Int32)) fun h3 => (sX6_enters h3 ((h3.1 54 19).toInt64)).bind fun q4 => (sX6_enters q4 ((q4.1 54 17).toInt64)).bind fun q5 => some ((q5.1 54 18), q5)
set_option maxRecDepth 10000 in
theorem kX6_fuel (h : Hp) (q : (Int32 × Hp)) (e : sX6_fuel h = some q) : K 5 mX6_fuel [.ref 54] h (pI q) := by
  unfold sX6_fuel at e
  refine K.ofV (by decide) rfl (Nat.le_of_ble_eq_true rfl) ?_
  show V (Gs 5 (pI q)) mX6_fuel (0, 0) 0 [(0, .ref 54)] [] h
  refine V.alq dX6_fuel_0 (pc' := 1) rfl (j := 0) rfl ?_
  refine V.iconst dX6_fuel_1 (pc' := 2) rfl (v := 0) (by decide) ?_
  obtain ⟨h1, eh1, e⟩ := nm_s e
  refine V.putf dX6_fuel_2 (pc' := 5) rfl FP_X6_1 rfl (by decide) rfl eh1 ?_
  refine V.alq dX6_fuel_5 (pc' := 6) rfl (j := 0) rfl ?_
  obtain ⟨q2, eq2, e⟩ := bd_s e
  refine V.callVv dX6_fuel_6 (pc' := 9) rfl CV_X6_209 (as := []) (kX6_works h1 q2 eq2) (Gs_rm (by decide)) rfl (by decide) rfl (Nat.le_of_ble_eq_true rfl) rfl ?_
  refine V.alq dX6_fuel_9 (pc' := 10) rfl (j := 0) rfl ?_
  refine V.iconst dX6_fuel_10 (pc' := 11) rfl (v := 0) (by decide) ?_
  obtain ⟨h3, eh3, e⟩ := nm_s e
  refine V.putf dX6_fuel_11 (pc' := 14) rfl FP_X6_11 rfl (by decide) rfl eh3 ?_
  refine V.alq dX6_fuel_14 (pc' := 15) rfl (j := 0) rfl ?_
  refine V.alq dX6_fuel_15 (pc' := 16) rfl (j := 0) rfl ?_
  refine V.getf dX6_fuel_16 (pc' := 19) rfl FL_X6_206 rfl (by decide) rfl ?_
  refine V.i2l dX6_fuel_19 (pc' := 20) rfl ?_
  obtain ⟨q4, eq4, e⟩ := bd_s e
  refine V.callVv dX6_fuel_20 (pc' := 23) rfl CV_X6_18 (as := [.long ((h3.1 54 19).toInt64)]) (kX6_enters h3 ((h3.1 54 19).toInt64) q4 eq4) (Gs_rm (by decide)) rfl (by decide) rfl (Nat.le_of_ble_eq_true rfl) rfl ?_
  refine V.alq dX6_fuel_23 (pc' := 24) rfl (j := 0) rfl ?_
  refine V.alq dX6_fuel_24 (pc' := 25) rfl (j := 0) rfl ?_
  refine V.getf dX6_fuel_25 (pc' := 28) rfl FL_X6_187 rfl (by decide) rfl ?_
  refine V.i2l dX6_fuel_28 (pc' := 29) rfl ?_
  obtain ⟨q5, eq5, e⟩ := bd_s e
  refine V.callVv dX6_fuel_29 (pc' := 32) rfl CV_X6_18 (as := [.long ((q4.1 54 17).toInt64)]) (kX6_enters q4 ((q4.1 54 17).toInt64) q5 eq5) (Gs_rm (by decide)) rfl (by decide) rfl (Nat.le_of_ble_eq_true rfl) rfl ?_
  refine V.alq dX6_fuel_32 (pc' := 33) rfl (j := 0) rfl ?_
  refine V.getf dX6_fuel_33 (pc' := 36) rfl FL_X6_200 rfl (by decide) rfl ?_
  exact V.iret dX6_fuel_36 rfl (fnI e)

-- X6_pinch (level 5)
theorem dX6_pinch_0 : decode cX6_pinch 0 = .ok (.aload_n 0, 1) := by decide +kernel
theorem dX6_pinch_1 : decode cX6_pinch 1 = .ok (.iconst 0, 1) := by decide +kernel
theorem dX6_pinch_2 : decode cX6_pinch 2 = .ok (.putfield 1, 3) := by decide +kernel
theorem dX6_pinch_5 : decode cX6_pinch 5 = .ok (.aload_n 0, 1) := by decide +kernel
theorem dX6_pinch_6 : decode cX6_pinch 6 = .ok (.invokevirtual 209, 3) := by decide +kernel
theorem dX6_pinch_9 : decode cX6_pinch 9 = .ok (.aload_n 0, 1) := by decide +kernel
theorem dX6_pinch_10 : decode cX6_pinch 10 = .ok (.getfield 131, 3) := by decide +kernel
theorem dX6_pinch_13 : decode cX6_pinch 13 = .ok (.ifCond .ne 6, 3) := by decide +kernel
theorem dX6_pinch_16 : decode cX6_pinch 16 = .ok (.bipush (-2), 2) := by decide +kernel
theorem dX6_pinch_18 : decode cX6_pinch 18 = .ok (.ireturn, 1) := by decide +kernel
theorem dX6_pinch_19 : decode cX6_pinch 19 = .ok (.aload_n 0, 1) := by decide +kernel
theorem dX6_pinch_20 : decode cX6_pinch 20 = .ok (.iconst 0, 1) := by decide +kernel
theorem dX6_pinch_21 : decode cX6_pinch 21 = .ok (.putfield 11, 3) := by decide +kernel
theorem dX6_pinch_24 : decode cX6_pinch 24 = .ok (.iconst 0, 1) := by decide +kernel
theorem dX6_pinch_25 : decode cX6_pinch 25 = .ok (.istore_n 1, 1) := by decide +kernel
theorem dX6_pinch_26 : decode cX6_pinch 26 = .ok (.iload_n 1, 1) := by decide +kernel
theorem dX6_pinch_27 : decode cX6_pinch 27 = .ok (.aload_n 0, 1) := by decide +kernel
theorem dX6_pinch_28 : decode cX6_pinch 28 = .ok (.getfield 187, 3) := by decide +kernel
theorem dX6_pinch_31 : decode cX6_pinch 31 = .ok (.if_icmp .ge 33, 3) := by decide +kernel
theorem dX6_pinch_34 : decode cX6_pinch 34 = .ok (.aload_n 0, 1) := by decide +kernel
theorem dX6_pinch_35 : decode cX6_pinch 35 = .ok (.getfield 81, 3) := by decide +kernel
theorem dX6_pinch_38 : decode cX6_pinch 38 = .ok (.iload_n 1, 1) := by decide +kernel
theorem dX6_pinch_39 : decode cX6_pinch 39 = .ok (.iaload, 1) := by decide +kernel
theorem dX6_pinch_40 : decode cX6_pinch 40 = .ok (.ifCond .ne 18, 3) := by decide +kernel
theorem dX6_pinch_43 : decode cX6_pinch 43 = .ok (.aload_n 0, 1) := by decide +kernel
theorem dX6_pinch_44 : decode cX6_pinch 44 = .ok (.sipush 1000, 3) := by decide +kernel
theorem dX6_pinch_47 : decode cX6_pinch 47 = .ok (.aload_n 0, 1) := by decide +kernel
theorem dX6_pinch_48 : decode cX6_pinch 48 = .ok (.getfield 78, 3) := by decide +kernel
theorem dX6_pinch_51 : decode cX6_pinch 51 = .ok (.iload_n 1, 1) := by decide +kernel
theorem dX6_pinch_52 : decode cX6_pinch 52 = .ok (.iaload, 1) := by decide +kernel
theorem dX6_pinch_53 : decode cX6_pinch 53 = .ok (.iadd, 1) := by decide +kernel
theorem dX6_pinch_54 : decode cX6_pinch 54 = .ok (.i2l, 1) := by decide +kernel
theorem dX6_pinch_55 : decode cX6_pinch 55 = .ok (.invokevirtual 18, 3) := by decide +kernel
theorem dX6_pinch_58 : decode cX6_pinch 58 = .ok (.iinc 1 1, 3) := by decide +kernel
theorem dX6_pinch_61 : decode cX6_pinch 61 = .ok (.goto (-35), 3) := by decide +kernel
theorem dX6_pinch_64 : decode cX6_pinch 64 = .ok (.sipush 1000, 3) := by decide +kernel
theorem dX6_pinch_67 : decode cX6_pinch 67 = .ok (.aload_n 0, 1) := by decide +kernel
theorem dX6_pinch_68 : decode cX6_pinch 68 = .ok (.invokevirtual 212, 3) := by decide +kernel
theorem dX6_pinch_71 : decode cX6_pinch 71 = .ok (.iadd, 1) := by decide +kernel
theorem dX6_pinch_72 : decode cX6_pinch 72 = .ok (.ireturn, 1) := by decide +kernel
def sX6_pinch_c58 (k26 : Hp → Int32 → Option (Int32 × Hp)) (h : Hp) (v1 : Int32) : Option (Int32 × Hp) :=
  nm (v1 + (1 : Int32)) fun x8 => k26 h x8
set_option maxRecDepth 10000 in
theorem vX6_pinch_c58 (k26 : Hp → Int32 → Option (Int32 × Hp)) (hk26 : ∀ (h : Hp) (v1 : Int32) (q : (Int32 × Hp)), k26 h v1 = some q → V (Gs 5 (pI q)) mX6_pinch (0, 0) 26 [(0, .ref 54), (1, .int v1)] [] h) (h : Hp) (v1 : Int32) (q : (Int32 × Hp)) (e : sX6_pinch_c58 k26 h v1 = some q) : V (Gs 5 (pI q)) mX6_pinch (0, 0) 58 [(0, .ref 54), (1, .int v1)] [] h := by
  unfold sX6_pinch_c58 at e
  obtain ⟨x8, ex8, e⟩ := nm_s e
  refine V.iinc dX6_pinch_58 (pc' := 61) rfl (j := 1) rfl (v := 1) (by decide) (by decide) ex8 (L' := [(1, .int x8), (0, .ref 54)]) rfl ?_
  refine V.goto dX6_pinch_61 (pc' := 26) (by decide) ?_
  refine V.pk [1, 0] rfl ?_
  exact hk26 h x8 q e
def sX6_pinch_c26 (k26 : Hp → Int32 → Option (Int32 × Hp)) (h : Hp) (v1 : Int32) : Option (Int32 × Hp) :=
  if (h.1 54 17) ≤ v1 then ((sX6_pinchNow h).bind fun q4 => some (((1000 : Int32) + q4.1), q4.2)) else (gd (inb v1 20) (if (h.1 64 v1.toNatClampNeg) = 0 then (gd (inb v1 20) ((sX6_enters h (((1000 : Int32) + (h.1 63 v1.toNatClampNeg)).toInt64)).bind fun q7 => sX6_pinch_c58 k26 q7 v1)) else (sX6_pinch_c58 k26 h v1)))
set_option maxRecDepth 10000 in
theorem vX6_pinch_c26 (k26 : Hp → Int32 → Option (Int32 × Hp)) (hk26 : ∀ (h : Hp) (v1 : Int32) (q : (Int32 × Hp)), k26 h v1 = some q → V (Gs 5 (pI q)) mX6_pinch (0, 0) 26 [(0, .ref 54), (1, .int v1)] [] h) (h : Hp) (v1 : Int32) (q : (Int32 × Hp)) (e : sX6_pinch_c26 k26 h v1 = some q) : V (Gs 5 (pI q)) mX6_pinch (0, 0) 26 [(0, .ref 54), (1, .int v1)] [] h := by
  unfold sX6_pinch_c26 at e
  refine V.ilq dX6_pinch_26 (pc' := 27) rfl (j := 1) rfl ?_
  refine V.alq dX6_pinch_27 (pc' := 28) rfl (j := 0) rfl ?_
  refine V.getf dX6_pinch_28 (pc' := 31) rfl FL_X6_187 rfl (by decide) rfl ?_
  refine V.ic_ge dX6_pinch_31 (pc' := 34) rfl (tgt := 64) (by decide) (fun c => ?_) (fun c => ?_)
  · rw [if_pos c] at e
    refine V.sipush dX6_pinch_64 (pc' := 67) rfl (v := 1000) (by decide) ?_
    refine V.alq dX6_pinch_67 (pc' := 68) rfl (j := 0) rfl ?_
    obtain ⟨q4, eq4, e⟩ := bd_s e
    refine V.callVi dX6_pinch_68 (pc' := 71) rfl CV_X6_212 (as := []) (kX6_pinchNow h q4 eq4) (Gs_rm (by decide)) rfl (by decide) rfl (Nat.le_of_ble_eq_true rfl) rfl ?_
    refine V.iadd dX6_pinch_71 (pc' := 72) rfl ?_
    exact V.iret dX6_pinch_72 rfl (fnI e)
  · rw [if_neg c] at e
    refine V.alq dX6_pinch_34 (pc' := 35) rfl (j := 0) rfl ?_
    refine V.getr dX6_pinch_35 (pc' := 38) rfl FL_X6_81 rfl (by decide) rfl (r' := 64) rfl ?_
    refine V.ilq dX6_pinch_38 (pc' := 39) rfl (j := 1) rfl ?_
    obtain ⟨c5, e⟩ := gd_s e
    refine V.iald dX6_pinch_39 (pc' := 40) rfl rfl rfl (inb_t c5) ?_
    refine V.if_ne dX6_pinch_40 (pc' := 43) rfl (tgt := 58) (by decide) (fun c => ?_) (fun c => ?_)
    · rw [if_neg c] at e
      exact vX6_pinch_c58 k26 hk26 h v1 q e
    · rw [if_pos c] at e
      refine V.alq dX6_pinch_43 (pc' := 44) rfl (j := 0) rfl ?_
      refine V.sipush dX6_pinch_44 (pc' := 47) rfl (v := 1000) (by decide) ?_
      refine V.alq dX6_pinch_47 (pc' := 48) rfl (j := 0) rfl ?_
      refine V.getr dX6_pinch_48 (pc' := 51) rfl FL_X6_78 rfl (by decide) rfl (r' := 63) rfl ?_
      refine V.ilq dX6_pinch_51 (pc' := 52) rfl (j := 1) rfl ?_
      obtain ⟨c6, e⟩ := gd_s e
      refine V.iald dX6_pinch_52 (pc' := 53) rfl rfl rfl (inb_t c6) ?_
      refine V.iadd dX6_pinch_53 (pc' := 54) rfl ?_
      refine V.i2l dX6_pinch_54 (pc' := 55) rfl ?_
      obtain ⟨q7, eq7, e⟩ := bd_s e
      refine V.callVv dX6_pinch_55 (pc' := 58) rfl CV_X6_18 (as := [.long (((1000 : Int32) + (h.1 63 v1.toNatClampNeg)).toInt64)]) (kX6_enters h (((1000 : Int32) + (h.1 63 v1.toNatClampNeg)).toInt64) q7 eq7) (Gs_rm (by decide)) rfl (by decide) rfl (Nat.le_of_ble_eq_true rfl) rfl ?_
      exact vX6_pinch_c58 k26 hk26 q7 v1 q e
def sX6_pinch_b26 : Nat → Hp → Int32 → Option (Int32 × Hp)
  | 0 => fun _ _ => none
  | n + 1 => sX6_pinch_c26 (sX6_pinch_b26 n)
theorem vX6_pinch_b26 : ∀ (n : Nat) (h : Hp) (v1 : Int32) (q : (Int32 × Hp)), sX6_pinch_b26 n h v1 = some q → V (Gs 5 (pI q)) mX6_pinch (0, 0) 26 [(0, .ref 54), (1, .int v1)] [] h
  | 0 => fun _ _ _ e => by cases e
  | n + 1 => fun h v1 q e => vX6_pinch_c26 (sX6_pinch_b26 n) (vX6_pinch_b26 n) h v1 q e
def sX6_pinch (h : Hp) : Option (Int32 × Hp) :=
  nm (u1 h 54 0 (0 : Int32)) fun h1 => (sX6_works h1).bind fun q2 => if (q2.1 54 7) = 0 then (some ((-2 : Int32), q2)) else (nm (u1 q2 54 1 (0 : Int32)) fun h3 => sX6_pinch_b26 FU h3 (0 : Int32))
set_option maxRecDepth 10000 in
theorem kX6_pinch (h : Hp) (q : (Int32 × Hp)) (e : sX6_pinch h = some q) : K 5 mX6_pinch [.ref 54] h (pI q) := by
  unfold sX6_pinch at e
  refine K.ofV (by decide) rfl (Nat.le_of_ble_eq_true rfl) ?_
  show V (Gs 5 (pI q)) mX6_pinch (0, 0) 0 [(0, .ref 54)] [] h
  refine V.alq dX6_pinch_0 (pc' := 1) rfl (j := 0) rfl ?_
  refine V.iconst dX6_pinch_1 (pc' := 2) rfl (v := 0) (by decide) ?_
  obtain ⟨h1, eh1, e⟩ := nm_s e
  refine V.putf dX6_pinch_2 (pc' := 5) rfl FP_X6_1 rfl (by decide) rfl eh1 ?_
  refine V.alq dX6_pinch_5 (pc' := 6) rfl (j := 0) rfl ?_
  obtain ⟨q2, eq2, e⟩ := bd_s e
  refine V.callVv dX6_pinch_6 (pc' := 9) rfl CV_X6_209 (as := []) (kX6_works h1 q2 eq2) (Gs_rm (by decide)) rfl (by decide) rfl (Nat.le_of_ble_eq_true rfl) rfl ?_
  refine V.alq dX6_pinch_9 (pc' := 10) rfl (j := 0) rfl ?_
  refine V.getf dX6_pinch_10 (pc' := 13) rfl FL_X6_131 rfl (by decide) rfl ?_
  refine V.if_ne dX6_pinch_13 (pc' := 16) rfl (tgt := 19) (by decide) (fun c => ?_) (fun c => ?_)
  · rw [if_neg c] at e
    refine V.alq dX6_pinch_19 (pc' := 20) rfl (j := 0) rfl ?_
    refine V.iconst dX6_pinch_20 (pc' := 21) rfl (v := 0) (by decide) ?_
    obtain ⟨h3, eh3, e⟩ := nm_s e
    refine V.putf dX6_pinch_21 (pc' := 24) rfl FP_X6_11 rfl (by decide) rfl eh3 ?_
    refine V.iconst dX6_pinch_24 (pc' := 25) rfl (v := 0) (by decide) ?_
    refine V.isq dX6_pinch_25 (pc' := 26) rfl (by decide) rfl (L' := [(1, .int (0 : Int32)), (0, .ref 54)]) rfl ?_
    refine V.pk [1, 0] rfl ?_
    exact vX6_pinch_b26 FU h3 (0 : Int32) q e
  · rw [if_pos c] at e
    refine V.bipush dX6_pinch_16 (pc' := 18) rfl (v := -2) (by decide) ?_
    exact V.iret dX6_pinch_18 rfl (fnI e)

-- X6_carry (level 5)
theorem dX6_carry_0 : decode cX6_carry 0 = .ok (.aload_n 0, 1) := by decide +kernel
theorem dX6_carry_1 : decode cX6_carry 1 = .ok (.iconst 0, 1) := by decide +kernel
theorem dX6_carry_2 : decode cX6_carry 2 = .ok (.putfield 1, 3) := by decide +kernel
theorem dX6_carry_5 : decode cX6_carry 5 = .ok (.iload_n 1, 1) := by decide +kernel
theorem dX6_carry_6 : decode cX6_carry 6 = .ok (.i2l, 1) := by decide +kernel
theorem dX6_carry_7 : decode cX6_carry 7 = .ok (.ldc2_w 216, 3) := by decide +kernel
theorem dX6_carry_10 : decode cX6_carry 10 = .ok (.ldc2_w 142, 3) := by decide +kernel
theorem dX6_carry_13 : decode cX6_carry 13 = .ok (.invokestatic 29, 3) := by decide +kernel
theorem dX6_carry_16 : decode cX6_carry 16 = .ok (.ifCond .ne 5, 3) := by decide +kernel
theorem dX6_carry_19 : decode cX6_carry 19 = .ok (.iconst (-1), 1) := by decide +kernel
theorem dX6_carry_20 : decode cX6_carry 20 = .ok (.ireturn, 1) := by decide +kernel
theorem dX6_carry_21 : decode cX6_carry 21 = .ok (.aload_n 0, 1) := by decide +kernel
theorem dX6_carry_22 : decode cX6_carry 22 = .ok (.invokevirtual 209, 3) := by decide +kernel
theorem dX6_carry_25 : decode cX6_carry 25 = .ok (.aload_n 0, 1) := by decide +kernel
theorem dX6_carry_26 : decode cX6_carry 26 = .ok (.getfield 131, 3) := by decide +kernel
theorem dX6_carry_29 : decode cX6_carry 29 = .ok (.ifCond .eq 28, 3) := by decide +kernel
theorem dX6_carry_32 : decode cX6_carry 32 = .ok (.iload_n 1, 1) := by decide +kernel
theorem dX6_carry_33 : decode cX6_carry 33 = .ok (.aload_n 0, 1) := by decide +kernel
theorem dX6_carry_34 : decode cX6_carry 34 = .ok (.getfield 78, 3) := by decide +kernel
theorem dX6_carry_37 : decode cX6_carry 37 = .ok (.iconst 0, 1) := by decide +kernel
theorem dX6_carry_38 : decode cX6_carry 38 = .ok (.iaload, 1) := by decide +kernel
theorem dX6_carry_39 : decode cX6_carry 39 = .ok (.if_icmp .gt 18, 3) := by decide +kernel
theorem dX6_carry_42 : decode cX6_carry 42 = .ok (.iload_n 1, 1) := by decide +kernel
theorem dX6_carry_43 : decode cX6_carry 43 = .ok (.aload_n 0, 1) := by decide +kernel
theorem dX6_carry_44 : decode cX6_carry 44 = .ok (.getfield 78, 3) := by decide +kernel
theorem dX6_carry_47 : decode cX6_carry 47 = .ok (.aload_n 0, 1) := by decide +kernel
theorem dX6_carry_48 : decode cX6_carry 48 = .ok (.getfield 187, 3) := by decide +kernel
theorem dX6_carry_51 : decode cX6_carry 51 = .ok (.iconst 1, 1) := by decide +kernel
theorem dX6_carry_52 : decode cX6_carry 52 = .ok (.isub, 1) := by decide +kernel
theorem dX6_carry_53 : decode cX6_carry 53 = .ok (.iaload, 1) := by decide +kernel
theorem dX6_carry_54 : decode cX6_carry 54 = .ok (.if_icmp .ge 6, 3) := by decide +kernel
theorem dX6_carry_57 : decode cX6_carry 57 = .ok (.bipush (-2), 2) := by decide +kernel
theorem dX6_carry_59 : decode cX6_carry 59 = .ok (.ireturn, 1) := by decide +kernel
theorem dX6_carry_60 : decode cX6_carry 60 = .ok (.iconst 0, 1) := by decide +kernel
theorem dX6_carry_61 : decode cX6_carry 61 = .ok (.istore_n 2, 1) := by decide +kernel
theorem dX6_carry_62 : decode cX6_carry 62 = .ok (.iload_n 2, 1) := by decide +kernel
theorem dX6_carry_63 : decode cX6_carry 63 = .ok (.iconst 1, 1) := by decide +kernel
theorem dX6_carry_64 : decode cX6_carry 64 = .ok (.iadd, 1) := by decide +kernel
theorem dX6_carry_65 : decode cX6_carry 65 = .ok (.aload_n 0, 1) := by decide +kernel
theorem dX6_carry_66 : decode cX6_carry 66 = .ok (.getfield 187, 3) := by decide +kernel
theorem dX6_carry_69 : decode cX6_carry 69 = .ok (.if_icmp .ge 21, 3) := by decide +kernel
theorem dX6_carry_72 : decode cX6_carry 72 = .ok (.aload_n 0, 1) := by decide +kernel
theorem dX6_carry_73 : decode cX6_carry 73 = .ok (.getfield 78, 3) := by decide +kernel
theorem dX6_carry_76 : decode cX6_carry 76 = .ok (.iload_n 2, 1) := by decide +kernel
theorem dX6_carry_77 : decode cX6_carry 77 = .ok (.iconst 1, 1) := by decide +kernel
theorem dX6_carry_78 : decode cX6_carry 78 = .ok (.iadd, 1) := by decide +kernel
theorem dX6_carry_79 : decode cX6_carry 79 = .ok (.iaload, 1) := by decide +kernel
theorem dX6_carry_80 : decode cX6_carry 80 = .ok (.iload_n 1, 1) := by decide +kernel
theorem dX6_carry_81 : decode cX6_carry 81 = .ok (.if_icmp .lt 9, 3) := by decide +kernel
theorem dX6_carry_84 : decode cX6_carry 84 = .ok (.iinc 2 1, 3) := by decide +kernel
theorem dX6_carry_87 : decode cX6_carry 87 = .ok (.goto (-25), 3) := by decide +kernel
theorem dX6_carry_90 : decode cX6_carry 90 = .ok (.aload_n 0, 1) := by decide +kernel
theorem dX6_carry_91 : decode cX6_carry 91 = .ok (.getfield 78, 3) := by decide +kernel
theorem dX6_carry_94 : decode cX6_carry 94 = .ok (.iload_n 2, 1) := by decide +kernel
theorem dX6_carry_95 : decode cX6_carry 95 = .ok (.iaload, 1) := by decide +kernel
theorem dX6_carry_96 : decode cX6_carry 96 = .ok (.iload_n 1, 1) := by decide +kernel
theorem dX6_carry_97 : decode cX6_carry 97 = .ok (.if_icmp .ne 7, 3) := by decide +kernel
theorem dX6_carry_100 : decode cX6_carry 100 = .ok (.iconst 0, 1) := by decide +kernel
theorem dX6_carry_101 : decode cX6_carry 101 = .ok (.goto 51, 3) := by decide +kernel
theorem dX6_carry_104 : decode cX6_carry 104 = .ok (.aload_n 0, 1) := by decide +kernel
theorem dX6_carry_105 : decode cX6_carry 105 = .ok (.getfield 78, 3) := by decide +kernel
theorem dX6_carry_108 : decode cX6_carry 108 = .ok (.iload_n 2, 1) := by decide +kernel
theorem dX6_carry_109 : decode cX6_carry 109 = .ok (.iaload, 1) := by decide +kernel
theorem dX6_carry_110 : decode cX6_carry 110 = .ok (.iload_n 1, 1) := by decide +kernel
theorem dX6_carry_111 : decode cX6_carry 111 = .ok (.isub, 1) := by decide +kernel
theorem dX6_carry_112 : decode cX6_carry 112 = .ok (.aload_n 0, 1) := by decide +kernel
theorem dX6_carry_113 : decode cX6_carry 113 = .ok (.iconst 1, 1) := by decide +kernel
theorem dX6_carry_114 : decode cX6_carry 114 = .ok (.aload_n 0, 1) := by decide +kernel
theorem dX6_carry_115 : decode cX6_carry 115 = .ok (.getfield 78, 3) := by decide +kernel
theorem dX6_carry_118 : decode cX6_carry 118 = .ok (.iload_n 2, 1) := by decide +kernel
theorem dX6_carry_119 : decode cX6_carry 119 = .ok (.iaload, 1) := by decide +kernel
theorem dX6_carry_120 : decode cX6_carry 120 = .ok (.aload_n 0, 1) := by decide +kernel
theorem dX6_carry_121 : decode cX6_carry 121 = .ok (.getfield 78, 3) := by decide +kernel
theorem dX6_carry_124 : decode cX6_carry 124 = .ok (.iload_n 2, 1) := by decide +kernel
theorem dX6_carry_125 : decode cX6_carry 125 = .ok (.iconst 1, 1) := by decide +kernel
theorem dX6_carry_126 : decode cX6_carry 126 = .ok (.iadd, 1) := by decide +kernel
theorem dX6_carry_127 : decode cX6_carry 127 = .ok (.iaload, 1) := by decide +kernel
theorem dX6_carry_128 : decode cX6_carry 128 = .ok (.invokevirtual 193, 3) := by decide +kernel
theorem dX6_carry_131 : decode cX6_carry 131 = .ok (.aload_n 0, 1) := by decide +kernel
theorem dX6_carry_132 : decode cX6_carry 132 = .ok (.iconst 0, 1) := by decide +kernel
theorem dX6_carry_133 : decode cX6_carry 133 = .ok (.aload_n 0, 1) := by decide +kernel
theorem dX6_carry_134 : decode cX6_carry 134 = .ok (.getfield 78, 3) := by decide +kernel
theorem dX6_carry_137 : decode cX6_carry 137 = .ok (.iload_n 2, 1) := by decide +kernel
theorem dX6_carry_138 : decode cX6_carry 138 = .ok (.iaload, 1) := by decide +kernel
theorem dX6_carry_139 : decode cX6_carry 139 = .ok (.aload_n 0, 1) := by decide +kernel
theorem dX6_carry_140 : decode cX6_carry 140 = .ok (.getfield 78, 3) := by decide +kernel
theorem dX6_carry_143 : decode cX6_carry 143 = .ok (.iload_n 2, 1) := by decide +kernel
theorem dX6_carry_144 : decode cX6_carry 144 = .ok (.iconst 1, 1) := by decide +kernel
theorem dX6_carry_145 : decode cX6_carry 145 = .ok (.iadd, 1) := by decide +kernel
theorem dX6_carry_146 : decode cX6_carry 146 = .ok (.iaload, 1) := by decide +kernel
theorem dX6_carry_147 : decode cX6_carry 147 = .ok (.invokevirtual 193, 3) := by decide +kernel
theorem dX6_carry_150 : decode cX6_carry 150 = .ok (.isub, 1) := by decide +kernel
theorem dX6_carry_151 : decode cX6_carry 151 = .ok (.imul, 1) := by decide +kernel
theorem dX6_carry_152 : decode cX6_carry 152 = .ok (.istore_n 3, 1) := by decide +kernel
theorem dX6_carry_153 : decode cX6_carry 153 = .ok (.aload_n 0, 1) := by decide +kernel
theorem dX6_carry_154 : decode cX6_carry 154 = .ok (.iconst 0, 1) := by decide +kernel
theorem dX6_carry_155 : decode cX6_carry 155 = .ok (.putfield 11, 3) := by decide +kernel
theorem dX6_carry_158 : decode cX6_carry 158 = .ok (.aload_n 0, 1) := by decide +kernel
theorem dX6_carry_159 : decode cX6_carry 159 = .ok (.aload_n 0, 1) := by decide +kernel
theorem dX6_carry_160 : decode cX6_carry 160 = .ok (.getfield 81, 3) := by decide +kernel
theorem dX6_carry_163 : decode cX6_carry 163 = .ok (.iload_n 2, 1) := by decide +kernel
theorem dX6_carry_164 : decode cX6_carry 164 = .ok (.iaload, 1) := by decide +kernel
theorem dX6_carry_165 : decode cX6_carry 165 = .ok (.iload_n 3, 1) := by decide +kernel
theorem dX6_carry_166 : decode cX6_carry 166 = .ok (.iadd, 1) := by decide +kernel
theorem dX6_carry_167 : decode cX6_carry 167 = .ok (.i2l, 1) := by decide +kernel
theorem dX6_carry_168 : decode cX6_carry 168 = .ok (.invokevirtual 18, 3) := by decide +kernel
theorem dX6_carry_171 : decode cX6_carry 171 = .ok (.iconst 0, 1) := by decide +kernel
theorem dX6_carry_172 : decode cX6_carry 172 = .ok (.ireturn, 1) := by decide +kernel
def sX6_carry_c57 (h : Hp) : Option (Int32 × Hp) :=
  some ((-2 : Int32), h)
set_option maxRecDepth 10000 in
theorem vX6_carry_c57 (h : Hp) (q : (Int32 × Hp)) (e : sX6_carry_c57 h = some q) : V (Gs 5 (pI q)) mX6_carry (0, 0) 57 [] [] h := by
  unfold sX6_carry_c57 at e
  refine V.bipush dX6_carry_57 (pc' := 59) rfl (v := -2) (by decide) ?_
  exact V.iret dX6_carry_59 rfl (fnI e)
def sX6_carry_c152 (h : Hp) (v2 : Int32) (t0 : Int32) : Option (Int32 × Hp) :=
  nm (u1 h 54 1 (0 : Int32)) fun h15 => gd (inb v2 20) ((sX6_enters h15 (((h15.1 64 v2.toNatClampNeg) + t0).toInt64)).bind fun q17 => some ((0 : Int32), q17))
set_option maxRecDepth 10000 in
theorem vX6_carry_c152 (h : Hp) (v2 : Int32) (t0 : Int32) (q : (Int32 × Hp)) (e : sX6_carry_c152 h v2 t0 = some q) : V (Gs 5 (pI q)) mX6_carry (0, 0) 152 [(0, .ref 54), (2, .int v2)] [.int t0] h := by
  unfold sX6_carry_c152 at e
  refine V.isq dX6_carry_152 (pc' := 153) rfl (by decide) rfl (L' := [(3, .int t0), (0, .ref 54), (2, .int v2)]) rfl ?_
  refine V.alq dX6_carry_153 (pc' := 154) rfl (j := 1) rfl ?_
  refine V.iconst dX6_carry_154 (pc' := 155) rfl (v := 0) (by decide) ?_
  obtain ⟨h15, eh15, e⟩ := nm_s e
  refine V.putf dX6_carry_155 (pc' := 158) rfl FP_X6_11 rfl (by decide) rfl eh15 ?_
  refine V.alq dX6_carry_158 (pc' := 159) rfl (j := 1) rfl ?_
  refine V.alq dX6_carry_159 (pc' := 160) rfl (j := 1) rfl ?_
  refine V.getr dX6_carry_160 (pc' := 163) rfl FL_X6_81 rfl (by decide) rfl (r' := 64) rfl ?_
  refine V.ilq dX6_carry_163 (pc' := 164) rfl (j := 2) rfl ?_
  obtain ⟨c16, e⟩ := gd_s e
  refine V.iald dX6_carry_164 (pc' := 165) rfl rfl rfl (inb_t c16) ?_
  refine V.ilq dX6_carry_165 (pc' := 166) rfl (j := 0) rfl ?_
  refine V.iadd dX6_carry_166 (pc' := 167) rfl ?_
  refine V.i2l dX6_carry_167 (pc' := 168) rfl ?_
  obtain ⟨q17, eq17, e⟩ := bd_s e
  refine V.callVv dX6_carry_168 (pc' := 171) rfl CV_X6_18 (as := [.long (((h15.1 64 v2.toNatClampNeg) + t0).toInt64)]) (kX6_enters h15 (((h15.1 64 v2.toNatClampNeg) + t0).toInt64) q17 eq17) (Gs_rm (by decide)) rfl (by decide) rfl (Nat.le_of_ble_eq_true rfl) rfl ?_
  refine V.iconst dX6_carry_171 (pc' := 172) rfl (v := 0) (by decide) ?_
  exact V.iret dX6_carry_172 rfl (fnI e)
def sX6_carry_c90 (h : Hp) (v1 : Int32) (v2 : Int32) : Option (Int32 × Hp) :=
  gd (inb v2 20) (if (h.1 63 v2.toNatClampNeg) = v1 then (sX6_carry_c152 h v2 (0 : Int32)) else (gd (inb v2 20) (gd (inb v2 20) (gd (inb (v2 + (1 : Int32)) 20) ((sX6_through h (1 : Int32) (h.1 63 v2.toNatClampNeg) (h.1 63 (v2 + (1 : Int32)).toNatClampNeg)).bind fun q11 => gd (inb v2 20) (gd (inb (v2 + (1 : Int32)) 20) ((sX6_through q11.2 (0 : Int32) (q11.2.1 63 v2.toNatClampNeg) (q11.2.1 63 (v2 + (1 : Int32)).toNatClampNeg)).bind fun q14 => sX6_carry_c152 q14.2 v2 (((h.1 63 v2.toNatClampNeg) - v1) * (q11.1 - q14.1)))))))))
set_option maxRecDepth 10000 in
theorem vX6_carry_c90 (h : Hp) (v1 : Int32) (v2 : Int32) (q : (Int32 × Hp)) (e : sX6_carry_c90 h v1 v2 = some q) : V (Gs 5 (pI q)) mX6_carry (0, 0) 90 [(0, .ref 54), (1, .int v1), (2, .int v2)] [] h := by
  unfold sX6_carry_c90 at e
  refine V.alq dX6_carry_90 (pc' := 91) rfl (j := 0) rfl ?_
  refine V.getr dX6_carry_91 (pc' := 94) rfl FL_X6_78 rfl (by decide) rfl (r' := 63) rfl ?_
  refine V.ilq dX6_carry_94 (pc' := 95) rfl (j := 2) rfl ?_
  obtain ⟨c7, e⟩ := gd_s e
  refine V.iald dX6_carry_95 (pc' := 96) rfl rfl rfl (inb_t c7) ?_
  refine V.ilq dX6_carry_96 (pc' := 97) rfl (j := 1) rfl ?_
  refine V.ic_ne dX6_carry_97 (pc' := 100) rfl (tgt := 104) (by decide) (fun c => ?_) (fun c => ?_)
  · rw [if_neg c] at e
    refine V.alq dX6_carry_104 (pc' := 105) rfl (j := 0) rfl ?_
    refine V.getr dX6_carry_105 (pc' := 108) rfl FL_X6_78 rfl (by decide) rfl (r' := 63) rfl ?_
    refine V.ilq dX6_carry_108 (pc' := 109) rfl (j := 2) rfl ?_
    obtain ⟨c8, e⟩ := gd_s e
    refine V.iald dX6_carry_109 (pc' := 110) rfl rfl rfl (inb_t c8) ?_
    refine V.ilq dX6_carry_110 (pc' := 111) rfl (j := 1) rfl ?_
    refine V.isub dX6_carry_111 (pc' := 112) rfl ?_
    refine V.alq dX6_carry_112 (pc' := 113) rfl (j := 0) rfl ?_
    refine V.iconst dX6_carry_113 (pc' := 114) rfl (v := 1) (by decide) ?_
    refine V.alq dX6_carry_114 (pc' := 115) rfl (j := 0) rfl ?_
    refine V.getr dX6_carry_115 (pc' := 118) rfl FL_X6_78 rfl (by decide) rfl (r' := 63) rfl ?_
    refine V.ilq dX6_carry_118 (pc' := 119) rfl (j := 2) rfl ?_
    obtain ⟨c9, e⟩ := gd_s e
    refine V.iald dX6_carry_119 (pc' := 120) rfl rfl rfl (inb_t c9) ?_
    refine V.alq dX6_carry_120 (pc' := 121) rfl (j := 0) rfl ?_
    refine V.getr dX6_carry_121 (pc' := 124) rfl FL_X6_78 rfl (by decide) rfl (r' := 63) rfl ?_
    refine V.ilq dX6_carry_124 (pc' := 125) rfl (j := 2) rfl ?_
    refine V.iconst dX6_carry_125 (pc' := 126) rfl (v := 1) (by decide) ?_
    refine V.iadd dX6_carry_126 (pc' := 127) rfl ?_
    obtain ⟨c10, e⟩ := gd_s e
    refine V.iald dX6_carry_127 (pc' := 128) rfl rfl rfl (inb_t c10) ?_
    obtain ⟨q11, eq11, e⟩ := bd_s e
    refine V.callVi dX6_carry_128 (pc' := 131) rfl CV_X6_193 (as := [.int (1 : Int32), .int (h.1 63 v2.toNatClampNeg), .int (h.1 63 (v2 + (1 : Int32)).toNatClampNeg)]) (kX6_through h (1 : Int32) (h.1 63 v2.toNatClampNeg) (h.1 63 (v2 + (1 : Int32)).toNatClampNeg) q11 eq11) (Gs_rm (by decide)) rfl (by decide) rfl (Nat.le_of_ble_eq_true rfl) rfl ?_
    refine V.alq dX6_carry_131 (pc' := 132) rfl (j := 0) rfl ?_
    refine V.iconst dX6_carry_132 (pc' := 133) rfl (v := 0) (by decide) ?_
    refine V.alq dX6_carry_133 (pc' := 134) rfl (j := 0) rfl ?_
    refine V.getr dX6_carry_134 (pc' := 137) rfl FL_X6_78 rfl (by decide) rfl (r' := 63) rfl ?_
    refine V.ilq dX6_carry_137 (pc' := 138) rfl (j := 2) rfl ?_
    obtain ⟨c12, e⟩ := gd_s e
    refine V.iald dX6_carry_138 (pc' := 139) rfl rfl rfl (inb_t c12) ?_
    refine V.alq dX6_carry_139 (pc' := 140) rfl (j := 0) rfl ?_
    refine V.getr dX6_carry_140 (pc' := 143) rfl FL_X6_78 rfl (by decide) rfl (r' := 63) rfl ?_
    refine V.ilq dX6_carry_143 (pc' := 144) rfl (j := 2) rfl ?_
    refine V.iconst dX6_carry_144 (pc' := 145) rfl (v := 1) (by decide) ?_
    refine V.iadd dX6_carry_145 (pc' := 146) rfl ?_
    obtain ⟨c13, e⟩ := gd_s e
    refine V.iald dX6_carry_146 (pc' := 147) rfl rfl rfl (inb_t c13) ?_
    obtain ⟨q14, eq14, e⟩ := bd_s e
    refine V.callVi dX6_carry_147 (pc' := 150) rfl CV_X6_193 (as := [.int (0 : Int32), .int (q11.2.1 63 v2.toNatClampNeg), .int (q11.2.1 63 (v2 + (1 : Int32)).toNatClampNeg)]) (kX6_through q11.2 (0 : Int32) (q11.2.1 63 v2.toNatClampNeg) (q11.2.1 63 (v2 + (1 : Int32)).toNatClampNeg) q14 eq14) (Gs_rm (by decide)) rfl (by decide) rfl (Nat.le_of_ble_eq_true rfl) rfl ?_
    refine V.isub dX6_carry_150 (pc' := 151) rfl ?_
    refine V.imul dX6_carry_151 (pc' := 152) rfl ?_
    refine V.pk [0, 2] rfl ?_
    exact vX6_carry_c152 q14.2 v2 (((h.1 63 v2.toNatClampNeg) - v1) * (q11.1 - q14.1)) q e
  · rw [if_pos c] at e
    refine V.iconst dX6_carry_100 (pc' := 101) rfl (v := 0) (by decide) ?_
    refine V.goto dX6_carry_101 (pc' := 152) (by decide) ?_
    refine V.pk [0, 2] rfl ?_
    exact vX6_carry_c152 h v2 (0 : Int32) q e
def sX6_carry_c62 (k62 : Hp → Int32 → Int32 → Option (Int32 × Hp)) (h : Hp) (v1 : Int32) (v2 : Int32) : Option (Int32 × Hp) :=
  if (h.1 54 17) ≤ (v2 + (1 : Int32)) then (sX6_carry_c90 h v1 v2) else (gd (inb (v2 + (1 : Int32)) 20) (if (h.1 63 (v2 + (1 : Int32)).toNatClampNeg) < v1 then (sX6_carry_c90 h v1 v2) else (nm (v2 + (1 : Int32)) fun x6 => k62 h v1 x6)))
set_option maxRecDepth 10000 in
theorem vX6_carry_c62 (k62 : Hp → Int32 → Int32 → Option (Int32 × Hp)) (hk62 : ∀ (h : Hp) (v1 : Int32) (v2 : Int32) (q : (Int32 × Hp)), k62 h v1 v2 = some q → V (Gs 5 (pI q)) mX6_carry (0, 0) 62 [(0, .ref 54), (1, .int v1), (2, .int v2)] [] h) (h : Hp) (v1 : Int32) (v2 : Int32) (q : (Int32 × Hp)) (e : sX6_carry_c62 k62 h v1 v2 = some q) : V (Gs 5 (pI q)) mX6_carry (0, 0) 62 [(0, .ref 54), (1, .int v1), (2, .int v2)] [] h := by
  unfold sX6_carry_c62 at e
  refine V.ilq dX6_carry_62 (pc' := 63) rfl (j := 2) rfl ?_
  refine V.iconst dX6_carry_63 (pc' := 64) rfl (v := 1) (by decide) ?_
  refine V.iadd dX6_carry_64 (pc' := 65) rfl ?_
  refine V.alq dX6_carry_65 (pc' := 66) rfl (j := 0) rfl ?_
  refine V.getf dX6_carry_66 (pc' := 69) rfl FL_X6_187 rfl (by decide) rfl ?_
  refine V.ic_ge dX6_carry_69 (pc' := 72) rfl (tgt := 90) (by decide) (fun c => ?_) (fun c => ?_)
  · rw [if_pos c] at e
    exact vX6_carry_c90 h v1 v2 q e
  · rw [if_neg c] at e
    refine V.alq dX6_carry_72 (pc' := 73) rfl (j := 0) rfl ?_
    refine V.getr dX6_carry_73 (pc' := 76) rfl FL_X6_78 rfl (by decide) rfl (r' := 63) rfl ?_
    refine V.ilq dX6_carry_76 (pc' := 77) rfl (j := 2) rfl ?_
    refine V.iconst dX6_carry_77 (pc' := 78) rfl (v := 1) (by decide) ?_
    refine V.iadd dX6_carry_78 (pc' := 79) rfl ?_
    obtain ⟨c5, e⟩ := gd_s e
    refine V.iald dX6_carry_79 (pc' := 80) rfl rfl rfl (inb_t c5) ?_
    refine V.ilq dX6_carry_80 (pc' := 81) rfl (j := 1) rfl ?_
    refine V.ic_lt dX6_carry_81 (pc' := 84) rfl (tgt := 90) (by decide) (fun c => ?_) (fun c => ?_)
    · rw [if_pos c] at e
      exact vX6_carry_c90 h v1 v2 q e
    · rw [if_neg c] at e
      obtain ⟨x6, ex6, e⟩ := nm_s e
      refine V.iinc dX6_carry_84 (pc' := 87) rfl (j := 2) rfl (v := 1) (by decide) (by decide) ex6 (L' := [(2, .int x6), (0, .ref 54), (1, .int v1)]) rfl ?_
      refine V.goto dX6_carry_87 (pc' := 62) (by decide) ?_
      refine V.pk [1, 2, 0] rfl ?_
      exact hk62 h v1 x6 q e
def sX6_carry_b62 : Nat → Hp → Int32 → Int32 → Option (Int32 × Hp)
  | 0 => fun _ _ _ => none
  | n + 1 => sX6_carry_c62 (sX6_carry_b62 n)
theorem vX6_carry_b62 : ∀ (n : Nat) (h : Hp) (v1 : Int32) (v2 : Int32) (q : (Int32 × Hp)), sX6_carry_b62 n h v1 v2 = some q → V (Gs 5 (pI q)) mX6_carry (0, 0) 62 [(0, .ref 54), (1, .int v1), (2, .int v2)] [] h
  | 0 => fun _ _ _ _ e => by cases e
  | n + 1 => fun h v1 v2 q e => vX6_carry_c62 (sX6_carry_b62 n) (vX6_carry_b62 n) h v1 v2 q e
def sX6_carry (h : Hp) (a1 : Int32) : Option (Int32 × Hp) :=
  nm (u1 h 54 0 (0 : Int32)) fun h1 => (sX6_in h1 a1.toInt64 (-60 : Int64) (500 : Int64)).bind fun q2 => if q2.1 = 0 then (some ((-1 : Int32), q2.2)) else ((sX6_works q2.2).bind fun q3 => if (q3.1 54 7) = 0 then (sX6_carry_c57 q3) else (if (q3.1 63 (0 : Int32).toNatClampNeg) < a1 then (sX6_carry_c57 q3) else (gd (inb ((q3.1 54 17) - (1 : Int32)) 20) (if (q3.1 63 ((q3.1 54 17) - (1 : Int32)).toNatClampNeg) ≤ a1 then (sX6_carry_b62 FU q3 a1 (0 : Int32)) else (sX6_carry_c57 q3)))))
set_option maxRecDepth 10000 in
theorem kX6_carry (h : Hp) (a1 : Int32) (q : (Int32 × Hp)) (e : sX6_carry h a1 = some q) : K 5 mX6_carry [.ref 54, .int a1] h (pI q) := by
  unfold sX6_carry at e
  refine K.ofV (by decide) rfl (Nat.le_of_ble_eq_true rfl) ?_
  show V (Gs 5 (pI q)) mX6_carry (0, 0) 0 [(0, .ref 54), (1, .int a1)] [] h
  refine V.alq dX6_carry_0 (pc' := 1) rfl (j := 0) rfl ?_
  refine V.iconst dX6_carry_1 (pc' := 2) rfl (v := 0) (by decide) ?_
  obtain ⟨h1, eh1, e⟩ := nm_s e
  refine V.putf dX6_carry_2 (pc' := 5) rfl FP_X6_1 rfl (by decide) rfl eh1 ?_
  refine V.ilq dX6_carry_5 (pc' := 6) rfl (j := 1) rfl ?_
  refine V.i2l dX6_carry_6 (pc' := 7) rfl ?_
  refine V.ldc2 dX6_carry_7 (pc' := 10) rfl (v := -60) (TBm 1146 (by decide +kernel) rfl) ?_
  refine V.ldc2 dX6_carry_10 (pc' := 13) rfl (v := 500) (TBm 1049 (by decide +kernel) rfl) ?_
  obtain ⟨q2, eq2, e⟩ := bd_s e
  refine V.callSi dX6_carry_13 (pc' := 16) rfl CS_X6_29 (as := [.long a1.toInt64, .long (-60 : Int64), .long (500 : Int64)]) (kX6_in h1 a1.toInt64 (-60 : Int64) (500 : Int64) q2 eq2) (Gs_rm (by decide)) rfl (Nat.le_of_ble_eq_true rfl) rfl ?_
  refine V.if_ne dX6_carry_16 (pc' := 19) rfl (tgt := 21) (by decide) (fun c => ?_) (fun c => ?_)
  · rw [if_neg c] at e
    refine V.alq dX6_carry_21 (pc' := 22) rfl (j := 0) rfl ?_
    obtain ⟨q3, eq3, e⟩ := bd_s e
    refine V.callVv dX6_carry_22 (pc' := 25) rfl CV_X6_209 (as := []) (kX6_works q2.2 q3 eq3) (Gs_rm (by decide)) rfl (by decide) rfl (Nat.le_of_ble_eq_true rfl) rfl ?_
    refine V.alq dX6_carry_25 (pc' := 26) rfl (j := 0) rfl ?_
    refine V.getf dX6_carry_26 (pc' := 29) rfl FL_X6_131 rfl (by decide) rfl ?_
    refine V.if_eq dX6_carry_29 (pc' := 32) rfl (tgt := 57) (by decide) (fun c => ?_) (fun c => ?_)
    · rw [if_pos c] at e
      refine V.pk [] rfl ?_
      exact vX6_carry_c57 q3 q e
    · rw [if_neg c] at e
      refine V.ilq dX6_carry_32 (pc' := 33) rfl (j := 1) rfl ?_
      refine V.alq dX6_carry_33 (pc' := 34) rfl (j := 0) rfl ?_
      refine V.getr dX6_carry_34 (pc' := 37) rfl FL_X6_78 rfl (by decide) rfl (r' := 63) rfl ?_
      refine V.iconst dX6_carry_37 (pc' := 38) rfl (v := 0) (by decide) ?_
      refine V.iald dX6_carry_38 (pc' := 39) rfl rfl rfl (inb_t (by decide)) ?_
      refine V.ic_gt dX6_carry_39 (pc' := 42) rfl (tgt := 57) (by decide) (fun c => ?_) (fun c => ?_)
      · rw [if_pos c] at e
        refine V.pk [] rfl ?_
        exact vX6_carry_c57 q3 q e
      · rw [if_neg c] at e
        refine V.ilq dX6_carry_42 (pc' := 43) rfl (j := 1) rfl ?_
        refine V.alq dX6_carry_43 (pc' := 44) rfl (j := 0) rfl ?_
        refine V.getr dX6_carry_44 (pc' := 47) rfl FL_X6_78 rfl (by decide) rfl (r' := 63) rfl ?_
        refine V.alq dX6_carry_47 (pc' := 48) rfl (j := 0) rfl ?_
        refine V.getf dX6_carry_48 (pc' := 51) rfl FL_X6_187 rfl (by decide) rfl ?_
        refine V.iconst dX6_carry_51 (pc' := 52) rfl (v := 1) (by decide) ?_
        refine V.isub dX6_carry_52 (pc' := 53) rfl ?_
        obtain ⟨c4, e⟩ := gd_s e
        refine V.iald dX6_carry_53 (pc' := 54) rfl rfl rfl (inb_t c4) ?_
        refine V.ic_ge dX6_carry_54 (pc' := 57) rfl (tgt := 60) (by decide) (fun c => ?_) (fun c => ?_)
        · rw [if_pos c] at e
          refine V.iconst dX6_carry_60 (pc' := 61) rfl (v := 0) (by decide) ?_
          refine V.isq dX6_carry_61 (pc' := 62) rfl (by decide) rfl (L' := [(2, .int (0 : Int32)), (0, .ref 54), (1, .int a1)]) rfl ?_
          refine V.pk [1, 2, 0] rfl ?_
          exact vX6_carry_b62 FU q3 a1 (0 : Int32) q e
        · rw [if_neg c] at e
          refine V.pk [] rfl ?_
          exact vX6_carry_c57 q3 q e
  · rw [if_pos c] at e
    refine V.iconst dX6_carry_19 (pc' := 20) rfl (v := -1) (by decide) ?_
    exact V.iret dX6_carry_20 rfl (fnI e)

-- X6_by (level 5)
theorem dX6_by_0 : decode cX6_by 0 = .ok (.aload_n 0, 1) := by decide +kernel
theorem dX6_by_1 : decode cX6_by 1 = .ok (.iconst 0, 1) := by decide +kernel
theorem dX6_by_2 : decode cX6_by 2 = .ok (.putfield 1, 3) := by decide +kernel
theorem dX6_by_5 : decode cX6_by 5 = .ok (.iload_n 1, 1) := by decide +kernel
theorem dX6_by_6 : decode cX6_by 6 = .ok (.i2l, 1) := by decide +kernel
theorem dX6_by_7 : decode cX6_by 7 = .ok (.lconst 0, 1) := by decide +kernel
theorem dX6_by_8 : decode cX6_by 8 = .ok (.ldc2_w 162, 3) := by decide +kernel
theorem dX6_by_11 : decode cX6_by 11 = .ok (.invokestatic 29, 3) := by decide +kernel
theorem dX6_by_14 : decode cX6_by 14 = .ok (.ifCond .ne 5, 3) := by decide +kernel
theorem dX6_by_17 : decode cX6_by 17 = .ok (.iconst (-1), 1) := by decide +kernel
theorem dX6_by_18 : decode cX6_by 18 = .ok (.ireturn, 1) := by decide +kernel
theorem dX6_by_19 : decode cX6_by 19 = .ok (.aload_n 0, 1) := by decide +kernel
theorem dX6_by_20 : decode cX6_by 20 = .ok (.getfield 131, 3) := by decide +kernel
theorem dX6_by_23 : decode cX6_by 23 = .ok (.ifCond .ne 6, 3) := by decide +kernel
theorem dX6_by_26 : decode cX6_by 26 = .ok (.bipush (-2), 2) := by decide +kernel
theorem dX6_by_28 : decode cX6_by 28 = .ok (.ireturn, 1) := by decide +kernel
theorem dX6_by_29 : decode cX6_by 29 = .ok (.aload_n 0, 1) := by decide +kernel
theorem dX6_by_30 : decode cX6_by 30 = .ok (.getfield 66, 3) := by decide +kernel
theorem dX6_by_33 : decode cX6_by 33 = .ok (.istore_n 2, 1) := by decide +kernel
theorem dX6_by_34 : decode cX6_by 34 = .ok (.aload_n 0, 1) := by decide +kernel
theorem dX6_by_35 : decode cX6_by 35 = .ok (.iload_n 1, 1) := by decide +kernel
theorem dX6_by_36 : decode cX6_by 36 = .ok (.putfield 66, 3) := by decide +kernel
theorem dX6_by_39 : decode cX6_by 39 = .ok (.aload_n 0, 1) := by decide +kernel
theorem dX6_by_40 : decode cX6_by 40 = .ok (.invokevirtual 209, 3) := by decide +kernel
theorem dX6_by_43 : decode cX6_by 43 = .ok (.aload_n 0, 1) := by decide +kernel
theorem dX6_by_44 : decode cX6_by 44 = .ok (.invokevirtual 212, 3) := by decide +kernel
theorem dX6_by_47 : decode cX6_by 47 = .ok (.istore_n 3, 1) := by decide +kernel
theorem dX6_by_48 : decode cX6_by 48 = .ok (.aload_n 0, 1) := by decide +kernel
theorem dX6_by_49 : decode cX6_by 49 = .ok (.iload_n 2, 1) := by decide +kernel
theorem dX6_by_50 : decode cX6_by 50 = .ok (.putfield 66, 3) := by decide +kernel
theorem dX6_by_53 : decode cX6_by 53 = .ok (.aload_n 0, 1) := by decide +kernel
theorem dX6_by_54 : decode cX6_by 54 = .ok (.iconst 0, 1) := by decide +kernel
theorem dX6_by_55 : decode cX6_by 55 = .ok (.putfield 11, 3) := by decide +kernel
theorem dX6_by_58 : decode cX6_by 58 = .ok (.aload_n 0, 1) := by decide +kernel
theorem dX6_by_59 : decode cX6_by 59 = .ok (.aload_n 0, 1) := by decide +kernel
theorem dX6_by_60 : decode cX6_by 60 = .ok (.getfield 206, 3) := by decide +kernel
theorem dX6_by_63 : decode cX6_by 63 = .ok (.i2l, 1) := by decide +kernel
theorem dX6_by_64 : decode cX6_by 64 = .ok (.invokevirtual 18, 3) := by decide +kernel
theorem dX6_by_67 : decode cX6_by 67 = .ok (.aload_n 0, 1) := by decide +kernel
theorem dX6_by_68 : decode cX6_by 68 = .ok (.sipush 1000, 3) := by decide +kernel
theorem dX6_by_71 : decode cX6_by 71 = .ok (.iload_n 3, 1) := by decide +kernel
theorem dX6_by_72 : decode cX6_by 72 = .ok (.iadd, 1) := by decide +kernel
theorem dX6_by_73 : decode cX6_by 73 = .ok (.i2l, 1) := by decide +kernel
theorem dX6_by_74 : decode cX6_by 74 = .ok (.invokevirtual 18, 3) := by decide +kernel
theorem dX6_by_77 : decode cX6_by 77 = .ok (.aload_n 0, 1) := by decide +kernel
theorem dX6_by_78 : decode cX6_by 78 = .ok (.getfield 200, 3) := by decide +kernel
theorem dX6_by_81 : decode cX6_by 81 = .ok (.ireturn, 1) := by decide +kernel
def sX6_by (h : Hp) (a1 : Int32) : Option (Int32 × Hp) :=
  nm (u1 h 54 0 (0 : Int32)) fun h1 => (sX6_in h1 a1.toInt64 (0 : Int64) (60 : Int64)).bind fun q2 => if q2.1 = 0 then (some ((-1 : Int32), q2.2)) else (if (q2.2.1 54 7) = 0 then (some ((-2 : Int32), q2.2)) else (nm ((q2.2.1 54 11)) fun x3 => nm (u1 q2.2 54 11 a1) fun h4 => (sX6_works h4).bind fun q5 => (sX6_pinchNow q5).bind fun q6 => nm (u1 q6.2 54 11 x3) fun h7 => nm (u1 h7 54 1 (0 : Int32)) fun h8 => (sX6_enters h8 ((h8.1 54 19).toInt64)).bind fun q9 => (sX6_enters q9 (((1000 : Int32) + q6.1).toInt64)).bind fun q10 => some ((q10.1 54 18), q10)))
set_option maxRecDepth 10000 in
theorem kX6_by (h : Hp) (a1 : Int32) (q : (Int32 × Hp)) (e : sX6_by h a1 = some q) : K 5 mX6_by [.ref 54, .int a1] h (pI q) := by
  unfold sX6_by at e
  refine K.ofV (by decide) rfl (Nat.le_of_ble_eq_true rfl) ?_
  show V (Gs 5 (pI q)) mX6_by (0, 0) 0 [(0, .ref 54), (1, .int a1)] [] h
  refine V.alq dX6_by_0 (pc' := 1) rfl (j := 0) rfl ?_
  refine V.iconst dX6_by_1 (pc' := 2) rfl (v := 0) (by decide) ?_
  obtain ⟨h1, eh1, e⟩ := nm_s e
  refine V.putf dX6_by_2 (pc' := 5) rfl FP_X6_1 rfl (by decide) rfl eh1 ?_
  refine V.ilq dX6_by_5 (pc' := 6) rfl (j := 1) rfl ?_
  refine V.i2l dX6_by_6 (pc' := 7) rfl ?_
  refine V.lconst dX6_by_7 (pc' := 8) rfl (v := 0) (by decide) ?_
  refine V.ldc2 dX6_by_8 (pc' := 11) rfl (v := 60) (TBm 1070 (by decide +kernel) rfl) ?_
  obtain ⟨q2, eq2, e⟩ := bd_s e
  refine V.callSi dX6_by_11 (pc' := 14) rfl CS_X6_29 (as := [.long a1.toInt64, .long (0 : Int64), .long (60 : Int64)]) (kX6_in h1 a1.toInt64 (0 : Int64) (60 : Int64) q2 eq2) (Gs_rm (by decide)) rfl (Nat.le_of_ble_eq_true rfl) rfl ?_
  refine V.if_ne dX6_by_14 (pc' := 17) rfl (tgt := 19) (by decide) (fun c => ?_) (fun c => ?_)
  · rw [if_neg c] at e
    refine V.alq dX6_by_19 (pc' := 20) rfl (j := 0) rfl ?_
    refine V.getf dX6_by_20 (pc' := 23) rfl FL_X6_131 rfl (by decide) rfl ?_
    refine V.if_ne dX6_by_23 (pc' := 26) rfl (tgt := 29) (by decide) (fun c => ?_) (fun c => ?_)
    · rw [if_neg c] at e
      refine V.alq dX6_by_29 (pc' := 30) rfl (j := 0) rfl ?_
      refine V.getf dX6_by_30 (pc' := 33) rfl FL_X6_66 rfl (by decide) rfl ?_
      obtain ⟨x3, ex3, e⟩ := nm_s e
      refine V.isq dX6_by_33 (pc' := 34) rfl (by decide) ex3 (L' := [(2, .int x3), (0, .ref 54), (1, .int a1)]) rfl ?_
      refine V.alq dX6_by_34 (pc' := 35) rfl (j := 1) rfl ?_
      refine V.ilq dX6_by_35 (pc' := 36) rfl (j := 2) rfl ?_
      obtain ⟨h4, eh4, e⟩ := nm_s e
      refine V.putf dX6_by_36 (pc' := 39) rfl FP_X6_66 rfl (by decide) rfl eh4 ?_
      refine V.alq dX6_by_39 (pc' := 40) rfl (j := 1) rfl ?_
      obtain ⟨q5, eq5, e⟩ := bd_s e
      refine V.callVv dX6_by_40 (pc' := 43) rfl CV_X6_209 (as := []) (kX6_works h4 q5 eq5) (Gs_rm (by decide)) rfl (by decide) rfl (Nat.le_of_ble_eq_true rfl) rfl ?_
      refine V.alq dX6_by_43 (pc' := 44) rfl (j := 1) rfl ?_
      obtain ⟨q6, eq6, e⟩ := bd_s e
      refine V.callVi dX6_by_44 (pc' := 47) rfl CV_X6_212 (as := []) (kX6_pinchNow q5 q6 eq6) (Gs_rm (by decide)) rfl (by decide) rfl (Nat.le_of_ble_eq_true rfl) rfl ?_
      refine V.isq dX6_by_47 (pc' := 48) rfl (by decide) rfl (L' := [(3, .int q6.1), (2, .int x3), (0, .ref 54), (1, .int a1)]) rfl ?_
      refine V.alq dX6_by_48 (pc' := 49) rfl (j := 2) rfl ?_
      refine V.ilq dX6_by_49 (pc' := 50) rfl (j := 1) rfl ?_
      obtain ⟨h7, eh7, e⟩ := nm_s e
      refine V.putf dX6_by_50 (pc' := 53) rfl FP_X6_66 rfl (by decide) rfl eh7 ?_
      refine V.alq dX6_by_53 (pc' := 54) rfl (j := 2) rfl ?_
      refine V.iconst dX6_by_54 (pc' := 55) rfl (v := 0) (by decide) ?_
      obtain ⟨h8, eh8, e⟩ := nm_s e
      refine V.putf dX6_by_55 (pc' := 58) rfl FP_X6_11 rfl (by decide) rfl eh8 ?_
      refine V.alq dX6_by_58 (pc' := 59) rfl (j := 2) rfl ?_
      refine V.alq dX6_by_59 (pc' := 60) rfl (j := 2) rfl ?_
      refine V.getf dX6_by_60 (pc' := 63) rfl FL_X6_206 rfl (by decide) rfl ?_
      refine V.i2l dX6_by_63 (pc' := 64) rfl ?_
      obtain ⟨q9, eq9, e⟩ := bd_s e
      refine V.callVv dX6_by_64 (pc' := 67) rfl CV_X6_18 (as := [.long ((h8.1 54 19).toInt64)]) (kX6_enters h8 ((h8.1 54 19).toInt64) q9 eq9) (Gs_rm (by decide)) rfl (by decide) rfl (Nat.le_of_ble_eq_true rfl) rfl ?_
      refine V.alq dX6_by_67 (pc' := 68) rfl (j := 2) rfl ?_
      refine V.sipush dX6_by_68 (pc' := 71) rfl (v := 1000) (by decide) ?_
      refine V.ilq dX6_by_71 (pc' := 72) rfl (j := 0) rfl ?_
      refine V.iadd dX6_by_72 (pc' := 73) rfl ?_
      refine V.i2l dX6_by_73 (pc' := 74) rfl ?_
      obtain ⟨q10, eq10, e⟩ := bd_s e
      refine V.callVv dX6_by_74 (pc' := 77) rfl CV_X6_18 (as := [.long (((1000 : Int32) + q6.1).toInt64)]) (kX6_enters q9 (((1000 : Int32) + q6.1).toInt64) q10 eq10) (Gs_rm (by decide)) rfl (by decide) rfl (Nat.le_of_ble_eq_true rfl) rfl ?_
      refine V.alq dX6_by_77 (pc' := 78) rfl (j := 2) rfl ?_
      refine V.getf dX6_by_78 (pc' := 81) rfl FL_X6_200 rfl (by decide) rfl ?_
      exact V.iret dX6_by_81 rfl (fnI e)
    · rw [if_pos c] at e
      refine V.bipush dX6_by_26 (pc' := 28) rfl (v := -2) (by decide) ?_
      exact V.iret dX6_by_28 rfl (fnI e)
  · rw [if_pos c] at e
    refine V.iconst dX6_by_17 (pc' := 18) rfl (v := -1) (by decide) ?_
    exact V.iret dX6_by_18 rfl (fnI e)

-- X6_fuelBy (level 5)
theorem dX6_fuelBy_0 : decode cX6_fuelBy 0 = .ok (.aload_n 0, 1) := by decide +kernel
theorem dX6_fuelBy_1 : decode cX6_fuelBy 1 = .ok (.getfield 66, 3) := by decide +kernel
theorem dX6_fuelBy_4 : decode cX6_fuelBy 4 = .ok (.istore_n 2, 1) := by decide +kernel
theorem dX6_fuelBy_5 : decode cX6_fuelBy 5 = .ok (.aload_n 0, 1) := by decide +kernel
theorem dX6_fuelBy_6 : decode cX6_fuelBy 6 = .ok (.iload_n 1, 1) := by decide +kernel
theorem dX6_fuelBy_7 : decode cX6_fuelBy 7 = .ok (.putfield 66, 3) := by decide +kernel
theorem dX6_fuelBy_10 : decode cX6_fuelBy 10 = .ok (.aload_n 0, 1) := by decide +kernel
theorem dX6_fuelBy_11 : decode cX6_fuelBy 11 = .ok (.invokevirtual 209, 3) := by decide +kernel
theorem dX6_fuelBy_14 : decode cX6_fuelBy 14 = .ok (.aload_n 0, 1) := by decide +kernel
theorem dX6_fuelBy_15 : decode cX6_fuelBy 15 = .ok (.iload_n 2, 1) := by decide +kernel
theorem dX6_fuelBy_16 : decode cX6_fuelBy 16 = .ok (.putfield 66, 3) := by decide +kernel
theorem dX6_fuelBy_19 : decode cX6_fuelBy 19 = .ok (.aload_n 0, 1) := by decide +kernel
theorem dX6_fuelBy_20 : decode cX6_fuelBy 20 = .ok (.getfield 200, 3) := by decide +kernel
theorem dX6_fuelBy_23 : decode cX6_fuelBy 23 = .ok (.ireturn, 1) := by decide +kernel
def sX6_fuelBy (h : Hp) (a1 : Int32) : Option (Int32 × Hp) :=
  nm ((h.1 54 11)) fun x1 => nm (u1 h 54 11 a1) fun h2 => (sX6_works h2).bind fun q3 => nm (u1 q3 54 11 x1) fun h4 => some ((h4.1 54 18), h4)
set_option maxRecDepth 10000 in
theorem kX6_fuelBy (h : Hp) (a1 : Int32) (q : (Int32 × Hp)) (e : sX6_fuelBy h a1 = some q) : K 5 mX6_fuelBy [.ref 54, .int a1] h (pI q) := by
  unfold sX6_fuelBy at e
  refine K.ofV (by decide) rfl (Nat.le_of_ble_eq_true rfl) ?_
  show V (Gs 5 (pI q)) mX6_fuelBy (0, 0) 0 [(0, .ref 54), (1, .int a1)] [] h
  refine V.alq dX6_fuelBy_0 (pc' := 1) rfl (j := 0) rfl ?_
  refine V.getf dX6_fuelBy_1 (pc' := 4) rfl FL_X6_66 rfl (by decide) rfl ?_
  obtain ⟨x1, ex1, e⟩ := nm_s e
  refine V.isq dX6_fuelBy_4 (pc' := 5) rfl (by decide) ex1 (L' := [(2, .int x1), (0, .ref 54), (1, .int a1)]) rfl ?_
  refine V.alq dX6_fuelBy_5 (pc' := 6) rfl (j := 1) rfl ?_
  refine V.ilq dX6_fuelBy_6 (pc' := 7) rfl (j := 2) rfl ?_
  obtain ⟨h2, eh2, e⟩ := nm_s e
  refine V.putf dX6_fuelBy_7 (pc' := 10) rfl FP_X6_66 rfl (by decide) rfl eh2 ?_
  refine V.alq dX6_fuelBy_10 (pc' := 11) rfl (j := 1) rfl ?_
  obtain ⟨q3, eq3, e⟩ := bd_s e
  refine V.callVv dX6_fuelBy_11 (pc' := 14) rfl CV_X6_209 (as := []) (kX6_works h2 q3 eq3) (Gs_rm (by decide)) rfl (by decide) rfl (Nat.le_of_ble_eq_true rfl) rfl ?_
  refine V.alq dX6_fuelBy_14 (pc' := 15) rfl (j := 1) rfl ?_
  refine V.ilq dX6_fuelBy_15 (pc' := 16) rfl (j := 0) rfl ?_
  obtain ⟨h4, eh4, e⟩ := nm_s e
  refine V.putf dX6_fuelBy_16 (pc' := 19) rfl FP_X6_66 rfl (by decide) rfl eh4 ?_
  refine V.alq dX6_fuelBy_19 (pc' := 20) rfl (j := 1) rfl ?_
  refine V.getf dX6_fuelBy_20 (pc' := 23) rfl FL_X6_200 rfl (by decide) rfl ?_
  exact V.iret dX6_fuelBy_23 rfl (fnI e)

-- X6_were (level 5)
theorem dX6_were_0 : decode cX6_were 0 = .ok (.aload_n 0, 1) := by decide +kernel
theorem dX6_were_1 : decode cX6_were 1 = .ok (.iconst 0, 1) := by decide +kernel
theorem dX6_were_2 : decode cX6_were 2 = .ok (.putfield 1, 3) := by decide +kernel
theorem dX6_were_5 : decode cX6_were 5 = .ok (.aload_n 0, 1) := by decide +kernel
theorem dX6_were_6 : decode cX6_were 6 = .ok (.iload_n 1, 1) := by decide +kernel
theorem dX6_were_7 : decode cX6_were 7 = .ok (.iload_n 2, 1) := by decide +kernel
theorem dX6_were_8 : decode cX6_were 8 = .ok (.iload_n 3, 1) := by decide +kernel
theorem dX6_were_9 : decode cX6_were 9 = .ok (.invokevirtual 147, 3) := by decide +kernel
theorem dX6_were_12 : decode cX6_were 12 = .ok (.ifCond .ne 5, 3) := by decide +kernel
theorem dX6_were_15 : decode cX6_were 15 = .ok (.iconst (-1), 1) := by decide +kernel
theorem dX6_were_16 : decode cX6_were 16 = .ok (.ireturn, 1) := by decide +kernel
theorem dX6_were_17 : decode cX6_were 17 = .ok (.aload_n 0, 1) := by decide +kernel
theorem dX6_were_18 : decode cX6_were 18 = .ok (.iload_n 1, 1) := by decide +kernel
theorem dX6_were_19 : decode cX6_were 19 = .ok (.iload_n 2, 1) := by decide +kernel
theorem dX6_were_20 : decode cX6_were 20 = .ok (.iload_n 3, 1) := by decide +kernel
theorem dX6_were_21 : decode cX6_were 21 = .ok (.invokevirtual 155, 3) := by decide +kernel
theorem dX6_were_24 : decode cX6_were 24 = .ok (.ifCond .eq 6, 3) := by decide +kernel
theorem dX6_were_27 : decode cX6_were 27 = .ok (.bipush (-3), 2) := by decide +kernel
theorem dX6_were_29 : decode cX6_were 29 = .ok (.ireturn, 1) := by decide +kernel
theorem dX6_were_30 : decode cX6_were 30 = .ok (.aload_n 0, 1) := by decide +kernel
theorem dX6_were_31 : decode cX6_were 31 = .ok (.invokevirtual 209, 3) := by decide +kernel
theorem dX6_were_34 : decode cX6_were 34 = .ok (.aload_n 0, 1) := by decide +kernel
theorem dX6_were_35 : decode cX6_were 35 = .ok (.getfield 200, 3) := by decide +kernel
theorem dX6_were_38 : decode cX6_were 38 = .ok (.istore 4, 2) := by decide +kernel
theorem dX6_were_40 : decode cX6_were 40 = .ok (.aload_n 0, 1) := by decide +kernel
theorem dX6_were_41 : decode cX6_were 41 = .ok (.iload_n 1, 1) := by decide +kernel
theorem dX6_were_42 : decode cX6_were 42 = .ok (.iload_n 2, 1) := by decide +kernel
theorem dX6_were_43 : decode cX6_were 43 = .ok (.invokevirtual 151, 3) := by decide +kernel
theorem dX6_were_46 : decode cX6_were 46 = .ok (.istore 5, 2) := by decide +kernel
theorem dX6_were_48 : decode cX6_were 48 = .ok (.aload_n 0, 1) := by decide +kernel
theorem dX6_were_49 : decode cX6_were 49 = .ok (.iload_n 1, 1) := by decide +kernel
theorem dX6_were_50 : decode cX6_were 50 = .ok (.iload_n 2, 1) := by decide +kernel
theorem dX6_were_51 : decode cX6_were 51 = .ok (.iload_n 3, 1) := by decide +kernel
theorem dX6_were_52 : decode cX6_were 52 = .ok (.invokevirtual 158, 3) := by decide +kernel
theorem dX6_were_55 : decode cX6_were 55 = .ok (.aload_n 0, 1) := by decide +kernel
theorem dX6_were_56 : decode cX6_were 56 = .ok (.invokevirtual 209, 3) := by decide +kernel
theorem dX6_were_59 : decode cX6_were 59 = .ok (.aload_n 0, 1) := by decide +kernel
theorem dX6_were_60 : decode cX6_were 60 = .ok (.iload_n 1, 1) := by decide +kernel
theorem dX6_were_61 : decode cX6_were 61 = .ok (.iload_n 2, 1) := by decide +kernel
theorem dX6_were_62 : decode cX6_were 62 = .ok (.iload 5, 2) := by decide +kernel
theorem dX6_were_64 : decode cX6_were 64 = .ok (.invokevirtual 158, 3) := by decide +kernel
theorem dX6_were_67 : decode cX6_were 67 = .ok (.aload_n 0, 1) := by decide +kernel
theorem dX6_were_68 : decode cX6_were 68 = .ok (.iconst 0, 1) := by decide +kernel
theorem dX6_were_69 : decode cX6_were 69 = .ok (.putfield 11, 3) := by decide +kernel
theorem dX6_were_72 : decode cX6_were 72 = .ok (.aload_n 0, 1) := by decide +kernel
theorem dX6_were_73 : decode cX6_were 73 = .ok (.aload_n 0, 1) := by decide +kernel
theorem dX6_were_74 : decode cX6_were 74 = .ok (.getfield 206, 3) := by decide +kernel
theorem dX6_were_77 : decode cX6_were 77 = .ok (.i2l, 1) := by decide +kernel
theorem dX6_were_78 : decode cX6_were 78 = .ok (.invokevirtual 18, 3) := by decide +kernel
theorem dX6_were_81 : decode cX6_were 81 = .ok (.aload_n 0, 1) := by decide +kernel
theorem dX6_were_82 : decode cX6_were 82 = .ok (.aload_n 0, 1) := by decide +kernel
theorem dX6_were_83 : decode cX6_were 83 = .ok (.getfield 200, 3) := by decide +kernel
theorem dX6_were_86 : decode cX6_were 86 = .ok (.iload 4, 2) := by decide +kernel
theorem dX6_were_88 : decode cX6_were 88 = .ok (.isub, 1) := by decide +kernel
theorem dX6_were_89 : decode cX6_were 89 = .ok (.i2l, 1) := by decide +kernel
theorem dX6_were_90 : decode cX6_were 90 = .ok (.invokevirtual 18, 3) := by decide +kernel
theorem dX6_were_93 : decode cX6_were 93 = .ok (.aload_n 0, 1) := by decide +kernel
theorem dX6_were_94 : decode cX6_were 94 = .ok (.getfield 200, 3) := by decide +kernel
theorem dX6_were_97 : decode cX6_were 97 = .ok (.ireturn, 1) := by decide +kernel
def sX6_were (h : Hp) (a1 : Int32) (a2 : Int32) (a3 : Int32) : Option (Int32 × Hp) :=
  nm (u1 h 54 0 (0 : Int32)) fun h1 => (sX6_canSet h1 a1 a2 a3).bind fun q2 => if q2.1 = 0 then (some ((-1 : Int32), q2.2)) else ((sX6_wouldTurn q2.2 a1 a2 a3).bind fun q3 => if q3.1 = 0 then ((sX6_works q3.2).bind fun q4 => nm ((q4.1 54 18)) fun x5 => (sX6_of q4 a1 a2).bind fun q6 => (sX6_becomes q6.2 a1 a2 a3).bind fun q7 => (sX6_works q7).bind fun q8 => (sX6_becomes q8 a1 a2 q6.1).bind fun q9 => nm (u1 q9 54 1 (0 : Int32)) fun h10 => (sX6_enters h10 ((h10.1 54 19).toInt64)).bind fun q11 => (sX6_enters q11 (((q11.1 54 18) - x5).toInt64)).bind fun q12 => some ((q12.1 54 18), q12)) else (some ((-3 : Int32), q3.2)))
set_option maxRecDepth 10000 in
theorem kX6_were (h : Hp) (a1 : Int32) (a2 : Int32) (a3 : Int32) (q : (Int32 × Hp)) (e : sX6_were h a1 a2 a3 = some q) : K 5 mX6_were [.ref 54, .int a1, .int a2, .int a3] h (pI q) := by
  unfold sX6_were at e
  refine K.ofV (by decide) rfl (Nat.le_of_ble_eq_true rfl) ?_
  show V (Gs 5 (pI q)) mX6_were (0, 0) 0 [(0, .ref 54), (1, .int a1), (2, .int a2), (3, .int a3)] [] h
  refine V.alq dX6_were_0 (pc' := 1) rfl (j := 0) rfl ?_
  refine V.iconst dX6_were_1 (pc' := 2) rfl (v := 0) (by decide) ?_
  obtain ⟨h1, eh1, e⟩ := nm_s e
  refine V.putf dX6_were_2 (pc' := 5) rfl FP_X6_1 rfl (by decide) rfl eh1 ?_
  refine V.alq dX6_were_5 (pc' := 6) rfl (j := 0) rfl ?_
  refine V.ilq dX6_were_6 (pc' := 7) rfl (j := 1) rfl ?_
  refine V.ilq dX6_were_7 (pc' := 8) rfl (j := 2) rfl ?_
  refine V.ilq dX6_were_8 (pc' := 9) rfl (j := 3) rfl ?_
  obtain ⟨q2, eq2, e⟩ := bd_s e
  refine V.callVi dX6_were_9 (pc' := 12) rfl CV_X6_147 (as := [.int a1, .int a2, .int a3]) (kX6_canSet h1 a1 a2 a3 q2 eq2) (Gs_rm (by decide)) rfl (by decide) rfl (Nat.le_of_ble_eq_true rfl) rfl ?_
  refine V.if_ne dX6_were_12 (pc' := 15) rfl (tgt := 17) (by decide) (fun c => ?_) (fun c => ?_)
  · rw [if_neg c] at e
    refine V.alq dX6_were_17 (pc' := 18) rfl (j := 0) rfl ?_
    refine V.ilq dX6_were_18 (pc' := 19) rfl (j := 1) rfl ?_
    refine V.ilq dX6_were_19 (pc' := 20) rfl (j := 2) rfl ?_
    refine V.ilq dX6_were_20 (pc' := 21) rfl (j := 3) rfl ?_
    obtain ⟨q3, eq3, e⟩ := bd_s e
    refine V.callVi dX6_were_21 (pc' := 24) rfl CV_X6_155 (as := [.int a1, .int a2, .int a3]) (kX6_wouldTurn q2.2 a1 a2 a3 q3 eq3) (Gs_rm (by decide)) rfl (by decide) rfl (Nat.le_of_ble_eq_true rfl) rfl ?_
    refine V.if_eq dX6_were_24 (pc' := 27) rfl (tgt := 30) (by decide) (fun c => ?_) (fun c => ?_)
    · rw [if_pos c] at e
      refine V.alq dX6_were_30 (pc' := 31) rfl (j := 0) rfl ?_
      obtain ⟨q4, eq4, e⟩ := bd_s e
      refine V.callVv dX6_were_31 (pc' := 34) rfl CV_X6_209 (as := []) (kX6_works q3.2 q4 eq4) (Gs_rm (by decide)) rfl (by decide) rfl (Nat.le_of_ble_eq_true rfl) rfl ?_
      refine V.alq dX6_were_34 (pc' := 35) rfl (j := 0) rfl ?_
      refine V.getf dX6_were_35 (pc' := 38) rfl FL_X6_200 rfl (by decide) rfl ?_
      obtain ⟨x5, ex5, e⟩ := nm_s e
      refine V.is dX6_were_38 (pc' := 40) rfl (by decide) ex5 (L' := [(4, .int x5), (0, .ref 54), (1, .int a1), (2, .int a2), (3, .int a3)]) rfl ?_
      refine V.alq dX6_were_40 (pc' := 41) rfl (j := 1) rfl ?_
      refine V.ilq dX6_were_41 (pc' := 42) rfl (j := 2) rfl ?_
      refine V.ilq dX6_were_42 (pc' := 43) rfl (j := 3) rfl ?_
      obtain ⟨q6, eq6, e⟩ := bd_s e
      refine V.callVi dX6_were_43 (pc' := 46) rfl CV_X6_151 (as := [.int a1, .int a2]) (kX6_of q4 a1 a2 q6 eq6) (Gs_rm (by decide)) rfl (by decide) rfl (Nat.le_of_ble_eq_true rfl) rfl ?_
      refine V.is dX6_were_46 (pc' := 48) rfl (by decide) rfl (L' := [(5, .int q6.1), (4, .int x5), (0, .ref 54), (1, .int a1), (2, .int a2), (3, .int a3)]) rfl ?_
      refine V.alq dX6_were_48 (pc' := 49) rfl (j := 2) rfl ?_
      refine V.ilq dX6_were_49 (pc' := 50) rfl (j := 3) rfl ?_
      refine V.ilq dX6_were_50 (pc' := 51) rfl (j := 4) rfl ?_
      refine V.ilq dX6_were_51 (pc' := 52) rfl (j := 5) rfl ?_
      obtain ⟨q7, eq7, e⟩ := bd_s e
      refine V.callVv dX6_were_52 (pc' := 55) rfl CV_X6_158 (as := [.int a1, .int a2, .int a3]) (kX6_becomes q6.2 a1 a2 a3 q7 eq7) (Gs_rm (by decide)) rfl (by decide) rfl (Nat.le_of_ble_eq_true rfl) rfl ?_
      refine V.alq dX6_were_55 (pc' := 56) rfl (j := 2) rfl ?_
      obtain ⟨q8, eq8, e⟩ := bd_s e
      refine V.callVv dX6_were_56 (pc' := 59) rfl CV_X6_209 (as := []) (kX6_works q7 q8 eq8) (Gs_rm (by decide)) rfl (by decide) rfl (Nat.le_of_ble_eq_true rfl) rfl ?_
      refine V.alq dX6_were_59 (pc' := 60) rfl (j := 2) rfl ?_
      refine V.ilq dX6_were_60 (pc' := 61) rfl (j := 3) rfl ?_
      refine V.ilq dX6_were_61 (pc' := 62) rfl (j := 4) rfl ?_
      refine V.il dX6_were_62 (pc' := 64) rfl (j := 0) rfl ?_
      obtain ⟨q9, eq9, e⟩ := bd_s e
      refine V.callVv dX6_were_64 (pc' := 67) rfl CV_X6_158 (as := [.int a1, .int a2, .int q6.1]) (kX6_becomes q8 a1 a2 q6.1 q9 eq9) (Gs_rm (by decide)) rfl (by decide) rfl (Nat.le_of_ble_eq_true rfl) rfl ?_
      refine V.alq dX6_were_67 (pc' := 68) rfl (j := 2) rfl ?_
      refine V.iconst dX6_were_68 (pc' := 69) rfl (v := 0) (by decide) ?_
      obtain ⟨h10, eh10, e⟩ := nm_s e
      refine V.putf dX6_were_69 (pc' := 72) rfl FP_X6_11 rfl (by decide) rfl eh10 ?_
      refine V.alq dX6_were_72 (pc' := 73) rfl (j := 2) rfl ?_
      refine V.alq dX6_were_73 (pc' := 74) rfl (j := 2) rfl ?_
      refine V.getf dX6_were_74 (pc' := 77) rfl FL_X6_206 rfl (by decide) rfl ?_
      refine V.i2l dX6_were_77 (pc' := 78) rfl ?_
      obtain ⟨q11, eq11, e⟩ := bd_s e
      refine V.callVv dX6_were_78 (pc' := 81) rfl CV_X6_18 (as := [.long ((h10.1 54 19).toInt64)]) (kX6_enters h10 ((h10.1 54 19).toInt64) q11 eq11) (Gs_rm (by decide)) rfl (by decide) rfl (Nat.le_of_ble_eq_true rfl) rfl ?_
      refine V.alq dX6_were_81 (pc' := 82) rfl (j := 2) rfl ?_
      refine V.alq dX6_were_82 (pc' := 83) rfl (j := 2) rfl ?_
      refine V.getf dX6_were_83 (pc' := 86) rfl FL_X6_200 rfl (by decide) rfl ?_
      refine V.il dX6_were_86 (pc' := 88) rfl (j := 1) rfl ?_
      refine V.isub dX6_were_88 (pc' := 89) rfl ?_
      refine V.i2l dX6_were_89 (pc' := 90) rfl ?_
      obtain ⟨q12, eq12, e⟩ := bd_s e
      refine V.callVv dX6_were_90 (pc' := 93) rfl CV_X6_18 (as := [.long (((q11.1 54 18) - x5).toInt64)]) (kX6_enters q11 (((q11.1 54 18) - x5).toInt64) q12 eq12) (Gs_rm (by decide)) rfl (by decide) rfl (Nat.le_of_ble_eq_true rfl) rfl ?_
      refine V.alq dX6_were_93 (pc' := 94) rfl (j := 2) rfl ?_
      refine V.getf dX6_were_94 (pc' := 97) rfl FL_X6_200 rfl (by decide) rfl ?_
      exact V.iret dX6_were_97 rfl (fnI e)
    · rw [if_neg c] at e
      refine V.bipush dX6_were_27 (pc' := 29) rfl (v := -3) (by decide) ?_
      exact V.iret dX6_were_29 rfl (fnI e)
  · rw [if_pos c] at e
    refine V.iconst dX6_were_15 (pc' := 16) rfl (v := -1) (by decide) ?_
    exact V.iret dX6_were_16 rfl (fnI e)

-- X6_fuelWithout (level 5)
theorem dX6_fuelWithout_0 : decode cX6_fuelWithout 0 = .ok (.aload_n 0, 1) := by decide +kernel
theorem dX6_fuelWithout_1 : decode cX6_fuelWithout 1 = .ok (.getfield 57, 3) := by decide +kernel
theorem dX6_fuelWithout_4 : decode cX6_fuelWithout 4 = .ok (.iload_n 1, 1) := by decide +kernel
theorem dX6_fuelWithout_5 : decode cX6_fuelWithout 5 = .ok (.iaload, 1) := by decide +kernel
theorem dX6_fuelWithout_6 : decode cX6_fuelWithout 6 = .ok (.istore_n 2, 1) := by decide +kernel
theorem dX6_fuelWithout_7 : decode cX6_fuelWithout 7 = .ok (.aload_n 0, 1) := by decide +kernel
theorem dX6_fuelWithout_8 : decode cX6_fuelWithout 8 = .ok (.getfield 60, 3) := by decide +kernel
theorem dX6_fuelWithout_11 : decode cX6_fuelWithout 11 = .ok (.iload_n 1, 1) := by decide +kernel
theorem dX6_fuelWithout_12 : decode cX6_fuelWithout 12 = .ok (.iaload, 1) := by decide +kernel
theorem dX6_fuelWithout_13 : decode cX6_fuelWithout 13 = .ok (.istore_n 3, 1) := by decide +kernel
theorem dX6_fuelWithout_14 : decode cX6_fuelWithout 14 = .ok (.aload_n 0, 1) := by decide +kernel
theorem dX6_fuelWithout_15 : decode cX6_fuelWithout 15 = .ok (.getfield 63, 3) := by decide +kernel
theorem dX6_fuelWithout_18 : decode cX6_fuelWithout 18 = .ok (.iload_n 1, 1) := by decide +kernel
theorem dX6_fuelWithout_19 : decode cX6_fuelWithout 19 = .ok (.iaload, 1) := by decide +kernel
theorem dX6_fuelWithout_20 : decode cX6_fuelWithout 20 = .ok (.istore 4, 2) := by decide +kernel
theorem dX6_fuelWithout_22 : decode cX6_fuelWithout 22 = .ok (.aload_n 0, 1) := by decide +kernel
theorem dX6_fuelWithout_23 : decode cX6_fuelWithout 23 = .ok (.iload_n 1, 1) := by decide +kernel
theorem dX6_fuelWithout_24 : decode cX6_fuelWithout 24 = .ok (.invokevirtual 164, 3) := by decide +kernel
theorem dX6_fuelWithout_27 : decode cX6_fuelWithout 27 = .ok (.aload_n 0, 1) := by decide +kernel
theorem dX6_fuelWithout_28 : decode cX6_fuelWithout 28 = .ok (.invokevirtual 209, 3) := by decide +kernel
theorem dX6_fuelWithout_31 : decode cX6_fuelWithout 31 = .ok (.aload_n 0, 1) := by decide +kernel
theorem dX6_fuelWithout_32 : decode cX6_fuelWithout 32 = .ok (.getfield 131, 3) := by decide +kernel
theorem dX6_fuelWithout_35 : decode cX6_fuelWithout 35 = .ok (.istore 5, 2) := by decide +kernel
theorem dX6_fuelWithout_37 : decode cX6_fuelWithout 37 = .ok (.iload 5, 2) := by decide +kernel
theorem dX6_fuelWithout_39 : decode cX6_fuelWithout 39 = .ok (.iload_n 1, 1) := by decide +kernel
theorem dX6_fuelWithout_40 : decode cX6_fuelWithout 40 = .ok (.if_icmp .le 57, 3) := by decide +kernel
theorem dX6_fuelWithout_43 : decode cX6_fuelWithout 43 = .ok (.aload_n 0, 1) := by decide +kernel
theorem dX6_fuelWithout_44 : decode cX6_fuelWithout 44 = .ok (.getfield 57, 3) := by decide +kernel
theorem dX6_fuelWithout_47 : decode cX6_fuelWithout 47 = .ok (.iload 5, 2) := by decide +kernel
theorem dX6_fuelWithout_49 : decode cX6_fuelWithout 49 = .ok (.aload_n 0, 1) := by decide +kernel
theorem dX6_fuelWithout_50 : decode cX6_fuelWithout 50 = .ok (.getfield 57, 3) := by decide +kernel
theorem dX6_fuelWithout_53 : decode cX6_fuelWithout 53 = .ok (.iload 5, 2) := by decide +kernel
theorem dX6_fuelWithout_55 : decode cX6_fuelWithout 55 = .ok (.iconst 1, 1) := by decide +kernel
theorem dX6_fuelWithout_56 : decode cX6_fuelWithout 56 = .ok (.isub, 1) := by decide +kernel
theorem dX6_fuelWithout_57 : decode cX6_fuelWithout 57 = .ok (.iaload, 1) := by decide +kernel
theorem dX6_fuelWithout_58 : decode cX6_fuelWithout 58 = .ok (.iastore, 1) := by decide +kernel
theorem dX6_fuelWithout_59 : decode cX6_fuelWithout 59 = .ok (.aload_n 0, 1) := by decide +kernel
theorem dX6_fuelWithout_60 : decode cX6_fuelWithout 60 = .ok (.getfield 60, 3) := by decide +kernel
theorem dX6_fuelWithout_63 : decode cX6_fuelWithout 63 = .ok (.iload 5, 2) := by decide +kernel
theorem dX6_fuelWithout_65 : decode cX6_fuelWithout 65 = .ok (.aload_n 0, 1) := by decide +kernel
theorem dX6_fuelWithout_66 : decode cX6_fuelWithout 66 = .ok (.getfield 60, 3) := by decide +kernel
theorem dX6_fuelWithout_69 : decode cX6_fuelWithout 69 = .ok (.iload 5, 2) := by decide +kernel
theorem dX6_fuelWithout_71 : decode cX6_fuelWithout 71 = .ok (.iconst 1, 1) := by decide +kernel
theorem dX6_fuelWithout_72 : decode cX6_fuelWithout 72 = .ok (.isub, 1) := by decide +kernel
theorem dX6_fuelWithout_73 : decode cX6_fuelWithout 73 = .ok (.iaload, 1) := by decide +kernel
theorem dX6_fuelWithout_74 : decode cX6_fuelWithout 74 = .ok (.iastore, 1) := by decide +kernel
theorem dX6_fuelWithout_75 : decode cX6_fuelWithout 75 = .ok (.aload_n 0, 1) := by decide +kernel
theorem dX6_fuelWithout_76 : decode cX6_fuelWithout 76 = .ok (.getfield 63, 3) := by decide +kernel
theorem dX6_fuelWithout_79 : decode cX6_fuelWithout 79 = .ok (.iload 5, 2) := by decide +kernel
theorem dX6_fuelWithout_81 : decode cX6_fuelWithout 81 = .ok (.aload_n 0, 1) := by decide +kernel
theorem dX6_fuelWithout_82 : decode cX6_fuelWithout 82 = .ok (.getfield 63, 3) := by decide +kernel
theorem dX6_fuelWithout_85 : decode cX6_fuelWithout 85 = .ok (.iload 5, 2) := by decide +kernel
theorem dX6_fuelWithout_87 : decode cX6_fuelWithout 87 = .ok (.iconst 1, 1) := by decide +kernel
theorem dX6_fuelWithout_88 : decode cX6_fuelWithout 88 = .ok (.isub, 1) := by decide +kernel
theorem dX6_fuelWithout_89 : decode cX6_fuelWithout 89 = .ok (.iaload, 1) := by decide +kernel
theorem dX6_fuelWithout_90 : decode cX6_fuelWithout 90 = .ok (.iastore, 1) := by decide +kernel
theorem dX6_fuelWithout_91 : decode cX6_fuelWithout 91 = .ok (.iinc 5 (-1), 3) := by decide +kernel
theorem dX6_fuelWithout_94 : decode cX6_fuelWithout 94 = .ok (.goto (-57), 3) := by decide +kernel
theorem dX6_fuelWithout_97 : decode cX6_fuelWithout 97 = .ok (.aload_n 0, 1) := by decide +kernel
theorem dX6_fuelWithout_98 : decode cX6_fuelWithout 98 = .ok (.getfield 57, 3) := by decide +kernel
theorem dX6_fuelWithout_101 : decode cX6_fuelWithout 101 = .ok (.iload_n 1, 1) := by decide +kernel
theorem dX6_fuelWithout_102 : decode cX6_fuelWithout 102 = .ok (.iload_n 2, 1) := by decide +kernel
theorem dX6_fuelWithout_103 : decode cX6_fuelWithout 103 = .ok (.iastore, 1) := by decide +kernel
theorem dX6_fuelWithout_104 : decode cX6_fuelWithout 104 = .ok (.aload_n 0, 1) := by decide +kernel
theorem dX6_fuelWithout_105 : decode cX6_fuelWithout 105 = .ok (.getfield 60, 3) := by decide +kernel
theorem dX6_fuelWithout_108 : decode cX6_fuelWithout 108 = .ok (.iload_n 1, 1) := by decide +kernel
theorem dX6_fuelWithout_109 : decode cX6_fuelWithout 109 = .ok (.iload_n 3, 1) := by decide +kernel
theorem dX6_fuelWithout_110 : decode cX6_fuelWithout 110 = .ok (.iastore, 1) := by decide +kernel
theorem dX6_fuelWithout_111 : decode cX6_fuelWithout 111 = .ok (.aload_n 0, 1) := by decide +kernel
theorem dX6_fuelWithout_112 : decode cX6_fuelWithout 112 = .ok (.getfield 63, 3) := by decide +kernel
theorem dX6_fuelWithout_115 : decode cX6_fuelWithout 115 = .ok (.iload_n 1, 1) := by decide +kernel
theorem dX6_fuelWithout_116 : decode cX6_fuelWithout 116 = .ok (.iload 4, 2) := by decide +kernel
theorem dX6_fuelWithout_118 : decode cX6_fuelWithout 118 = .ok (.iastore, 1) := by decide +kernel
theorem dX6_fuelWithout_119 : decode cX6_fuelWithout 119 = .ok (.aload_n 0, 1) := by decide +kernel
theorem dX6_fuelWithout_120 : decode cX6_fuelWithout 120 = .ok (.dup, 1) := by decide +kernel
theorem dX6_fuelWithout_121 : decode cX6_fuelWithout 121 = .ok (.getfield 131, 3) := by decide +kernel
theorem dX6_fuelWithout_124 : decode cX6_fuelWithout 124 = .ok (.iconst 1, 1) := by decide +kernel
theorem dX6_fuelWithout_125 : decode cX6_fuelWithout 125 = .ok (.iadd, 1) := by decide +kernel
theorem dX6_fuelWithout_126 : decode cX6_fuelWithout 126 = .ok (.putfield 131, 3) := by decide +kernel
theorem dX6_fuelWithout_129 : decode cX6_fuelWithout 129 = .ok (.aload_n 0, 1) := by decide +kernel
theorem dX6_fuelWithout_130 : decode cX6_fuelWithout 130 = .ok (.aload_n 0, 1) := by decide +kernel
theorem dX6_fuelWithout_131 : decode cX6_fuelWithout 131 = .ok (.getfield 206, 3) := by decide +kernel
theorem dX6_fuelWithout_134 : decode cX6_fuelWithout 134 = .ok (.putfield 232, 3) := by decide +kernel
theorem dX6_fuelWithout_137 : decode cX6_fuelWithout 137 = .ok (.aload_n 0, 1) := by decide +kernel
theorem dX6_fuelWithout_138 : decode cX6_fuelWithout 138 = .ok (.getfield 200, 3) := by decide +kernel
theorem dX6_fuelWithout_141 : decode cX6_fuelWithout 141 = .ok (.ireturn, 1) := by decide +kernel
def sX6_fuelWithout_c37 (k37 : Hp → Int32 → Int32 → Int32 → Int32 → Int32 → Option (Int32 × Hp)) (h : Hp) (v1 : Int32) (v2 : Int32) (v3 : Int32) (v4 : Int32) (v5 : Int32) : Option (Int32 × Hp) :=
  if v5 ≤ v1 then (gd (inb v1 10) (nm (u1 h 57 v1.toNatClampNeg v2) fun h11 => gd (inb v1 10) (nm (u1 h11 58 v1.toNatClampNeg v3) fun h13 => gd (inb v1 10) (nm (u1 h13 59 v1.toNatClampNeg v4) fun h15 => nm (u1 h15 54 7 ((h15.1 54 7) + (1 : Int32))) fun h16 => nm (u1 h16 54 20 (h16.1 54 19)) fun h17 => some ((h17.1 54 18), h17))))) else (gd (inb (v5 - (1 : Int32)) 10) (gd (inb v5 10) (nm (u1 h 57 v5.toNatClampNeg (h.1 57 (v5 - (1 : Int32)).toNatClampNeg)) fun h20 => gd (inb (v5 - (1 : Int32)) 10) (gd (inb v5 10) (nm (u1 h20 58 v5.toNatClampNeg (h20.1 58 (v5 - (1 : Int32)).toNatClampNeg)) fun h23 => gd (inb (v5 - (1 : Int32)) 10) (gd (inb v5 10) (nm (u1 h23 59 v5.toNatClampNeg (h23.1 59 (v5 - (1 : Int32)).toNatClampNeg)) fun h26 => nm (v5 + (-1 : Int32)) fun x27 => k37 h26 v1 v2 v3 v4 x27)))))))
set_option maxRecDepth 10000 in
theorem vX6_fuelWithout_c37 (k37 : Hp → Int32 → Int32 → Int32 → Int32 → Int32 → Option (Int32 × Hp)) (hk37 : ∀ (h : Hp) (v1 : Int32) (v2 : Int32) (v3 : Int32) (v4 : Int32) (v5 : Int32) (q : (Int32 × Hp)), k37 h v1 v2 v3 v4 v5 = some q → V (Gs 5 (pI q)) mX6_fuelWithout (0, 0) 37 [(0, .ref 54), (1, .int v1), (2, .int v2), (3, .int v3), (4, .int v4), (5, .int v5)] [] h) (h : Hp) (v1 : Int32) (v2 : Int32) (v3 : Int32) (v4 : Int32) (v5 : Int32) (q : (Int32 × Hp)) (e : sX6_fuelWithout_c37 k37 h v1 v2 v3 v4 v5 = some q) : V (Gs 5 (pI q)) mX6_fuelWithout (0, 0) 37 [(0, .ref 54), (1, .int v1), (2, .int v2), (3, .int v3), (4, .int v4), (5, .int v5)] [] h := by
  unfold sX6_fuelWithout_c37 at e
  refine V.il dX6_fuelWithout_37 (pc' := 39) rfl (j := 5) rfl ?_
  refine V.ilq dX6_fuelWithout_39 (pc' := 40) rfl (j := 1) rfl ?_
  refine V.ic_le dX6_fuelWithout_40 (pc' := 43) rfl (tgt := 97) (by decide) (fun c => ?_) (fun c => ?_)
  · rw [if_pos c] at e
    refine V.alq dX6_fuelWithout_97 (pc' := 98) rfl (j := 0) rfl ?_
    refine V.getr dX6_fuelWithout_98 (pc' := 101) rfl FL_X6_57 rfl (by decide) rfl (r' := 57) rfl ?_
    refine V.ilq dX6_fuelWithout_101 (pc' := 102) rfl (j := 1) rfl ?_
    refine V.ilq dX6_fuelWithout_102 (pc' := 103) rfl (j := 2) rfl ?_
    obtain ⟨c10, e⟩ := gd_s e
    obtain ⟨h11, eh11, e⟩ := nm_s e
    refine V.iast dX6_fuelWithout_103 (pc' := 104) rfl rfl rfl (inb_t c10) eh11 ?_
    refine V.alq dX6_fuelWithout_104 (pc' := 105) rfl (j := 0) rfl ?_
    refine V.getr dX6_fuelWithout_105 (pc' := 108) rfl FL_X6_60 rfl (by decide) rfl (r' := 58) rfl ?_
    refine V.ilq dX6_fuelWithout_108 (pc' := 109) rfl (j := 1) rfl ?_
    refine V.ilq dX6_fuelWithout_109 (pc' := 110) rfl (j := 3) rfl ?_
    obtain ⟨c12, e⟩ := gd_s e
    obtain ⟨h13, eh13, e⟩ := nm_s e
    refine V.iast dX6_fuelWithout_110 (pc' := 111) rfl rfl rfl (inb_t c12) eh13 ?_
    refine V.alq dX6_fuelWithout_111 (pc' := 112) rfl (j := 0) rfl ?_
    refine V.getr dX6_fuelWithout_112 (pc' := 115) rfl FL_X6_63 rfl (by decide) rfl (r' := 59) rfl ?_
    refine V.ilq dX6_fuelWithout_115 (pc' := 116) rfl (j := 1) rfl ?_
    refine V.il dX6_fuelWithout_116 (pc' := 118) rfl (j := 4) rfl ?_
    obtain ⟨c14, e⟩ := gd_s e
    obtain ⟨h15, eh15, e⟩ := nm_s e
    refine V.iast dX6_fuelWithout_118 (pc' := 119) rfl rfl rfl (inb_t c14) eh15 ?_
    refine V.alq dX6_fuelWithout_119 (pc' := 120) rfl (j := 0) rfl ?_
    refine V.dup dX6_fuelWithout_120 (pc' := 121) rfl rfl ?_
    refine V.getf dX6_fuelWithout_121 (pc' := 124) rfl FL_X6_131 rfl (by decide) rfl ?_
    refine V.iconst dX6_fuelWithout_124 (pc' := 125) rfl (v := 1) (by decide) ?_
    refine V.iadd dX6_fuelWithout_125 (pc' := 126) rfl ?_
    obtain ⟨h16, eh16, e⟩ := nm_s e
    refine V.putf dX6_fuelWithout_126 (pc' := 129) rfl FP_X6_131 rfl (by decide) rfl eh16 ?_
    refine V.alq dX6_fuelWithout_129 (pc' := 130) rfl (j := 0) rfl ?_
    refine V.alq dX6_fuelWithout_130 (pc' := 131) rfl (j := 0) rfl ?_
    refine V.getf dX6_fuelWithout_131 (pc' := 134) rfl FL_X6_206 rfl (by decide) rfl ?_
    obtain ⟨h17, eh17, e⟩ := nm_s e
    refine V.putf dX6_fuelWithout_134 (pc' := 137) rfl FP_X6_232 rfl (by decide) rfl eh17 ?_
    refine V.alq dX6_fuelWithout_137 (pc' := 138) rfl (j := 0) rfl ?_
    refine V.getf dX6_fuelWithout_138 (pc' := 141) rfl FL_X6_200 rfl (by decide) rfl ?_
    exact V.iret dX6_fuelWithout_141 rfl (fnI e)
  · rw [if_neg c] at e
    refine V.alq dX6_fuelWithout_43 (pc' := 44) rfl (j := 0) rfl ?_
    refine V.getr dX6_fuelWithout_44 (pc' := 47) rfl FL_X6_57 rfl (by decide) rfl (r' := 57) rfl ?_
    refine V.il dX6_fuelWithout_47 (pc' := 49) rfl (j := 5) rfl ?_
    refine V.alq dX6_fuelWithout_49 (pc' := 50) rfl (j := 0) rfl ?_
    refine V.getr dX6_fuelWithout_50 (pc' := 53) rfl FL_X6_57 rfl (by decide) rfl (r' := 57) rfl ?_
    refine V.il dX6_fuelWithout_53 (pc' := 55) rfl (j := 5) rfl ?_
    refine V.iconst dX6_fuelWithout_55 (pc' := 56) rfl (v := 1) (by decide) ?_
    refine V.isub dX6_fuelWithout_56 (pc' := 57) rfl ?_
    obtain ⟨c18, e⟩ := gd_s e
    refine V.iald dX6_fuelWithout_57 (pc' := 58) rfl rfl rfl (inb_t c18) ?_
    obtain ⟨c19, e⟩ := gd_s e
    obtain ⟨h20, eh20, e⟩ := nm_s e
    refine V.iast dX6_fuelWithout_58 (pc' := 59) rfl rfl rfl (inb_t c19) eh20 ?_
    refine V.alq dX6_fuelWithout_59 (pc' := 60) rfl (j := 0) rfl ?_
    refine V.getr dX6_fuelWithout_60 (pc' := 63) rfl FL_X6_60 rfl (by decide) rfl (r' := 58) rfl ?_
    refine V.il dX6_fuelWithout_63 (pc' := 65) rfl (j := 5) rfl ?_
    refine V.alq dX6_fuelWithout_65 (pc' := 66) rfl (j := 0) rfl ?_
    refine V.getr dX6_fuelWithout_66 (pc' := 69) rfl FL_X6_60 rfl (by decide) rfl (r' := 58) rfl ?_
    refine V.il dX6_fuelWithout_69 (pc' := 71) rfl (j := 5) rfl ?_
    refine V.iconst dX6_fuelWithout_71 (pc' := 72) rfl (v := 1) (by decide) ?_
    refine V.isub dX6_fuelWithout_72 (pc' := 73) rfl ?_
    obtain ⟨c21, e⟩ := gd_s e
    refine V.iald dX6_fuelWithout_73 (pc' := 74) rfl rfl rfl (inb_t c21) ?_
    obtain ⟨c22, e⟩ := gd_s e
    obtain ⟨h23, eh23, e⟩ := nm_s e
    refine V.iast dX6_fuelWithout_74 (pc' := 75) rfl rfl rfl (inb_t c22) eh23 ?_
    refine V.alq dX6_fuelWithout_75 (pc' := 76) rfl (j := 0) rfl ?_
    refine V.getr dX6_fuelWithout_76 (pc' := 79) rfl FL_X6_63 rfl (by decide) rfl (r' := 59) rfl ?_
    refine V.il dX6_fuelWithout_79 (pc' := 81) rfl (j := 5) rfl ?_
    refine V.alq dX6_fuelWithout_81 (pc' := 82) rfl (j := 0) rfl ?_
    refine V.getr dX6_fuelWithout_82 (pc' := 85) rfl FL_X6_63 rfl (by decide) rfl (r' := 59) rfl ?_
    refine V.il dX6_fuelWithout_85 (pc' := 87) rfl (j := 5) rfl ?_
    refine V.iconst dX6_fuelWithout_87 (pc' := 88) rfl (v := 1) (by decide) ?_
    refine V.isub dX6_fuelWithout_88 (pc' := 89) rfl ?_
    obtain ⟨c24, e⟩ := gd_s e
    refine V.iald dX6_fuelWithout_89 (pc' := 90) rfl rfl rfl (inb_t c24) ?_
    obtain ⟨c25, e⟩ := gd_s e
    obtain ⟨h26, eh26, e⟩ := nm_s e
    refine V.iast dX6_fuelWithout_90 (pc' := 91) rfl rfl rfl (inb_t c25) eh26 ?_
    obtain ⟨x27, ex27, e⟩ := nm_s e
    refine V.iinc dX6_fuelWithout_91 (pc' := 94) rfl (j := 5) rfl (v := -1) (by decide) (by decide) ex27 (L' := [(5, .int x27), (0, .ref 54), (1, .int v1), (2, .int v2), (3, .int v3), (4, .int v4)]) rfl ?_
    refine V.goto dX6_fuelWithout_94 (pc' := 37) (by decide) ?_
    refine V.pk [1, 2, 3, 4, 5, 0] rfl ?_
    exact hk37 h26 v1 v2 v3 v4 x27 q e
def sX6_fuelWithout_b37 : Nat → Hp → Int32 → Int32 → Int32 → Int32 → Int32 → Option (Int32 × Hp)
  | 0 => fun _ _ _ _ _ _ => none
  | n + 1 => sX6_fuelWithout_c37 (sX6_fuelWithout_b37 n)
theorem vX6_fuelWithout_b37 : ∀ (n : Nat) (h : Hp) (v1 : Int32) (v2 : Int32) (v3 : Int32) (v4 : Int32) (v5 : Int32) (q : (Int32 × Hp)), sX6_fuelWithout_b37 n h v1 v2 v3 v4 v5 = some q → V (Gs 5 (pI q)) mX6_fuelWithout (0, 0) 37 [(0, .ref 54), (1, .int v1), (2, .int v2), (3, .int v3), (4, .int v4), (5, .int v5)] [] h
  | 0 => fun _ _ _ _ _ _ _ e => by cases e
  | n + 1 => fun h v1 v2 v3 v4 v5 q e => vX6_fuelWithout_c37 (sX6_fuelWithout_b37 n) (vX6_fuelWithout_b37 n) h v1 v2 v3 v4 v5 q e
def sX6_fuelWithout (h : Hp) (a1 : Int32) : Option (Int32 × Hp) :=
  gd (inb a1 10) (nm ((h.1 57 a1.toNatClampNeg)) fun x2 => gd (inb a1 10) (nm ((h.1 58 a1.toNatClampNeg)) fun x4 => gd (inb a1 10) (nm ((h.1 59 a1.toNatClampNeg)) fun x6 => (sX6_takesOut h a1).bind fun q7 => (sX6_works q7).bind fun q8 => nm ((q8.1 54 7)) fun x9 => sX6_fuelWithout_b37 FU q8 a1 x2 x4 x6 x9)))
set_option maxRecDepth 10000 in
theorem kX6_fuelWithout (h : Hp) (a1 : Int32) (q : (Int32 × Hp)) (e : sX6_fuelWithout h a1 = some q) : K 5 mX6_fuelWithout [.ref 54, .int a1] h (pI q) := by
  unfold sX6_fuelWithout at e
  refine K.ofV (by decide) rfl (Nat.le_of_ble_eq_true rfl) ?_
  show V (Gs 5 (pI q)) mX6_fuelWithout (0, 0) 0 [(0, .ref 54), (1, .int a1)] [] h
  refine V.alq dX6_fuelWithout_0 (pc' := 1) rfl (j := 0) rfl ?_
  refine V.getr dX6_fuelWithout_1 (pc' := 4) rfl FL_X6_57 rfl (by decide) rfl (r' := 57) rfl ?_
  refine V.ilq dX6_fuelWithout_4 (pc' := 5) rfl (j := 1) rfl ?_
  obtain ⟨c1, e⟩ := gd_s e
  refine V.iald dX6_fuelWithout_5 (pc' := 6) rfl rfl rfl (inb_t c1) ?_
  obtain ⟨x2, ex2, e⟩ := nm_s e
  refine V.isq dX6_fuelWithout_6 (pc' := 7) rfl (by decide) ex2 (L' := [(2, .int x2), (0, .ref 54), (1, .int a1)]) rfl ?_
  refine V.alq dX6_fuelWithout_7 (pc' := 8) rfl (j := 1) rfl ?_
  refine V.getr dX6_fuelWithout_8 (pc' := 11) rfl FL_X6_60 rfl (by decide) rfl (r' := 58) rfl ?_
  refine V.ilq dX6_fuelWithout_11 (pc' := 12) rfl (j := 2) rfl ?_
  obtain ⟨c3, e⟩ := gd_s e
  refine V.iald dX6_fuelWithout_12 (pc' := 13) rfl rfl rfl (inb_t c3) ?_
  obtain ⟨x4, ex4, e⟩ := nm_s e
  refine V.isq dX6_fuelWithout_13 (pc' := 14) rfl (by decide) ex4 (L' := [(3, .int x4), (2, .int x2), (0, .ref 54), (1, .int a1)]) rfl ?_
  refine V.alq dX6_fuelWithout_14 (pc' := 15) rfl (j := 2) rfl ?_
  refine V.getr dX6_fuelWithout_15 (pc' := 18) rfl FL_X6_63 rfl (by decide) rfl (r' := 59) rfl ?_
  refine V.ilq dX6_fuelWithout_18 (pc' := 19) rfl (j := 3) rfl ?_
  obtain ⟨c5, e⟩ := gd_s e
  refine V.iald dX6_fuelWithout_19 (pc' := 20) rfl rfl rfl (inb_t c5) ?_
  obtain ⟨x6, ex6, e⟩ := nm_s e
  refine V.is dX6_fuelWithout_20 (pc' := 22) rfl (by decide) ex6 (L' := [(4, .int x6), (3, .int x4), (2, .int x2), (0, .ref 54), (1, .int a1)]) rfl ?_
  refine V.alq dX6_fuelWithout_22 (pc' := 23) rfl (j := 3) rfl ?_
  refine V.ilq dX6_fuelWithout_23 (pc' := 24) rfl (j := 4) rfl ?_
  obtain ⟨q7, eq7, e⟩ := bd_s e
  refine V.callVv dX6_fuelWithout_24 (pc' := 27) rfl CV_X6_164 (as := [.int a1]) (kX6_takesOut h a1 q7 eq7) (Gs_rm (by decide)) rfl (by decide) rfl (Nat.le_of_ble_eq_true rfl) rfl ?_
  refine V.alq dX6_fuelWithout_27 (pc' := 28) rfl (j := 3) rfl ?_
  obtain ⟨q8, eq8, e⟩ := bd_s e
  refine V.callVv dX6_fuelWithout_28 (pc' := 31) rfl CV_X6_209 (as := []) (kX6_works q7 q8 eq8) (Gs_rm (by decide)) rfl (by decide) rfl (Nat.le_of_ble_eq_true rfl) rfl ?_
  refine V.alq dX6_fuelWithout_31 (pc' := 32) rfl (j := 3) rfl ?_
  refine V.getf dX6_fuelWithout_32 (pc' := 35) rfl FL_X6_131 rfl (by decide) rfl ?_
  obtain ⟨x9, ex9, e⟩ := nm_s e
  refine V.is dX6_fuelWithout_35 (pc' := 37) rfl (by decide) ex9 (L' := [(5, .int x9), (4, .int x6), (3, .int x4), (2, .int x2), (0, .ref 54), (1, .int a1)]) rfl ?_
  refine V.pk [4, 5, 3, 2, 1, 0] rfl ?_
  exact vX6_fuelWithout_b37 FU q8 a1 x2 x4 x6 x9 q e

-- X6_finds (level 5)
theorem dX6_finds_0 : decode cX6_finds 0 = .ok (.aload_n 0, 1) := by decide +kernel
theorem dX6_finds_1 : decode cX6_finds 1 = .ok (.invokevirtual 209, 3) := by decide +kernel
theorem dX6_finds_4 : decode cX6_finds 4 = .ok (.aload_n 0, 1) := by decide +kernel
theorem dX6_finds_5 : decode cX6_finds 5 = .ok (.aload_n 0, 1) := by decide +kernel
theorem dX6_finds_6 : decode cX6_finds 6 = .ok (.getfield 131, 3) := by decide +kernel
theorem dX6_finds_9 : decode cX6_finds 9 = .ok (.ifCond .ne 7, 3) := by decide +kernel
theorem dX6_finds_12 : decode cX6_finds 12 = .ok (.iconst 0, 1) := by decide +kernel
theorem dX6_finds_13 : decode cX6_finds 13 = .ok (.goto 7, 3) := by decide +kernel
theorem dX6_finds_16 : decode cX6_finds 16 = .ok (.aload_n 0, 1) := by decide +kernel
theorem dX6_finds_17 : decode cX6_finds 17 = .ok (.invokevirtual 212, 3) := by decide +kernel
theorem dX6_finds_20 : decode cX6_finds 20 = .ok (.putfield 238, 3) := by decide +kernel
theorem dX6_finds_23 : decode cX6_finds 23 = .ok (.return_, 1) := by decide +kernel
def sX6_finds_c20 (h : Hp) (t0 : Int32) : Option Hp :=
  nm (u1 h 54 21 t0) fun h3 => some h3
set_option maxRecDepth 10000 in
theorem vX6_finds_c20 (h : Hp) (t0 : Int32) (q : Hp) (e : sX6_finds_c20 h t0 = some q) : V (Gs 5 (pV q)) mX6_finds (0, 0) 20 [] [.int t0, .ref 54] h := by
  unfold sX6_finds_c20 at e
  obtain ⟨h3, eh3, e⟩ := nm_s e
  refine V.putf dX6_finds_20 (pc' := 23) rfl FP_X6_238 rfl (by decide) rfl eh3 ?_
  exact V.vret dX6_finds_23 rfl (fnV e)
def sX6_finds (h : Hp) : Option Hp :=
  (sX6_works h).bind fun q1 => if (q1.1 54 7) = 0 then (sX6_finds_c20 q1 (0 : Int32)) else ((sX6_pinchNow q1).bind fun q2 => sX6_finds_c20 q2.2 q2.1)
set_option maxRecDepth 10000 in
theorem kX6_finds (h : Hp) (q : Hp) (e : sX6_finds h = some q) : K 5 mX6_finds [.ref 54] h (pV q) := by
  unfold sX6_finds at e
  refine K.ofV (by decide) rfl (Nat.le_of_ble_eq_true rfl) ?_
  show V (Gs 5 (pV q)) mX6_finds (0, 0) 0 [(0, .ref 54)] [] h
  refine V.alq dX6_finds_0 (pc' := 1) rfl (j := 0) rfl ?_
  obtain ⟨q1, eq1, e⟩ := bd_s e
  refine V.callVv dX6_finds_1 (pc' := 4) rfl CV_X6_209 (as := []) (kX6_works h q1 eq1) (Gs_rm (by decide)) rfl (by decide) rfl (Nat.le_of_ble_eq_true rfl) rfl ?_
  refine V.alq dX6_finds_4 (pc' := 5) rfl (j := 0) rfl ?_
  refine V.alq dX6_finds_5 (pc' := 6) rfl (j := 0) rfl ?_
  refine V.getf dX6_finds_6 (pc' := 9) rfl FL_X6_131 rfl (by decide) rfl ?_
  refine V.if_ne dX6_finds_9 (pc' := 12) rfl (tgt := 16) (by decide) (fun c => ?_) (fun c => ?_)
  · rw [if_neg c] at e
    refine V.alq dX6_finds_16 (pc' := 17) rfl (j := 0) rfl ?_
    obtain ⟨q2, eq2, e⟩ := bd_s e
    refine V.callVi dX6_finds_17 (pc' := 20) rfl CV_X6_212 (as := []) (kX6_pinchNow q1 q2 eq2) (Gs_rm (by decide)) rfl (by decide) rfl (Nat.le_of_ble_eq_true rfl) rfl ?_
    refine V.pk [] rfl ?_
    exact vX6_finds_c20 q2.2 q2.1 q e
  · rw [if_pos c] at e
    refine V.iconst dX6_finds_12 (pc' := 13) rfl (v := 0) (by decide) ?_
    refine V.goto dX6_finds_13 (pc' := 20) (by decide) ?_
    refine V.pk [] rfl ?_
    exact vX6_finds_c20 q1 (0 : Int32) q e

-- X6_laysArriving (level 5)
theorem dX6_laysArriving_0 : decode cX6_laysArriving 0 = .ok (.iconst 0, 1) := by decide +kernel
theorem dX6_laysArriving_1 : decode cX6_laysArriving 1 = .ok (.istore 4, 2) := by decide +kernel
theorem dX6_laysArriving_3 : decode cX6_laysArriving 3 = .ok (.iconst 0, 1) := by decide +kernel
theorem dX6_laysArriving_4 : decode cX6_laysArriving 4 = .ok (.istore 5, 2) := by decide +kernel
theorem dX6_laysArriving_6 : decode cX6_laysArriving 6 = .ok (.iload 5, 2) := by decide +kernel
theorem dX6_laysArriving_8 : decode cX6_laysArriving 8 = .ok (.aload_n 0, 1) := by decide +kernel
theorem dX6_laysArriving_9 : decode cX6_laysArriving 9 = .ok (.getfield 131, 3) := by decide +kernel
theorem dX6_laysArriving_12 : decode cX6_laysArriving 12 = .ok (.if_icmp .ge 103, 3) := by decide +kernel
theorem dX6_laysArriving_15 : decode cX6_laysArriving 15 = .ok (.aload_n 0, 1) := by decide +kernel
theorem dX6_laysArriving_16 : decode cX6_laysArriving 16 = .ok (.iload 5, 2) := by decide +kernel
theorem dX6_laysArriving_18 : decode cX6_laysArriving 18 = .ok (.invokevirtual 144, 3) := by decide +kernel
theorem dX6_laysArriving_21 : decode cX6_laysArriving 21 = .ok (.iload_n 2, 1) := by decide +kernel
theorem dX6_laysArriving_22 : decode cX6_laysArriving 22 = .ok (.if_icmp .ne 87, 3) := by decide +kernel
theorem dX6_laysArriving_25 : decode cX6_laysArriving 25 = .ok (.aload_n 0, 1) := by decide +kernel
theorem dX6_laysArriving_26 : decode cX6_laysArriving 26 = .ok (.iload_n 1, 1) := by decide +kernel
theorem dX6_laysArriving_27 : decode cX6_laysArriving 27 = .ok (.iload 5, 2) := by decide +kernel
theorem dX6_laysArriving_29 : decode cX6_laysArriving 29 = .ok (.invokevirtual 250, 3) := by decide +kernel
theorem dX6_laysArriving_32 : decode cX6_laysArriving 32 = .ok (.ifCond .eq 77, 3) := by decide +kernel
theorem dX6_laysArriving_35 : decode cX6_laysArriving 35 = .ok (.aload_n 0, 1) := by decide +kernel
theorem dX6_laysArriving_36 : decode cX6_laysArriving 36 = .ok (.iload_n 1, 1) := by decide +kernel
theorem dX6_laysArriving_37 : decode cX6_laysArriving 37 = .ok (.iload 5, 2) := by decide +kernel
theorem dX6_laysArriving_39 : decode cX6_laysArriving 39 = .ok (.invokevirtual 247, 3) := by decide +kernel
theorem dX6_laysArriving_42 : decode cX6_laysArriving 42 = .ok (.aload_n 0, 1) := by decide +kernel
theorem dX6_laysArriving_43 : decode cX6_laysArriving 43 = .ok (.iload 5, 2) := by decide +kernel
theorem dX6_laysArriving_45 : decode cX6_laysArriving 45 = .ok (.invokevirtual 241, 3) := by decide +kernel
theorem dX6_laysArriving_48 : decode cX6_laysArriving 48 = .ok (.if_icmp .eq 6, 3) := by decide +kernel
theorem dX6_laysArriving_51 : decode cX6_laysArriving 51 = .ok (.goto 58, 3) := by decide +kernel
theorem dX6_laysArriving_54 : decode cX6_laysArriving 54 = .ok (.iload 4, 2) := by decide +kernel
theorem dX6_laysArriving_56 : decode cX6_laysArriving 56 = .ok (.istore 6, 2) := by decide +kernel
theorem dX6_laysArriving_58 : decode cX6_laysArriving 58 = .ok (.iload 6, 2) := by decide +kernel
theorem dX6_laysArriving_60 : decode cX6_laysArriving 60 = .ok (.ifCond .le 35, 3) := by decide +kernel
theorem dX6_laysArriving_63 : decode cX6_laysArriving 63 = .ok (.aload_n 3, 1) := by decide +kernel
theorem dX6_laysArriving_64 : decode cX6_laysArriving 64 = .ok (.iload 6, 2) := by decide +kernel
theorem dX6_laysArriving_66 : decode cX6_laysArriving 66 = .ok (.iconst 1, 1) := by decide +kernel
theorem dX6_laysArriving_67 : decode cX6_laysArriving 67 = .ok (.isub, 1) := by decide +kernel
theorem dX6_laysArriving_68 : decode cX6_laysArriving 68 = .ok (.iaload, 1) := by decide +kernel
theorem dX6_laysArriving_69 : decode cX6_laysArriving 69 = .ok (.aload_n 0, 1) := by decide +kernel
theorem dX6_laysArriving_70 : decode cX6_laysArriving 70 = .ok (.getfield 63, 3) := by decide +kernel
theorem dX6_laysArriving_73 : decode cX6_laysArriving 73 = .ok (.iload 5, 2) := by decide +kernel
theorem dX6_laysArriving_75 : decode cX6_laysArriving 75 = .ok (.iaload, 1) := by decide +kernel
theorem dX6_laysArriving_76 : decode cX6_laysArriving 76 = .ok (.if_icmp .ge 19, 3) := by decide +kernel
theorem dX6_laysArriving_79 : decode cX6_laysArriving 79 = .ok (.aload_n 3, 1) := by decide +kernel
theorem dX6_laysArriving_80 : decode cX6_laysArriving 80 = .ok (.iload 6, 2) := by decide +kernel
theorem dX6_laysArriving_82 : decode cX6_laysArriving 82 = .ok (.aload_n 3, 1) := by decide +kernel
theorem dX6_laysArriving_83 : decode cX6_laysArriving 83 = .ok (.iload 6, 2) := by decide +kernel
theorem dX6_laysArriving_85 : decode cX6_laysArriving 85 = .ok (.iconst 1, 1) := by decide +kernel
theorem dX6_laysArriving_86 : decode cX6_laysArriving 86 = .ok (.isub, 1) := by decide +kernel
theorem dX6_laysArriving_87 : decode cX6_laysArriving 87 = .ok (.iaload, 1) := by decide +kernel
theorem dX6_laysArriving_88 : decode cX6_laysArriving 88 = .ok (.iastore, 1) := by decide +kernel
theorem dX6_laysArriving_89 : decode cX6_laysArriving 89 = .ok (.iinc 6 (-1), 3) := by decide +kernel
theorem dX6_laysArriving_92 : decode cX6_laysArriving 92 = .ok (.goto (-34), 3) := by decide +kernel
theorem dX6_laysArriving_95 : decode cX6_laysArriving 95 = .ok (.aload_n 3, 1) := by decide +kernel
theorem dX6_laysArriving_96 : decode cX6_laysArriving 96 = .ok (.iload 6, 2) := by decide +kernel
theorem dX6_laysArriving_98 : decode cX6_laysArriving 98 = .ok (.aload_n 0, 1) := by decide +kernel
theorem dX6_laysArriving_99 : decode cX6_laysArriving 99 = .ok (.getfield 63, 3) := by decide +kernel
theorem dX6_laysArriving_102 : decode cX6_laysArriving 102 = .ok (.iload 5, 2) := by decide +kernel
theorem dX6_laysArriving_104 : decode cX6_laysArriving 104 = .ok (.iaload, 1) := by decide +kernel
theorem dX6_laysArriving_105 : decode cX6_laysArriving 105 = .ok (.iastore, 1) := by decide +kernel
theorem dX6_laysArriving_106 : decode cX6_laysArriving 106 = .ok (.iinc 4 1, 3) := by decide +kernel
theorem dX6_laysArriving_109 : decode cX6_laysArriving 109 = .ok (.iinc 5 1, 3) := by decide +kernel
theorem dX6_laysArriving_112 : decode cX6_laysArriving 112 = .ok (.goto (-106), 3) := by decide +kernel
theorem dX6_laysArriving_115 : decode cX6_laysArriving 115 = .ok (.iload 4, 2) := by decide +kernel
theorem dX6_laysArriving_117 : decode cX6_laysArriving 117 = .ok (.ireturn, 1) := by decide +kernel
def sX6_laysArriving_c109 (k6 : Hp → Int32 → Int32 → Nat → Int32 → Int32 → Option (Int32 × Hp)) (h : Hp) (v1 : Int32) (v2 : Int32) (a3 : Nat) (v4 : Int32) (v5 : Int32) : Option (Int32 × Hp) :=
  nm (v5 + (1 : Int32)) fun x15 => k6 h v1 v2 a3 v4 x15
set_option maxRecDepth 10000 in
theorem vX6_laysArriving_c109 (k6 : Hp → Int32 → Int32 → Nat → Int32 → Int32 → Option (Int32 × Hp)) (hk6 : ∀ (h : Hp) (v1 : Int32) (v2 : Int32) (a3 : Nat) (v4 : Int32) (v5 : Int32) (ha3 : ck a3 = 10 ∧ an a3 = 10) (q : (Int32 × Hp)), k6 h v1 v2 a3 v4 v5 = some q → V (Gs 5 (pI q)) mX6_laysArriving (0, 0) 6 [(0, .ref 54), (1, .int v1), (2, .int v2), (3, .ref a3), (4, .int v4), (5, .int v5)] [] h) (h : Hp) (v1 : Int32) (v2 : Int32) (a3 : Nat) (v4 : Int32) (v5 : Int32) (ha3 : ck a3 = 10 ∧ an a3 = 10) (q : (Int32 × Hp)) (e : sX6_laysArriving_c109 k6 h v1 v2 a3 v4 v5 = some q) : V (Gs 5 (pI q)) mX6_laysArriving (0, 0) 109 [(0, .ref 54), (1, .int v1), (2, .int v2), (3, .ref a3), (4, .int v4), (5, .int v5)] [] h := by
  unfold sX6_laysArriving_c109 at e
  obtain ⟨x15, ex15, e⟩ := nm_s e
  refine V.iinc dX6_laysArriving_109 (pc' := 112) rfl (j := 5) rfl (v := 1) (by decide) (by decide) ex15 (L' := [(5, .int x15), (0, .ref 54), (1, .int v1), (2, .int v2), (3, .ref a3), (4, .int v4)]) rfl ?_
  refine V.goto dX6_laysArriving_112 (pc' := 6) (by decide) ?_
  refine V.pk [1, 2, 3, 4, 5, 0] rfl ?_
  exact hk6 h v1 v2 a3 v4 x15 ⟨ha3.1, ha3.2⟩ q e
def sX6_laysArriving_c95 (k6 : Hp → Int32 → Int32 → Nat → Int32 → Int32 → Option (Int32 × Hp)) (h : Hp) (v1 : Int32) (v2 : Int32) (a3 : Nat) (v4 : Int32) (v5 : Int32) (v6 : Int32) : Option (Int32 × Hp) :=
  gd (inb v5 10) (gd (inb v6 10) (nm (u1 h a3 v6.toNatClampNeg (h.1 59 v5.toNatClampNeg)) fun h13 => nm (v4 + (1 : Int32)) fun x14 => sX6_laysArriving_c109 k6 h13 v1 v2 a3 x14 v5))
set_option maxRecDepth 10000 in
theorem vX6_laysArriving_c95 (k6 : Hp → Int32 → Int32 → Nat → Int32 → Int32 → Option (Int32 × Hp)) (hk6 : ∀ (h : Hp) (v1 : Int32) (v2 : Int32) (a3 : Nat) (v4 : Int32) (v5 : Int32) (ha3 : ck a3 = 10 ∧ an a3 = 10) (q : (Int32 × Hp)), k6 h v1 v2 a3 v4 v5 = some q → V (Gs 5 (pI q)) mX6_laysArriving (0, 0) 6 [(0, .ref 54), (1, .int v1), (2, .int v2), (3, .ref a3), (4, .int v4), (5, .int v5)] [] h) (h : Hp) (v1 : Int32) (v2 : Int32) (a3 : Nat) (v4 : Int32) (v5 : Int32) (v6 : Int32) (ha3 : ck a3 = 10 ∧ an a3 = 10) (q : (Int32 × Hp)) (e : sX6_laysArriving_c95 k6 h v1 v2 a3 v4 v5 v6 = some q) : V (Gs 5 (pI q)) mX6_laysArriving (0, 0) 95 [(0, .ref 54), (1, .int v1), (2, .int v2), (3, .ref a3), (4, .int v4), (5, .int v5), (6, .int v6)] [] h := by
  unfold sX6_laysArriving_c95 at e
  refine V.alq dX6_laysArriving_95 (pc' := 96) rfl (j := 3) rfl ?_
  refine V.il dX6_laysArriving_96 (pc' := 98) rfl (j := 6) rfl ?_
  refine V.alq dX6_laysArriving_98 (pc' := 99) rfl (j := 0) rfl ?_
  refine V.getr dX6_laysArriving_99 (pc' := 102) rfl FL_X6_63 rfl (by decide) rfl (r' := 59) rfl ?_
  refine V.il dX6_laysArriving_102 (pc' := 104) rfl (j := 5) rfl ?_
  obtain ⟨c11, e⟩ := gd_s e
  refine V.iald dX6_laysArriving_104 (pc' := 105) rfl rfl rfl (inb_t c11) ?_
  obtain ⟨c12, e⟩ := gd_s e
  obtain ⟨h13, eh13, e⟩ := nm_s e
  refine V.iast dX6_laysArriving_105 (pc' := 106) rfl ha3.1 ha3.2 (inb_t c12) eh13 ?_
  obtain ⟨x14, ex14, e⟩ := nm_s e
  refine V.iinc dX6_laysArriving_106 (pc' := 109) rfl (j := 4) rfl (v := 1) (by decide) (by decide) ex14 (L' := [(4, .int x14), (0, .ref 54), (1, .int v1), (2, .int v2), (3, .ref a3), (5, .int v5), (6, .int v6)]) rfl ?_
  refine V.pk [1, 2, 3, 4, 0, 5] rfl ?_
  exact vX6_laysArriving_c109 k6 hk6 h13 v1 v2 a3 x14 v5 ⟨ha3.1, ha3.2⟩ q e
def sX6_laysArriving_c58 (k6 : Hp → Int32 → Int32 → Nat → Int32 → Int32 → Option (Int32 × Hp)) (k58 : Hp → Int32 → Int32 → Nat → Int32 → Int32 → Int32 → Option (Int32 × Hp)) (h : Hp) (v1 : Int32) (v2 : Int32) (a3 : Nat) (v4 : Int32) (v5 : Int32) (v6 : Int32) : Option (Int32 × Hp) :=
  if v6 ≤ 0 then (sX6_laysArriving_c95 k6 h v1 v2 a3 v4 v5 v6) else (gd (inb (v6 - (1 : Int32)) 10) (gd (inb v5 10) (if (h.1 59 v5.toNatClampNeg) ≤ (h.1 a3 (v6 - (1 : Int32)).toNatClampNeg) then (sX6_laysArriving_c95 k6 h v1 v2 a3 v4 v5 v6) else (gd (inb (v6 - (1 : Int32)) 10) (gd (inb v6 10) (nm (u1 h a3 v6.toNatClampNeg (h.1 a3 (v6 - (1 : Int32)).toNatClampNeg)) fun h9 => nm (v6 + (-1 : Int32)) fun x10 => k58 h9 v1 v2 a3 v4 v5 x10))))))
set_option maxRecDepth 10000 in
theorem vX6_laysArriving_c58 (k6 : Hp → Int32 → Int32 → Nat → Int32 → Int32 → Option (Int32 × Hp)) (hk6 : ∀ (h : Hp) (v1 : Int32) (v2 : Int32) (a3 : Nat) (v4 : Int32) (v5 : Int32) (ha3 : ck a3 = 10 ∧ an a3 = 10) (q : (Int32 × Hp)), k6 h v1 v2 a3 v4 v5 = some q → V (Gs 5 (pI q)) mX6_laysArriving (0, 0) 6 [(0, .ref 54), (1, .int v1), (2, .int v2), (3, .ref a3), (4, .int v4), (5, .int v5)] [] h) (k58 : Hp → Int32 → Int32 → Nat → Int32 → Int32 → Int32 → Option (Int32 × Hp)) (hk58 : ∀ (h : Hp) (v1 : Int32) (v2 : Int32) (a3 : Nat) (v4 : Int32) (v5 : Int32) (v6 : Int32) (ha3 : ck a3 = 10 ∧ an a3 = 10) (q : (Int32 × Hp)), k58 h v1 v2 a3 v4 v5 v6 = some q → V (Gs 5 (pI q)) mX6_laysArriving (0, 0) 58 [(0, .ref 54), (1, .int v1), (2, .int v2), (3, .ref a3), (4, .int v4), (5, .int v5), (6, .int v6)] [] h) (h : Hp) (v1 : Int32) (v2 : Int32) (a3 : Nat) (v4 : Int32) (v5 : Int32) (v6 : Int32) (ha3 : ck a3 = 10 ∧ an a3 = 10) (q : (Int32 × Hp)) (e : sX6_laysArriving_c58 k6 k58 h v1 v2 a3 v4 v5 v6 = some q) : V (Gs 5 (pI q)) mX6_laysArriving (0, 0) 58 [(0, .ref 54), (1, .int v1), (2, .int v2), (3, .ref a3), (4, .int v4), (5, .int v5), (6, .int v6)] [] h := by
  unfold sX6_laysArriving_c58 at e
  refine V.il dX6_laysArriving_58 (pc' := 60) rfl (j := 6) rfl ?_
  refine V.if_le dX6_laysArriving_60 (pc' := 63) rfl (tgt := 95) (by decide) (fun c => ?_) (fun c => ?_)
  · rw [if_pos c] at e
    exact vX6_laysArriving_c95 k6 hk6 h v1 v2 a3 v4 v5 v6 ⟨ha3.1, ha3.2⟩ q e
  · rw [if_neg c] at e
    refine V.alq dX6_laysArriving_63 (pc' := 64) rfl (j := 3) rfl ?_
    refine V.il dX6_laysArriving_64 (pc' := 66) rfl (j := 6) rfl ?_
    refine V.iconst dX6_laysArriving_66 (pc' := 67) rfl (v := 1) (by decide) ?_
    refine V.isub dX6_laysArriving_67 (pc' := 68) rfl ?_
    obtain ⟨c5, e⟩ := gd_s e
    refine V.iald dX6_laysArriving_68 (pc' := 69) rfl ha3.1 ha3.2 (inb_t c5) ?_
    refine V.alq dX6_laysArriving_69 (pc' := 70) rfl (j := 0) rfl ?_
    refine V.getr dX6_laysArriving_70 (pc' := 73) rfl FL_X6_63 rfl (by decide) rfl (r' := 59) rfl ?_
    refine V.il dX6_laysArriving_73 (pc' := 75) rfl (j := 5) rfl ?_
    obtain ⟨c6, e⟩ := gd_s e
    refine V.iald dX6_laysArriving_75 (pc' := 76) rfl rfl rfl (inb_t c6) ?_
    refine V.ic_ge dX6_laysArriving_76 (pc' := 79) rfl (tgt := 95) (by decide) (fun c => ?_) (fun c => ?_)
    · rw [if_pos c] at e
      exact vX6_laysArriving_c95 k6 hk6 h v1 v2 a3 v4 v5 v6 ⟨ha3.1, ha3.2⟩ q e
    · rw [if_neg c] at e
      refine V.alq dX6_laysArriving_79 (pc' := 80) rfl (j := 3) rfl ?_
      refine V.il dX6_laysArriving_80 (pc' := 82) rfl (j := 6) rfl ?_
      refine V.alq dX6_laysArriving_82 (pc' := 83) rfl (j := 3) rfl ?_
      refine V.il dX6_laysArriving_83 (pc' := 85) rfl (j := 6) rfl ?_
      refine V.iconst dX6_laysArriving_85 (pc' := 86) rfl (v := 1) (by decide) ?_
      refine V.isub dX6_laysArriving_86 (pc' := 87) rfl ?_
      obtain ⟨c7, e⟩ := gd_s e
      refine V.iald dX6_laysArriving_87 (pc' := 88) rfl ha3.1 ha3.2 (inb_t c7) ?_
      obtain ⟨c8, e⟩ := gd_s e
      obtain ⟨h9, eh9, e⟩ := nm_s e
      refine V.iast dX6_laysArriving_88 (pc' := 89) rfl ha3.1 ha3.2 (inb_t c8) eh9 ?_
      obtain ⟨x10, ex10, e⟩ := nm_s e
      refine V.iinc dX6_laysArriving_89 (pc' := 92) rfl (j := 6) rfl (v := -1) (by decide) (by decide) ex10 (L' := [(6, .int x10), (0, .ref 54), (1, .int v1), (2, .int v2), (3, .ref a3), (4, .int v4), (5, .int v5)]) rfl ?_
      refine V.goto dX6_laysArriving_92 (pc' := 58) (by decide) ?_
      refine V.pk [1, 2, 3, 4, 5, 6, 0] rfl ?_
      exact hk58 h9 v1 v2 a3 v4 v5 x10 ⟨ha3.1, ha3.2⟩ q e
def sX6_laysArriving_b58 (k6 : Hp → Int32 → Int32 → Nat → Int32 → Int32 → Option (Int32 × Hp)) : Nat → Hp → Int32 → Int32 → Nat → Int32 → Int32 → Int32 → Option (Int32 × Hp)
  | 0 => fun _ _ _ _ _ _ _ => none
  | n + 1 => sX6_laysArriving_c58 k6 (sX6_laysArriving_b58 k6 n)
theorem vX6_laysArriving_b58 (k6 : Hp → Int32 → Int32 → Nat → Int32 → Int32 → Option (Int32 × Hp)) (hk6 : ∀ (h : Hp) (v1 : Int32) (v2 : Int32) (a3 : Nat) (v4 : Int32) (v5 : Int32) (ha3 : ck a3 = 10 ∧ an a3 = 10) (q : (Int32 × Hp)), k6 h v1 v2 a3 v4 v5 = some q → V (Gs 5 (pI q)) mX6_laysArriving (0, 0) 6 [(0, .ref 54), (1, .int v1), (2, .int v2), (3, .ref a3), (4, .int v4), (5, .int v5)] [] h) : ∀ (n : Nat) (h : Hp) (v1 : Int32) (v2 : Int32) (a3 : Nat) (v4 : Int32) (v5 : Int32) (v6 : Int32) (ha3 : ck a3 = 10 ∧ an a3 = 10) (q : (Int32 × Hp)), sX6_laysArriving_b58 k6 n h v1 v2 a3 v4 v5 v6 = some q → V (Gs 5 (pI q)) mX6_laysArriving (0, 0) 58 [(0, .ref 54), (1, .int v1), (2, .int v2), (3, .ref a3), (4, .int v4), (5, .int v5), (6, .int v6)] [] h
  | 0 => fun _ _ _ _ _ _ _ _ _ e => by cases e
  | n + 1 => fun h v1 v2 a3 v4 v5 v6 ha3 q e => vX6_laysArriving_c58 k6 hk6 (sX6_laysArriving_b58 k6 n) (vX6_laysArriving_b58 k6 hk6 n) h v1 v2 a3 v4 v5 v6 ha3 q e
def sX6_laysArriving_c6 (k6 : Hp → Int32 → Int32 → Nat → Int32 → Int32 → Option (Int32 × Hp)) (h : Hp) (v1 : Int32) (v2 : Int32) (a3 : Nat) (v4 : Int32) (v5 : Int32) : Option (Int32 × Hp) :=
  if (h.1 54 7) ≤ v5 then (some (v4, h)) else ((sX6_isHot h v5).bind fun q1 => if q1.1 = v2 then ((sX6_heat q1.2 v1 v5).bind fun q2 => if q2.1 = 0 then (sX6_laysArriving_c109 k6 q2.2 v1 v2 a3 v4 v5) else ((sX6_near q2.2 v1 v5).bind fun q3 => (sX6_pinchOf q3.2 v5).bind fun q4 => if q3.1 = q4.1 then (sX6_laysArriving_b58 k6 FU q4.2 v1 v2 a3 v4 v5 v4) else (sX6_laysArriving_c109 k6 q4.2 v1 v2 a3 v4 v5))) else (sX6_laysArriving_c109 k6 q1.2 v1 v2 a3 v4 v5))
set_option maxRecDepth 10000 in
theorem vX6_laysArriving_c6 (k6 : Hp → Int32 → Int32 → Nat → Int32 → Int32 → Option (Int32 × Hp)) (hk6 : ∀ (h : Hp) (v1 : Int32) (v2 : Int32) (a3 : Nat) (v4 : Int32) (v5 : Int32) (ha3 : ck a3 = 10 ∧ an a3 = 10) (q : (Int32 × Hp)), k6 h v1 v2 a3 v4 v5 = some q → V (Gs 5 (pI q)) mX6_laysArriving (0, 0) 6 [(0, .ref 54), (1, .int v1), (2, .int v2), (3, .ref a3), (4, .int v4), (5, .int v5)] [] h) (h : Hp) (v1 : Int32) (v2 : Int32) (a3 : Nat) (v4 : Int32) (v5 : Int32) (ha3 : ck a3 = 10 ∧ an a3 = 10) (q : (Int32 × Hp)) (e : sX6_laysArriving_c6 k6 h v1 v2 a3 v4 v5 = some q) : V (Gs 5 (pI q)) mX6_laysArriving (0, 0) 6 [(0, .ref 54), (1, .int v1), (2, .int v2), (3, .ref a3), (4, .int v4), (5, .int v5)] [] h := by
  unfold sX6_laysArriving_c6 at e
  refine V.il dX6_laysArriving_6 (pc' := 8) rfl (j := 5) rfl ?_
  refine V.alq dX6_laysArriving_8 (pc' := 9) rfl (j := 0) rfl ?_
  refine V.getf dX6_laysArriving_9 (pc' := 12) rfl FL_X6_131 rfl (by decide) rfl ?_
  refine V.ic_ge dX6_laysArriving_12 (pc' := 15) rfl (tgt := 115) (by decide) (fun c => ?_) (fun c => ?_)
  · rw [if_pos c] at e
    refine V.il dX6_laysArriving_115 (pc' := 117) rfl (j := 4) rfl ?_
    exact V.iret dX6_laysArriving_117 rfl (fnI e)
  · rw [if_neg c] at e
    refine V.alq dX6_laysArriving_15 (pc' := 16) rfl (j := 0) rfl ?_
    refine V.il dX6_laysArriving_16 (pc' := 18) rfl (j := 5) rfl ?_
    obtain ⟨q1, eq1, e⟩ := bd_s e
    refine V.callVi dX6_laysArriving_18 (pc' := 21) rfl CV_X6_144 (as := [.int v5]) (kX6_isHot h v5 q1 eq1) (Gs_rm (by decide)) rfl (by decide) rfl (Nat.le_of_ble_eq_true rfl) rfl ?_
    refine V.ilq dX6_laysArriving_21 (pc' := 22) rfl (j := 2) rfl ?_
    refine V.ic_ne dX6_laysArriving_22 (pc' := 25) rfl (tgt := 109) (by decide) (fun c => ?_) (fun c => ?_)
    · rw [if_neg c] at e
      exact vX6_laysArriving_c109 k6 hk6 q1.2 v1 v2 a3 v4 v5 ⟨ha3.1, ha3.2⟩ q e
    · rw [if_pos c] at e
      refine V.alq dX6_laysArriving_25 (pc' := 26) rfl (j := 0) rfl ?_
      refine V.ilq dX6_laysArriving_26 (pc' := 27) rfl (j := 1) rfl ?_
      refine V.il dX6_laysArriving_27 (pc' := 29) rfl (j := 5) rfl ?_
      obtain ⟨q2, eq2, e⟩ := bd_s e
      refine V.callVi dX6_laysArriving_29 (pc' := 32) rfl CV_X6_250 (as := [.int v1, .int v5]) (kX6_heat q1.2 v1 v5 q2 eq2) (Gs_rm (by decide)) rfl (by decide) rfl (Nat.le_of_ble_eq_true rfl) rfl ?_
      refine V.if_eq dX6_laysArriving_32 (pc' := 35) rfl (tgt := 109) (by decide) (fun c => ?_) (fun c => ?_)
      · rw [if_pos c] at e
        exact vX6_laysArriving_c109 k6 hk6 q2.2 v1 v2 a3 v4 v5 ⟨ha3.1, ha3.2⟩ q e
      · rw [if_neg c] at e
        refine V.alq dX6_laysArriving_35 (pc' := 36) rfl (j := 0) rfl ?_
        refine V.ilq dX6_laysArriving_36 (pc' := 37) rfl (j := 1) rfl ?_
        refine V.il dX6_laysArriving_37 (pc' := 39) rfl (j := 5) rfl ?_
        obtain ⟨q3, eq3, e⟩ := bd_s e
        refine V.callVi dX6_laysArriving_39 (pc' := 42) rfl CV_X6_247 (as := [.int v1, .int v5]) (kX6_near q2.2 v1 v5 q3 eq3) (Gs_rm (by decide)) rfl (by decide) rfl (Nat.le_of_ble_eq_true rfl) rfl ?_
        refine V.alq dX6_laysArriving_42 (pc' := 43) rfl (j := 0) rfl ?_
        refine V.il dX6_laysArriving_43 (pc' := 45) rfl (j := 5) rfl ?_
        obtain ⟨q4, eq4, e⟩ := bd_s e
        refine V.callVi dX6_laysArriving_45 (pc' := 48) rfl CV_X6_241 (as := [.int v5]) (kX6_pinchOf q3.2 v5 q4 eq4) (Gs_rm (by decide)) rfl (by decide) rfl (Nat.le_of_ble_eq_true rfl) rfl ?_
        refine V.ic_eq dX6_laysArriving_48 (pc' := 51) rfl (tgt := 54) (by decide) (fun c => ?_) (fun c => ?_)
        · rw [if_pos c] at e
          refine V.il dX6_laysArriving_54 (pc' := 56) rfl (j := 4) rfl ?_
          refine V.is dX6_laysArriving_56 (pc' := 58) rfl (by decide) rfl (L' := [(6, .int v4), (0, .ref 54), (1, .int v1), (2, .int v2), (3, .ref a3), (4, .int v4), (5, .int v5)]) rfl ?_
          refine V.pk [1, 2, 3, 4, 5, 6, 0] rfl ?_
          exact vX6_laysArriving_b58 k6 hk6 FU q4.2 v1 v2 a3 v4 v5 v4 ⟨ha3.1, ha3.2⟩ q e
        · rw [if_neg c] at e
          refine V.goto dX6_laysArriving_51 (pc' := 109) (by decide) ?_
          exact vX6_laysArriving_c109 k6 hk6 q4.2 v1 v2 a3 v4 v5 ⟨ha3.1, ha3.2⟩ q e
def sX6_laysArriving_b6 : Nat → Hp → Int32 → Int32 → Nat → Int32 → Int32 → Option (Int32 × Hp)
  | 0 => fun _ _ _ _ _ _ => none
  | n + 1 => sX6_laysArriving_c6 (sX6_laysArriving_b6 n)
theorem vX6_laysArriving_b6 : ∀ (n : Nat) (h : Hp) (v1 : Int32) (v2 : Int32) (a3 : Nat) (v4 : Int32) (v5 : Int32) (ha3 : ck a3 = 10 ∧ an a3 = 10) (q : (Int32 × Hp)), sX6_laysArriving_b6 n h v1 v2 a3 v4 v5 = some q → V (Gs 5 (pI q)) mX6_laysArriving (0, 0) 6 [(0, .ref 54), (1, .int v1), (2, .int v2), (3, .ref a3), (4, .int v4), (5, .int v5)] [] h
  | 0 => fun _ _ _ _ _ _ _ _ e => by cases e
  | n + 1 => fun h v1 v2 a3 v4 v5 ha3 q e => vX6_laysArriving_c6 (sX6_laysArriving_b6 n) (vX6_laysArriving_b6 n) h v1 v2 a3 v4 v5 ha3 q e
def sX6_laysArriving (h : Hp) (a1 : Int32) (a2 : Int32) (a3 : Nat) : Option (Int32 × Hp) :=
  gd (isA a3 10 10) (sX6_laysArriving_b6 FU h a1 a2 a3 (0 : Int32) (0 : Int32))
set_option maxRecDepth 10000 in
theorem kX6_laysArriving (h : Hp) (a1 : Int32) (a2 : Int32) (a3 : Nat) (q : (Int32 × Hp)) (e : sX6_laysArriving h a1 a2 a3 = some q) : K 5 mX6_laysArriving [.ref 54, .int a1, .int a2, .ref a3] h (pI q) := by
  unfold sX6_laysArriving at e
  obtain ⟨ha3, e⟩ := gd_s e
  have ha3 := isA_t ha3
  refine K.ofV (by decide) rfl (Nat.le_of_ble_eq_true rfl) ?_
  show V (Gs 5 (pI q)) mX6_laysArriving (0, 0) 0 [(0, .ref 54), (1, .int a1), (2, .int a2), (3, .ref a3)] [] h
  refine V.iconst dX6_laysArriving_0 (pc' := 1) rfl (v := 0) (by decide) ?_
  refine V.is dX6_laysArriving_1 (pc' := 3) rfl (by decide) rfl (L' := [(4, .int (0 : Int32)), (0, .ref 54), (1, .int a1), (2, .int a2), (3, .ref a3)]) rfl ?_
  refine V.iconst dX6_laysArriving_3 (pc' := 4) rfl (v := 0) (by decide) ?_
  refine V.is dX6_laysArriving_4 (pc' := 6) rfl (by decide) rfl (L' := [(5, .int (0 : Int32)), (4, .int (0 : Int32)), (0, .ref 54), (1, .int a1), (2, .int a2), (3, .ref a3)]) rfl ?_
  refine V.pk [2, 3, 4, 5, 1, 0] rfl ?_
  exact vX6_laysArriving_b6 FU h a1 a2 a3 (0 : Int32) (0 : Int32) ⟨ha3.1, ha3.2⟩ q e

-- X6_rest (level 5)
theorem dX6_rest_0 : decode cX6_rest 0 = .ok (.aload_n 0, 1) := by decide +kernel
theorem dX6_rest_1 : decode cX6_rest 1 = .ok (.iload_n 1, 1) := by decide +kernel
theorem dX6_rest_2 : decode cX6_rest 2 = .ok (.iload_n 2, 1) := by decide +kernel
theorem dX6_rest_3 : decode cX6_rest 3 = .ok (.invokevirtual 250, 3) := by decide +kernel
theorem dX6_rest_6 : decode cX6_rest 6 = .ok (.aload_n 0, 1) := by decide +kernel
theorem dX6_rest_7 : decode cX6_rest 7 = .ok (.iload_n 1, 1) := by decide +kernel
theorem dX6_rest_8 : decode cX6_rest 8 = .ok (.iload_n 2, 1) := by decide +kernel
theorem dX6_rest_9 : decode cX6_rest 9 = .ok (.aload_n 0, 1) := by decide +kernel
theorem dX6_rest_10 : decode cX6_rest 10 = .ok (.getfield 90, 3) := by decide +kernel
theorem dX6_rest_13 : decode cX6_rest 13 = .ok (.iload_n 1, 1) := by decide +kernel
theorem dX6_rest_14 : decode cX6_rest 14 = .ok (.iaload, 1) := by decide +kernel
theorem dX6_rest_15 : decode cX6_rest 15 = .ok (.invokevirtual 266, 3) := by decide +kernel
theorem dX6_rest_18 : decode cX6_rest 18 = .ok (.isub, 1) := by decide +kernel
theorem dX6_rest_19 : decode cX6_rest 19 = .ok (.ireturn, 1) := by decide +kernel
def sX6_rest (h : Hp) (a1 : Int32) (a2 : Int32) : Option (Int32 × Hp) :=
  (sX6_heat h a1 a2).bind fun q1 => gd (inb a1 2) ((sX6_used q1.2 a1 a2 (q1.2.1 67 a1.toNatClampNeg)).bind fun q3 => some ((q1.1 - q3.1), q3.2))
set_option maxRecDepth 10000 in
theorem kX6_rest (h : Hp) (a1 : Int32) (a2 : Int32) (q : (Int32 × Hp)) (e : sX6_rest h a1 a2 = some q) : K 5 mX6_rest [.ref 54, .int a1, .int a2] h (pI q) := by
  unfold sX6_rest at e
  refine K.ofV (by decide) rfl (Nat.le_of_ble_eq_true rfl) ?_
  show V (Gs 5 (pI q)) mX6_rest (0, 0) 0 [(0, .ref 54), (1, .int a1), (2, .int a2)] [] h
  refine V.alq dX6_rest_0 (pc' := 1) rfl (j := 0) rfl ?_
  refine V.ilq dX6_rest_1 (pc' := 2) rfl (j := 1) rfl ?_
  refine V.ilq dX6_rest_2 (pc' := 3) rfl (j := 2) rfl ?_
  obtain ⟨q1, eq1, e⟩ := bd_s e
  refine V.callVi dX6_rest_3 (pc' := 6) rfl CV_X6_250 (as := [.int a1, .int a2]) (kX6_heat h a1 a2 q1 eq1) (Gs_rm (by decide)) rfl (by decide) rfl (Nat.le_of_ble_eq_true rfl) rfl ?_
  refine V.alq dX6_rest_6 (pc' := 7) rfl (j := 0) rfl ?_
  refine V.ilq dX6_rest_7 (pc' := 8) rfl (j := 1) rfl ?_
  refine V.ilq dX6_rest_8 (pc' := 9) rfl (j := 2) rfl ?_
  refine V.alq dX6_rest_9 (pc' := 10) rfl (j := 0) rfl ?_
  refine V.getr dX6_rest_10 (pc' := 13) rfl FL_X6_90 rfl (by decide) rfl (r' := 67) rfl ?_
  refine V.ilq dX6_rest_13 (pc' := 14) rfl (j := 1) rfl ?_
  obtain ⟨c2, e⟩ := gd_s e
  refine V.iald dX6_rest_14 (pc' := 15) rfl rfl rfl (inb_t c2) ?_
  obtain ⟨q3, eq3, e⟩ := bd_s e
  refine V.callVi dX6_rest_15 (pc' := 18) rfl CV_X6_266 (as := [.int a1, .int a2, .int (q1.2.1 67 a1.toNatClampNeg)]) (kX6_used q1.2 a1 a2 (q1.2.1 67 a1.toNatClampNeg) q3 eq3) (Gs_rm (by decide)) rfl (by decide) rfl (Nat.le_of_ble_eq_true rfl) rfl ?_
  refine V.isub dX6_rest_18 (pc' := 19) rfl ?_
  exact V.iret dX6_rest_19 rfl (fnI e)

-- X6_widthAt (level 5)
theorem dX6_widthAt_0 : decode cX6_widthAt 0 = .ok (.iload_n 1, 1) := by decide +kernel
theorem dX6_widthAt_1 : decode cX6_widthAt 1 = .ok (.iload_n 2, 1) := by decide +kernel
theorem dX6_widthAt_2 : decode cX6_widthAt 2 = .ok (.invokestatic 263, 3) := by decide +kernel
theorem dX6_widthAt_5 : decode cX6_widthAt 5 = .ok (.istore 4, 2) := by decide +kernel
theorem dX6_widthAt_7 : decode cX6_widthAt 7 = .ok (.iload_n 3, 1) := by decide +kernel
theorem dX6_widthAt_8 : decode cX6_widthAt 8 = .ok (.ifCond .eq 13, 3) := by decide +kernel
theorem dX6_widthAt_11 : decode cX6_widthAt 11 = .ok (.aload_n 0, 1) := by decide +kernel
theorem dX6_widthAt_12 : decode cX6_widthAt 12 = .ok (.getfield 99, 3) := by decide +kernel
theorem dX6_widthAt_15 : decode cX6_widthAt 15 = .ok (.iload 4, 2) := by decide +kernel
theorem dX6_widthAt_17 : decode cX6_widthAt 17 = .ok (.iaload, 1) := by decide +kernel
theorem dX6_widthAt_18 : decode cX6_widthAt 18 = .ok (.goto 4, 3) := by decide +kernel
theorem dX6_widthAt_21 : decode cX6_widthAt 21 = .ok (.iconst 0, 1) := by decide +kernel
theorem dX6_widthAt_22 : decode cX6_widthAt 22 = .ok (.istore 5, 2) := by decide +kernel
theorem dX6_widthAt_24 : decode cX6_widthAt 24 = .ok (.aload_n 0, 1) := by decide +kernel
theorem dX6_widthAt_25 : decode cX6_widthAt 25 = .ok (.iload_n 1, 1) := by decide +kernel
theorem dX6_widthAt_26 : decode cX6_widthAt 26 = .ok (.aload_n 0, 1) := by decide +kernel
theorem dX6_widthAt_27 : decode cX6_widthAt 27 = .ok (.getfield 93, 3) := by decide +kernel
theorem dX6_widthAt_30 : decode cX6_widthAt 30 = .ok (.iload 4, 2) := by decide +kernel
theorem dX6_widthAt_32 : decode cX6_widthAt 32 = .ok (.iaload, 1) := by decide +kernel
theorem dX6_widthAt_33 : decode cX6_widthAt 33 = .ok (.aload_n 0, 1) := by decide +kernel
theorem dX6_widthAt_34 : decode cX6_widthAt 34 = .ok (.getfield 96, 3) := by decide +kernel
theorem dX6_widthAt_37 : decode cX6_widthAt 37 = .ok (.iload 4, 2) := by decide +kernel
theorem dX6_widthAt_39 : decode cX6_widthAt 39 = .ok (.iaload, 1) := by decide +kernel
theorem dX6_widthAt_40 : decode cX6_widthAt 40 = .ok (.aload_n 0, 1) := by decide +kernel
theorem dX6_widthAt_41 : decode cX6_widthAt 41 = .ok (.iload_n 1, 1) := by decide +kernel
theorem dX6_widthAt_42 : decode cX6_widthAt 42 = .ok (.aload_n 0, 1) := by decide +kernel
theorem dX6_widthAt_43 : decode cX6_widthAt 43 = .ok (.getfield 93, 3) := by decide +kernel
theorem dX6_widthAt_46 : decode cX6_widthAt 46 = .ok (.iload 4, 2) := by decide +kernel
theorem dX6_widthAt_48 : decode cX6_widthAt 48 = .ok (.iaload, 1) := by decide +kernel
theorem dX6_widthAt_49 : decode cX6_widthAt 49 = .ok (.iload_n 2, 1) := by decide +kernel
theorem dX6_widthAt_50 : decode cX6_widthAt 50 = .ok (.invokevirtual 266, 3) := by decide +kernel
theorem dX6_widthAt_53 : decode cX6_widthAt 53 = .ok (.iload 5, 2) := by decide +kernel
theorem dX6_widthAt_55 : decode cX6_widthAt 55 = .ok (.iadd, 1) := by decide +kernel
theorem dX6_widthAt_56 : decode cX6_widthAt 56 = .ok (.aload_n 0, 1) := by decide +kernel
theorem dX6_widthAt_57 : decode cX6_widthAt 57 = .ok (.iload_n 1, 1) := by decide +kernel
theorem dX6_widthAt_58 : decode cX6_widthAt 58 = .ok (.aload_n 0, 1) := by decide +kernel
theorem dX6_widthAt_59 : decode cX6_widthAt 59 = .ok (.getfield 96, 3) := by decide +kernel
theorem dX6_widthAt_62 : decode cX6_widthAt 62 = .ok (.iload 4, 2) := by decide +kernel
theorem dX6_widthAt_64 : decode cX6_widthAt 64 = .ok (.iaload, 1) := by decide +kernel
theorem dX6_widthAt_65 : decode cX6_widthAt 65 = .ok (.iload_n 2, 1) := by decide +kernel
theorem dX6_widthAt_66 : decode cX6_widthAt 66 = .ok (.invokevirtual 266, 3) := by decide +kernel
theorem dX6_widthAt_69 : decode cX6_widthAt 69 = .ok (.iload 5, 2) := by decide +kernel
theorem dX6_widthAt_71 : decode cX6_widthAt 71 = .ok (.iadd, 1) := by decide +kernel
theorem dX6_widthAt_72 : decode cX6_widthAt 72 = .ok (.invokevirtual 273, 3) := by decide +kernel
theorem dX6_widthAt_75 : decode cX6_widthAt 75 = .ok (.lreturn, 1) := by decide +kernel
def sX6_widthAt_c22 (h : Hp) (v1 : Int32) (v2 : Int32) (v4 : Int32) (t0 : Int32) : Option (Int64 × Hp) :=
  gd (inb v4 50) (gd (inb v4 50) (gd (inb v4 50) ((sX6_used h v1 (h.1 68 v4.toNatClampNeg) v2).bind fun q6 => gd (inb v4 50) ((sX6_used q6.2 v1 (q6.2.1 69 v4.toNatClampNeg) v2).bind fun q8 => (sX6_width q8.2 v1 (h.1 68 v4.toNatClampNeg) (h.1 69 v4.toNatClampNeg) (q6.1 + t0) (q8.1 + t0)).bind fun q9 => some (q9.1, q9.2)))))
set_option maxRecDepth 10000 in
theorem vX6_widthAt_c22 (h : Hp) (v1 : Int32) (v2 : Int32) (v4 : Int32) (t0 : Int32) (q : (Int64 × Hp)) (e : sX6_widthAt_c22 h v1 v2 v4 t0 = some q) : V (Gs 5 (pL q)) mX6_widthAt (0, 0) 22 [(0, .ref 54), (1, .int v1), (2, .int v2), (4, .int v4)] [.int t0] h := by
  unfold sX6_widthAt_c22 at e
  refine V.is dX6_widthAt_22 (pc' := 24) rfl (by decide) rfl (L' := [(5, .int t0), (0, .ref 54), (1, .int v1), (2, .int v2), (4, .int v4)]) rfl ?_
  refine V.alq dX6_widthAt_24 (pc' := 25) rfl (j := 1) rfl ?_
  refine V.ilq dX6_widthAt_25 (pc' := 26) rfl (j := 2) rfl ?_
  refine V.alq dX6_widthAt_26 (pc' := 27) rfl (j := 1) rfl ?_
  refine V.getr dX6_widthAt_27 (pc' := 30) rfl FL_X6_93 rfl (by decide) rfl (r' := 68) rfl ?_
  refine V.il dX6_widthAt_30 (pc' := 32) rfl (j := 4) rfl ?_
  obtain ⟨c3, e⟩ := gd_s e
  refine V.iald dX6_widthAt_32 (pc' := 33) rfl rfl rfl (inb_t c3) ?_
  refine V.alq dX6_widthAt_33 (pc' := 34) rfl (j := 1) rfl ?_
  refine V.getr dX6_widthAt_34 (pc' := 37) rfl FL_X6_96 rfl (by decide) rfl (r' := 69) rfl ?_
  refine V.il dX6_widthAt_37 (pc' := 39) rfl (j := 4) rfl ?_
  obtain ⟨c4, e⟩ := gd_s e
  refine V.iald dX6_widthAt_39 (pc' := 40) rfl rfl rfl (inb_t c4) ?_
  refine V.alq dX6_widthAt_40 (pc' := 41) rfl (j := 1) rfl ?_
  refine V.ilq dX6_widthAt_41 (pc' := 42) rfl (j := 2) rfl ?_
  refine V.alq dX6_widthAt_42 (pc' := 43) rfl (j := 1) rfl ?_
  refine V.getr dX6_widthAt_43 (pc' := 46) rfl FL_X6_93 rfl (by decide) rfl (r' := 68) rfl ?_
  refine V.il dX6_widthAt_46 (pc' := 48) rfl (j := 4) rfl ?_
  obtain ⟨c5, e⟩ := gd_s e
  refine V.iald dX6_widthAt_48 (pc' := 49) rfl rfl rfl (inb_t c5) ?_
  refine V.ilq dX6_widthAt_49 (pc' := 50) rfl (j := 3) rfl ?_
  obtain ⟨q6, eq6, e⟩ := bd_s e
  refine V.callVi dX6_widthAt_50 (pc' := 53) rfl CV_X6_266 (as := [.int v1, .int (h.1 68 v4.toNatClampNeg), .int v2]) (kX6_used h v1 (h.1 68 v4.toNatClampNeg) v2 q6 eq6) (Gs_rm (by decide)) rfl (by decide) rfl (Nat.le_of_ble_eq_true rfl) rfl ?_
  refine V.il dX6_widthAt_53 (pc' := 55) rfl (j := 0) rfl ?_
  refine V.iadd dX6_widthAt_55 (pc' := 56) rfl ?_
  refine V.alq dX6_widthAt_56 (pc' := 57) rfl (j := 1) rfl ?_
  refine V.ilq dX6_widthAt_57 (pc' := 58) rfl (j := 2) rfl ?_
  refine V.alq dX6_widthAt_58 (pc' := 59) rfl (j := 1) rfl ?_
  refine V.getr dX6_widthAt_59 (pc' := 62) rfl FL_X6_96 rfl (by decide) rfl (r' := 69) rfl ?_
  refine V.il dX6_widthAt_62 (pc' := 64) rfl (j := 4) rfl ?_
  obtain ⟨c7, e⟩ := gd_s e
  refine V.iald dX6_widthAt_64 (pc' := 65) rfl rfl rfl (inb_t c7) ?_
  refine V.ilq dX6_widthAt_65 (pc' := 66) rfl (j := 3) rfl ?_
  obtain ⟨q8, eq8, e⟩ := bd_s e
  refine V.callVi dX6_widthAt_66 (pc' := 69) rfl CV_X6_266 (as := [.int v1, .int (q6.2.1 69 v4.toNatClampNeg), .int v2]) (kX6_used q6.2 v1 (q6.2.1 69 v4.toNatClampNeg) v2 q8 eq8) (Gs_rm (by decide)) rfl (by decide) rfl (Nat.le_of_ble_eq_true rfl) rfl ?_
  refine V.il dX6_widthAt_69 (pc' := 71) rfl (j := 0) rfl ?_
  refine V.iadd dX6_widthAt_71 (pc' := 72) rfl ?_
  obtain ⟨q9, eq9, e⟩ := bd_s e
  refine V.callVl dX6_widthAt_72 (pc' := 75) rfl CV_X6_273 (as := [.int v1, .int (h.1 68 v4.toNatClampNeg), .int (h.1 69 v4.toNatClampNeg), .int (q6.1 + t0), .int (q8.1 + t0)]) (kX6_width q8.2 v1 (h.1 68 v4.toNatClampNeg) (h.1 69 v4.toNatClampNeg) (q6.1 + t0) (q8.1 + t0) q9 eq9) (Gs_rm (by decide)) rfl (by decide) rfl (Nat.le_of_ble_eq_true rfl) rfl ?_
  exact V.lret dX6_widthAt_75 rfl (fnL e)
def sX6_widthAt (h : Hp) (a1 : Int32) (a2 : Int32) (a3 : Int32) : Option (Int64 × Hp) :=
  (sX6_place h a1 a2).bind fun q1 => if a3 = 0 then (sX6_widthAt_c22 q1.2 a1 a2 q1.1 (0 : Int32)) else (gd (inb q1.1 50) (sX6_widthAt_c22 q1.2 a1 a2 q1.1 (q1.2.1 70 q1.1.toNatClampNeg)))
set_option maxRecDepth 10000 in
theorem kX6_widthAt (h : Hp) (a1 : Int32) (a2 : Int32) (a3 : Int32) (q : (Int64 × Hp)) (e : sX6_widthAt h a1 a2 a3 = some q) : K 5 mX6_widthAt [.ref 54, .int a1, .int a2, .int a3] h (pL q) := by
  unfold sX6_widthAt at e
  refine K.ofV (by decide) rfl (Nat.le_of_ble_eq_true rfl) ?_
  show V (Gs 5 (pL q)) mX6_widthAt (0, 0) 0 [(0, .ref 54), (1, .int a1), (2, .int a2), (3, .int a3)] [] h
  refine V.ilq dX6_widthAt_0 (pc' := 1) rfl (j := 1) rfl ?_
  refine V.ilq dX6_widthAt_1 (pc' := 2) rfl (j := 2) rfl ?_
  obtain ⟨q1, eq1, e⟩ := bd_s e
  refine V.callSi dX6_widthAt_2 (pc' := 5) rfl CS_X6_263 (as := [.int a1, .int a2]) (kX6_place h a1 a2 q1 eq1) (Gs_rm (by decide)) rfl (Nat.le_of_ble_eq_true rfl) rfl ?_
  refine V.is dX6_widthAt_5 (pc' := 7) rfl (by decide) rfl (L' := [(4, .int q1.1), (0, .ref 54), (1, .int a1), (2, .int a2), (3, .int a3)]) rfl ?_
  refine V.ilq dX6_widthAt_7 (pc' := 8) rfl (j := 4) rfl ?_
  refine V.if_eq dX6_widthAt_8 (pc' := 11) rfl (tgt := 21) (by decide) (fun c => ?_) (fun c => ?_)
  · rw [if_pos c] at e
    refine V.iconst dX6_widthAt_21 (pc' := 22) rfl (v := 0) (by decide) ?_
    refine V.pk [1, 2, 3, 0] rfl ?_
    exact vX6_widthAt_c22 q1.2 a1 a2 q1.1 (0 : Int32) q e
  · rw [if_neg c] at e
    refine V.alq dX6_widthAt_11 (pc' := 12) rfl (j := 1) rfl ?_
    refine V.getr dX6_widthAt_12 (pc' := 15) rfl FL_X6_99 rfl (by decide) rfl (r' := 70) rfl ?_
    refine V.il dX6_widthAt_15 (pc' := 17) rfl (j := 0) rfl ?_
    obtain ⟨c2, e⟩ := gd_s e
    refine V.iald dX6_widthAt_17 (pc' := 18) rfl rfl rfl (inb_t c2) ?_
    refine V.goto dX6_widthAt_18 (pc' := 22) (by decide) ?_
    refine V.pk [1, 2, 3, 0] rfl ?_
    exact vX6_widthAt_c22 q1.2 a1 a2 q1.1 (q1.2.1 70 q1.1.toNatClampNeg) q e

-- X6_areThere (level 5)
theorem dX6_areThere_0 : decode cX6_areThere 0 = .ok (.iload_n 1, 1) := by decide +kernel
theorem dX6_areThere_1 : decode cX6_areThere 1 = .ok (.invokestatic 253, 3) := by decide +kernel
theorem dX6_areThere_4 : decode cX6_areThere 4 = .ok (.ifCond .eq 57, 3) := by decide +kernel
theorem dX6_areThere_7 : decode cX6_areThere 7 = .ok (.aload_n 0, 1) := by decide +kernel
theorem dX6_areThere_8 : decode cX6_areThere 8 = .ok (.iload_n 2, 1) := by decide +kernel
theorem dX6_areThere_9 : decode cX6_areThere 9 = .ok (.invokevirtual 137, 3) := by decide +kernel
theorem dX6_areThere_12 : decode cX6_areThere 12 = .ok (.ifCond .eq 49, 3) := by decide +kernel
theorem dX6_areThere_15 : decode cX6_areThere 15 = .ok (.aload_n 0, 1) := by decide +kernel
theorem dX6_areThere_16 : decode cX6_areThere 16 = .ok (.iload_n 3, 1) := by decide +kernel
theorem dX6_areThere_17 : decode cX6_areThere 17 = .ok (.invokevirtual 137, 3) := by decide +kernel
theorem dX6_areThere_20 : decode cX6_areThere 20 = .ok (.ifCond .eq 41, 3) := by decide +kernel
theorem dX6_areThere_23 : decode cX6_areThere 23 = .ok (.aload_n 0, 1) := by decide +kernel
theorem dX6_areThere_24 : decode cX6_areThere 24 = .ok (.iload_n 2, 1) := by decide +kernel
theorem dX6_areThere_25 : decode cX6_areThere 25 = .ok (.invokevirtual 144, 3) := by decide +kernel
theorem dX6_areThere_28 : decode cX6_areThere 28 = .ok (.ifCond .eq 33, 3) := by decide +kernel
theorem dX6_areThere_31 : decode cX6_areThere 31 = .ok (.aload_n 0, 1) := by decide +kernel
theorem dX6_areThere_32 : decode cX6_areThere 32 = .ok (.iload_n 3, 1) := by decide +kernel
theorem dX6_areThere_33 : decode cX6_areThere 33 = .ok (.invokevirtual 144, 3) := by decide +kernel
theorem dX6_areThere_36 : decode cX6_areThere 36 = .ok (.ifCond .ne 25, 3) := by decide +kernel
theorem dX6_areThere_39 : decode cX6_areThere 39 = .ok (.aload_n 0, 1) := by decide +kernel
theorem dX6_areThere_40 : decode cX6_areThere 40 = .ok (.iload_n 1, 1) := by decide +kernel
theorem dX6_areThere_41 : decode cX6_areThere 41 = .ok (.iload_n 2, 1) := by decide +kernel
theorem dX6_areThere_42 : decode cX6_areThere 42 = .ok (.invokevirtual 250, 3) := by decide +kernel
theorem dX6_areThere_45 : decode cX6_areThere 45 = .ok (.ifCond .le 16, 3) := by decide +kernel
theorem dX6_areThere_48 : decode cX6_areThere 48 = .ok (.aload_n 0, 1) := by decide +kernel
theorem dX6_areThere_49 : decode cX6_areThere 49 = .ok (.iload_n 1, 1) := by decide +kernel
theorem dX6_areThere_50 : decode cX6_areThere 50 = .ok (.iload_n 3, 1) := by decide +kernel
theorem dX6_areThere_51 : decode cX6_areThere 51 = .ok (.invokevirtual 250, 3) := by decide +kernel
theorem dX6_areThere_54 : decode cX6_areThere 54 = .ok (.ifCond .le 7, 3) := by decide +kernel
theorem dX6_areThere_57 : decode cX6_areThere 57 = .ok (.iconst 1, 1) := by decide +kernel
theorem dX6_areThere_58 : decode cX6_areThere 58 = .ok (.goto 4, 3) := by decide +kernel
theorem dX6_areThere_61 : decode cX6_areThere 61 = .ok (.iconst 0, 1) := by decide +kernel
theorem dX6_areThere_62 : decode cX6_areThere 62 = .ok (.ireturn, 1) := by decide +kernel
def sX6_areThere_c62 (h : Hp) (t0 : Int32) : Option (Int32 × Hp) :=
  gd (zb t0) (some (t0, h))
set_option maxRecDepth 10000 in
theorem vX6_areThere_c62 (h : Hp) (t0 : Int32) (q : (Int32 × Hp)) (e : sX6_areThere_c62 h t0 = some q) : V (Gs 5 (pI q)) mX6_areThere (0, 0) 62 [] [.int t0] h := by
  unfold sX6_areThere_c62 at e
  obtain ⟨c8, e⟩ := gd_s e
  exact V.zret dX6_areThere_62 rfl (zb_t c8) (fnI e)
def sX6_areThere_c61 (h : Hp) : Option (Int32 × Hp) :=
  sX6_areThere_c62 h (0 : Int32)
set_option maxRecDepth 10000 in
theorem vX6_areThere_c61 (h : Hp) (q : (Int32 × Hp)) (e : sX6_areThere_c61 h = some q) : V (Gs 5 (pI q)) mX6_areThere (0, 0) 61 [] [] h := by
  unfold sX6_areThere_c61 at e
  refine V.iconst dX6_areThere_61 (pc' := 62) rfl (v := 0) (by decide) ?_
  exact vX6_areThere_c62 h (0 : Int32) q e
def sX6_areThere (h : Hp) (a1 : Int32) (a2 : Int32) (a3 : Int32) : Option (Int32 × Hp) :=
  (sX6_isSide h a1).bind fun q1 => if q1.1 = 0 then (sX6_areThere_c61 q1.2) else ((sX6_isStream q1.2 a2).bind fun q2 => if q2.1 = 0 then (sX6_areThere_c61 q2.2) else ((sX6_isStream q2.2 a3).bind fun q3 => if q3.1 = 0 then (sX6_areThere_c61 q3.2) else ((sX6_isHot q3.2 a2).bind fun q4 => if q4.1 = 0 then (sX6_areThere_c61 q4.2) else ((sX6_isHot q4.2 a3).bind fun q5 => if q5.1 = 0 then ((sX6_heat q5.2 a1 a2).bind fun q6 => if q6.1 ≤ 0 then (sX6_areThere_c61 q6.2) else ((sX6_heat q6.2 a1 a3).bind fun q7 => if q7.1 ≤ 0 then (sX6_areThere_c61 q7.2) else (sX6_areThere_c62 q7.2 (1 : Int32)))) else (sX6_areThere_c61 q5.2)))))
set_option maxRecDepth 10000 in
theorem kX6_areThere (h : Hp) (a1 : Int32) (a2 : Int32) (a3 : Int32) (q : (Int32 × Hp)) (e : sX6_areThere h a1 a2 a3 = some q) : K 5 mX6_areThere [.ref 54, .int a1, .int a2, .int a3] h (pI q) := by
  unfold sX6_areThere at e
  refine K.ofV (by decide) rfl (Nat.le_of_ble_eq_true rfl) ?_
  show V (Gs 5 (pI q)) mX6_areThere (0, 0) 0 [(0, .ref 54), (1, .int a1), (2, .int a2), (3, .int a3)] [] h
  refine V.ilq dX6_areThere_0 (pc' := 1) rfl (j := 1) rfl ?_
  obtain ⟨q1, eq1, e⟩ := bd_s e
  refine V.callSi dX6_areThere_1 (pc' := 4) rfl CS_X6_253 (as := [.int a1]) (kX6_isSide h a1 q1 eq1) (Gs_rm (by decide)) rfl (Nat.le_of_ble_eq_true rfl) rfl ?_
  refine V.if_eq dX6_areThere_4 (pc' := 7) rfl (tgt := 61) (by decide) (fun c => ?_) (fun c => ?_)
  · rw [if_pos c] at e
    refine V.pk [] rfl ?_
    exact vX6_areThere_c61 q1.2 q e
  · rw [if_neg c] at e
    refine V.alq dX6_areThere_7 (pc' := 8) rfl (j := 0) rfl ?_
    refine V.ilq dX6_areThere_8 (pc' := 9) rfl (j := 2) rfl ?_
    obtain ⟨q2, eq2, e⟩ := bd_s e
    refine V.callVi dX6_areThere_9 (pc' := 12) rfl CV_X6_137 (as := [.int a2]) (kX6_isStream q1.2 a2 q2 eq2) (Gs_rm (by decide)) rfl (by decide) rfl (Nat.le_of_ble_eq_true rfl) rfl ?_
    refine V.if_eq dX6_areThere_12 (pc' := 15) rfl (tgt := 61) (by decide) (fun c => ?_) (fun c => ?_)
    · rw [if_pos c] at e
      refine V.pk [] rfl ?_
      exact vX6_areThere_c61 q2.2 q e
    · rw [if_neg c] at e
      refine V.alq dX6_areThere_15 (pc' := 16) rfl (j := 0) rfl ?_
      refine V.ilq dX6_areThere_16 (pc' := 17) rfl (j := 3) rfl ?_
      obtain ⟨q3, eq3, e⟩ := bd_s e
      refine V.callVi dX6_areThere_17 (pc' := 20) rfl CV_X6_137 (as := [.int a3]) (kX6_isStream q2.2 a3 q3 eq3) (Gs_rm (by decide)) rfl (by decide) rfl (Nat.le_of_ble_eq_true rfl) rfl ?_
      refine V.if_eq dX6_areThere_20 (pc' := 23) rfl (tgt := 61) (by decide) (fun c => ?_) (fun c => ?_)
      · rw [if_pos c] at e
        refine V.pk [] rfl ?_
        exact vX6_areThere_c61 q3.2 q e
      · rw [if_neg c] at e
        refine V.alq dX6_areThere_23 (pc' := 24) rfl (j := 0) rfl ?_
        refine V.ilq dX6_areThere_24 (pc' := 25) rfl (j := 2) rfl ?_
        obtain ⟨q4, eq4, e⟩ := bd_s e
        refine V.callVi dX6_areThere_25 (pc' := 28) rfl CV_X6_144 (as := [.int a2]) (kX6_isHot q3.2 a2 q4 eq4) (Gs_rm (by decide)) rfl (by decide) rfl (Nat.le_of_ble_eq_true rfl) rfl ?_
        refine V.if_eq dX6_areThere_28 (pc' := 31) rfl (tgt := 61) (by decide) (fun c => ?_) (fun c => ?_)
        · rw [if_pos c] at e
          refine V.pk [] rfl ?_
          exact vX6_areThere_c61 q4.2 q e
        · rw [if_neg c] at e
          refine V.alq dX6_areThere_31 (pc' := 32) rfl (j := 0) rfl ?_
          refine V.ilq dX6_areThere_32 (pc' := 33) rfl (j := 3) rfl ?_
          obtain ⟨q5, eq5, e⟩ := bd_s e
          refine V.callVi dX6_areThere_33 (pc' := 36) rfl CV_X6_144 (as := [.int a3]) (kX6_isHot q4.2 a3 q5 eq5) (Gs_rm (by decide)) rfl (by decide) rfl (Nat.le_of_ble_eq_true rfl) rfl ?_
          refine V.if_ne dX6_areThere_36 (pc' := 39) rfl (tgt := 61) (by decide) (fun c => ?_) (fun c => ?_)
          · rw [if_neg c] at e
            refine V.pk [] rfl ?_
            exact vX6_areThere_c61 q5.2 q e
          · rw [if_pos c] at e
            refine V.alq dX6_areThere_39 (pc' := 40) rfl (j := 0) rfl ?_
            refine V.ilq dX6_areThere_40 (pc' := 41) rfl (j := 1) rfl ?_
            refine V.ilq dX6_areThere_41 (pc' := 42) rfl (j := 2) rfl ?_
            obtain ⟨q6, eq6, e⟩ := bd_s e
            refine V.callVi dX6_areThere_42 (pc' := 45) rfl CV_X6_250 (as := [.int a1, .int a2]) (kX6_heat q5.2 a1 a2 q6 eq6) (Gs_rm (by decide)) rfl (by decide) rfl (Nat.le_of_ble_eq_true rfl) rfl ?_
            refine V.if_le dX6_areThere_45 (pc' := 48) rfl (tgt := 61) (by decide) (fun c => ?_) (fun c => ?_)
            · rw [if_pos c] at e
              refine V.pk [] rfl ?_
              exact vX6_areThere_c61 q6.2 q e
            · rw [if_neg c] at e
              refine V.alq dX6_areThere_48 (pc' := 49) rfl (j := 0) rfl ?_
              refine V.ilq dX6_areThere_49 (pc' := 50) rfl (j := 1) rfl ?_
              refine V.ilq dX6_areThere_50 (pc' := 51) rfl (j := 3) rfl ?_
              obtain ⟨q7, eq7, e⟩ := bd_s e
              refine V.callVi dX6_areThere_51 (pc' := 54) rfl CV_X6_250 (as := [.int a1, .int a3]) (kX6_heat q6.2 a1 a3 q7 eq7) (Gs_rm (by decide)) rfl (by decide) rfl (Nat.le_of_ble_eq_true rfl) rfl ?_
              refine V.if_le dX6_areThere_54 (pc' := 57) rfl (tgt := 61) (by decide) (fun c => ?_) (fun c => ?_)
              · rw [if_pos c] at e
                refine V.pk [] rfl ?_
                exact vX6_areThere_c61 q7.2 q e
              · rw [if_neg c] at e
                refine V.iconst dX6_areThere_57 (pc' := 58) rfl (v := 1) (by decide) ?_
                refine V.goto dX6_areThere_58 (pc' := 62) (by decide) ?_
                refine V.pk [] rfl ?_
                exact vX6_areThere_c62 q7.2 (1 : Int32) q e

-- X5_leaves (level 6)
theorem dX5_leaves_0 : decode cX5_leaves 0 = .ok (.aload_n 0, 1) := by decide +kernel
theorem dX5_leaves_1 : decode cX5_leaves 1 = .ok (.iload_n 1, 1) := by decide +kernel
theorem dX5_leaves_2 : decode cX5_leaves 2 = .ok (.iload_n 2, 1) := by decide +kernel
theorem dX5_leaves_3 : decode cX5_leaves 3 = .ok (.invokevirtual 264, 3) := by decide +kernel
theorem dX5_leaves_6 : decode cX5_leaves 6 = .ok (.ifCond .ne 5, 3) := by decide +kernel
theorem dX5_leaves_9 : decode cX5_leaves 9 = .ok (.iconst (-1), 1) := by decide +kernel
theorem dX5_leaves_10 : decode cX5_leaves 10 = .ok (.ireturn, 1) := by decide +kernel
theorem dX5_leaves_11 : decode cX5_leaves 11 = .ok (.aload_n 0, 1) := by decide +kernel
theorem dX5_leaves_12 : decode cX5_leaves 12 = .ok (.iload_n 1, 1) := by decide +kernel
theorem dX5_leaves_13 : decode cX5_leaves 13 = .ok (.invokevirtual 214, 3) := by decide +kernel
theorem dX5_leaves_16 : decode cX5_leaves 16 = .ok (.astore_n 3, 1) := by decide +kernel
theorem dX5_leaves_17 : decode cX5_leaves 17 = .ok (.aload_n 3, 1) := by decide +kernel
theorem dX5_leaves_18 : decode cX5_leaves 18 = .ok (.invokevirtual 287, 3) := by decide +kernel
theorem dX5_leaves_21 : decode cX5_leaves 21 = .ok (.aload_n 3, 1) := by decide +kernel
theorem dX5_leaves_22 : decode cX5_leaves 22 = .ok (.getfield 290, 3) := by decide +kernel
theorem dX5_leaves_25 : decode cX5_leaves 25 = .ok (.iload_n 2, 1) := by decide +kernel
theorem dX5_leaves_26 : decode cX5_leaves 26 = .ok (.iconst 0, 1) := by decide +kernel
theorem dX5_leaves_27 : decode cX5_leaves 27 = .ok (.iastore, 1) := by decide +kernel
theorem dX5_leaves_28 : decode cX5_leaves 28 = .ok (.aload_n 0, 1) := by decide +kernel
theorem dX5_leaves_29 : decode cX5_leaves 29 = .ok (.aload_n 3, 1) := by decide +kernel
theorem dX5_leaves_30 : decode cX5_leaves 30 = .ok (.invokevirtual 293, 3) := by decide +kernel
theorem dX5_leaves_33 : decode cX5_leaves 33 = .ok (.ifCond .eq 10, 3) := by decide +kernel
theorem dX5_leaves_36 : decode cX5_leaves 36 = .ok (.aload_n 3, 1) := by decide +kernel
theorem dX5_leaves_37 : decode cX5_leaves 37 = .ok (.getfield 243, 3) := by decide +kernel
theorem dX5_leaves_40 : decode cX5_leaves 40 = .ok (.goto 5, 3) := by decide +kernel
theorem dX5_leaves_43 : decode cX5_leaves 43 = .ok (.bipush (-4), 2) := by decide +kernel
theorem dX5_leaves_45 : decode cX5_leaves 45 = .ok (.ireturn, 1) := by decide +kernel
def sX5_leaves_c45 (h : Hp) (t0 : Int32) : Option (Int32 × Hp) :=
  some (t0, h)
set_option maxRecDepth 10000 in
theorem vX5_leaves_c45 (h : Hp) (t0 : Int32) (q : (Int32 × Hp)) (e : sX5_leaves_c45 h t0 = some q) : V (Gs 6 (pI q)) mX5_leaves (0, 0) 45 [] [.int t0] h := by
  unfold sX5_leaves_c45 at e
  exact V.iret dX5_leaves_45 rfl (fnI e)
def sX5_leaves (h : Hp) (a1 : Int32) (a2 : Int32) : Option (Int32 × Hp) :=
  (sX5_hasMatch h a1 a2).bind fun q1 => if q1.1 = 0 then (some ((-1 : Int32), q1.2)) else ((sX5_sideOf q1.2 a1).bind fun q2 => gd (isC q2.1 2) ((sX2_wantAsIs q2.2 q2.1).bind fun q4 => gd (inb a2 24) (nm (u1 q4 (q2.1 + 11) a2.toNatClampNeg (0 : Int32)) fun h6 => (sX5_takesWanted h6 q2.1).bind fun q7 => if q7.1 = 0 then (sX5_leaves_c45 q7.2 (-4 : Int32)) else (sX5_leaves_c45 q7.2 (q7.2.1 q2.1 14)))))
set_option maxRecDepth 10000 in
theorem kX5_leaves (h : Hp) (a1 : Int32) (a2 : Int32) (q : (Int32 × Hp)) (e : sX5_leaves h a1 a2 = some q) : K 6 mX5_leaves [.ref 1, .int a1, .int a2] h (pI q) := by
  unfold sX5_leaves at e
  refine K.ofV (by decide) rfl (Nat.le_of_ble_eq_true rfl) ?_
  show V (Gs 6 (pI q)) mX5_leaves (0, 0) 0 [(0, .ref 1), (1, .int a1), (2, .int a2)] [] h
  refine V.alq dX5_leaves_0 (pc' := 1) rfl (j := 0) rfl ?_
  refine V.ilq dX5_leaves_1 (pc' := 2) rfl (j := 1) rfl ?_
  refine V.ilq dX5_leaves_2 (pc' := 3) rfl (j := 2) rfl ?_
  obtain ⟨q1, eq1, e⟩ := bd_s e
  refine V.callVi dX5_leaves_3 (pc' := 6) rfl CV_X5_264 (as := [.int a1, .int a2]) (kX5_hasMatch h a1 a2 q1 eq1) (Gs_rm (by decide)) rfl (by decide) rfl (Nat.le_of_ble_eq_true rfl) rfl ?_
  refine V.if_ne dX5_leaves_6 (pc' := 9) rfl (tgt := 11) (by decide) (fun c => ?_) (fun c => ?_)
  · rw [if_neg c] at e
    refine V.alq dX5_leaves_11 (pc' := 12) rfl (j := 0) rfl ?_
    refine V.ilq dX5_leaves_12 (pc' := 13) rfl (j := 1) rfl ?_
    obtain ⟨q2, eq2, e⟩ := bd_s e
    refine V.callVr dX5_leaves_13 (pc' := 16) rfl CV_X5_214 (as := [.int a1]) (kX5_sideOf q1.2 a1 q2 eq2) (Gs_rm (by decide)) rfl (by decide) rfl (Nat.le_of_ble_eq_true rfl) rfl ?_
    obtain ⟨c3, e⟩ := gd_s e
    refine V.asq dX5_leaves_16 (pc' := 17) rfl (by decide) rfl (L' := [(3, .ref q2.1), (0, .ref 1), (1, .int a1), (2, .int a2)]) rfl ?_
    refine V.alq dX5_leaves_17 (pc' := 18) rfl (j := 0) rfl ?_
    obtain ⟨q4, eq4, e⟩ := bd_s e
    refine V.callVv dX5_leaves_18 (pc' := 21) rfl CV_X5_287 (as := []) (kX2_wantAsIs q2.2 q2.1 q4 eq4) (Gs_rm (by decide)) (isC_t c3) (by decide) rfl (Nat.le_of_ble_eq_true rfl) rfl ?_
    refine V.alq dX5_leaves_21 (pc' := 22) rfl (j := 0) rfl ?_
    refine V.getr dX5_leaves_22 (pc' := 25) rfl FL_X5_290 (isC_t c3) (by decide) rfl (r' := q2.1 + 11) rfl ?_
    refine V.ilq dX5_leaves_25 (pc' := 26) rfl (j := 3) rfl ?_
    refine V.iconst dX5_leaves_26 (pc' := 27) rfl (v := 0) (by decide) ?_
    obtain ⟨c5, e⟩ := gd_s e
    obtain ⟨h6, eh6, e⟩ := nm_s e
    refine V.iast dX5_leaves_27 (pc' := 28) rfl (akX2_11 (isC_t c3)).1 (akX2_11 (isC_t c3)).2 (inb_t c5) eh6 ?_
    refine V.alq dX5_leaves_28 (pc' := 29) rfl (j := 1) rfl ?_
    refine V.alq dX5_leaves_29 (pc' := 30) rfl (j := 0) rfl ?_
    obtain ⟨q7, eq7, e⟩ := bd_s e
    refine V.callVi dX5_leaves_30 (pc' := 33) rfl CV_X5_293 (as := [.ref q2.1]) (kX5_takesWanted h6 q2.1 q7 eq7) (Gs_rm (by decide)) rfl (by decide) rfl (Nat.le_of_ble_eq_true rfl) rfl ?_
    refine V.if_eq dX5_leaves_33 (pc' := 36) rfl (tgt := 43) (by decide) (fun c => ?_) (fun c => ?_)
    · rw [if_pos c] at e
      refine V.bipush dX5_leaves_43 (pc' := 45) rfl (v := -4) (by decide) ?_
      refine V.pk [] rfl ?_
      exact vX5_leaves_c45 q7.2 (-4 : Int32) q e
    · rw [if_neg c] at e
      refine V.alq dX5_leaves_36 (pc' := 37) rfl (j := 0) rfl ?_
      refine V.getf dX5_leaves_37 (pc' := 40) rfl FL_X5_243 (isC_t c3) (by decide) rfl ?_
      refine V.goto dX5_leaves_40 (pc' := 45) (by decide) ?_
      refine V.pk [] rfl ?_
      exact vX5_leaves_c45 q7.2 (q7.2.1 q2.1 14) q e
  · rw [if_pos c] at e
    refine V.iconst dX5_leaves_9 (pc' := 10) rfl (v := -1) (by decide) ?_
    exact V.iret dX5_leaves_10 rfl (fnI e)

-- X5_loads (level 6)
theorem dX5_loads_0 : decode cX5_loads 0 = .ok (.aload_n 0, 1) := by decide +kernel
theorem dX5_loads_1 : decode cX5_loads 1 = .ok (.iload_n 1, 1) := by decide +kernel
theorem dX5_loads_2 : decode cX5_loads 2 = .ok (.iload_n 2, 1) := by decide +kernel
theorem dX5_loads_3 : decode cX5_loads 3 = .ok (.invokevirtual 264, 3) := by decide +kernel
theorem dX5_loads_6 : decode cX5_loads 6 = .ok (.ifCond .eq 8, 3) := by decide +kernel
theorem dX5_loads_9 : decode cX5_loads 9 = .ok (.iload_n 3, 1) := by decide +kernel
theorem dX5_loads_10 : decode cX5_loads 10 = .ok (.iconst 1, 1) := by decide +kernel
theorem dX5_loads_11 : decode cX5_loads 11 = .ok (.if_icmp .ge 5, 3) := by decide +kernel
theorem dX5_loads_14 : decode cX5_loads 14 = .ok (.iconst (-1), 1) := by decide +kernel
theorem dX5_loads_15 : decode cX5_loads 15 = .ok (.ireturn, 1) := by decide +kernel
theorem dX5_loads_16 : decode cX5_loads 16 = .ok (.aload_n 0, 1) := by decide +kernel
theorem dX5_loads_17 : decode cX5_loads 17 = .ok (.iload_n 1, 1) := by decide +kernel
theorem dX5_loads_18 : decode cX5_loads 18 = .ok (.invokevirtual 214, 3) := by decide +kernel
theorem dX5_loads_21 : decode cX5_loads 21 = .ok (.astore 4, 2) := by decide +kernel
theorem dX5_loads_23 : decode cX5_loads 23 = .ok (.aload 4, 2) := by decide +kernel
theorem dX5_loads_25 : decode cX5_loads 25 = .ok (.getfield 281, 3) := by decide +kernel
theorem dX5_loads_28 : decode cX5_loads 28 = .ok (.iload_n 2, 1) := by decide +kernel
theorem dX5_loads_29 : decode cX5_loads 29 = .ok (.iaload, 1) := by decide +kernel
theorem dX5_loads_30 : decode cX5_loads 30 = .ok (.istore 5, 2) := by decide +kernel
theorem dX5_loads_32 : decode cX5_loads 32 = .ok (.iload 5, 2) := by decide +kernel
theorem dX5_loads_34 : decode cX5_loads 34 = .ok (.iload_n 3, 1) := by decide +kernel
theorem dX5_loads_35 : decode cX5_loads 35 = .ok (.if_icmp .ne 6, 3) := by decide +kernel
theorem dX5_loads_38 : decode cX5_loads 38 = .ok (.bipush (-2), 2) := by decide +kernel
theorem dX5_loads_40 : decode cX5_loads 40 = .ok (.ireturn, 1) := by decide +kernel
theorem dX5_loads_41 : decode cX5_loads 41 = .ok (.iload_n 3, 1) := by decide +kernel
theorem dX5_loads_42 : decode cX5_loads 42 = .ok (.aload 4, 2) := by decide +kernel
theorem dX5_loads_44 : decode cX5_loads 44 = .ok (.aload 4, 2) := by decide +kernel
theorem dX5_loads_46 : decode cX5_loads 46 = .ok (.getfield 269, 3) := by decide +kernel
theorem dX5_loads_49 : decode cX5_loads 49 = .ok (.iload_n 2, 1) := by decide +kernel
theorem dX5_loads_50 : decode cX5_loads 50 = .ok (.iaload, 1) := by decide +kernel
theorem dX5_loads_51 : decode cX5_loads 51 = .ok (.invokevirtual 237, 3) := by decide +kernel
theorem dX5_loads_54 : decode cX5_loads 54 = .ok (.iload 5, 2) := by decide +kernel
theorem dX5_loads_56 : decode cX5_loads 56 = .ok (.iadd, 1) := by decide +kernel
theorem dX5_loads_57 : decode cX5_loads 57 = .ok (.if_icmp .gt 22, 3) := by decide +kernel
theorem dX5_loads_60 : decode cX5_loads 60 = .ok (.iload_n 3, 1) := by decide +kernel
theorem dX5_loads_61 : decode cX5_loads 61 = .ok (.aload 4, 2) := by decide +kernel
theorem dX5_loads_63 : decode cX5_loads 63 = .ok (.aload 4, 2) := by decide +kernel
theorem dX5_loads_65 : decode cX5_loads 65 = .ok (.getfield 271, 3) := by decide +kernel
theorem dX5_loads_68 : decode cX5_loads 68 = .ok (.iload_n 2, 1) := by decide +kernel
theorem dX5_loads_69 : decode cX5_loads 69 = .ok (.iaload, 1) := by decide +kernel
theorem dX5_loads_70 : decode cX5_loads 70 = .ok (.invokevirtual 237, 3) := by decide +kernel
theorem dX5_loads_73 : decode cX5_loads 73 = .ok (.iload 5, 2) := by decide +kernel
theorem dX5_loads_75 : decode cX5_loads 75 = .ok (.iadd, 1) := by decide +kernel
theorem dX5_loads_76 : decode cX5_loads 76 = .ok (.if_icmp .le 6, 3) := by decide +kernel
theorem dX5_loads_79 : decode cX5_loads 79 = .ok (.bipush (-3), 2) := by decide +kernel
theorem dX5_loads_81 : decode cX5_loads 81 = .ok (.ireturn, 1) := by decide +kernel
theorem dX5_loads_82 : decode cX5_loads 82 = .ok (.aload 4, 2) := by decide +kernel
theorem dX5_loads_84 : decode cX5_loads 84 = .ok (.invokevirtual 287, 3) := by decide +kernel
theorem dX5_loads_87 : decode cX5_loads 87 = .ok (.aload 4, 2) := by decide +kernel
theorem dX5_loads_89 : decode cX5_loads 89 = .ok (.getfield 290, 3) := by decide +kernel
theorem dX5_loads_92 : decode cX5_loads 92 = .ok (.iload_n 2, 1) := by decide +kernel
theorem dX5_loads_93 : decode cX5_loads 93 = .ok (.iload_n 3, 1) := by decide +kernel
theorem dX5_loads_94 : decode cX5_loads 94 = .ok (.iastore, 1) := by decide +kernel
theorem dX5_loads_95 : decode cX5_loads 95 = .ok (.aload_n 0, 1) := by decide +kernel
theorem dX5_loads_96 : decode cX5_loads 96 = .ok (.aload 4, 2) := by decide +kernel
theorem dX5_loads_98 : decode cX5_loads 98 = .ok (.invokevirtual 293, 3) := by decide +kernel
theorem dX5_loads_101 : decode cX5_loads 101 = .ok (.ifCond .eq 8, 3) := by decide +kernel
theorem dX5_loads_104 : decode cX5_loads 104 = .ok (.iload 5, 2) := by decide +kernel
theorem dX5_loads_106 : decode cX5_loads 106 = .ok (.goto 5, 3) := by decide +kernel
theorem dX5_loads_109 : decode cX5_loads 109 = .ok (.bipush (-4), 2) := by decide +kernel
theorem dX5_loads_111 : decode cX5_loads 111 = .ok (.ireturn, 1) := by decide +kernel
def sX5_loads_c14 (h : Hp) : Option (Int32 × Hp) :=
  some ((-1 : Int32), h)
set_option maxRecDepth 10000 in
theorem vX5_loads_c14 (h : Hp) (q : (Int32 × Hp)) (e : sX5_loads_c14 h = some q) : V (Gs 6 (pI q)) mX5_loads (0, 0) 14 [] [] h := by
  unfold sX5_loads_c14 at e
  refine V.iconst dX5_loads_14 (pc' := 15) rfl (v := -1) (by decide) ?_
  exact V.iret dX5_loads_15 rfl (fnI e)
def sX5_loads_c79 (h : Hp) : Option (Int32 × Hp) :=
  some ((-3 : Int32), h)
set_option maxRecDepth 10000 in
theorem vX5_loads_c79 (h : Hp) (q : (Int32 × Hp)) (e : sX5_loads_c79 h = some q) : V (Gs 6 (pI q)) mX5_loads (0, 0) 79 [] [] h := by
  unfold sX5_loads_c79 at e
  refine V.bipush dX5_loads_79 (pc' := 81) rfl (v := -3) (by decide) ?_
  exact V.iret dX5_loads_81 rfl (fnI e)
def sX5_loads_c111 (h : Hp) (t0 : Int32) : Option (Int32 × Hp) :=
  some (t0, h)
set_option maxRecDepth 10000 in
theorem vX5_loads_c111 (h : Hp) (t0 : Int32) (q : (Int32 × Hp)) (e : sX5_loads_c111 h t0 = some q) : V (Gs 6 (pI q)) mX5_loads (0, 0) 111 [] [.int t0] h := by
  unfold sX5_loads_c111 at e
  exact V.iret dX5_loads_111 rfl (fnI e)
def sX5_loads (h : Hp) (a1 : Int32) (a2 : Int32) (a3 : Int32) : Option (Int32 × Hp) :=
  (sX5_hasMatch h a1 a2).bind fun q1 => if q1.1 = 0 then (sX5_loads_c14 q1.2) else (if (1 : Int32) ≤ a3 then ((sX5_sideOf q1.2 a1).bind fun q2 => gd (isC q2.1 2) (gd (inb a2 24) (nm ((q2.2.1 (q2.1 + 10) a2.toNatClampNeg)) fun x5 => if x5 = a3 then (some ((-2 : Int32), q2.2)) else (gd (inb a2 24) ((sX2_rest q2.2 q2.1 (q2.2.1 (q2.1 + 8) a2.toNatClampNeg)).bind fun q7 => if (q7.1 + x5) < a3 then (sX5_loads_c79 q7.2) else (gd (inb a2 24) ((sX2_rest q7.2 q2.1 (q7.2.1 (q2.1 + 9) a2.toNatClampNeg)).bind fun q9 => if a3 ≤ (q9.1 + x5) then ((sX2_wantAsIs q9.2 q2.1).bind fun q10 => gd (inb a2 24) (nm (u1 q10 (q2.1 + 11) a2.toNatClampNeg a3) fun h12 => (sX5_takesWanted h12 q2.1).bind fun q13 => if q13.1 = 0 then (sX5_loads_c111 q13.2 (-4 : Int32)) else (sX5_loads_c111 q13.2 x5))) else (sX5_loads_c79 q9.2)))))))) else (sX5_loads_c14 q1.2))
set_option maxRecDepth 10000 in
theorem kX5_loads (h : Hp) (a1 : Int32) (a2 : Int32) (a3 : Int32) (q : (Int32 × Hp)) (e : sX5_loads h a1 a2 a3 = some q) : K 6 mX5_loads [.ref 1, .int a1, .int a2, .int a3] h (pI q) := by
  unfold sX5_loads at e
  refine K.ofV (by decide) rfl (Nat.le_of_ble_eq_true rfl) ?_
  show V (Gs 6 (pI q)) mX5_loads (0, 0) 0 [(0, .ref 1), (1, .int a1), (2, .int a2), (3, .int a3)] [] h
  refine V.alq dX5_loads_0 (pc' := 1) rfl (j := 0) rfl ?_
  refine V.ilq dX5_loads_1 (pc' := 2) rfl (j := 1) rfl ?_
  refine V.ilq dX5_loads_2 (pc' := 3) rfl (j := 2) rfl ?_
  obtain ⟨q1, eq1, e⟩ := bd_s e
  refine V.callVi dX5_loads_3 (pc' := 6) rfl CV_X5_264 (as := [.int a1, .int a2]) (kX5_hasMatch h a1 a2 q1 eq1) (Gs_rm (by decide)) rfl (by decide) rfl (Nat.le_of_ble_eq_true rfl) rfl ?_
  refine V.if_eq dX5_loads_6 (pc' := 9) rfl (tgt := 14) (by decide) (fun c => ?_) (fun c => ?_)
  · rw [if_pos c] at e
    refine V.pk [] rfl ?_
    exact vX5_loads_c14 q1.2 q e
  · rw [if_neg c] at e
    refine V.ilq dX5_loads_9 (pc' := 10) rfl (j := 3) rfl ?_
    refine V.iconst dX5_loads_10 (pc' := 11) rfl (v := 1) (by decide) ?_
    refine V.ic_ge dX5_loads_11 (pc' := 14) rfl (tgt := 16) (by decide) (fun c => ?_) (fun c => ?_)
    · rw [if_pos c] at e
      refine V.alq dX5_loads_16 (pc' := 17) rfl (j := 0) rfl ?_
      refine V.ilq dX5_loads_17 (pc' := 18) rfl (j := 1) rfl ?_
      obtain ⟨q2, eq2, e⟩ := bd_s e
      refine V.callVr dX5_loads_18 (pc' := 21) rfl CV_X5_214 (as := [.int a1]) (kX5_sideOf q1.2 a1 q2 eq2) (Gs_rm (by decide)) rfl (by decide) rfl (Nat.le_of_ble_eq_true rfl) rfl ?_
      obtain ⟨c3, e⟩ := gd_s e
      refine V.as dX5_loads_21 (pc' := 23) rfl (by decide) rfl (L' := [(4, .ref q2.1), (0, .ref 1), (1, .int a1), (2, .int a2), (3, .int a3)]) rfl ?_
      refine V.al dX5_loads_23 (pc' := 25) rfl (j := 0) rfl ?_
      refine V.getr dX5_loads_25 (pc' := 28) rfl FL_X5_281 (isC_t c3) (by decide) rfl (r' := q2.1 + 10) rfl ?_
      refine V.ilq dX5_loads_28 (pc' := 29) rfl (j := 3) rfl ?_
      obtain ⟨c4, e⟩ := gd_s e
      refine V.iald dX5_loads_29 (pc' := 30) rfl (akX2_10 (isC_t c3)).1 (akX2_10 (isC_t c3)).2 (inb_t c4) ?_
      obtain ⟨x5, ex5, e⟩ := nm_s e
      refine V.is dX5_loads_30 (pc' := 32) rfl (by decide) ex5 (L' := [(5, .int x5), (4, .ref q2.1), (0, .ref 1), (1, .int a1), (2, .int a2), (3, .int a3)]) rfl ?_
      refine V.il dX5_loads_32 (pc' := 34) rfl (j := 0) rfl ?_
      refine V.ilq dX5_loads_34 (pc' := 35) rfl (j := 5) rfl ?_
      refine V.ic_ne dX5_loads_35 (pc' := 38) rfl (tgt := 41) (by decide) (fun c => ?_) (fun c => ?_)
      · rw [if_neg c] at e
        refine V.ilq dX5_loads_41 (pc' := 42) rfl (j := 5) rfl ?_
        refine V.al dX5_loads_42 (pc' := 44) rfl (j := 1) rfl ?_
        refine V.al dX5_loads_44 (pc' := 46) rfl (j := 1) rfl ?_
        refine V.getr dX5_loads_46 (pc' := 49) rfl FL_X5_269 (isC_t c3) (by decide) rfl (r' := q2.1 + 8) rfl ?_
        refine V.ilq dX5_loads_49 (pc' := 50) rfl (j := 4) rfl ?_
        obtain ⟨c6, e⟩ := gd_s e
        refine V.iald dX5_loads_50 (pc' := 51) rfl (akX2_8 (isC_t c3)).1 (akX2_8 (isC_t c3)).2 (inb_t c6) ?_
        obtain ⟨q7, eq7, e⟩ := bd_s e
        refine V.callVi dX5_loads_51 (pc' := 54) rfl CV_X5_237 (as := [.int (q2.2.1 (q2.1 + 8) a2.toNatClampNeg)]) (kX2_rest q2.2 q2.1 (q2.2.1 (q2.1 + 8) a2.toNatClampNeg) q7 eq7) (Gs_rm (by decide)) (isC_t c3) (by decide) rfl (Nat.le_of_ble_eq_true rfl) rfl ?_
        refine V.il dX5_loads_54 (pc' := 56) rfl (j := 0) rfl ?_
        refine V.iadd dX5_loads_56 (pc' := 57) rfl ?_
        refine V.ic_gt dX5_loads_57 (pc' := 60) rfl (tgt := 79) (by decide) (fun c => ?_) (fun c => ?_)
        · rw [if_pos c] at e
          refine V.pk [] rfl ?_
          exact vX5_loads_c79 q7.2 q e
        · rw [if_neg c] at e
          refine V.ilq dX5_loads_60 (pc' := 61) rfl (j := 5) rfl ?_
          refine V.al dX5_loads_61 (pc' := 63) rfl (j := 1) rfl ?_
          refine V.al dX5_loads_63 (pc' := 65) rfl (j := 1) rfl ?_
          refine V.getr dX5_loads_65 (pc' := 68) rfl FL_X5_271 (isC_t c3) (by decide) rfl (r' := q2.1 + 9) rfl ?_
          refine V.ilq dX5_loads_68 (pc' := 69) rfl (j := 4) rfl ?_
          obtain ⟨c8, e⟩ := gd_s e
          refine V.iald dX5_loads_69 (pc' := 70) rfl (akX2_9 (isC_t c3)).1 (akX2_9 (isC_t c3)).2 (inb_t c8) ?_
          obtain ⟨q9, eq9, e⟩ := bd_s e
          refine V.callVi dX5_loads_70 (pc' := 73) rfl CV_X5_237 (as := [.int (q7.2.1 (q2.1 + 9) a2.toNatClampNeg)]) (kX2_rest q7.2 q2.1 (q7.2.1 (q2.1 + 9) a2.toNatClampNeg) q9 eq9) (Gs_rm (by decide)) (isC_t c3) (by decide) rfl (Nat.le_of_ble_eq_true rfl) rfl ?_
          refine V.il dX5_loads_73 (pc' := 75) rfl (j := 0) rfl ?_
          refine V.iadd dX5_loads_75 (pc' := 76) rfl ?_
          refine V.ic_le dX5_loads_76 (pc' := 79) rfl (tgt := 82) (by decide) (fun c => ?_) (fun c => ?_)
          · rw [if_pos c] at e
            refine V.al dX5_loads_82 (pc' := 84) rfl (j := 1) rfl ?_
            obtain ⟨q10, eq10, e⟩ := bd_s e
            refine V.callVv dX5_loads_84 (pc' := 87) rfl CV_X5_287 (as := []) (kX2_wantAsIs q9.2 q2.1 q10 eq10) (Gs_rm (by decide)) (isC_t c3) (by decide) rfl (Nat.le_of_ble_eq_true rfl) rfl ?_
            refine V.al dX5_loads_87 (pc' := 89) rfl (j := 1) rfl ?_
            refine V.getr dX5_loads_89 (pc' := 92) rfl FL_X5_290 (isC_t c3) (by decide) rfl (r' := q2.1 + 11) rfl ?_
            refine V.ilq dX5_loads_92 (pc' := 93) rfl (j := 4) rfl ?_
            refine V.ilq dX5_loads_93 (pc' := 94) rfl (j := 5) rfl ?_
            obtain ⟨c11, e⟩ := gd_s e
            obtain ⟨h12, eh12, e⟩ := nm_s e
            refine V.iast dX5_loads_94 (pc' := 95) rfl (akX2_11 (isC_t c3)).1 (akX2_11 (isC_t c3)).2 (inb_t c11) eh12 ?_
            refine V.alq dX5_loads_95 (pc' := 96) rfl (j := 2) rfl ?_
            refine V.al dX5_loads_96 (pc' := 98) rfl (j := 1) rfl ?_
            obtain ⟨q13, eq13, e⟩ := bd_s e
            refine V.callVi dX5_loads_98 (pc' := 101) rfl CV_X5_293 (as := [.ref q2.1]) (kX5_takesWanted h12 q2.1 q13 eq13) (Gs_rm (by decide)) rfl (by decide) rfl (Nat.le_of_ble_eq_true rfl) rfl ?_
            refine V.if_eq dX5_loads_101 (pc' := 104) rfl (tgt := 109) (by decide) (fun c => ?_) (fun c => ?_)
            · rw [if_pos c] at e
              refine V.bipush dX5_loads_109 (pc' := 111) rfl (v := -4) (by decide) ?_
              refine V.pk [] rfl ?_
              exact vX5_loads_c111 q13.2 (-4 : Int32) q e
            · rw [if_neg c] at e
              refine V.il dX5_loads_104 (pc' := 106) rfl (j := 0) rfl ?_
              refine V.goto dX5_loads_106 (pc' := 111) (by decide) ?_
              refine V.pk [] rfl ?_
              exact vX5_loads_c111 q13.2 x5 q e
          · rw [if_neg c] at e
            refine V.pk [] rfl ?_
            exact vX5_loads_c79 q9.2 q e
      · rw [if_pos c] at e
        refine V.bipush dX5_loads_38 (pc' := 40) rfl (v := -2) (by decide) ?_
        exact V.iret dX5_loads_40 rfl (fnI e)
    · rw [if_neg c] at e
      refine V.pk [] rfl ?_
      exact vX5_loads_c14 q1.2 q e

-- X5_breaks (level 6)
theorem dX5_breaks_0 : decode cX5_breaks 0 = .ok (.aload_n 0, 1) := by decide +kernel
theorem dX5_breaks_1 : decode cX5_breaks 1 = .ok (.iload_n 1, 1) := by decide +kernel
theorem dX5_breaks_2 : decode cX5_breaks 2 = .ok (.iload_n 2, 1) := by decide +kernel
theorem dX5_breaks_3 : decode cX5_breaks 3 = .ok (.invokevirtual 264, 3) := by decide +kernel
theorem dX5_breaks_6 : decode cX5_breaks 6 = .ok (.ifCond .ne 5, 3) := by decide +kernel
theorem dX5_breaks_9 : decode cX5_breaks 9 = .ok (.iconst (-1), 1) := by decide +kernel
theorem dX5_breaks_10 : decode cX5_breaks 10 = .ok (.ireturn, 1) := by decide +kernel
theorem dX5_breaks_11 : decode cX5_breaks 11 = .ok (.aload_n 0, 1) := by decide +kernel
theorem dX5_breaks_12 : decode cX5_breaks 12 = .ok (.iload_n 1, 1) := by decide +kernel
theorem dX5_breaks_13 : decode cX5_breaks 13 = .ok (.invokevirtual 214, 3) := by decide +kernel
theorem dX5_breaks_16 : decode cX5_breaks 16 = .ok (.astore_n 3, 1) := by decide +kernel
theorem dX5_breaks_17 : decode cX5_breaks 17 = .ok (.aload_n 3, 1) := by decide +kernel
theorem dX5_breaks_18 : decode cX5_breaks 18 = .ok (.iload_n 2, 1) := by decide +kernel
theorem dX5_breaks_19 : decode cX5_breaks 19 = .ok (.invokevirtual 304, 3) := by decide +kernel
theorem dX5_breaks_22 : decode cX5_breaks 22 = .ok (.ifCond .ne 6, 3) := by decide +kernel
theorem dX5_breaks_25 : decode cX5_breaks 25 = .ok (.bipush (-2), 2) := by decide +kernel
theorem dX5_breaks_27 : decode cX5_breaks 27 = .ok (.ireturn, 1) := by decide +kernel
theorem dX5_breaks_28 : decode cX5_breaks 28 = .ok (.aload_n 3, 1) := by decide +kernel
theorem dX5_breaks_29 : decode cX5_breaks 29 = .ok (.invokevirtual 313, 3) := by decide +kernel
theorem dX5_breaks_32 : decode cX5_breaks 32 = .ok (.istore 4, 2) := by decide +kernel
theorem dX5_breaks_34 : decode cX5_breaks 34 = .ok (.iload 4, 2) := by decide +kernel
theorem dX5_breaks_36 : decode cX5_breaks 36 = .ok (.iconst (-1), 1) := by decide +kernel
theorem dX5_breaks_37 : decode cX5_breaks 37 = .ok (.if_icmp .eq 16, 3) := by decide +kernel
theorem dX5_breaks_40 : decode cX5_breaks 40 = .ok (.aload_n 0, 1) := by decide +kernel
theorem dX5_breaks_41 : decode cX5_breaks 41 = .ok (.getfield 19, 3) := by decide +kernel
theorem dX5_breaks_44 : decode cX5_breaks 44 = .ok (.iload 4, 2) := by decide +kernel
theorem dX5_breaks_46 : decode cX5_breaks 46 = .ok (.i2l, 1) := by decide +kernel
theorem dX5_breaks_47 : decode cX5_breaks 47 = .ok (.invokevirtual 181, 3) := by decide +kernel
theorem dX5_breaks_50 : decode cX5_breaks 50 = .ok (.bipush (-3), 2) := by decide +kernel
theorem dX5_breaks_52 : decode cX5_breaks 52 = .ok (.ireturn, 1) := by decide +kernel
theorem dX5_breaks_53 : decode cX5_breaks 53 = .ok (.aload_n 0, 1) := by decide +kernel
theorem dX5_breaks_54 : decode cX5_breaks 54 = .ok (.aload_n 3, 1) := by decide +kernel
theorem dX5_breaks_55 : decode cX5_breaks 55 = .ok (.invokevirtual 293, 3) := by decide +kernel
theorem dX5_breaks_58 : decode cX5_breaks 58 = .ok (.ifCond .eq 10, 3) := by decide +kernel
theorem dX5_breaks_61 : decode cX5_breaks 61 = .ok (.aload_n 3, 1) := by decide +kernel
theorem dX5_breaks_62 : decode cX5_breaks 62 = .ok (.getfield 243, 3) := by decide +kernel
theorem dX5_breaks_65 : decode cX5_breaks 65 = .ok (.goto 5, 3) := by decide +kernel
theorem dX5_breaks_68 : decode cX5_breaks 68 = .ok (.bipush (-4), 2) := by decide +kernel
theorem dX5_breaks_70 : decode cX5_breaks 70 = .ok (.ireturn, 1) := by decide +kernel
def sX5_breaks_c70 (h : Hp) (t0 : Int32) : Option (Int32 × Hp) :=
  some (t0, h)
set_option maxRecDepth 10000 in
theorem vX5_breaks_c70 (h : Hp) (t0 : Int32) (q : (Int32 × Hp)) (e : sX5_breaks_c70 h t0 = some q) : V (Gs 6 (pI q)) mX5_breaks (0, 0) 70 [] [.int t0] h := by
  unfold sX5_breaks_c70 at e
  exact V.iret dX5_breaks_70 rfl (fnI e)
def sX5_breaks (h : Hp) (a1 : Int32) (a2 : Int32) : Option (Int32 × Hp) :=
  (sX5_hasMatch h a1 a2).bind fun q1 => if q1.1 = 0 then (some ((-1 : Int32), q1.2)) else ((sX5_sideOf q1.2 a1).bind fun q2 => gd (isC q2.1 2) ((sX2_findRing q2.2 q2.1 a2).bind fun q4 => if q4.1 = 0 then (some ((-2 : Int32), q4.2)) else ((sX2_wantRoundRing q4.2 q2.1).bind fun q5 => if q5.1 = (-1 : Int32) then ((sX5_takesWanted q5.2 q2.1).bind fun q6 => if q6.1 = 0 then (sX5_breaks_c70 q6.2 (-4 : Int32)) else (sX5_breaks_c70 q6.2 (q6.2.1 q2.1 14))) else ((sX4_tell q5.2 q5.1.toInt64).bind fun q7 => some ((-3 : Int32), q7)))))
set_option maxRecDepth 10000 in
theorem kX5_breaks (h : Hp) (a1 : Int32) (a2 : Int32) (q : (Int32 × Hp)) (e : sX5_breaks h a1 a2 = some q) : K 6 mX5_breaks [.ref 1, .int a1, .int a2] h (pI q) := by
  unfold sX5_breaks at e
  refine K.ofV (by decide) rfl (Nat.le_of_ble_eq_true rfl) ?_
  show V (Gs 6 (pI q)) mX5_breaks (0, 0) 0 [(0, .ref 1), (1, .int a1), (2, .int a2)] [] h
  refine V.alq dX5_breaks_0 (pc' := 1) rfl (j := 0) rfl ?_
  refine V.ilq dX5_breaks_1 (pc' := 2) rfl (j := 1) rfl ?_
  refine V.ilq dX5_breaks_2 (pc' := 3) rfl (j := 2) rfl ?_
  obtain ⟨q1, eq1, e⟩ := bd_s e
  refine V.callVi dX5_breaks_3 (pc' := 6) rfl CV_X5_264 (as := [.int a1, .int a2]) (kX5_hasMatch h a1 a2 q1 eq1) (Gs_rm (by decide)) rfl (by decide) rfl (Nat.le_of_ble_eq_true rfl) rfl ?_
  refine V.if_ne dX5_breaks_6 (pc' := 9) rfl (tgt := 11) (by decide) (fun c => ?_) (fun c => ?_)
  · rw [if_neg c] at e
    refine V.alq dX5_breaks_11 (pc' := 12) rfl (j := 0) rfl ?_
    refine V.ilq dX5_breaks_12 (pc' := 13) rfl (j := 1) rfl ?_
    obtain ⟨q2, eq2, e⟩ := bd_s e
    refine V.callVr dX5_breaks_13 (pc' := 16) rfl CV_X5_214 (as := [.int a1]) (kX5_sideOf q1.2 a1 q2 eq2) (Gs_rm (by decide)) rfl (by decide) rfl (Nat.le_of_ble_eq_true rfl) rfl ?_
    obtain ⟨c3, e⟩ := gd_s e
    refine V.asq dX5_breaks_16 (pc' := 17) rfl (by decide) rfl (L' := [(3, .ref q2.1), (0, .ref 1), (1, .int a1), (2, .int a2)]) rfl ?_
    refine V.alq dX5_breaks_17 (pc' := 18) rfl (j := 0) rfl ?_
    refine V.ilq dX5_breaks_18 (pc' := 19) rfl (j := 3) rfl ?_
    obtain ⟨q4, eq4, e⟩ := bd_s e
    refine V.callVi dX5_breaks_19 (pc' := 22) rfl CV_X5_304 (as := [.int a2]) (kX2_findRing q2.2 q2.1 a2 q4 eq4) (Gs_rm (by decide)) (isC_t c3) (by decide) rfl (Nat.le_of_ble_eq_true rfl) rfl ?_
    refine V.if_ne dX5_breaks_22 (pc' := 25) rfl (tgt := 28) (by decide) (fun c => ?_) (fun c => ?_)
    · rw [if_neg c] at e
      refine V.alq dX5_breaks_28 (pc' := 29) rfl (j := 0) rfl ?_
      obtain ⟨q5, eq5, e⟩ := bd_s e
      refine V.callVi dX5_breaks_29 (pc' := 32) rfl CV_X5_313 (as := []) (kX2_wantRoundRing q4.2 q2.1 q5 eq5) (Gs_rm (by decide)) (isC_t c3) (by decide) rfl (Nat.le_of_ble_eq_true rfl) rfl ?_
      refine V.is dX5_breaks_32 (pc' := 34) rfl (by decide) rfl (L' := [(4, .int q5.1), (3, .ref q2.1), (0, .ref 1), (1, .int a1), (2, .int a2)]) rfl ?_
      refine V.il dX5_breaks_34 (pc' := 36) rfl (j := 0) rfl ?_
      refine V.iconst dX5_breaks_36 (pc' := 37) rfl (v := -1) (by decide) ?_
      refine V.ic_eq dX5_breaks_37 (pc' := 40) rfl (tgt := 53) (by decide) (fun c => ?_) (fun c => ?_)
      · rw [if_pos c] at e
        refine V.alq dX5_breaks_53 (pc' := 54) rfl (j := 2) rfl ?_
        refine V.alq dX5_breaks_54 (pc' := 55) rfl (j := 1) rfl ?_
        obtain ⟨q6, eq6, e⟩ := bd_s e
        refine V.callVi dX5_breaks_55 (pc' := 58) rfl CV_X5_293 (as := [.ref q2.1]) (kX5_takesWanted q5.2 q2.1 q6 eq6) (Gs_rm (by decide)) rfl (by decide) rfl (Nat.le_of_ble_eq_true rfl) rfl ?_
        refine V.if_eq dX5_breaks_58 (pc' := 61) rfl (tgt := 68) (by decide) (fun c => ?_) (fun c => ?_)
        · rw [if_pos c] at e
          refine V.bipush dX5_breaks_68 (pc' := 70) rfl (v := -4) (by decide) ?_
          refine V.pk [] rfl ?_
          exact vX5_breaks_c70 q6.2 (-4 : Int32) q e
        · rw [if_neg c] at e
          refine V.alq dX5_breaks_61 (pc' := 62) rfl (j := 1) rfl ?_
          refine V.getf dX5_breaks_62 (pc' := 65) rfl FL_X5_243 (isC_t c3) (by decide) rfl ?_
          refine V.goto dX5_breaks_65 (pc' := 70) (by decide) ?_
          refine V.pk [] rfl ?_
          exact vX5_breaks_c70 q6.2 (q6.2.1 q2.1 14) q e
      · rw [if_neg c] at e
        refine V.alq dX5_breaks_40 (pc' := 41) rfl (j := 2) rfl ?_
        refine V.getr dX5_breaks_41 (pc' := 44) rfl FL_X5_19 rfl (by decide) rfl (r' := 4) rfl ?_
        refine V.il dX5_breaks_44 (pc' := 46) rfl (j := 0) rfl ?_
        refine V.i2l dX5_breaks_46 (pc' := 47) rfl ?_
        obtain ⟨q7, eq7, e⟩ := bd_s e
        refine V.callVv dX5_breaks_47 (pc' := 50) rfl CV_X5_181 (as := [.long q5.1.toInt64]) (kX4_tell q5.2 q5.1.toInt64 q7 eq7) (Gs_rm (by decide)) rfl (by decide) rfl (Nat.le_of_ble_eq_true rfl) rfl ?_
        refine V.bipush dX5_breaks_50 (pc' := 52) rfl (v := -3) (by decide) ?_
        exact V.iret dX5_breaks_52 rfl (fnI e)
    · rw [if_pos c] at e
      refine V.bipush dX5_breaks_25 (pc' := 27) rfl (v := -2) (by decide) ?_
      exact V.iret dX5_breaks_27 rfl (fnI e)
  · rw [if_pos c] at e
    refine V.iconst dX5_breaks_9 (pc' := 10) rfl (v := -1) (by decide) ?_
    exact V.iret dX5_breaks_10 rfl (fnI e)
