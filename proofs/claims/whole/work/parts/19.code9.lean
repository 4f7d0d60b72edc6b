-- X6_isRight (level 8)
theorem dX6_isRight_0 : decode cX6_isRight 0 = .ok (.aload_n 0, 1) := by decide +kernel
theorem dX6_isRight_1 : decode cX6_isRight 1 = .ok (.iload_n 1, 1) := by decide +kernel
theorem dX6_isRight_2 : decode cX6_isRight 2 = .ok (.invokevirtual 327, 3) := by decide +kernel
theorem dX6_isRight_5 : decode cX6_isRight 5 = .ok (.istore_n 2, 1) := by decide +kernel
theorem dX6_isRight_6 : decode cX6_isRight 6 = .ok (.iload_n 2, 1) := by decide +kernel
theorem dX6_isRight_7 : decode cX6_isRight 7 = .ok (.ifCond .ge 5, 3) := by decide +kernel
theorem dX6_isRight_10 : decode cX6_isRight 10 = .ok (.iconst 1, 1) := by decide +kernel
theorem dX6_isRight_11 : decode cX6_isRight 11 = .ok (.ireturn, 1) := by decide +kernel
theorem dX6_isRight_12 : decode cX6_isRight 12 = .ok (.aload_n 0, 1) := by decide +kernel
theorem dX6_isRight_13 : decode cX6_isRight 13 = .ok (.iload_n 1, 1) := by decide +kernel
theorem dX6_isRight_14 : decode cX6_isRight 14 = .ok (.invokevirtual 330, 3) := by decide +kernel
theorem dX6_isRight_17 : decode cX6_isRight 17 = .ok (.aload_n 0, 1) := by decide +kernel
theorem dX6_isRight_18 : decode cX6_isRight 18 = .ok (.iconst 0, 1) := by decide +kernel
theorem dX6_isRight_19 : decode cX6_isRight 19 = .ok (.putfield 11, 3) := by decide +kernel
theorem dX6_isRight_22 : decode cX6_isRight 22 = .ok (.aload_n 0, 1) := by decide +kernel
theorem dX6_isRight_23 : decode cX6_isRight 23 = .ok (.iload_n 2, 1) := by decide +kernel
theorem dX6_isRight_24 : decode cX6_isRight 24 = .ok (.i2l, 1) := by decide +kernel
theorem dX6_isRight_25 : decode cX6_isRight 25 = .ok (.invokevirtual 18, 3) := by decide +kernel
theorem dX6_isRight_28 : decode cX6_isRight 28 = .ok (.iconst 0, 1) := by decide +kernel
theorem dX6_isRight_29 : decode cX6_isRight 29 = .ok (.ireturn, 1) := by decide +kernel
def sX6_isRight (h : Hp) (a1 : Int32) : Option (Int32 × Hp) :=
  (sX6_firstBad h a1).bind fun q1 => if 0 ≤ q1.1 then ((sX6_comesBack q1.2 a1).bind fun q2 => nm (u1 q2 54 1 (0 : Int32)) fun h3 => (sX6_enters h3 q1.1.toInt64).bind fun q4 => some ((0 : Int32), q4)) else (some ((1 : Int32), q1.2))
set_option maxRecDepth 10000 in
theorem kX6_isRight (h : Hp) (a1 : Int32) (q : (Int32 × Hp)) (e : sX6_isRight h a1 = some q) : K 8 mX6_isRight [.ref 54, .int a1] h (pI q) := by
  unfold sX6_isRight at e
  refine K.ofV (by decide) rfl (Nat.le_of_ble_eq_true rfl) ?_
  show V (Gs 8 (pI q)) mX6_isRight (0, 0) 0 [(0, .ref 54), (1, .int a1)] [] h
  refine V.alq dX6_isRight_0 (pc' := 1) rfl (j := 0) rfl ?_
  refine V.ilq dX6_isRight_1 (pc' := 2) rfl (j := 1) rfl ?_
  obtain ⟨q1, eq1, e⟩ := bd_s e
  refine V.callVi dX6_isRight_2 (pc' := 5) rfl CV_X6_327 (as := [.int a1]) (kX6_firstBad h a1 q1 eq1) (Gs_rm (by decide)) rfl (by decide) rfl (Nat.le_of_ble_eq_true rfl) rfl ?_
  refine V.isq dX6_isRight_5 (pc' := 6) rfl (by decide) rfl (L' := [(2, .int q1.1), (0, .ref 54), (1, .int a1)]) rfl ?_
  refine V.ilq dX6_isRight_6 (pc' := 7) rfl (j := 0) rfl ?_
  refine V.if_ge dX6_isRight_7 (pc' := 10) rfl (tgt := 12) (by decide) (fun c => ?_) (fun c => ?_)
  · rw [if_pos c] at e
    refine V.alq dX6_isRight_12 (pc' := 13) rfl (j := 1) rfl ?_
    refine V.ilq dX6_isRight_13 (pc' := 14) rfl (j := 2) rfl ?_
    obtain ⟨q2, eq2, e⟩ := bd_s e
    refine V.callVv dX6_isRight_14 (pc' := 17) rfl CV_X6_330 (as := [.int a1]) (kX6_comesBack q1.2 a1 q2 eq2) (Gs_rm (by decide)) rfl (by decide) rfl (Nat.le_of_ble_eq_true rfl) rfl ?_
    refine V.alq dX6_isRight_17 (pc' := 18) rfl (j := 1) rfl ?_
    refine V.iconst dX6_isRight_18 (pc' := 19) rfl (v := 0) (by decide) ?_
    obtain ⟨h3, eh3, e⟩ := nm_s e
    refine V.putf dX6_isRight_19 (pc' := 22) rfl FP_X6_11 rfl (by decide) rfl eh3 ?_
    refine V.alq dX6_isRight_22 (pc' := 23) rfl (j := 1) rfl ?_
    refine V.ilq dX6_isRight_23 (pc' := 24) rfl (j := 0) rfl ?_
    refine V.i2l dX6_isRight_24 (pc' := 25) rfl ?_
    obtain ⟨q4, eq4, e⟩ := bd_s e
    refine V.callVv dX6_isRight_25 (pc' := 28) rfl CV_X6_18 (as := [.long q1.1.toInt64]) (kX6_enters h3 q1.1.toInt64 q4 eq4) (Gs_rm (by decide)) rfl (by decide) rfl (Nat.le_of_ble_eq_true rfl) rfl ?_
    refine V.iconst dX6_isRight_28 (pc' := 29) rfl (v := 0) (by decide) ?_
    exact V.zret dX6_isRight_29 rfl (Or.inl rfl) (fnI e)
  · rw [if_neg c] at e
    refine V.iconst dX6_isRight_10 (pc' := 11) rfl (v := 1) (by decide) ?_
    exact V.zret dX6_isRight_11 rfl (Or.inr rfl) (fnI e)

-- X6_leaves (level 9)
theorem dX6_leaves_0 : decode cX6_leaves 0 = .ok (.aload_n 0, 1) := by decide +kernel
theorem dX6_leaves_1 : decode cX6_leaves 1 = .ok (.iconst 0, 1) := by decide +kernel
theorem dX6_leaves_2 : decode cX6_leaves 2 = .ok (.putfield 1, 3) := by decide +kernel
theorem dX6_leaves_5 : decode cX6_leaves 5 = .ok (.aload_n 0, 1) := by decide +kernel
theorem dX6_leaves_6 : decode cX6_leaves 6 = .ok (.iload_n 1, 1) := by decide +kernel
theorem dX6_leaves_7 : decode cX6_leaves 7 = .ok (.iload_n 2, 1) := by decide +kernel
theorem dX6_leaves_8 : decode cX6_leaves 8 = .ok (.invokevirtual 317, 3) := by decide +kernel
theorem dX6_leaves_11 : decode cX6_leaves 11 = .ok (.ifCond .ne 5, 3) := by decide +kernel
theorem dX6_leaves_14 : decode cX6_leaves 14 = .ok (.iconst (-1), 1) := by decide +kernel
theorem dX6_leaves_15 : decode cX6_leaves 15 = .ok (.ireturn, 1) := by decide +kernel
theorem dX6_leaves_16 : decode cX6_leaves 16 = .ok (.aload_n 0, 1) := by decide +kernel
theorem dX6_leaves_17 : decode cX6_leaves 17 = .ok (.invokevirtual 256, 3) := by decide +kernel
theorem dX6_leaves_20 : decode cX6_leaves 20 = .ok (.aload_n 0, 1) := by decide +kernel
theorem dX6_leaves_21 : decode cX6_leaves 21 = .ok (.iload_n 1, 1) := by decide +kernel
theorem dX6_leaves_22 : decode cX6_leaves 22 = .ok (.invokevirtual 333, 3) := by decide +kernel
theorem dX6_leaves_25 : decode cX6_leaves 25 = .ok (.aload_n 0, 1) := by decide +kernel
theorem dX6_leaves_26 : decode cX6_leaves 26 = .ok (.getfield 99, 3) := by decide +kernel
theorem dX6_leaves_29 : decode cX6_leaves 29 = .ok (.iload_n 1, 1) := by decide +kernel
theorem dX6_leaves_30 : decode cX6_leaves 30 = .ok (.iload_n 2, 1) := by decide +kernel
theorem dX6_leaves_31 : decode cX6_leaves 31 = .ok (.invokestatic 263, 3) := by decide +kernel
theorem dX6_leaves_34 : decode cX6_leaves 34 = .ok (.iconst 0, 1) := by decide +kernel
theorem dX6_leaves_35 : decode cX6_leaves 35 = .ok (.iastore, 1) := by decide +kernel
theorem dX6_leaves_36 : decode cX6_leaves 36 = .ok (.aload_n 0, 1) := by decide +kernel
theorem dX6_leaves_37 : decode cX6_leaves 37 = .ok (.iload_n 1, 1) := by decide +kernel
theorem dX6_leaves_38 : decode cX6_leaves 38 = .ok (.invokevirtual 336, 3) := by decide +kernel
theorem dX6_leaves_41 : decode cX6_leaves 41 = .ok (.aload_n 0, 1) := by decide +kernel
theorem dX6_leaves_42 : decode cX6_leaves 42 = .ok (.iload_n 1, 1) := by decide +kernel
theorem dX6_leaves_43 : decode cX6_leaves 43 = .ok (.invokevirtual 339, 3) := by decide +kernel
theorem dX6_leaves_46 : decode cX6_leaves 46 = .ok (.ifCond .eq 12, 3) := by decide +kernel
theorem dX6_leaves_49 : decode cX6_leaves 49 = .ok (.aload_n 0, 1) := by decide +kernel
theorem dX6_leaves_50 : decode cX6_leaves 50 = .ok (.getfield 90, 3) := by decide +kernel
theorem dX6_leaves_53 : decode cX6_leaves 53 = .ok (.iload_n 1, 1) := by decide +kernel
theorem dX6_leaves_54 : decode cX6_leaves 54 = .ok (.iaload, 1) := by decide +kernel
theorem dX6_leaves_55 : decode cX6_leaves 55 = .ok (.goto 5, 3) := by decide +kernel
theorem dX6_leaves_58 : decode cX6_leaves 58 = .ok (.bipush (-4), 2) := by decide +kernel
theorem dX6_leaves_60 : decode cX6_leaves 60 = .ok (.ireturn, 1) := by decide +kernel
def sX6_leaves_c60 (h : Hp) (t0 : Int32) : Option (Int32 × Hp) :=
  some (t0, h)
set_option maxRecDepth 10000 in
theorem vX6_leaves_c60 (h : Hp) (t0 : Int32) (q : (Int32 × Hp)) (e : sX6_leaves_c60 h t0 = some q) : V (Gs 9 (pI q)) mX6_leaves (0, 0) 60 [] [.int t0] h := by
  unfold sX6_leaves_c60 at e
  exact V.iret dX6_leaves_60 rfl (fnI e)
def sX6_leaves (h : Hp) (a1 : Int32) (a2 : Int32) : Option (Int32 × Hp) :=
  nm (u1 h 54 0 (0 : Int32)) fun h1 => (sX6_isMatch h1 a1 a2).bind fun q2 => if q2.1 = 0 then (some ((-1 : Int32), q2.2)) else ((sX6_finds q2.2).bind fun q3 => (sX6_saves q3 a1).bind fun q4 => (sX6_place q4 a1 a2).bind fun q5 => gd (inb q5.1 50) (nm (u1 q5.2 70 q5.1.toNatClampNeg (0 : Int32)) fun h7 => (sX6_closesUp h7 a1).bind fun q8 => (sX6_isRight q8 a1).bind fun q9 => if q9.1 = 0 then (sX6_leaves_c60 q9.2 (-4 : Int32)) else (gd (inb a1 2) (sX6_leaves_c60 q9.2 (q9.2.1 67 a1.toNatClampNeg)))))
set_option maxRecDepth 10000 in
theorem kX6_leaves (h : Hp) (a1 : Int32) (a2 : Int32) (q : (Int32 × Hp)) (e : sX6_leaves h a1 a2 = some q) : K 9 mX6_leaves [.ref 54, .int a1, .int a2] h (pI q) := by
  unfold sX6_leaves at e
  refine K.ofV (by decide) rfl (Nat.le_of_ble_eq_true rfl) ?_
  show V (Gs 9 (pI q)) mX6_leaves (0, 0) 0 [(0, .ref 54), (1, .int a1), (2, .int a2)] [] h
  refine V.alq dX6_leaves_0 (pc' := 1) rfl (j := 0) rfl ?_
  refine V.iconst dX6_leaves_1 (pc' := 2) rfl (v := 0) (by decide) ?_
  obtain ⟨h1, eh1, e⟩ := nm_s e
  refine V.putf dX6_leaves_2 (pc' := 5) rfl FP_X6_1 rfl (by decide) rfl eh1 ?_
  refine V.alq dX6_leaves_5 (pc' := 6) rfl (j := 0) rfl ?_
  refine V.ilq dX6_leaves_6 (pc' := 7) rfl (j := 1) rfl ?_
  refine V.ilq dX6_leaves_7 (pc' := 8) rfl (j := 2) rfl ?_
  obtain ⟨q2, eq2, e⟩ := bd_s e
  refine V.callVi dX6_leaves_8 (pc' := 11) rfl CV_X6_317 (as := [.int a1, .int a2]) (kX6_isMatch h1 a1 a2 q2 eq2) (Gs_rm (by decide)) rfl (by decide) rfl (Nat.le_of_ble_eq_true rfl) rfl ?_
  refine V.if_ne dX6_leaves_11 (pc' := 14) rfl (tgt := 16) (by decide) (fun c => ?_) (fun c => ?_)
  · rw [if_neg c] at e
    refine V.alq dX6_leaves_16 (pc' := 17) rfl (j := 0) rfl ?_
    obtain ⟨q3, eq3, e⟩ := bd_s e
    refine V.callVv dX6_leaves_17 (pc' := 20) rfl CV_X6_256 (as := []) (kX6_finds q2.2 q3 eq3) (Gs_rm (by decide)) rfl (by decide) rfl (Nat.le_of_ble_eq_true rfl) rfl ?_
    refine V.alq dX6_leaves_20 (pc' := 21) rfl (j := 0) rfl ?_
    refine V.ilq dX6_leaves_21 (pc' := 22) rfl (j := 1) rfl ?_
    obtain ⟨q4, eq4, e⟩ := bd_s e
    refine V.callVv dX6_leaves_22 (pc' := 25) rfl CV_X6_333 (as := [.int a1]) (kX6_saves q3 a1 q4 eq4) (Gs_rm (by decide)) rfl (by decide) rfl (Nat.le_of_ble_eq_true rfl) rfl ?_
    refine V.alq dX6_leaves_25 (pc' := 26) rfl (j := 0) rfl ?_
    refine V.getr dX6_leaves_26 (pc' := 29) rfl FL_X6_99 rfl (by decide) rfl (r' := 70) rfl ?_
    refine V.ilq dX6_leaves_29 (pc' := 30) rfl (j := 1) rfl ?_
    refine V.ilq dX6_leaves_30 (pc' := 31) rfl (j := 2) rfl ?_
    obtain ⟨q5, eq5, e⟩ := bd_s e
    refine V.callSi dX6_leaves_31 (pc' := 34) rfl CS_X6_263 (as := [.int a1, .int a2]) (kX6_place q4 a1 a2 q5 eq5) (Gs_rm (by decide)) rfl (Nat.le_of_ble_eq_true rfl) rfl ?_
    refine V.iconst dX6_leaves_34 (pc' := 35) rfl (v := 0) (by decide) ?_
    obtain ⟨c6, e⟩ := gd_s e
    obtain ⟨h7, eh7, e⟩ := nm_s e
    refine V.iast dX6_leaves_35 (pc' := 36) rfl rfl rfl (inb_t c6) eh7 ?_
    refine V.alq dX6_leaves_36 (pc' := 37) rfl (j := 0) rfl ?_
    refine V.ilq dX6_leaves_37 (pc' := 38) rfl (j := 1) rfl ?_
    obtain ⟨q8, eq8, e⟩ := bd_s e
    refine V.callVv dX6_leaves_38 (pc' := 41) rfl CV_X6_336 (as := [.int a1]) (kX6_closesUp h7 a1 q8 eq8) (Gs_rm (by decide)) rfl (by decide) rfl (Nat.le_of_ble_eq_true rfl) rfl ?_
    refine V.alq dX6_leaves_41 (pc' := 42) rfl (j := 0) rfl ?_
    refine V.ilq dX6_leaves_42 (pc' := 43) rfl (j := 1) rfl ?_
    obtain ⟨q9, eq9, e⟩ := bd_s e
    refine V.callVi dX6_leaves_43 (pc' := 46) rfl CV_X6_339 (as := [.int a1]) (kX6_isRight q8 a1 q9 eq9) (Gs_rm (by decide)) rfl (by decide) rfl (Nat.le_of_ble_eq_true rfl) rfl ?_
    refine V.if_eq dX6_leaves_46 (pc' := 49) rfl (tgt := 58) (by decide) (fun c => ?_) (fun c => ?_)
    · rw [if_pos c] at e
      refine V.bipush dX6_leaves_58 (pc' := 60) rfl (v := -4) (by decide) ?_
      refine V.pk [] rfl ?_
      exact vX6_leaves_c60 q9.2 (-4 : Int32) q e
    · rw [if_neg c] at e
      refine V.alq dX6_leaves_49 (pc' := 50) rfl (j := 0) rfl ?_
      refine V.getr dX6_leaves_50 (pc' := 53) rfl FL_X6_90 rfl (by decide) rfl (r' := 67) rfl ?_
      refine V.ilq dX6_leaves_53 (pc' := 54) rfl (j := 1) rfl ?_
      obtain ⟨c10, e⟩ := gd_s e
      refine V.iald dX6_leaves_54 (pc' := 55) rfl rfl rfl (inb_t c10) ?_
      refine V.goto dX6_leaves_55 (pc' := 60) (by decide) ?_
      refine V.pk [] rfl ?_
      exact vX6_leaves_c60 q9.2 (q9.2.1 67 a1.toNatClampNeg) q e
  · rw [if_pos c] at e
    refine V.iconst dX6_leaves_14 (pc' := 15) rfl (v := -1) (by decide) ?_
    exact V.iret dX6_leaves_15 rfl (fnI e)

-- X6_loads (level 9)
theorem dX6_loads_0 : decode cX6_loads 0 = .ok (.aload_n 0, 1) := by decide +kernel
theorem dX6_loads_1 : decode cX6_loads 1 = .ok (.iconst 0, 1) := by decide +kernel
theorem dX6_loads_2 : decode cX6_loads 2 = .ok (.putfield 1, 3) := by decide +kernel
theorem dX6_loads_5 : decode cX6_loads 5 = .ok (.aload_n 0, 1) := by decide +kernel
theorem dX6_loads_6 : decode cX6_loads 6 = .ok (.iload_n 1, 1) := by decide +kernel
theorem dX6_loads_7 : decode cX6_loads 7 = .ok (.iload_n 2, 1) := by decide +kernel
theorem dX6_loads_8 : decode cX6_loads 8 = .ok (.invokevirtual 317, 3) := by decide +kernel
theorem dX6_loads_11 : decode cX6_loads 11 = .ok (.ifCond .eq 8, 3) := by decide +kernel
theorem dX6_loads_14 : decode cX6_loads 14 = .ok (.iload_n 3, 1) := by decide +kernel
theorem dX6_loads_15 : decode cX6_loads 15 = .ok (.iconst 1, 1) := by decide +kernel
theorem dX6_loads_16 : decode cX6_loads 16 = .ok (.if_icmp .ge 5, 3) := by decide +kernel
theorem dX6_loads_19 : decode cX6_loads 19 = .ok (.iconst (-1), 1) := by decide +kernel
theorem dX6_loads_20 : decode cX6_loads 20 = .ok (.ireturn, 1) := by decide +kernel
theorem dX6_loads_21 : decode cX6_loads 21 = .ok (.iload_n 1, 1) := by decide +kernel
theorem dX6_loads_22 : decode cX6_loads 22 = .ok (.iload_n 2, 1) := by decide +kernel
theorem dX6_loads_23 : decode cX6_loads 23 = .ok (.invokestatic 263, 3) := by decide +kernel
theorem dX6_loads_26 : decode cX6_loads 26 = .ok (.istore 4, 2) := by decide +kernel
theorem dX6_loads_28 : decode cX6_loads 28 = .ok (.aload_n 0, 1) := by decide +kernel
theorem dX6_loads_29 : decode cX6_loads 29 = .ok (.getfield 99, 3) := by decide +kernel
theorem dX6_loads_32 : decode cX6_loads 32 = .ok (.iload 4, 2) := by decide +kernel
theorem dX6_loads_34 : decode cX6_loads 34 = .ok (.iaload, 1) := by decide +kernel
theorem dX6_loads_35 : decode cX6_loads 35 = .ok (.istore 5, 2) := by decide +kernel
theorem dX6_loads_37 : decode cX6_loads 37 = .ok (.iload 5, 2) := by decide +kernel
theorem dX6_loads_39 : decode cX6_loads 39 = .ok (.iload_n 3, 1) := by decide +kernel
theorem dX6_loads_40 : decode cX6_loads 40 = .ok (.if_icmp .ne 6, 3) := by decide +kernel
theorem dX6_loads_43 : decode cX6_loads 43 = .ok (.bipush (-2), 2) := by decide +kernel
theorem dX6_loads_45 : decode cX6_loads 45 = .ok (.ireturn, 1) := by decide +kernel
theorem dX6_loads_46 : decode cX6_loads 46 = .ok (.aload_n 0, 1) := by decide +kernel
theorem dX6_loads_47 : decode cX6_loads 47 = .ok (.invokevirtual 256, 3) := by decide +kernel
theorem dX6_loads_50 : decode cX6_loads 50 = .ok (.iload_n 3, 1) := by decide +kernel
theorem dX6_loads_51 : decode cX6_loads 51 = .ok (.iload 5, 2) := by decide +kernel
theorem dX6_loads_53 : decode cX6_loads 53 = .ok (.isub, 1) := by decide +kernel
theorem dX6_loads_54 : decode cX6_loads 54 = .ok (.aload_n 0, 1) := by decide +kernel
theorem dX6_loads_55 : decode cX6_loads 55 = .ok (.iload_n 1, 1) := by decide +kernel
theorem dX6_loads_56 : decode cX6_loads 56 = .ok (.aload_n 0, 1) := by decide +kernel
theorem dX6_loads_57 : decode cX6_loads 57 = .ok (.getfield 93, 3) := by decide +kernel
theorem dX6_loads_60 : decode cX6_loads 60 = .ok (.iload 4, 2) := by decide +kernel
theorem dX6_loads_62 : decode cX6_loads 62 = .ok (.iaload, 1) := by decide +kernel
theorem dX6_loads_63 : decode cX6_loads 63 = .ok (.invokevirtual 270, 3) := by decide +kernel
theorem dX6_loads_66 : decode cX6_loads 66 = .ok (.if_icmp .gt 22, 3) := by decide +kernel
theorem dX6_loads_69 : decode cX6_loads 69 = .ok (.iload_n 3, 1) := by decide +kernel
theorem dX6_loads_70 : decode cX6_loads 70 = .ok (.iload 5, 2) := by decide +kernel
theorem dX6_loads_72 : decode cX6_loads 72 = .ok (.isub, 1) := by decide +kernel
theorem dX6_loads_73 : decode cX6_loads 73 = .ok (.aload_n 0, 1) := by decide +kernel
theorem dX6_loads_74 : decode cX6_loads 74 = .ok (.iload_n 1, 1) := by decide +kernel
theorem dX6_loads_75 : decode cX6_loads 75 = .ok (.aload_n 0, 1) := by decide +kernel
theorem dX6_loads_76 : decode cX6_loads 76 = .ok (.getfield 96, 3) := by decide +kernel
theorem dX6_loads_79 : decode cX6_loads 79 = .ok (.iload 4, 2) := by decide +kernel
theorem dX6_loads_81 : decode cX6_loads 81 = .ok (.iaload, 1) := by decide +kernel
theorem dX6_loads_82 : decode cX6_loads 82 = .ok (.invokevirtual 270, 3) := by decide +kernel
theorem dX6_loads_85 : decode cX6_loads 85 = .ok (.if_icmp .le 6, 3) := by decide +kernel
theorem dX6_loads_88 : decode cX6_loads 88 = .ok (.bipush (-3), 2) := by decide +kernel
theorem dX6_loads_90 : decode cX6_loads 90 = .ok (.ireturn, 1) := by decide +kernel
theorem dX6_loads_91 : decode cX6_loads 91 = .ok (.aload_n 0, 1) := by decide +kernel
theorem dX6_loads_92 : decode cX6_loads 92 = .ok (.iload_n 1, 1) := by decide +kernel
theorem dX6_loads_93 : decode cX6_loads 93 = .ok (.invokevirtual 333, 3) := by decide +kernel
theorem dX6_loads_96 : decode cX6_loads 96 = .ok (.aload_n 0, 1) := by decide +kernel
theorem dX6_loads_97 : decode cX6_loads 97 = .ok (.getfield 99, 3) := by decide +kernel
theorem dX6_loads_100 : decode cX6_loads 100 = .ok (.iload 4, 2) := by decide +kernel
theorem dX6_loads_102 : decode cX6_loads 102 = .ok (.iload_n 3, 1) := by decide +kernel
theorem dX6_loads_103 : decode cX6_loads 103 = .ok (.iastore, 1) := by decide +kernel
theorem dX6_loads_104 : decode cX6_loads 104 = .ok (.aload_n 0, 1) := by decide +kernel
theorem dX6_loads_105 : decode cX6_loads 105 = .ok (.iload_n 1, 1) := by decide +kernel
theorem dX6_loads_106 : decode cX6_loads 106 = .ok (.invokevirtual 339, 3) := by decide +kernel
theorem dX6_loads_109 : decode cX6_loads 109 = .ok (.ifCond .eq 8, 3) := by decide +kernel
theorem dX6_loads_112 : decode cX6_loads 112 = .ok (.iload 5, 2) := by decide +kernel
theorem dX6_loads_114 : decode cX6_loads 114 = .ok (.goto 5, 3) := by decide +kernel
theorem dX6_loads_117 : decode cX6_loads 117 = .ok (.bipush (-4), 2) := by decide +kernel
theorem dX6_loads_119 : decode cX6_loads 119 = .ok (.ireturn, 1) := by decide +kernel
def sX6_loads_c19 (h : Hp) : Option (Int32 × Hp) :=
  some ((-1 : Int32), h)
set_option maxRecDepth 10000 in
theorem vX6_loads_c19 (h : Hp) (q : (Int32 × Hp)) (e : sX6_loads_c19 h = some q) : V (Gs 9 (pI q)) mX6_loads (0, 0) 19 [] [] h := by
  unfold sX6_loads_c19 at e
  refine V.iconst dX6_loads_19 (pc' := 20) rfl (v := -1) (by decide) ?_
  exact V.iret dX6_loads_20 rfl (fnI e)
def sX6_loads_c88 (h : Hp) : Option (Int32 × Hp) :=
  some ((-3 : Int32), h)
set_option maxRecDepth 10000 in
theorem vX6_loads_c88 (h : Hp) (q : (Int32 × Hp)) (e : sX6_loads_c88 h = some q) : V (Gs 9 (pI q)) mX6_loads (0, 0) 88 [] [] h := by
  unfold sX6_loads_c88 at e
  refine V.bipush dX6_loads_88 (pc' := 90) rfl (v := -3) (by decide) ?_
  exact V.iret dX6_loads_90 rfl (fnI e)
def sX6_loads_c119 (h : Hp) (t0 : Int32) : Option (Int32 × Hp) :=
  some (t0, h)
set_option maxRecDepth 10000 in
theorem vX6_loads_c119 (h : Hp) (t0 : Int32) (q : (Int32 × Hp)) (e : sX6_loads_c119 h t0 = some q) : V (Gs 9 (pI q)) mX6_loads (0, 0) 119 [] [.int t0] h := by
  unfold sX6_loads_c119 at e
  exact V.iret dX6_loads_119 rfl (fnI e)
def sX6_loads (h : Hp) (a1 : Int32) (a2 : Int32) (a3 : Int32) : Option (Int32 × Hp) :=
  nm (u1 h 54 0 (0 : Int32)) fun h1 => (sX6_isMatch h1 a1 a2).bind fun q2 => if q2.1 = 0 then (sX6_loads_c19 q2.2) else (if (1 : Int32) ≤ a3 then ((sX6_place q2.2 a1 a2).bind fun q3 => gd (inb q3.1 50) (nm ((q3.2.1 70 q3.1.toNatClampNeg)) fun x5 => if x5 = a3 then (some ((-2 : Int32), q3.2)) else ((sX6_finds q3.2).bind fun q6 => gd (inb q3.1 50) ((sX6_rest q6 a1 (q6.1 68 q3.1.toNatClampNeg)).bind fun q8 => if q8.1 < (a3 - x5) then (sX6_loads_c88 q8.2) else (gd (inb q3.1 50) ((sX6_rest q8.2 a1 (q8.2.1 69 q3.1.toNatClampNeg)).bind fun q10 => if (a3 - x5) ≤ q10.1 then ((sX6_saves q10.2 a1).bind fun q11 => gd (inb q3.1 50) (nm (u1 q11 70 q3.1.toNatClampNeg a3) fun h13 => (sX6_isRight h13 a1).bind fun q14 => if q14.1 = 0 then (sX6_loads_c119 q14.2 (-4 : Int32)) else (sX6_loads_c119 q14.2 x5))) else (sX6_loads_c88 q10.2))))))) else (sX6_loads_c19 q2.2))
set_option maxRecDepth 10000 in
theorem kX6_loads (h : Hp) (a1 : Int32) (a2 : Int32) (a3 : Int32) (q : (Int32 × Hp)) (e : sX6_loads h a1 a2 a3 = some q) : K 9 mX6_loads [.ref 54, .int a1, .int a2, .int a3] h (pI q) := by
  unfold sX6_loads at e
  refine K.ofV (by decide) rfl (Nat.le_of_ble_eq_true rfl) ?_
  show V (Gs 9 (pI q)) mX6_loads (0, 0) 0 [(0, .ref 54), (1, .int a1), (2, .int a2), (3, .int a3)] [] h
  refine V.alq dX6_loads_0 (pc' := 1) rfl (j := 0) rfl ?_
  refine V.iconst dX6_loads_1 (pc' := 2) rfl (v := 0) (by decide) ?_
  obtain ⟨h1, eh1, e⟩ := nm_s e
  refine V.putf dX6_loads_2 (pc' := 5) rfl FP_X6_1 rfl (by decide) rfl eh1 ?_
  refine V.alq dX6_loads_5 (pc' := 6) rfl (j := 0) rfl ?_
  refine V.ilq dX6_loads_6 (pc' := 7) rfl (j := 1) rfl ?_
  refine V.ilq dX6_loads_7 (pc' := 8) rfl (j := 2) rfl ?_
  obtain ⟨q2, eq2, e⟩ := bd_s e
  refine V.callVi dX6_loads_8 (pc' := 11) rfl CV_X6_317 (as := [.int a1, .int a2]) (kX6_isMatch h1 a1 a2 q2 eq2) (Gs_rm (by decide)) rfl (by decide) rfl (Nat.le_of_ble_eq_true rfl) rfl ?_
  refine V.if_eq dX6_loads_11 (pc' := 14) rfl (tgt := 19) (by decide) (fun c => ?_) (fun c => ?_)
  · rw [if_pos c] at e
    refine V.pk [] rfl ?_
    exact vX6_loads_c19 q2.2 q e
  · rw [if_neg c] at e
    refine V.ilq dX6_loads_14 (pc' := 15) rfl (j := 3) rfl ?_
    refine V.iconst dX6_loads_15 (pc' := 16) rfl (v := 1) (by decide) ?_
    refine V.ic_ge dX6_loads_16 (pc' := 19) rfl (tgt := 21) (by decide) (fun c => ?_) (fun c => ?_)
    · rw [if_pos c] at e
      refine V.ilq dX6_loads_21 (pc' := 22) rfl (j := 1) rfl ?_
      refine V.ilq dX6_loads_22 (pc' := 23) rfl (j := 2) rfl ?_
      obtain ⟨q3, eq3, e⟩ := bd_s e
      refine V.callSi dX6_loads_23 (pc' := 26) rfl CS_X6_263 (as := [.int a1, .int a2]) (kX6_place q2.2 a1 a2 q3 eq3) (Gs_rm (by decide)) rfl (Nat.le_of_ble_eq_true rfl) rfl ?_
      refine V.is dX6_loads_26 (pc' := 28) rfl (by decide) rfl (L' := [(4, .int q3.1), (0, .ref 54), (1, .int a1), (2, .int a2), (3, .int a3)]) rfl ?_
      refine V.alq dX6_loads_28 (pc' := 29) rfl (j := 1) rfl ?_
      refine V.getr dX6_loads_29 (pc' := 32) rfl FL_X6_99 rfl (by decide) rfl (r' := 70) rfl ?_
      refine V.il dX6_loads_32 (pc' := 34) rfl (j := 0) rfl ?_
      obtain ⟨c4, e⟩ := gd_s e
      refine V.iald dX6_loads_34 (pc' := 35) rfl rfl rfl (inb_t c4) ?_
      obtain ⟨x5, ex5, e⟩ := nm_s e
      refine V.is dX6_loads_35 (pc' := 37) rfl (by decide) ex5 (L' := [(5, .int x5), (4, .int q3.1), (0, .ref 54), (1, .int a1), (2, .int a2), (3, .int a3)]) rfl ?_
      refine V.il dX6_loads_37 (pc' := 39) rfl (j := 0) rfl ?_
      refine V.ilq dX6_loads_39 (pc' := 40) rfl (j := 5) rfl ?_
      refine V.ic_ne dX6_loads_40 (pc' := 43) rfl (tgt := 46) (by decide) (fun c => ?_) (fun c => ?_)
      · rw [if_neg c] at e
        refine V.alq dX6_loads_46 (pc' := 47) rfl (j := 2) rfl ?_
        obtain ⟨q6, eq6, e⟩ := bd_s e
        refine V.callVv dX6_loads_47 (pc' := 50) rfl CV_X6_256 (as := []) (kX6_finds q3.2 q6 eq6) (Gs_rm (by decide)) rfl (by decide) rfl (Nat.le_of_ble_eq_true rfl) rfl ?_
        refine V.ilq dX6_loads_50 (pc' := 51) rfl (j := 5) rfl ?_
        refine V.il dX6_loads_51 (pc' := 53) rfl (j := 0) rfl ?_
        refine V.isub dX6_loads_53 (pc' := 54) rfl ?_
        refine V.alq dX6_loads_54 (pc' := 55) rfl (j := 2) rfl ?_
        refine V.ilq dX6_loads_55 (pc' := 56) rfl (j := 3) rfl ?_
        refine V.alq dX6_loads_56 (pc' := 57) rfl (j := 2) rfl ?_
        refine V.getr dX6_loads_57 (pc' := 60) rfl FL_X6_93 rfl (by decide) rfl (r' := 68) rfl ?_
        refine V.il dX6_loads_60 (pc' := 62) rfl (j := 1) rfl ?_
        obtain ⟨c7, e⟩ := gd_s e
        refine V.iald dX6_loads_62 (pc' := 63) rfl rfl rfl (inb_t c7) ?_
        obtain ⟨q8, eq8, e⟩ := bd_s e
        refine V.callVi dX6_loads_63 (pc' := 66) rfl CV_X6_270 (as := [.int a1, .int (q6.1 68 q3.1.toNatClampNeg)]) (kX6_rest q6 a1 (q6.1 68 q3.1.toNatClampNeg) q8 eq8) (Gs_rm (by decide)) rfl (by decide) rfl (Nat.le_of_ble_eq_true rfl) rfl ?_
        refine V.ic_gt dX6_loads_66 (pc' := 69) rfl (tgt := 88) (by decide) (fun c => ?_) (fun c => ?_)
        · rw [if_pos c] at e
          refine V.pk [] rfl ?_
          exact vX6_loads_c88 q8.2 q e
        · rw [if_neg c] at e
          refine V.ilq dX6_loads_69 (pc' := 70) rfl (j := 5) rfl ?_
          refine V.il dX6_loads_70 (pc' := 72) rfl (j := 0) rfl ?_
          refine V.isub dX6_loads_72 (pc' := 73) rfl ?_
          refine V.alq dX6_loads_73 (pc' := 74) rfl (j := 2) rfl ?_
          refine V.ilq dX6_loads_74 (pc' := 75) rfl (j := 3) rfl ?_
          refine V.alq dX6_loads_75 (pc' := 76) rfl (j := 2) rfl ?_
          refine V.getr dX6_loads_76 (pc' := 79) rfl FL_X6_96 rfl (by decide) rfl (r' := 69) rfl ?_
          refine V.il dX6_loads_79 (pc' := 81) rfl (j := 1) rfl ?_
          obtain ⟨c9, e⟩ := gd_s e
          refine V.iald dX6_loads_81 (pc' := 82) rfl rfl rfl (inb_t c9) ?_
          obtain ⟨q10, eq10, e⟩ := bd_s e
          refine V.callVi dX6_loads_82 (pc' := 85) rfl CV_X6_270 (as := [.int a1, .int (q8.2.1 69 q3.1.toNatClampNeg)]) (kX6_rest q8.2 a1 (q8.2.1 69 q3.1.toNatClampNeg) q10 eq10) (Gs_rm (by decide)) rfl (by decide) rfl (Nat.le_of_ble_eq_true rfl) rfl ?_
          refine V.ic_le dX6_loads_85 (pc' := 88) rfl (tgt := 91) (by decide) (fun c => ?_) (fun c => ?_)
          · rw [if_pos c] at e
            refine V.alq dX6_loads_91 (pc' := 92) rfl (j := 2) rfl ?_
            refine V.ilq dX6_loads_92 (pc' := 93) rfl (j := 3) rfl ?_
            obtain ⟨q11, eq11, e⟩ := bd_s e
            refine V.callVv dX6_loads_93 (pc' := 96) rfl CV_X6_333 (as := [.int a1]) (kX6_saves q10.2 a1 q11 eq11) (Gs_rm (by decide)) rfl (by decide) rfl (Nat.le_of_ble_eq_true rfl) rfl ?_
            refine V.alq dX6_loads_96 (pc' := 97) rfl (j := 2) rfl ?_
            refine V.getr dX6_loads_97 (pc' := 100) rfl FL_X6_99 rfl (by decide) rfl (r' := 70) rfl ?_
            refine V.il dX6_loads_100 (pc' := 102) rfl (j := 1) rfl ?_
            refine V.ilq dX6_loads_102 (pc' := 103) rfl (j := 5) rfl ?_
            obtain ⟨c12, e⟩ := gd_s e
            obtain ⟨h13, eh13, e⟩ := nm_s e
            refine V.iast dX6_loads_103 (pc' := 104) rfl rfl rfl (inb_t c12) eh13 ?_
            refine V.alq dX6_loads_104 (pc' := 105) rfl (j := 2) rfl ?_
            refine V.ilq dX6_loads_105 (pc' := 106) rfl (j := 3) rfl ?_
            obtain ⟨q14, eq14, e⟩ := bd_s e
            refine V.callVi dX6_loads_106 (pc' := 109) rfl CV_X6_339 (as := [.int a1]) (kX6_isRight h13 a1 q14 eq14) (Gs_rm (by decide)) rfl (by decide) rfl (Nat.le_of_ble_eq_true rfl) rfl ?_
            refine V.if_eq dX6_loads_109 (pc' := 112) rfl (tgt := 117) (by decide) (fun c => ?_) (fun c => ?_)
            · rw [if_pos c] at e
              refine V.bipush dX6_loads_117 (pc' := 119) rfl (v := -4) (by decide) ?_
              refine V.pk [] rfl ?_
              exact vX6_loads_c119 q14.2 (-4 : Int32) q e
            · rw [if_neg c] at e
              refine V.il dX6_loads_112 (pc' := 114) rfl (j := 0) rfl ?_
              refine V.goto dX6_loads_114 (pc' := 119) (by decide) ?_
              refine V.pk [] rfl ?_
              exact vX6_loads_c119 q14.2 x5 q e
          · rw [if_neg c] at e
            refine V.pk [] rfl ?_
            exact vX6_loads_c88 q10.2 q e
      · rw [if_pos c] at e
        refine V.bipush dX6_loads_43 (pc' := 45) rfl (v := -2) (by decide) ?_
        exact V.iret dX6_loads_45 rfl (fnI e)
    · rw [if_neg c] at e
      refine V.pk [] rfl ?_
      exact vX6_loads_c19 q2.2 q e

-- X6_findsLoop (level 32)
theorem dX6_findsLoop_0 : decode cX6_findsLoop 0 = .ok (.aload_n 0, 1) := by decide +kernel
theorem dX6_findsLoop_1 : decode cX6_findsLoop 1 = .ok (.getfield 111, 3) := by decide +kernel
theorem dX6_findsLoop_4 : decode cX6_findsLoop 4 = .ok (.iconst 0, 1) := by decide +kernel
theorem dX6_findsLoop_5 : decode cX6_findsLoop 5 = .ok (.iload_n 2, 1) := by decide +kernel
theorem dX6_findsLoop_6 : decode cX6_findsLoop 6 = .ok (.iastore, 1) := by decide +kernel
theorem dX6_findsLoop_7 : decode cX6_findsLoop 7 = .ok (.aload_n 0, 1) := by decide +kernel
theorem dX6_findsLoop_8 : decode cX6_findsLoop 8 = .ok (.iconst 2, 1) := by decide +kernel
theorem dX6_findsLoop_9 : decode cX6_findsLoop 9 = .ok (.putfield 345, 3) := by decide +kernel
theorem dX6_findsLoop_12 : decode cX6_findsLoop 12 = .ok (.aload_n 0, 1) := by decide +kernel
theorem dX6_findsLoop_13 : decode cX6_findsLoop 13 = .ok (.getfield 345, 3) := by decide +kernel
theorem dX6_findsLoop_16 : decode cX6_findsLoop 16 = .ok (.aload_n 0, 1) := by decide +kernel
theorem dX6_findsLoop_17 : decode cX6_findsLoop 17 = .ok (.getfield 90, 3) := by decide +kernel
theorem dX6_findsLoop_20 : decode cX6_findsLoop 20 = .ok (.iload_n 1, 1) := by decide +kernel
theorem dX6_findsLoop_21 : decode cX6_findsLoop 21 = .ok (.iaload, 1) := by decide +kernel
theorem dX6_findsLoop_22 : decode cX6_findsLoop 22 = .ok (.if_icmp .gt 45, 3) := by decide +kernel
theorem dX6_findsLoop_25 : decode cX6_findsLoop 25 = .ok (.aload_n 0, 1) := by decide +kernel
theorem dX6_findsLoop_26 : decode cX6_findsLoop 26 = .ok (.iload_n 1, 1) := by decide +kernel
theorem dX6_findsLoop_27 : decode cX6_findsLoop 27 = .ok (.iconst 1, 1) := by decide +kernel
theorem dX6_findsLoop_28 : decode cX6_findsLoop 28 = .ok (.iconst 1, 1) := by decide +kernel
theorem dX6_findsLoop_29 : decode cX6_findsLoop 29 = .ok (.aload_n 0, 1) := by decide +kernel
theorem dX6_findsLoop_30 : decode cX6_findsLoop 30 = .ok (.getfield 96, 3) := by decide +kernel
theorem dX6_findsLoop_33 : decode cX6_findsLoop 33 = .ok (.iload_n 1, 1) := by decide +kernel
theorem dX6_findsLoop_34 : decode cX6_findsLoop 34 = .ok (.iload_n 2, 1) := by decide +kernel
theorem dX6_findsLoop_35 : decode cX6_findsLoop 35 = .ok (.invokestatic 263, 3) := by decide +kernel
theorem dX6_findsLoop_38 : decode cX6_findsLoop 38 = .ok (.iaload, 1) := by decide +kernel
theorem dX6_findsLoop_39 : decode cX6_findsLoop 39 = .ok (.ishl, 1) := by decide +kernel
theorem dX6_findsLoop_40 : decode cX6_findsLoop 40 = .ok (.iconst 1, 1) := by decide +kernel
theorem dX6_findsLoop_41 : decode cX6_findsLoop 41 = .ok (.iload_n 2, 1) := by decide +kernel
theorem dX6_findsLoop_42 : decode cX6_findsLoop 42 = .ok (.ishl, 1) := by decide +kernel
theorem dX6_findsLoop_43 : decode cX6_findsLoop 43 = .ok (.invokevirtual 348, 3) := by decide +kernel
theorem dX6_findsLoop_46 : decode cX6_findsLoop 46 = .ok (.ifCond .eq 8, 3) := by decide +kernel
theorem dX6_findsLoop_49 : decode cX6_findsLoop 49 = .ok (.aload_n 0, 1) := by decide +kernel
theorem dX6_findsLoop_50 : decode cX6_findsLoop 50 = .ok (.getfield 345, 3) := by decide +kernel
theorem dX6_findsLoop_53 : decode cX6_findsLoop 53 = .ok (.ireturn, 1) := by decide +kernel
theorem dX6_findsLoop_54 : decode cX6_findsLoop 54 = .ok (.aload_n 0, 1) := by decide +kernel
theorem dX6_findsLoop_55 : decode cX6_findsLoop 55 = .ok (.dup, 1) := by decide +kernel
theorem dX6_findsLoop_56 : decode cX6_findsLoop 56 = .ok (.getfield 345, 3) := by decide +kernel
theorem dX6_findsLoop_59 : decode cX6_findsLoop 59 = .ok (.iconst 2, 1) := by decide +kernel
theorem dX6_findsLoop_60 : decode cX6_findsLoop 60 = .ok (.iadd, 1) := by decide +kernel
theorem dX6_findsLoop_61 : decode cX6_findsLoop 61 = .ok (.putfield 345, 3) := by decide +kernel
theorem dX6_findsLoop_64 : decode cX6_findsLoop 64 = .ok (.goto (-52), 3) := by decide +kernel
theorem dX6_findsLoop_67 : decode cX6_findsLoop 67 = .ok (.iconst 0, 1) := by decide +kernel
theorem dX6_findsLoop_68 : decode cX6_findsLoop 68 = .ok (.ireturn, 1) := by decide +kernel
def sX6_findsLoop_c12 (k12 : Hp → Int32 → Int32 → Option (Int32 × Hp)) (h : Hp) (v1 : Int32) (v2 : Int32) : Option (Int32 × Hp) :=
  gd (inb v1 2) (if (h.1 67 v1.toNatClampNeg) < (h.1 54 35) then (some ((0 : Int32), h)) else ((sX6_place h v1 v2).bind fun q4 => gd (inb q4.1 50) ((sX6_goesRound 30 q4.2 v1 (1 : Int32) ((1 : Int32) <<< ((q4.2.1 69 q4.1.toNatClampNeg) &&& 31)) ((1 : Int32) <<< (v2 &&& 31))).bind fun q6 => if q6.1 = 0 then (nm (u1 q6.2 54 35 ((q6.2.1 54 35) + (2 : Int32))) fun h7 => k12 h7 v1 v2) else (some ((q6.2.1 54 35), q6.2)))))
set_option maxRecDepth 10000 in
theorem vX6_findsLoop_c12 (k12 : Hp → Int32 → Int32 → Option (Int32 × Hp)) (hk12 : ∀ (h : Hp) (v1 : Int32) (v2 : Int32) (q : (Int32 × Hp)), k12 h v1 v2 = some q → V (Gs 32 (pI q)) mX6_findsLoop (0, 0) 12 [(0, .ref 54), (1, .int v1), (2, .int v2)] [] h) (h : Hp) (v1 : Int32) (v2 : Int32) (q : (Int32 × Hp)) (e : sX6_findsLoop_c12 k12 h v1 v2 = some q) : V (Gs 32 (pI q)) mX6_findsLoop (0, 0) 12 [(0, .ref 54), (1, .int v1), (2, .int v2)] [] h := by
  unfold sX6_findsLoop_c12 at e
  refine V.alq dX6_findsLoop_12 (pc' := 13) rfl (j := 0) rfl ?_
  refine V.getf dX6_findsLoop_13 (pc' := 16) rfl FL_X6_345 rfl (by decide) rfl ?_
  refine V.alq dX6_findsLoop_16 (pc' := 17) rfl (j := 0) rfl ?_
  refine V.getr dX6_findsLoop_17 (pc' := 20) rfl FL_X6_90 rfl (by decide) rfl (r' := 67) rfl ?_
  refine V.ilq dX6_findsLoop_20 (pc' := 21) rfl (j := 1) rfl ?_
  obtain ⟨c3, e⟩ := gd_s e
  refine V.iald dX6_findsLoop_21 (pc' := 22) rfl rfl rfl (inb_t c3) ?_
  refine V.ic_gt dX6_findsLoop_22 (pc' := 25) rfl (tgt := 67) (by decide) (fun c => ?_) (fun c => ?_)
  · rw [if_pos c] at e
    refine V.iconst dX6_findsLoop_67 (pc' := 68) rfl (v := 0) (by decide) ?_
    exact V.iret dX6_findsLoop_68 rfl (fnI e)
  · rw [if_neg c] at e
    refine V.alq dX6_findsLoop_25 (pc' := 26) rfl (j := 0) rfl ?_
    refine V.ilq dX6_findsLoop_26 (pc' := 27) rfl (j := 1) rfl ?_
    refine V.iconst dX6_findsLoop_27 (pc' := 28) rfl (v := 1) (by decide) ?_
    refine V.iconst dX6_findsLoop_28 (pc' := 29) rfl (v := 1) (by decide) ?_
    refine V.alq dX6_findsLoop_29 (pc' := 30) rfl (j := 0) rfl ?_
    refine V.getr dX6_findsLoop_30 (pc' := 33) rfl FL_X6_96 rfl (by decide) rfl (r' := 69) rfl ?_
    refine V.ilq dX6_findsLoop_33 (pc' := 34) rfl (j := 1) rfl ?_
    refine V.ilq dX6_findsLoop_34 (pc' := 35) rfl (j := 2) rfl ?_
    obtain ⟨q4, eq4, e⟩ := bd_s e
    refine V.callSi dX6_findsLoop_35 (pc' := 38) rfl CS_X6_263 (as := [.int v1, .int v2]) (kX6_place h v1 v2 q4 eq4) (Gs_rm (by decide)) rfl (Nat.le_of_ble_eq_true rfl) rfl ?_
    obtain ⟨c5, e⟩ := gd_s e
    refine V.iald dX6_findsLoop_38 (pc' := 39) rfl rfl rfl (inb_t c5) ?_
    refine V.ishl dX6_findsLoop_39 (pc' := 40) rfl ?_
    refine V.iconst dX6_findsLoop_40 (pc' := 41) rfl (v := 1) (by decide) ?_
    refine V.ilq dX6_findsLoop_41 (pc' := 42) rfl (j := 2) rfl ?_
    refine V.ishl dX6_findsLoop_42 (pc' := 43) rfl ?_
    obtain ⟨q6, eq6, e⟩ := bd_s e
    refine V.callVi dX6_findsLoop_43 (pc' := 46) rfl CV_X6_348 (as := [.int v1, .int (1 : Int32), .int ((1 : Int32) <<< ((q4.2.1 69 q4.1.toNatClampNeg) &&& 31)), .int ((1 : Int32) <<< (v2 &&& 31))]) (kX6_goesRound 30 q4.2 v1 (1 : Int32) ((1 : Int32) <<< ((q4.2.1 69 q4.1.toNatClampNeg) &&& 31)) ((1 : Int32) <<< (v2 &&& 31)) q6 eq6) (Gs_rm (by decide)) rfl (by decide) rfl (Nat.le_of_ble_eq_true rfl) rfl ?_
    refine V.if_eq dX6_findsLoop_46 (pc' := 49) rfl (tgt := 54) (by decide) (fun c => ?_) (fun c => ?_)
    · rw [if_pos c] at e
      refine V.alq dX6_findsLoop_54 (pc' := 55) rfl (j := 0) rfl ?_
      refine V.dup dX6_findsLoop_55 (pc' := 56) rfl rfl ?_
      refine V.getf dX6_findsLoop_56 (pc' := 59) rfl FL_X6_345 rfl (by decide) rfl ?_
      refine V.iconst dX6_findsLoop_59 (pc' := 60) rfl (v := 2) (by decide) ?_
      refine V.iadd dX6_findsLoop_60 (pc' := 61) rfl ?_
      obtain ⟨h7, eh7, e⟩ := nm_s e
      refine V.putf dX6_findsLoop_61 (pc' := 64) rfl FP_X6_345 rfl (by decide) rfl eh7 ?_
      refine V.goto dX6_findsLoop_64 (pc' := 12) (by decide) ?_
      exact hk12 h7 v1 v2 q e
    · rw [if_neg c] at e
      refine V.alq dX6_findsLoop_49 (pc' := 50) rfl (j := 0) rfl ?_
      refine V.getf dX6_findsLoop_50 (pc' := 53) rfl FL_X6_345 rfl (by decide) rfl ?_
      exact V.iret dX6_findsLoop_53 rfl (fnI e)
def sX6_findsLoop_b12 : Nat → Hp → Int32 → Int32 → Option (Int32 × Hp)
  | 0 => fun _ _ _ => none
  | n + 1 => sX6_findsLoop_c12 (sX6_findsLoop_b12 n)
theorem vX6_findsLoop_b12 : ∀ (n : Nat) (h : Hp) (v1 : Int32) (v2 : Int32) (q : (Int32 × Hp)), sX6_findsLoop_b12 n h v1 v2 = some q → V (Gs 32 (pI q)) mX6_findsLoop (0, 0) 12 [(0, .ref 54), (1, .int v1), (2, .int v2)] [] h
  | 0 => fun _ _ _ _ e => by cases e
  | n + 1 => fun h v1 v2 q e => vX6_findsLoop_c12 (sX6_findsLoop_b12 n) (vX6_findsLoop_b12 n) h v1 v2 q e
def sX6_findsLoop (h : Hp) (a1 : Int32) (a2 : Int32) : Option (Int32 × Hp) :=
  nm (u1 h 74 (0 : Int32).toNatClampNeg a2) fun h1 => nm (u1 h1 54 35 (2 : Int32)) fun h2 => sX6_findsLoop_b12 FU h2 a1 a2
set_option maxRecDepth 10000 in
theorem kX6_findsLoop (h : Hp) (a1 : Int32) (a2 : Int32) (q : (Int32 × Hp)) (e : sX6_findsLoop h a1 a2 = some q) : K 32 mX6_findsLoop [.ref 54, .int a1, .int a2] h (pI q) := by
  unfold sX6_findsLoop at e
  refine K.ofV (by decide) rfl (Nat.le_of_ble_eq_true rfl) ?_
  show V (Gs 32 (pI q)) mX6_findsLoop (0, 0) 0 [(0, .ref 54), (1, .int a1), (2, .int a2)] [] h
  refine V.alq dX6_findsLoop_0 (pc' := 1) rfl (j := 0) rfl ?_
  refine V.getr dX6_findsLoop_1 (pc' := 4) rfl FL_X6_111 rfl (by decide) rfl (r' := 74) rfl ?_
  refine V.iconst dX6_findsLoop_4 (pc' := 5) rfl (v := 0) (by decide) ?_
  refine V.ilq dX6_findsLoop_5 (pc' := 6) rfl (j := 2) rfl ?_
  obtain ⟨h1, eh1, e⟩ := nm_s e
  refine V.iast dX6_findsLoop_6 (pc' := 7) rfl rfl rfl (inb_t (by decide)) eh1 ?_
  refine V.alq dX6_findsLoop_7 (pc' := 8) rfl (j := 0) rfl ?_
  refine V.iconst dX6_findsLoop_8 (pc' := 9) rfl (v := 2) (by decide) ?_
  obtain ⟨h2, eh2, e⟩ := nm_s e
  refine V.putf dX6_findsLoop_9 (pc' := 12) rfl FP_X6_345 rfl (by decide) rfl eh2 ?_
  exact vX6_findsLoop_b12 FU h2 a1 a2 q e

-- X6_loop (level 33)
theorem dX6_loop_0 : decode cX6_loop 0 = .ok (.aload_n 0, 1) := by decide +kernel
theorem dX6_loop_1 : decode cX6_loop 1 = .ok (.iconst 0, 1) := by decide +kernel
theorem dX6_loop_2 : decode cX6_loop 2 = .ok (.putfield 1, 3) := by decide +kernel
theorem dX6_loop_5 : decode cX6_loop 5 = .ok (.aload_n 0, 1) := by decide +kernel
theorem dX6_loop_6 : decode cX6_loop 6 = .ok (.iload_n 1, 1) := by decide +kernel
theorem dX6_loop_7 : decode cX6_loop 7 = .ok (.iload_n 2, 1) := by decide +kernel
theorem dX6_loop_8 : decode cX6_loop 8 = .ok (.invokevirtual 317, 3) := by decide +kernel
theorem dX6_loop_11 : decode cX6_loop 11 = .ok (.ifCond .ne 5, 3) := by decide +kernel
theorem dX6_loop_14 : decode cX6_loop 14 = .ok (.iconst (-1), 1) := by decide +kernel
theorem dX6_loop_15 : decode cX6_loop 15 = .ok (.ireturn, 1) := by decide +kernel
theorem dX6_loop_16 : decode cX6_loop 16 = .ok (.aload_n 0, 1) := by decide +kernel
theorem dX6_loop_17 : decode cX6_loop 17 = .ok (.iload_n 1, 1) := by decide +kernel
theorem dX6_loop_18 : decode cX6_loop 18 = .ok (.iload_n 2, 1) := by decide +kernel
theorem dX6_loop_19 : decode cX6_loop 19 = .ok (.invokevirtual 352, 3) := by decide +kernel
theorem dX6_loop_22 : decode cX6_loop 22 = .ok (.istore_n 3, 1) := by decide +kernel
theorem dX6_loop_23 : decode cX6_loop 23 = .ok (.iload_n 3, 1) := by decide +kernel
theorem dX6_loop_24 : decode cX6_loop 24 = .ok (.ifCond .ne 6, 3) := by decide +kernel
theorem dX6_loop_27 : decode cX6_loop 27 = .ok (.bipush (-2), 2) := by decide +kernel
theorem dX6_loop_29 : decode cX6_loop 29 = .ok (.ireturn, 1) := by decide +kernel
theorem dX6_loop_30 : decode cX6_loop 30 = .ok (.aload_n 0, 1) := by decide +kernel
theorem dX6_loop_31 : decode cX6_loop 31 = .ok (.iconst 0, 1) := by decide +kernel
theorem dX6_loop_32 : decode cX6_loop 32 = .ok (.putfield 11, 3) := by decide +kernel
theorem dX6_loop_35 : decode cX6_loop 35 = .ok (.iconst 0, 1) := by decide +kernel
theorem dX6_loop_36 : decode cX6_loop 36 = .ok (.istore 4, 2) := by decide +kernel
theorem dX6_loop_38 : decode cX6_loop 38 = .ok (.iload 4, 2) := by decide +kernel
theorem dX6_loop_40 : decode cX6_loop 40 = .ok (.iload_n 3, 1) := by decide +kernel
theorem dX6_loop_41 : decode cX6_loop 41 = .ok (.if_icmp .ge 21, 3) := by decide +kernel
theorem dX6_loop_44 : decode cX6_loop 44 = .ok (.aload_n 0, 1) := by decide +kernel
theorem dX6_loop_45 : decode cX6_loop 45 = .ok (.aload_n 0, 1) := by decide +kernel
theorem dX6_loop_46 : decode cX6_loop 46 = .ok (.getfield 111, 3) := by decide +kernel
theorem dX6_loop_49 : decode cX6_loop 49 = .ok (.iload 4, 2) := by decide +kernel
theorem dX6_loop_51 : decode cX6_loop 51 = .ok (.iaload, 1) := by decide +kernel
theorem dX6_loop_52 : decode cX6_loop 52 = .ok (.i2l, 1) := by decide +kernel
theorem dX6_loop_53 : decode cX6_loop 53 = .ok (.invokevirtual 18, 3) := by decide +kernel
theorem dX6_loop_56 : decode cX6_loop 56 = .ok (.iinc 4 1, 3) := by decide +kernel
theorem dX6_loop_59 : decode cX6_loop 59 = .ok (.goto (-21), 3) := by decide +kernel
theorem dX6_loop_62 : decode cX6_loop 62 = .ok (.iload_n 3, 1) := by decide +kernel
theorem dX6_loop_63 : decode cX6_loop 63 = .ok (.ireturn, 1) := by decide +kernel
def sX6_loop_c38 (k38 : Hp → Int32 → Int32 → Option (Int32 × Hp)) (h : Hp) (v3 : Int32) (v4 : Int32) : Option (Int32 × Hp) :=
  if v3 ≤ v4 then (some (v3, h)) else (gd (inb v4 24) ((sX6_enters h ((h.1 74 v4.toNatClampNeg).toInt64)).bind fun q6 => nm (v4 + (1 : Int32)) fun x7 => k38 q6 v3 x7))
set_option maxRecDepth 10000 in
theorem vX6_loop_c38 (k38 : Hp → Int32 → Int32 → Option (Int32 × Hp)) (hk38 : ∀ (h : Hp) (v3 : Int32) (v4 : Int32) (q : (Int32 × Hp)), k38 h v3 v4 = some q → V (Gs 33 (pI q)) mX6_loop (0, 0) 38 [(0, .ref 54), (3, .int v3), (4, .int v4)] [] h) (h : Hp) (v3 : Int32) (v4 : Int32) (q : (Int32 × Hp)) (e : sX6_loop_c38 k38 h v3 v4 = some q) : V (Gs 33 (pI q)) mX6_loop (0, 0) 38 [(0, .ref 54), (3, .int v3), (4, .int v4)] [] h := by
  unfold sX6_loop_c38 at e
  refine V.il dX6_loop_38 (pc' := 40) rfl (j := 2) rfl ?_
  refine V.ilq dX6_loop_40 (pc' := 41) rfl (j := 1) rfl ?_
  refine V.ic_ge dX6_loop_41 (pc' := 44) rfl (tgt := 62) (by decide) (fun c => ?_) (fun c => ?_)
  · rw [if_pos c] at e
    refine V.ilq dX6_loop_62 (pc' := 63) rfl (j := 1) rfl ?_
    exact V.iret dX6_loop_63 rfl (fnI e)
  · rw [if_neg c] at e
    refine V.alq dX6_loop_44 (pc' := 45) rfl (j := 0) rfl ?_
    refine V.alq dX6_loop_45 (pc' := 46) rfl (j := 0) rfl ?_
    refine V.getr dX6_loop_46 (pc' := 49) rfl FL_X6_111 rfl (by decide) rfl (r' := 74) rfl ?_
    refine V.il dX6_loop_49 (pc' := 51) rfl (j := 2) rfl ?_
    obtain ⟨c5, e⟩ := gd_s e
    refine V.iald dX6_loop_51 (pc' := 52) rfl rfl rfl (inb_t c5) ?_
    refine V.i2l dX6_loop_52 (pc' := 53) rfl ?_
    obtain ⟨q6, eq6, e⟩ := bd_s e
    refine V.callVv dX6_loop_53 (pc' := 56) rfl CV_X6_18 (as := [.long ((h.1 74 v4.toNatClampNeg).toInt64)]) (kX6_enters h ((h.1 74 v4.toNatClampNeg).toInt64) q6 eq6) (Gs_rm (by decide)) rfl (by decide) rfl (Nat.le_of_ble_eq_true rfl) rfl ?_
    obtain ⟨x7, ex7, e⟩ := nm_s e
    refine V.iinc dX6_loop_56 (pc' := 59) rfl (j := 2) rfl (v := 1) (by decide) (by decide) ex7 (L' := [(4, .int x7), (0, .ref 54), (3, .int v3)]) rfl ?_
    refine V.goto dX6_loop_59 (pc' := 38) (by decide) ?_
    refine V.pk [1, 2, 0] rfl ?_
    exact hk38 q6 v3 x7 q e
def sX6_loop_b38 : Nat → Hp → Int32 → Int32 → Option (Int32 × Hp)
  | 0 => fun _ _ _ => none
  | n + 1 => sX6_loop_c38 (sX6_loop_b38 n)
theorem vX6_loop_b38 : ∀ (n : Nat) (h : Hp) (v3 : Int32) (v4 : Int32) (q : (Int32 × Hp)), sX6_loop_b38 n h v3 v4 = some q → V (Gs 33 (pI q)) mX6_loop (0, 0) 38 [(0, .ref 54), (3, .int v3), (4, .int v4)] [] h
  | 0 => fun _ _ _ _ e => by cases e
  | n + 1 => fun h v3 v4 q e => vX6_loop_c38 (sX6_loop_b38 n) (vX6_loop_b38 n) h v3 v4 q e
def sX6_loop (h : Hp) (a1 : Int32) (a2 : Int32) : Option (Int32 × Hp) :=
  nm (u1 h 54 0 (0 : Int32)) fun h1 => (sX6_isMatch h1 a1 a2).bind fun q2 => if q2.1 = 0 then (some ((-1 : Int32), q2.2)) else ((sX6_findsLoop q2.2 a1 a2).bind fun q3 => if q3.1 = 0 then (some ((-2 : Int32), q3.2)) else (nm (u1 q3.2 54 1 (0 : Int32)) fun h4 => sX6_loop_b38 FU h4 q3.1 (0 : Int32)))
set_option maxRecDepth 10000 in
theorem kX6_loop (h : Hp) (a1 : Int32) (a2 : Int32) (q : (Int32 × Hp)) (e : sX6_loop h a1 a2 = some q) : K 33 mX6_loop [.ref 54, .int a1, .int a2] h (pI q) := by
  unfold sX6_loop at e
  refine K.ofV (by decide) rfl (Nat.le_of_ble_eq_true rfl) ?_
  show V (Gs 33 (pI q)) mX6_loop (0, 0) 0 [(0, .ref 54), (1, .int a1), (2, .int a2)] [] h
  refine V.alq dX6_loop_0 (pc' := 1) rfl (j := 0) rfl ?_
  refine V.iconst dX6_loop_1 (pc' := 2) rfl (v := 0) (by decide) ?_
  obtain ⟨h1, eh1, e⟩ := nm_s e
  refine V.putf dX6_loop_2 (pc' := 5) rfl FP_X6_1 rfl (by decide) rfl eh1 ?_
  refine V.alq dX6_loop_5 (pc' := 6) rfl (j := 0) rfl ?_
  refine V.ilq dX6_loop_6 (pc' := 7) rfl (j := 1) rfl ?_
  refine V.ilq dX6_loop_7 (pc' := 8) rfl (j := 2) rfl ?_
  obtain ⟨q2, eq2, e⟩ := bd_s e
  refine V.callVi dX6_loop_8 (pc' := 11) rfl CV_X6_317 (as := [.int a1, .int a2]) (kX6_isMatch h1 a1 a2 q2 eq2) (Gs_rm (by decide)) rfl (by decide) rfl (Nat.le_of_ble_eq_true rfl) rfl ?_
  refine V.if_ne dX6_loop_11 (pc' := 14) rfl (tgt := 16) (by decide) (fun c => ?_) (fun c => ?_)
  · rw [if_neg c] at e
    refine V.alq dX6_loop_16 (pc' := 17) rfl (j := 0) rfl ?_
    refine V.ilq dX6_loop_17 (pc' := 18) rfl (j := 1) rfl ?_
    refine V.ilq dX6_loop_18 (pc' := 19) rfl (j := 2) rfl ?_
    obtain ⟨q3, eq3, e⟩ := bd_s e
    refine V.callVi dX6_loop_19 (pc' := 22) rfl CV_X6_352 (as := [.int a1, .int a2]) (kX6_findsLoop q2.2 a1 a2 q3 eq3) (Gs_rm (by decide)) rfl (by decide) rfl (Nat.le_of_ble_eq_true rfl) rfl ?_
    refine V.isq dX6_loop_22 (pc' := 23) rfl (by decide) rfl (L' := [(3, .int q3.1), (0, .ref 54), (1, .int a1), (2, .int a2)]) rfl ?_
    refine V.ilq dX6_loop_23 (pc' := 24) rfl (j := 0) rfl ?_
    refine V.if_ne dX6_loop_24 (pc' := 27) rfl (tgt := 30) (by decide) (fun c => ?_) (fun c => ?_)
    · rw [if_neg c] at e
      refine V.alq dX6_loop_30 (pc' := 31) rfl (j := 1) rfl ?_
      refine V.iconst dX6_loop_31 (pc' := 32) rfl (v := 0) (by decide) ?_
      obtain ⟨h4, eh4, e⟩ := nm_s e
      refine V.putf dX6_loop_32 (pc' := 35) rfl FP_X6_11 rfl (by decide) rfl eh4 ?_
      refine V.iconst dX6_loop_35 (pc' := 36) rfl (v := 0) (by decide) ?_
      refine V.is dX6_loop_36 (pc' := 38) rfl (by decide) rfl (L' := [(4, .int (0 : Int32)), (3, .int q3.1), (0, .ref 54), (1, .int a1), (2, .int a2)]) rfl ?_
      refine V.pk [2, 1, 0] rfl ?_
      exact vX6_loop_b38 FU h4 q3.1 (0 : Int32) q e
    · rw [if_pos c] at e
      refine V.bipush dX6_loop_27 (pc' := 29) rfl (v := -2) (by decide) ?_
      exact V.iret dX6_loop_29 rfl (fnI e)
  · rw [if_pos c] at e
    refine V.iconst dX6_loop_14 (pc' := 15) rfl (v := -1) (by decide) ?_
    exact V.iret dX6_loop_15 rfl (fnI e)

-- X6_breaks (level 33)
theorem dX6_breaks_0 : decode cX6_breaks 0 = .ok (.aload_n 0, 1) := by decide +kernel
theorem dX6_breaks_1 : decode cX6_breaks 1 = .ok (.iconst 0, 1) := by decide +kernel
theorem dX6_breaks_2 : decode cX6_breaks 2 = .ok (.putfield 1, 3) := by decide +kernel
theorem dX6_breaks_5 : decode cX6_breaks 5 = .ok (.aload_n 0, 1) := by decide +kernel
theorem dX6_breaks_6 : decode cX6_breaks 6 = .ok (.iload_n 1, 1) := by decide +kernel
theorem dX6_breaks_7 : decode cX6_breaks 7 = .ok (.iload_n 2, 1) := by decide +kernel
theorem dX6_breaks_8 : decode cX6_breaks 8 = .ok (.invokevirtual 317, 3) := by decide +kernel
theorem dX6_breaks_11 : decode cX6_breaks 11 = .ok (.ifCond .ne 5, 3) := by decide +kernel
theorem dX6_breaks_14 : decode cX6_breaks 14 = .ok (.iconst (-1), 1) := by decide +kernel
theorem dX6_breaks_15 : decode cX6_breaks 15 = .ok (.ireturn, 1) := by decide +kernel
theorem dX6_breaks_16 : decode cX6_breaks 16 = .ok (.aload_n 0, 1) := by decide +kernel
theorem dX6_breaks_17 : decode cX6_breaks 17 = .ok (.iload_n 1, 1) := by decide +kernel
theorem dX6_breaks_18 : decode cX6_breaks 18 = .ok (.iload_n 2, 1) := by decide +kernel
theorem dX6_breaks_19 : decode cX6_breaks 19 = .ok (.invokevirtual 352, 3) := by decide +kernel
theorem dX6_breaks_22 : decode cX6_breaks 22 = .ok (.istore_n 3, 1) := by decide +kernel
theorem dX6_breaks_23 : decode cX6_breaks 23 = .ok (.iload_n 3, 1) := by decide +kernel
theorem dX6_breaks_24 : decode cX6_breaks 24 = .ok (.ifCond .ne 6, 3) := by decide +kernel
theorem dX6_breaks_27 : decode cX6_breaks 27 = .ok (.bipush (-2), 2) := by decide +kernel
theorem dX6_breaks_29 : decode cX6_breaks 29 = .ok (.ireturn, 1) := by decide +kernel
theorem dX6_breaks_30 : decode cX6_breaks 30 = .ok (.aload_n 0, 1) := by decide +kernel
theorem dX6_breaks_31 : decode cX6_breaks 31 = .ok (.invokevirtual 256, 3) := by decide +kernel
theorem dX6_breaks_34 : decode cX6_breaks 34 = .ok (.aload_n 0, 1) := by decide +kernel
theorem dX6_breaks_35 : decode cX6_breaks 35 = .ok (.iload_n 1, 1) := by decide +kernel
theorem dX6_breaks_36 : decode cX6_breaks 36 = .ok (.invokevirtual 333, 3) := by decide +kernel
theorem dX6_breaks_39 : decode cX6_breaks 39 = .ok (.aload_n 0, 1) := by decide +kernel
theorem dX6_breaks_40 : decode cX6_breaks 40 = .ok (.getfield 99, 3) := by decide +kernel
theorem dX6_breaks_43 : decode cX6_breaks 43 = .ok (.iload_n 1, 1) := by decide +kernel
theorem dX6_breaks_44 : decode cX6_breaks 44 = .ok (.iload_n 2, 1) := by decide +kernel
theorem dX6_breaks_45 : decode cX6_breaks 45 = .ok (.invokestatic 263, 3) := by decide +kernel
theorem dX6_breaks_48 : decode cX6_breaks 48 = .ok (.iaload, 1) := by decide +kernel
theorem dX6_breaks_49 : decode cX6_breaks 49 = .ok (.istore 4, 2) := by decide +kernel
theorem dX6_breaks_51 : decode cX6_breaks 51 = .ok (.iconst 0, 1) := by decide +kernel
theorem dX6_breaks_52 : decode cX6_breaks 52 = .ok (.istore 5, 2) := by decide +kernel
theorem dX6_breaks_54 : decode cX6_breaks 54 = .ok (.iload 5, 2) := by decide +kernel
theorem dX6_breaks_56 : decode cX6_breaks 56 = .ok (.iload_n 3, 1) := by decide +kernel
theorem dX6_breaks_57 : decode cX6_breaks 57 = .ok (.if_icmp .ge 83, 3) := by decide +kernel
theorem dX6_breaks_60 : decode cX6_breaks 60 = .ok (.iload_n 1, 1) := by decide +kernel
theorem dX6_breaks_61 : decode cX6_breaks 61 = .ok (.aload_n 0, 1) := by decide +kernel
theorem dX6_breaks_62 : decode cX6_breaks 62 = .ok (.getfield 111, 3) := by decide +kernel
theorem dX6_breaks_65 : decode cX6_breaks 65 = .ok (.iload 5, 2) := by decide +kernel
theorem dX6_breaks_67 : decode cX6_breaks 67 = .ok (.iaload, 1) := by decide +kernel
theorem dX6_breaks_68 : decode cX6_breaks 68 = .ok (.invokestatic 263, 3) := by decide +kernel
theorem dX6_breaks_71 : decode cX6_breaks 71 = .ok (.istore 6, 2) := by decide +kernel
theorem dX6_breaks_73 : decode cX6_breaks 73 = .ok (.aload_n 0, 1) := by decide +kernel
theorem dX6_breaks_74 : decode cX6_breaks 74 = .ok (.getfield 99, 3) := by decide +kernel
theorem dX6_breaks_77 : decode cX6_breaks 77 = .ok (.iload 6, 2) := by decide +kernel
theorem dX6_breaks_79 : decode cX6_breaks 79 = .ok (.dup2, 1) := by decide +kernel
theorem dX6_breaks_80 : decode cX6_breaks 80 = .ok (.iaload, 1) := by decide +kernel
theorem dX6_breaks_81 : decode cX6_breaks 81 = .ok (.iload 5, 2) := by decide +kernel
theorem dX6_breaks_83 : decode cX6_breaks 83 = .ok (.iconst 2, 1) := by decide +kernel
theorem dX6_breaks_84 : decode cX6_breaks 84 = .ok (.irem, 1) := by decide +kernel
theorem dX6_breaks_85 : decode cX6_breaks 85 = .ok (.iconst 1, 1) := by decide +kernel
theorem dX6_breaks_86 : decode cX6_breaks 86 = .ok (.if_icmp .ne 8, 3) := by decide +kernel
theorem dX6_breaks_89 : decode cX6_breaks 89 = .ok (.iload 4, 2) := by decide +kernel
theorem dX6_breaks_91 : decode cX6_breaks 91 = .ok (.goto 6, 3) := by decide +kernel
theorem dX6_breaks_94 : decode cX6_breaks 94 = .ok (.iload 4, 2) := by decide +kernel
theorem dX6_breaks_96 : decode cX6_breaks 96 = .ok (.ineg, 1) := by decide +kernel
theorem dX6_breaks_97 : decode cX6_breaks 97 = .ok (.iadd, 1) := by decide +kernel
theorem dX6_breaks_98 : decode cX6_breaks 98 = .ok (.iastore, 1) := by decide +kernel
theorem dX6_breaks_99 : decode cX6_breaks 99 = .ok (.aload_n 0, 1) := by decide +kernel
theorem dX6_breaks_100 : decode cX6_breaks 100 = .ok (.getfield 99, 3) := by decide +kernel
theorem dX6_breaks_103 : decode cX6_breaks 103 = .ok (.iload 6, 2) := by decide +kernel
theorem dX6_breaks_105 : decode cX6_breaks 105 = .ok (.iaload, 1) := by decide +kernel
theorem dX6_breaks_106 : decode cX6_breaks 106 = .ok (.ifCond .ge 28, 3) := by decide +kernel
theorem dX6_breaks_109 : decode cX6_breaks 109 = .ok (.aload_n 0, 1) := by decide +kernel
theorem dX6_breaks_110 : decode cX6_breaks 110 = .ok (.iload_n 1, 1) := by decide +kernel
theorem dX6_breaks_111 : decode cX6_breaks 111 = .ok (.invokevirtual 330, 3) := by decide +kernel
theorem dX6_breaks_114 : decode cX6_breaks 114 = .ok (.aload_n 0, 1) := by decide +kernel
theorem dX6_breaks_115 : decode cX6_breaks 115 = .ok (.iconst 0, 1) := by decide +kernel
theorem dX6_breaks_116 : decode cX6_breaks 116 = .ok (.putfield 11, 3) := by decide +kernel
theorem dX6_breaks_119 : decode cX6_breaks 119 = .ok (.aload_n 0, 1) := by decide +kernel
theorem dX6_breaks_120 : decode cX6_breaks 120 = .ok (.aload_n 0, 1) := by decide +kernel
theorem dX6_breaks_121 : decode cX6_breaks 121 = .ok (.getfield 111, 3) := by decide +kernel
theorem dX6_breaks_124 : decode cX6_breaks 124 = .ok (.iload 5, 2) := by decide +kernel
theorem dX6_breaks_126 : decode cX6_breaks 126 = .ok (.iaload, 1) := by decide +kernel
theorem dX6_breaks_127 : decode cX6_breaks 127 = .ok (.i2l, 1) := by decide +kernel
theorem dX6_breaks_128 : decode cX6_breaks 128 = .ok (.invokevirtual 18, 3) := by decide +kernel
theorem dX6_breaks_131 : decode cX6_breaks 131 = .ok (.bipush (-3), 2) := by decide +kernel
theorem dX6_breaks_133 : decode cX6_breaks 133 = .ok (.ireturn, 1) := by decide +kernel
theorem dX6_breaks_134 : decode cX6_breaks 134 = .ok (.iinc 5 1, 3) := by decide +kernel
theorem dX6_breaks_137 : decode cX6_breaks 137 = .ok (.goto (-83), 3) := by decide +kernel
theorem dX6_breaks_140 : decode cX6_breaks 140 = .ok (.aload_n 0, 1) := by decide +kernel
theorem dX6_breaks_141 : decode cX6_breaks 141 = .ok (.iload_n 1, 1) := by decide +kernel
theorem dX6_breaks_142 : decode cX6_breaks 142 = .ok (.invokevirtual 336, 3) := by decide +kernel
theorem dX6_breaks_145 : decode cX6_breaks 145 = .ok (.aload_n 0, 1) := by decide +kernel
theorem dX6_breaks_146 : decode cX6_breaks 146 = .ok (.iload_n 1, 1) := by decide +kernel
theorem dX6_breaks_147 : decode cX6_breaks 147 = .ok (.invokevirtual 339, 3) := by decide +kernel
theorem dX6_breaks_150 : decode cX6_breaks 150 = .ok (.ifCond .eq 12, 3) := by decide +kernel
theorem dX6_breaks_153 : decode cX6_breaks 153 = .ok (.aload_n 0, 1) := by decide +kernel
theorem dX6_breaks_154 : decode cX6_breaks 154 = .ok (.getfield 90, 3) := by decide +kernel
theorem dX6_breaks_157 : decode cX6_breaks 157 = .ok (.iload_n 1, 1) := by decide +kernel
theorem dX6_breaks_158 : decode cX6_breaks 158 = .ok (.iaload, 1) := by decide +kernel
theorem dX6_breaks_159 : decode cX6_breaks 159 = .ok (.goto 5, 3) := by decide +kernel
theorem dX6_breaks_162 : decode cX6_breaks 162 = .ok (.bipush (-4), 2) := by decide +kernel
theorem dX6_breaks_164 : decode cX6_breaks 164 = .ok (.ireturn, 1) := by decide +kernel
def sX6_breaks_c97 (k54 : Hp → Int32 → Int32 → Int32 → Int32 → Option (Int32 × Hp)) (h : Hp) (v1 : Int32) (v3 : Int32) (v4 : Int32) (v5 : Int32) (v6 : Int32) (t0 : Int32) (t1 : Int32) (t2 : Int32) : Option (Int32 × Hp) :=
  gd (inb t2 50) (nm (u1 h 70 t2.toNatClampNeg (t1 + t0)) fun h16 => gd (inb v6 50) (if 0 ≤ (h16.1 70 v6.toNatClampNeg) then (nm (v5 + (1 : Int32)) fun x18 => k54 h16 v1 v3 v4 x18) else ((sX6_comesBack h16 v1).bind fun q19 => nm (u1 q19 54 1 (0 : Int32)) fun h20 => gd (inb v5 24) ((sX6_enters h20 ((h20.1 74 v5.toNatClampNeg).toInt64)).bind fun q22 => some ((-3 : Int32), q22)))))
set_option maxRecDepth 10000 in
theorem vX6_breaks_c97 (k54 : Hp → Int32 → Int32 → Int32 → Int32 → Option (Int32 × Hp)) (hk54 : ∀ (h : Hp) (v1 : Int32) (v3 : Int32) (v4 : Int32) (v5 : Int32) (q : (Int32 × Hp)), k54 h v1 v3 v4 v5 = some q → V (Gs 33 (pI q)) mX6_breaks (0, 0) 54 [(0, .ref 54), (1, .int v1), (3, .int v3), (4, .int v4), (5, .int v5)] [] h) (h : Hp) (v1 : Int32) (v3 : Int32) (v4 : Int32) (v5 : Int32) (v6 : Int32) (t0 : Int32) (t1 : Int32) (t2 : Int32) (q : (Int32 × Hp)) (e : sX6_breaks_c97 k54 h v1 v3 v4 v5 v6 t0 t1 t2 = some q) : V (Gs 33 (pI q)) mX6_breaks (0, 0) 97 [(0, .ref 54), (1, .int v1), (3, .int v3), (4, .int v4), (5, .int v5), (6, .int v6)] [.int t0, .int t1, .int t2, .ref 70] h := by
  unfold sX6_breaks_c97 at e
  refine V.iadd dX6_breaks_97 (pc' := 98) rfl ?_
  obtain ⟨c15, e⟩ := gd_s e
  obtain ⟨h16, eh16, e⟩ := nm_s e
  refine V.iast dX6_breaks_98 (pc' := 99) rfl rfl rfl (inb_t c15) eh16 ?_
  refine V.alq dX6_breaks_99 (pc' := 100) rfl (j := 0) rfl ?_
  refine V.getr dX6_breaks_100 (pc' := 103) rfl FL_X6_99 rfl (by decide) rfl (r' := 70) rfl ?_
  refine V.il dX6_breaks_103 (pc' := 105) rfl (j := 5) rfl ?_
  obtain ⟨c17, e⟩ := gd_s e
  refine V.iald dX6_breaks_105 (pc' := 106) rfl rfl rfl (inb_t c17) ?_
  refine V.if_ge dX6_breaks_106 (pc' := 109) rfl (tgt := 134) (by decide) (fun c => ?_) (fun c => ?_)
  · rw [if_pos c] at e
    obtain ⟨x18, ex18, e⟩ := nm_s e
    refine V.iinc dX6_breaks_134 (pc' := 137) rfl (j := 4) rfl (v := 1) (by decide) (by decide) ex18 (L' := [(5, .int x18), (0, .ref 54), (1, .int v1), (3, .int v3), (4, .int v4), (6, .int v6)]) rfl ?_
    refine V.goto dX6_breaks_137 (pc' := 54) (by decide) ?_
    refine V.pk [1, 2, 3, 4, 0] rfl ?_
    exact hk54 h16 v1 v3 v4 x18 q e
  · rw [if_neg c] at e
    refine V.alq dX6_breaks_109 (pc' := 110) rfl (j := 0) rfl ?_
    refine V.ilq dX6_breaks_110 (pc' := 111) rfl (j := 1) rfl ?_
    obtain ⟨q19, eq19, e⟩ := bd_s e
    refine V.callVv dX6_breaks_111 (pc' := 114) rfl CV_X6_330 (as := [.int v1]) (kX6_comesBack h16 v1 q19 eq19) (Gs_rm (by decide)) rfl (by decide) rfl (Nat.le_of_ble_eq_true rfl) rfl ?_
    refine V.alq dX6_breaks_114 (pc' := 115) rfl (j := 0) rfl ?_
    refine V.iconst dX6_breaks_115 (pc' := 116) rfl (v := 0) (by decide) ?_
    obtain ⟨h20, eh20, e⟩ := nm_s e
    refine V.putf dX6_breaks_116 (pc' := 119) rfl FP_X6_11 rfl (by decide) rfl eh20 ?_
    refine V.alq dX6_breaks_119 (pc' := 120) rfl (j := 0) rfl ?_
    refine V.alq dX6_breaks_120 (pc' := 121) rfl (j := 0) rfl ?_
    refine V.getr dX6_breaks_121 (pc' := 124) rfl FL_X6_111 rfl (by decide) rfl (r' := 74) rfl ?_
    refine V.il dX6_breaks_124 (pc' := 126) rfl (j := 4) rfl ?_
    obtain ⟨c21, e⟩ := gd_s e
    refine V.iald dX6_breaks_126 (pc' := 127) rfl rfl rfl (inb_t c21) ?_
    refine V.i2l dX6_breaks_127 (pc' := 128) rfl ?_
    obtain ⟨q22, eq22, e⟩ := bd_s e
    refine V.callVv dX6_breaks_128 (pc' := 131) rfl CV_X6_18 (as := [.long ((h20.1 74 v5.toNatClampNeg).toInt64)]) (kX6_enters h20 ((h20.1 74 v5.toNatClampNeg).toInt64) q22 eq22) (Gs_rm (by decide)) rfl (by decide) rfl (Nat.le_of_ble_eq_true rfl) rfl ?_
    refine V.bipush dX6_breaks_131 (pc' := 133) rfl (v := -3) (by decide) ?_
    exact V.iret dX6_breaks_133 rfl (fnI e)
def sX6_breaks_c164 (h : Hp) (t0 : Int32) : Option (Int32 × Hp) :=
  some (t0, h)
set_option maxRecDepth 10000 in
theorem vX6_breaks_c164 (h : Hp) (t0 : Int32) (q : (Int32 × Hp)) (e : sX6_breaks_c164 h t0 = some q) : V (Gs 33 (pI q)) mX6_breaks (0, 0) 164 [] [.int t0] h := by
  unfold sX6_breaks_c164 at e
  exact V.iret dX6_breaks_164 rfl (fnI e)
def sX6_breaks_c54 (k54 : Hp → Int32 → Int32 → Int32 → Int32 → Option (Int32 × Hp)) (h : Hp) (v1 : Int32) (v3 : Int32) (v4 : Int32) (v5 : Int32) : Option (Int32 × Hp) :=
  if v3 ≤ v5 then ((sX6_closesUp h v1).bind fun q9 => (sX6_isRight q9 v1).bind fun q10 => if q10.1 = 0 then (sX6_breaks_c164 q10.2 (-4 : Int32)) else (gd (inb v1 2) (sX6_breaks_c164 q10.2 (q10.2.1 67 v1.toNatClampNeg)))) else (gd (inb v5 24) ((sX6_place h v1 (h.1 74 v5.toNatClampNeg)).bind fun q13 => gd (inb q13.1 50) (if (v5 - v5 / (2 : Int32) * (2 : Int32)) = (1 : Int32) then (sX6_breaks_c97 k54 q13.2 v1 v3 v4 v5 q13.1 v4 (q13.2.1 70 q13.1.toNatClampNeg) q13.1) else (sX6_breaks_c97 k54 q13.2 v1 v3 v4 v5 q13.1 (-v4) (q13.2.1 70 q13.1.toNatClampNeg) q13.1))))
set_option maxRecDepth 10000 in
theorem vX6_breaks_c54 (k54 : Hp → Int32 → Int32 → Int32 → Int32 → Option (Int32 × Hp)) (hk54 : ∀ (h : Hp) (v1 : Int32) (v3 : Int32) (v4 : Int32) (v5 : Int32) (q : (Int32 × Hp)), k54 h v1 v3 v4 v5 = some q → V (Gs 33 (pI q)) mX6_breaks (0, 0) 54 [(0, .ref 54), (1, .int v1), (3, .int v3), (4, .int v4), (5, .int v5)] [] h) (h : Hp) (v1 : Int32) (v3 : Int32) (v4 : Int32) (v5 : Int32) (q : (Int32 × Hp)) (e : sX6_breaks_c54 k54 h v1 v3 v4 v5 = some q) : V (Gs 33 (pI q)) mX6_breaks (0, 0) 54 [(0, .ref 54), (1, .int v1), (3, .int v3), (4, .int v4), (5, .int v5)] [] h := by
  unfold sX6_breaks_c54 at e
  refine V.il dX6_breaks_54 (pc' := 56) rfl (j := 4) rfl ?_
  refine V.ilq dX6_breaks_56 (pc' := 57) rfl (j := 2) rfl ?_
  refine V.ic_ge dX6_breaks_57 (pc' := 60) rfl (tgt := 140) (by decide) (fun c => ?_) (fun c => ?_)
  · rw [if_pos c] at e
    refine V.alq dX6_breaks_140 (pc' := 141) rfl (j := 0) rfl ?_
    refine V.ilq dX6_breaks_141 (pc' := 142) rfl (j := 1) rfl ?_
    obtain ⟨q9, eq9, e⟩ := bd_s e
    refine V.callVv dX6_breaks_142 (pc' := 145) rfl CV_X6_336 (as := [.int v1]) (kX6_closesUp h v1 q9 eq9) (Gs_rm (by decide)) rfl (by decide) rfl (Nat.le_of_ble_eq_true rfl) rfl ?_
    refine V.alq dX6_breaks_145 (pc' := 146) rfl (j := 0) rfl ?_
    refine V.ilq dX6_breaks_146 (pc' := 147) rfl (j := 1) rfl ?_
    obtain ⟨q10, eq10, e⟩ := bd_s e
    refine V.callVi dX6_breaks_147 (pc' := 150) rfl CV_X6_339 (as := [.int v1]) (kX6_isRight q9 v1 q10 eq10) (Gs_rm (by decide)) rfl (by decide) rfl (Nat.le_of_ble_eq_true rfl) rfl ?_
    refine V.if_eq dX6_breaks_150 (pc' := 153) rfl (tgt := 162) (by decide) (fun c => ?_) (fun c => ?_)
    · rw [if_pos c] at e
      refine V.bipush dX6_breaks_162 (pc' := 164) rfl (v := -4) (by decide) ?_
      refine V.pk [] rfl ?_
      exact vX6_breaks_c164 q10.2 (-4 : Int32) q e
    · rw [if_neg c] at e
      refine V.alq dX6_breaks_153 (pc' := 154) rfl (j := 0) rfl ?_
      refine V.getr dX6_breaks_154 (pc' := 157) rfl FL_X6_90 rfl (by decide) rfl (r' := 67) rfl ?_
      refine V.ilq dX6_breaks_157 (pc' := 158) rfl (j := 1) rfl ?_
      obtain ⟨c11, e⟩ := gd_s e
      refine V.iald dX6_breaks_158 (pc' := 159) rfl rfl rfl (inb_t c11) ?_
      refine V.goto dX6_breaks_159 (pc' := 164) (by decide) ?_
      refine V.pk [] rfl ?_
      exact vX6_breaks_c164 q10.2 (q10.2.1 67 v1.toNatClampNeg) q e
  · rw [if_neg c] at e
    refine V.ilq dX6_breaks_60 (pc' := 61) rfl (j := 1) rfl ?_
    refine V.alq dX6_breaks_61 (pc' := 62) rfl (j := 0) rfl ?_
    refine V.getr dX6_breaks_62 (pc' := 65) rfl FL_X6_111 rfl (by decide) rfl (r' := 74) rfl ?_
    refine V.il dX6_breaks_65 (pc' := 67) rfl (j := 4) rfl ?_
    obtain ⟨c12, e⟩ := gd_s e
    refine V.iald dX6_breaks_67 (pc' := 68) rfl rfl rfl (inb_t c12) ?_
    obtain ⟨q13, eq13, e⟩ := bd_s e
    refine V.callSi dX6_breaks_68 (pc' := 71) rfl CS_X6_263 (as := [.int v1, .int (h.1 74 v5.toNatClampNeg)]) (kX6_place h v1 (h.1 74 v5.toNatClampNeg) q13 eq13) (Gs_rm (by decide)) rfl (Nat.le_of_ble_eq_true rfl) rfl ?_
    refine V.is dX6_breaks_71 (pc' := 73) rfl (by decide) rfl (L' := [(6, .int q13.1), (0, .ref 54), (1, .int v1), (3, .int v3), (4, .int v4), (5, .int v5)]) rfl ?_
    refine V.alq dX6_breaks_73 (pc' := 74) rfl (j := 1) rfl ?_
    refine V.getr dX6_breaks_74 (pc' := 77) rfl FL_X6_99 rfl (by decide) rfl (r' := 70) rfl ?_
    refine V.il dX6_breaks_77 (pc' := 79) rfl (j := 0) rfl ?_
    refine V.dup2 dX6_breaks_79 (pc' := 80) rfl rfl rfl ?_
    obtain ⟨c14, e⟩ := gd_s e
    refine V.iald dX6_breaks_80 (pc' := 81) rfl rfl rfl (inb_t c14) ?_
    refine V.il dX6_breaks_81 (pc' := 83) rfl (j := 5) rfl ?_
    refine V.iconst dX6_breaks_83 (pc' := 84) rfl (v := 2) (by decide) ?_
    refine V.irem dX6_breaks_84 (pc' := 85) rfl (by decide) ?_
    refine V.iconst dX6_breaks_85 (pc' := 86) rfl (v := 1) (by decide) ?_
    refine V.ic_ne dX6_breaks_86 (pc' := 89) rfl (tgt := 94) (by decide) (fun c => ?_) (fun c => ?_)
    · rw [if_neg c] at e
      refine V.il dX6_breaks_94 (pc' := 96) rfl (j := 4) rfl ?_
      refine V.ineg dX6_breaks_96 (pc' := 97) rfl ?_
      refine V.pk [1, 2, 3, 4, 5, 0] rfl ?_
      exact vX6_breaks_c97 k54 hk54 q13.2 v1 v3 v4 v5 q13.1 (-v4) (q13.2.1 70 q13.1.toNatClampNeg) q13.1 q e
    · rw [if_pos c] at e
      refine V.il dX6_breaks_89 (pc' := 91) rfl (j := 4) rfl ?_
      refine V.goto dX6_breaks_91 (pc' := 97) (by decide) ?_
      refine V.pk [1, 2, 3, 4, 5, 0] rfl ?_
      exact vX6_breaks_c97 k54 hk54 q13.2 v1 v3 v4 v5 q13.1 v4 (q13.2.1 70 q13.1.toNatClampNeg) q13.1 q e
def sX6_breaks_b54 : Nat → Hp → Int32 → Int32 → Int32 → Int32 → Option (Int32 × Hp)
  | 0 => fun _ _ _ _ _ => none
  | n + 1 => sX6_breaks_c54 (sX6_breaks_b54 n)
theorem vX6_breaks_b54 : ∀ (n : Nat) (h : Hp) (v1 : Int32) (v3 : Int32) (v4 : Int32) (v5 : Int32) (q : (Int32 × Hp)), sX6_breaks_b54 n h v1 v3 v4 v5 = some q → V (Gs 33 (pI q)) mX6_breaks (0, 0) 54 [(0, .ref 54), (1, .int v1), (3, .int v3), (4, .int v4), (5, .int v5)] [] h
  | 0 => fun _ _ _ _ _ _ e => by cases e
  | n + 1 => fun h v1 v3 v4 v5 q e => vX6_breaks_c54 (sX6_breaks_b54 n) (vX6_breaks_b54 n) h v1 v3 v4 v5 q e
def sX6_breaks (h : Hp) (a1 : Int32) (a2 : Int32) : Option (Int32 × Hp) :=
  nm (u1 h 54 0 (0 : Int32)) fun h1 => (sX6_isMatch h1 a1 a2).bind fun q2 => if q2.1 = 0 then (some ((-1 : Int32), q2.2)) else ((sX6_findsLoop q2.2 a1 a2).bind fun q3 => if q3.1 = 0 then (some ((-2 : Int32), q3.2)) else ((sX6_finds q3.2).bind fun q4 => (sX6_saves q4 a1).bind fun q5 => (sX6_place q5 a1 a2).bind fun q6 => gd (inb q6.1 50) (nm ((q6.2.1 70 q6.1.toNatClampNeg)) fun x8 => sX6_breaks_b54 FU q6.2 a1 q3.1 x8 (0 : Int32))))
set_option maxRecDepth 10000 in
theorem kX6_breaks (h : Hp) (a1 : Int32) (a2 : Int32) (q : (Int32 × Hp)) (e : sX6_breaks h a1 a2 = some q) : K 33 mX6_breaks [.ref 54, .int a1, .int a2] h (pI q) := by
  unfold sX6_breaks at e
  refine K.ofV (by decide) rfl (Nat.le_of_ble_eq_true rfl) ?_
  show V (Gs 33 (pI q)) mX6_breaks (0, 0) 0 [(0, .ref 54), (1, .int a1), (2, .int a2)] [] h
  refine V.alq dX6_breaks_0 (pc' := 1) rfl (j := 0) rfl ?_
  refine V.iconst dX6_breaks_1 (pc' := 2) rfl (v := 0) (by decide) ?_
  obtain ⟨h1, eh1, e⟩ := nm_s e
  refine V.putf dX6_breaks_2 (pc' := 5) rfl FP_X6_1 rfl (by decide) rfl eh1 ?_
  refine V.alq dX6_breaks_5 (pc' := 6) rfl (j := 0) rfl ?_
  refine V.ilq dX6_breaks_6 (pc' := 7) rfl (j := 1) rfl ?_
  refine V.ilq dX6_breaks_7 (pc' := 8) rfl (j := 2) rfl ?_
  obtain ⟨q2, eq2, e⟩ := bd_s e
  refine V.callVi dX6_breaks_8 (pc' := 11) rfl CV_X6_317 (as := [.int a1, .int a2]) (kX6_isMatch h1 a1 a2 q2 eq2) (Gs_rm (by decide)) rfl (by decide) rfl (Nat.le_of_ble_eq_true rfl) rfl ?_
  refine V.if_ne dX6_breaks_11 (pc' := 14) rfl (tgt := 16) (by decide) (fun c => ?_) (fun c => ?_)
  · rw [if_neg c] at e
    refine V.alq dX6_breaks_16 (pc' := 17) rfl (j := 0) rfl ?_
    refine V.ilq dX6_breaks_17 (pc' := 18) rfl (j := 1) rfl ?_
    refine V.ilq dX6_breaks_18 (pc' := 19) rfl (j := 2) rfl ?_
    obtain ⟨q3, eq3, e⟩ := bd_s e
    refine V.callVi dX6_breaks_19 (pc' := 22) rfl CV_X6_352 (as := [.int a1, .int a2]) (kX6_findsLoop q2.2 a1 a2 q3 eq3) (Gs_rm (by decide)) rfl (by decide) rfl (Nat.le_of_ble_eq_true rfl) rfl ?_
    refine V.isq dX6_breaks_22 (pc' := 23) rfl (by decide) rfl (L' := [(3, .int q3.1), (0, .ref 54), (1, .int a1), (2, .int a2)]) rfl ?_
    refine V.ilq dX6_breaks_23 (pc' := 24) rfl (j := 0) rfl ?_
    refine V.if_ne dX6_breaks_24 (pc' := 27) rfl (tgt := 30) (by decide) (fun c => ?_) (fun c => ?_)
    · rw [if_neg c] at e
      refine V.alq dX6_breaks_30 (pc' := 31) rfl (j := 1) rfl ?_
      obtain ⟨q4, eq4, e⟩ := bd_s e
      refine V.callVv dX6_breaks_31 (pc' := 34) rfl CV_X6_256 (as := []) (kX6_finds q3.2 q4 eq4) (Gs_rm (by decide)) rfl (by decide) rfl (Nat.le_of_ble_eq_true rfl) rfl ?_
      refine V.alq dX6_breaks_34 (pc' := 35) rfl (j := 1) rfl ?_
      refine V.ilq dX6_breaks_35 (pc' := 36) rfl (j := 2) rfl ?_
      obtain ⟨q5, eq5, e⟩ := bd_s e
      refine V.callVv dX6_breaks_36 (pc' := 39) rfl CV_X6_333 (as := [.int a1]) (kX6_saves q4 a1 q5 eq5) (Gs_rm (by decide)) rfl (by decide) rfl (Nat.le_of_ble_eq_true rfl) rfl ?_
      refine V.alq dX6_breaks_39 (pc' := 40) rfl (j := 1) rfl ?_
      refine V.getr dX6_breaks_40 (pc' := 43) rfl FL_X6_99 rfl (by decide) rfl (r' := 70) rfl ?_
      refine V.ilq dX6_breaks_43 (pc' := 44) rfl (j := 2) rfl ?_
      refine V.ilq dX6_breaks_44 (pc' := 45) rfl (j := 3) rfl ?_
      obtain ⟨q6, eq6, e⟩ := bd_s e
      refine V.callSi dX6_breaks_45 (pc' := 48) rfl CS_X6_263 (as := [.int a1, .int a2]) (kX6_place q5 a1 a2 q6 eq6) (Gs_rm (by decide)) rfl (Nat.le_of_ble_eq_true rfl) rfl ?_
      obtain ⟨c7, e⟩ := gd_s e
      refine V.iald dX6_breaks_48 (pc' := 49) rfl rfl rfl (inb_t c7) ?_
      obtain ⟨x8, ex8, e⟩ := nm_s e
      refine V.is dX6_breaks_49 (pc' := 51) rfl (by decide) ex8 (L' := [(4, .int x8), (3, .int q3.1), (0, .ref 54), (1, .int a1), (2, .int a2)]) rfl ?_
      refine V.iconst dX6_breaks_51 (pc' := 52) rfl (v := 0) (by decide) ?_
      refine V.is dX6_breaks_52 (pc' := 54) rfl (by decide) rfl (L' := [(5, .int (0 : Int32)), (4, .int x8), (3, .int q3.1), (0, .ref 54), (1, .int a1), (2, .int a2)]) rfl ?_
      refine V.pk [3, 4, 2, 1, 0] rfl ?_
      exact vX6_breaks_b54 FU q6.2 a1 q3.1 x8 (0 : Int32) q e
    · rw [if_pos c] at e
      refine V.bipush dX6_breaks_27 (pc' := 29) rfl (v := -2) (by decide) ?_
      exact V.iret dX6_breaks_29 rfl (fnI e)
  · rw [if_pos c] at e
    refine V.iconst dX6_breaks_14 (pc' := 15) rfl (v := -1) (by decide) ?_
    exact V.iret dX6_breaks_15 rfl (fnI e)
