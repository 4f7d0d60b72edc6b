/-! the methods that throw -/
theorem FL_X5_143 : FL RX5 143 0 2 := ⟨RX0, TX0, 6, rfl, by decide, itX0, TBm 185 (by decide +kernel) rfl⟩
theorem FL_X5_146 : FL RX5 146 0 3 := ⟨RX0, TX0, 6, rfl, by decide, itX0, TBm 187 (by decide +kernel) rfl⟩
theorem FL_X5_322 : FL RX5 322 4 0 := ⟨RX4, TX4, 2, rfl, by decide, itX4, TBm 130 (by decide +kernel) rfl⟩
theorem CV_X5_130 : CV RX5 130 1 1 mX1_heatOf := ⟨⟨rfl, TBm 841 (by decide +kernel) rfl, TBm 82 (by decide +kernel) rfl, TBm 844 (by decide +kernel) rfl, by decide, ⟨by decide, by decide⟩, by decide +kernel⟩, TBm 842 (by decide +kernel) rfl, TBm 843 (by decide +kernel) rfl, TX1, 5, rfl⟩
theorem CV_X5_140 : CV RX5 140 0 1 mX0_surplusOf := ⟨⟨rfl, TBm 853 (by decide +kernel) rfl, TBm 83 (by decide +kernel) rfl, TBm 400 (by decide +kernel) rfl, by decide, ⟨by decide, by decide⟩, by decide +kernel⟩, TBm 398 (by decide +kernel) rfl, TBm 399 (by decide +kernel) rfl, TX0, 6, rfl⟩
theorem CV_X5_274 : CV RX5 274 2 2 mX2_unit := ⟨⟨rfl, TBm 862 (by decide +kernel) rfl, TBm 84 (by decide +kernel) rfl, TBm 623 (by decide +kernel) rfl, by decide, ⟨by decide, by decide⟩, by decide +kernel⟩, TBm 621 (by decide +kernel) rfl, TBm 622 (by decide +kernel) rfl, TX2, 18, rfl⟩
theorem CV_X5_277 : CV RX5 277 2 2 mX2_widthOf := ⟨⟨rfl, TBm 863 (by decide +kernel) rfl, TBm 84 (by decide +kernel) rfl, TBm 667 (by decide +kernel) rfl, by decide, ⟨by decide, by decide⟩, by decide +kernel⟩, TBm 665 (by decide +kernel) rfl, TBm 666 (by decide +kernel) rfl, TX2, 18, rfl⟩
-- X5_border (level 8)
theorem dX5_border_0 : decode cX5_border 0 = .ok (.iload_n 1, 1) := by decide +kernel
theorem dX5_border_1 : decode cX5_border 1 = .ok (.ifCond .lt 14, 3) := by decide +kernel
theorem dX5_border_4 : decode cX5_border 4 = .ok (.iload_n 1, 1) := by decide +kernel
theorem dX5_border_5 : decode cX5_border 5 = .ok (.aload_n 0, 1) := by decide +kernel
theorem dX5_border_6 : decode cX5_border 6 = .ok (.getfield 36, 3) := by decide +kernel
theorem dX5_border_9 : decode cX5_border 9 = .ok (.getfield 134, 3) := by decide +kernel
theorem dX5_border_12 : decode cX5_border 12 = .ok (.if_icmp .lt 13, 3) := by decide +kernel
theorem dX5_border_15 : decode cX5_border 15 = .ok (.new 123, 3) := by decide +kernel
theorem dX5_border_18 : decode cX5_border 18 = .ok (.dup, 1) := by decide +kernel
theorem dX5_border_19 : decode cX5_border 19 = .ok (.ldc 135, 2) := by decide +kernel
theorem dX5_border_21 : decode cX5_border 21 = .ok (.invokespecial 127, 3) := by decide +kernel
theorem dX5_border_24 : decode cX5_border 24 = .ok (.athrow, 1) := by decide +kernel
theorem dX5_border_25 : decode cX5_border 25 = .ok (.aload_n 0, 1) := by decide +kernel
theorem dX5_border_26 : decode cX5_border 26 = .ok (.getfield 19, 3) := by decide +kernel
theorem dX5_border_29 : decode cX5_border 29 = .ok (.aload_n 0, 1) := by decide +kernel
theorem dX5_border_30 : decode cX5_border 30 = .ok (.getfield 36, 3) := by decide +kernel
theorem dX5_border_33 : decode cX5_border 33 = .ok (.getfield 137, 3) := by decide +kernel
theorem dX5_border_36 : decode cX5_border 36 = .ok (.iload_n 1, 1) := by decide +kernel
theorem dX5_border_37 : decode cX5_border 37 = .ok (.iaload, 1) := by decide +kernel
theorem dX5_border_38 : decode cX5_border 38 = .ok (.i2l, 1) := by decide +kernel
theorem dX5_border_39 : decode cX5_border 39 = .ok (.aload_n 0, 1) := by decide +kernel
theorem dX5_border_40 : decode cX5_border 40 = .ok (.getfield 36, 3) := by decide +kernel
theorem dX5_border_43 : decode cX5_border 43 = .ok (.iload_n 1, 1) := by decide +kernel
theorem dX5_border_44 : decode cX5_border 44 = .ok (.invokevirtual 140, 3) := by decide +kernel
theorem dX5_border_47 : decode cX5_border 47 = .ok (.i2l, 1) := by decide +kernel
theorem dX5_border_48 : decode cX5_border 48 = .ok (.aload_n 0, 1) := by decide +kernel
theorem dX5_border_49 : decode cX5_border 49 = .ok (.getfield 36, 3) := by decide +kernel
theorem dX5_border_52 : decode cX5_border 52 = .ok (.getfield 143, 3) := by decide +kernel
theorem dX5_border_55 : decode cX5_border 55 = .ok (.iload_n 1, 1) := by decide +kernel
theorem dX5_border_56 : decode cX5_border 56 = .ok (.iaload, 1) := by decide +kernel
theorem dX5_border_57 : decode cX5_border 57 = .ok (.i2l, 1) := by decide +kernel
theorem dX5_border_58 : decode cX5_border 58 = .ok (.aload_n 0, 1) := by decide +kernel
theorem dX5_border_59 : decode cX5_border 59 = .ok (.getfield 36, 3) := by decide +kernel
theorem dX5_border_62 : decode cX5_border 62 = .ok (.getfield 146, 3) := by decide +kernel
theorem dX5_border_65 : decode cX5_border 65 = .ok (.iload_n 1, 1) := by decide +kernel
theorem dX5_border_66 : decode cX5_border 66 = .ok (.iaload, 1) := by decide +kernel
theorem dX5_border_67 : decode cX5_border 67 = .ok (.i2l, 1) := by decide +kernel
theorem dX5_border_68 : decode cX5_border 68 = .ok (.invokevirtual 149, 3) := by decide +kernel
theorem dX5_border_71 : decode cX5_border 71 = .ok (.aload_n 0, 1) := by decide +kernel
theorem dX5_border_72 : decode cX5_border 72 = .ok (.getfield 36, 3) := by decide +kernel
theorem dX5_border_75 : decode cX5_border 75 = .ok (.getfield 153, 3) := by decide +kernel
theorem dX5_border_78 : decode cX5_border 78 = .ok (.iload_n 1, 1) := by decide +kernel
theorem dX5_border_79 : decode cX5_border 79 = .ok (.iaload, 1) := by decide +kernel
theorem dX5_border_80 : decode cX5_border 80 = .ok (.ireturn, 1) := by decide +kernel
def sX5_border_c15 (h : Hp) : Option RXv :=
  some (none, h)
set_option maxRecDepth 10000 in
theorem vX5_border_c15 (h : Hp) (q : RXv) (e : sX5_border_c15 h = some q) : V (GsX 8 q) mX5_border (0, 0) 15 [] [] h := by
  unfold sX5_border_c15 at e
  exact V.xthrowS (is := 135) (tx := "no such border") rfl (by decide) dX5_border_15 dX5_border_18 dX5_border_19 dX5_border_21 dX5_border_24 (by decide) e
def sX5_border (h : Hp) (a1 : Int32) : Option RXv :=
  if a1 < 0 then (sX5_border_c15 h) else (if a1 < (h.1 16 4) then (gd (inb a1 20) ((sX0_surplusOf h 16 a1).bind fun q2 => gd (inb a1 20) (gd (inb a1 20) ((sX4_tell___ q2.2 ((h.1 18 a1.toNatClampNeg).toInt64) q2.1.toInt64 ((q2.2.1 19 a1.toNatClampNeg).toInt64) ((q2.2.1 20 a1.toNatClampNeg).toInt64)).bind fun q5 => gd (inb a1 20) (some (some (.int (q5.1 17 a1.toNatClampNeg)), q5)))))) else (sX5_border_c15 h))
set_option maxRecDepth 10000 in
theorem kX5_border (h : Hp) (a1 : Int32) (q : RXv) (e : sX5_border h a1 = some q) : KX 8 mX5_border [.ref 1, .int a1] h q := by
  unfold sX5_border at e
  refine KX.ofV (by decide) rfl (Nat.le_of_ble_eq_true rfl) ?_
  show V (GsX 8 q) mX5_border (0, 0) 0 [(0, .ref 1), (1, .int a1)] [] h
  refine V.ilq dX5_border_0 (pc' := 1) rfl (j := 1) rfl ?_
  refine V.if_lt dX5_border_1 (pc' := 4) rfl (tgt := 15) (by decide) (fun c => ?_) (fun c => ?_)
  · rw [if_pos c] at e
    refine V.pk [] rfl ?_
    exact vX5_border_c15 h q e
  · rw [if_neg c] at e
    refine V.ilq dX5_border_4 (pc' := 5) rfl (j := 1) rfl ?_
    refine V.alq dX5_border_5 (pc' := 6) rfl (j := 0) rfl ?_
    refine V.getr dX5_border_6 (pc' := 9) rfl FL_X5_36 rfl (by decide) rfl (r' := 16) rfl ?_
    refine V.getf dX5_border_9 (pc' := 12) rfl FL_X5_134 rfl (by decide) rfl ?_
    refine V.ic_lt dX5_border_12 (pc' := 15) rfl (tgt := 25) (by decide) (fun c => ?_) (fun c => ?_)
    · rw [if_pos c] at e
      refine V.alq dX5_border_25 (pc' := 26) rfl (j := 0) rfl ?_
      refine V.getr dX5_border_26 (pc' := 29) rfl FL_X5_19 rfl (by decide) rfl (r' := 4) rfl ?_
      refine V.alq dX5_border_29 (pc' := 30) rfl (j := 0) rfl ?_
      refine V.getr dX5_border_30 (pc' := 33) rfl FL_X5_36 rfl (by decide) rfl (r' := 16) rfl ?_
      refine V.getr dX5_border_33 (pc' := 36) rfl FL_X5_137 rfl (by decide) rfl (r' := 18) rfl ?_
      refine V.ilq dX5_border_36 (pc' := 37) rfl (j := 1) rfl ?_
      obtain ⟨c1, e⟩ := gd_s e
      refine V.iald dX5_border_37 (pc' := 38) rfl rfl rfl (inb_t c1) ?_
      refine V.i2l dX5_border_38 (pc' := 39) rfl ?_
      refine V.alq dX5_border_39 (pc' := 40) rfl (j := 0) rfl ?_
      refine V.getr dX5_border_40 (pc' := 43) rfl FL_X5_36 rfl (by decide) rfl (r' := 16) rfl ?_
      refine V.ilq dX5_border_43 (pc' := 44) rfl (j := 1) rfl ?_
      obtain ⟨q2, eq2, e⟩ := bd_s e
      refine V.callVi dX5_border_44 (pc' := 47) rfl CV_X5_140 (as := [.int a1]) (kX0_surplusOf h 16 a1 q2 eq2) (GsX_rm (by decide)) rfl (by decide) rfl (Nat.le_of_ble_eq_true rfl) rfl ?_
      refine V.i2l dX5_border_47 (pc' := 48) rfl ?_
      refine V.alq dX5_border_48 (pc' := 49) rfl (j := 0) rfl ?_
      refine V.getr dX5_border_49 (pc' := 52) rfl FL_X5_36 rfl (by decide) rfl (r' := 16) rfl ?_
      refine V.getr dX5_border_52 (pc' := 55) rfl FL_X5_143 rfl (by decide) rfl (r' := 19) rfl ?_
      refine V.ilq dX5_border_55 (pc' := 56) rfl (j := 1) rfl ?_
      obtain ⟨c3, e⟩ := gd_s e
      refine V.iald dX5_border_56 (pc' := 57) rfl rfl rfl (inb_t c3) ?_
      refine V.i2l dX5_border_57 (pc' := 58) rfl ?_
      refine V.alq dX5_border_58 (pc' := 59) rfl (j := 0) rfl ?_
      refine V.getr dX5_border_59 (pc' := 62) rfl FL_X5_36 rfl (by decide) rfl (r' := 16) rfl ?_
      refine V.getr dX5_border_62 (pc' := 65) rfl FL_X5_146 rfl (by decide) rfl (r' := 20) rfl ?_
      refine V.ilq dX5_border_65 (pc' := 66) rfl (j := 1) rfl ?_
      obtain ⟨c4, e⟩ := gd_s e
      refine V.iald dX5_border_66 (pc' := 67) rfl rfl rfl (inb_t c4) ?_
      refine V.i2l dX5_border_67 (pc' := 68) rfl ?_
      obtain ⟨q5, eq5, e⟩ := bd_s e
      refine V.callVv dX5_border_68 (pc' := 71) rfl CV_X5_149 (as := [.long ((h.1 18 a1.toNatClampNeg).toInt64), .long q2.1.toInt64, .long ((q2.2.1 19 a1.toNatClampNeg).toInt64), .long ((q2.2.1 20 a1.toNatClampNeg).toInt64)]) (kX4_tell___ q2.2 ((h.1 18 a1.toNatClampNeg).toInt64) q2.1.toInt64 ((q2.2.1 19 a1.toNatClampNeg).toInt64) ((q2.2.1 20 a1.toNatClampNeg).toInt64) q5 eq5) (GsX_rm (by decide)) rfl (by decide) rfl (Nat.le_of_ble_eq_true rfl) rfl ?_
      refine V.alq dX5_border_71 (pc' := 72) rfl (j := 0) rfl ?_
      refine V.getr dX5_border_72 (pc' := 75) rfl FL_X5_36 rfl (by decide) rfl (r' := 16) rfl ?_
      refine V.getr dX5_border_75 (pc' := 78) rfl FL_X5_153 rfl (by decide) rfl (r' := 17) rfl ?_
      refine V.ilq dX5_border_78 (pc' := 79) rfl (j := 1) rfl ?_
      obtain ⟨c6, e⟩ := gd_s e
      refine V.iald dX5_border_79 (pc' := 80) rfl rfl rfl (inb_t c6) ?_
      exact V.xiret dX5_border_80 rfl (fnX e)
    · rw [if_neg c] at e
      refine V.pk [] rfl ?_
      exact vX5_border_c15 h q e
abbrev wX5_border : List (Nat × Option Nat) := [(4, some 1)]
abbrev zX5_border : List Nat := [5]
set_option maxRecDepth 10000 in
theorem fX5_border_c15 (h0 : Hp) (h : Hp) (q : RXv) (F : Fr (wX5_border) zX5_border h0 h) (e : sX5_border_c15 h = some q) : Fr (wX5_border) zX5_border h0 q.2 := by
  unfold sX5_border_c15 at e
  exact Fr.e1 F e
set_option maxRecDepth 10000 in
theorem fX5_border (h : Hp) (a1 : Int32) (q : RXv) (e : sX5_border h a1 = some q) : Fr (wX5_border) zX5_border h q.2 := by
  unfold sX5_border at e
  have F : Fr (wX5_border) zX5_border h h := Fr.rf
  by_cases c : a1 < 0
  · rw [if_pos c] at e
    exact fX5_border_c15 h h q F e
  · rw [if_neg c] at e
    by_cases c : a1 < (h.1 16 4)
    · rw [if_pos c] at e
      obtain ⟨c1, e⟩ := gd_s e
      obtain ⟨q2, eq2, e⟩ := bd_s e
      have F := Fr.tr F (fX0_surplusOf h 16 a1 q2 eq2) (fun _ hh => absurd hh List.not_mem_nil) (by decide)
      obtain ⟨c3, e⟩ := gd_s e
      obtain ⟨c4, e⟩ := gd_s e
      obtain ⟨q5, eq5, e⟩ := bd_s e
      have F := Fr.tr F (fX4_tell___ q2.2 ((h.1 18 a1.toNatClampNeg).toInt64) q2.1.toInt64 ((q2.2.1 19 a1.toNatClampNeg).toInt64) ((q2.2.1 20 a1.toNatClampNeg).toInt64) q5 eq5) (by decide) (by decide)
      obtain ⟨c6, e⟩ := gd_s e
      exact Fr.e1 F e
    · rw [if_neg c] at e
      exact fX5_border_c15 h h q F e
-- X5_match (level 8)
theorem dX5_match_0 : decode cX5_match 0 = .ok (.aload_n 0, 1) := by decide +kernel
theorem dX5_match_1 : decode cX5_match 1 = .ok (.iload_n 1, 1) := by decide +kernel
theorem dX5_match_2 : decode cX5_match 2 = .ok (.iload_n 2, 1) := by decide +kernel
theorem dX5_match_3 : decode cX5_match 3 = .ok (.invokevirtual 264, 3) := by decide +kernel
theorem dX5_match_6 : decode cX5_match 6 = .ok (.ifCond .eq 12, 3) := by decide +kernel
theorem dX5_match_9 : decode cX5_match 9 = .ok (.iload_n 3, 1) := by decide +kernel
theorem dX5_match_10 : decode cX5_match 10 = .ok (.ifCond .lt 8, 3) := by decide +kernel
theorem dX5_match_13 : decode cX5_match 13 = .ok (.iload_n 3, 1) := by decide +kernel
theorem dX5_match_14 : decode cX5_match 14 = .ok (.iconst 2, 1) := by decide +kernel
theorem dX5_match_15 : decode cX5_match 15 = .ok (.if_icmp .le 14, 3) := by decide +kernel
theorem dX5_match_18 : decode cX5_match 18 = .ok (.new 123, 3) := by decide +kernel
theorem dX5_match_21 : decode cX5_match 21 = .ok (.dup, 1) := by decide +kernel
theorem dX5_match_22 : decode cX5_match 22 = .ok (.ldc_w 267, 3) := by decide +kernel
theorem dX5_match_25 : decode cX5_match 25 = .ok (.invokespecial 127, 3) := by decide +kernel
theorem dX5_match_28 : decode cX5_match 28 = .ok (.athrow, 1) := by decide +kernel
theorem dX5_match_29 : decode cX5_match 29 = .ok (.aload_n 0, 1) := by decide +kernel
theorem dX5_match_30 : decode cX5_match 30 = .ok (.iload_n 1, 1) := by decide +kernel
theorem dX5_match_31 : decode cX5_match 31 = .ok (.invokevirtual 214, 3) := by decide +kernel
theorem dX5_match_34 : decode cX5_match 34 = .ok (.astore 4, 2) := by decide +kernel
theorem dX5_match_36 : decode cX5_match 36 = .ok (.aload 4, 2) := by decide +kernel
theorem dX5_match_38 : decode cX5_match 38 = .ok (.aload 4, 2) := by decide +kernel
theorem dX5_match_40 : decode cX5_match 40 = .ok (.getfield 269, 3) := by decide +kernel
theorem dX5_match_43 : decode cX5_match 43 = .ok (.iload_n 2, 1) := by decide +kernel
theorem dX5_match_44 : decode cX5_match 44 = .ok (.iaload, 1) := by decide +kernel
theorem dX5_match_45 : decode cX5_match 45 = .ok (.aload 4, 2) := by decide +kernel
theorem dX5_match_47 : decode cX5_match 47 = .ok (.getfield 271, 3) := by decide +kernel
theorem dX5_match_50 : decode cX5_match 50 = .ok (.iload_n 2, 1) := by decide +kernel
theorem dX5_match_51 : decode cX5_match 51 = .ok (.iaload, 1) := by decide +kernel
theorem dX5_match_52 : decode cX5_match 52 = .ok (.invokevirtual 274, 3) := by decide +kernel
theorem dX5_match_55 : decode cX5_match 55 = .ok (.istore 5, 2) := by decide +kernel
theorem dX5_match_57 : decode cX5_match 57 = .ok (.aload_n 0, 1) := by decide +kernel
theorem dX5_match_58 : decode cX5_match 58 = .ok (.getfield 19, 3) := by decide +kernel
theorem dX5_match_61 : decode cX5_match 61 = .ok (.invokevirtual 166, 3) := by decide +kernel
theorem dX5_match_64 : decode cX5_match 64 = .ok (.aload_n 0, 1) := by decide +kernel
theorem dX5_match_65 : decode cX5_match 65 = .ok (.getfield 19, 3) := by decide +kernel
theorem dX5_match_68 : decode cX5_match 68 = .ok (.aload 4, 2) := by decide +kernel
theorem dX5_match_70 : decode cX5_match 70 = .ok (.iload_n 2, 1) := by decide +kernel
theorem dX5_match_71 : decode cX5_match 71 = .ok (.iconst 0, 1) := by decide +kernel
theorem dX5_match_72 : decode cX5_match 72 = .ok (.invokevirtual 277, 3) := by decide +kernel
theorem dX5_match_75 : decode cX5_match 75 = .ok (.iload 5, 2) := by decide +kernel
theorem dX5_match_77 : decode cX5_match 77 = .ok (.invokevirtual 200, 3) := by decide +kernel
theorem dX5_match_80 : decode cX5_match 80 = .ok (.aload_n 0, 1) := by decide +kernel
theorem dX5_match_81 : decode cX5_match 81 = .ok (.getfield 19, 3) := by decide +kernel
theorem dX5_match_84 : decode cX5_match 84 = .ok (.aload 4, 2) := by decide +kernel
theorem dX5_match_86 : decode cX5_match 86 = .ok (.iload_n 2, 1) := by decide +kernel
theorem dX5_match_87 : decode cX5_match 87 = .ok (.iconst 1, 1) := by decide +kernel
theorem dX5_match_88 : decode cX5_match 88 = .ok (.invokevirtual 277, 3) := by decide +kernel
theorem dX5_match_91 : decode cX5_match 91 = .ok (.iload 5, 2) := by decide +kernel
theorem dX5_match_93 : decode cX5_match 93 = .ok (.invokevirtual 200, 3) := by decide +kernel
theorem dX5_match_96 : decode cX5_match 96 = .ok (.iload_n 3, 1) := by decide +kernel
theorem dX5_match_97 : decode cX5_match 97 = .ok (.iconst 2, 1) := by decide +kernel
theorem dX5_match_98 : decode cX5_match 98 = .ok (.if_icmp .ne 11, 3) := by decide +kernel
theorem dX5_match_101 : decode cX5_match 101 = .ok (.aload 4, 2) := by decide +kernel
theorem dX5_match_103 : decode cX5_match 103 = .ok (.getfield 281, 3) := by decide +kernel
theorem dX5_match_106 : decode cX5_match 106 = .ok (.iload_n 2, 1) := by decide +kernel
theorem dX5_match_107 : decode cX5_match 107 = .ok (.iaload, 1) := by decide +kernel
theorem dX5_match_108 : decode cX5_match 108 = .ok (.ireturn, 1) := by decide +kernel
theorem dX5_match_109 : decode cX5_match 109 = .ok (.iload_n 3, 1) := by decide +kernel
theorem dX5_match_110 : decode cX5_match 110 = .ok (.ifCond .ne 13, 3) := by decide +kernel
theorem dX5_match_113 : decode cX5_match 113 = .ok (.aload 4, 2) := by decide +kernel
theorem dX5_match_115 : decode cX5_match 115 = .ok (.getfield 269, 3) := by decide +kernel
theorem dX5_match_118 : decode cX5_match 118 = .ok (.iload_n 2, 1) := by decide +kernel
theorem dX5_match_119 : decode cX5_match 119 = .ok (.iaload, 1) := by decide +kernel
theorem dX5_match_120 : decode cX5_match 120 = .ok (.goto 10, 3) := by decide +kernel
theorem dX5_match_123 : decode cX5_match 123 = .ok (.aload 4, 2) := by decide +kernel
theorem dX5_match_125 : decode cX5_match 125 = .ok (.getfield 271, 3) := by decide +kernel
theorem dX5_match_128 : decode cX5_match 128 = .ok (.iload_n 2, 1) := by decide +kernel
theorem dX5_match_129 : decode cX5_match 129 = .ok (.iaload, 1) := by decide +kernel
theorem dX5_match_130 : decode cX5_match 130 = .ok (.ireturn, 1) := by decide +kernel
def sX5_match_c18 (h : Hp) : Option RXv :=
  some (none, h)
set_option maxRecDepth 10000 in
theorem vX5_match_c18 (h : Hp) (q : RXv) (e : sX5_match_c18 h = some q) : V (GsX 8 q) mX5_match (0, 0) 18 [] [] h := by
  unfold sX5_match_c18 at e
  exact V.xthrowW (is := 267) (tx := "no such match, or nothing such of it") rfl (by decide) dX5_match_18 dX5_match_21 dX5_match_22 dX5_match_25 dX5_match_28 (by decide) e
def sX5_match_c130 (h : Hp) (t0 : Int32) : Option RXv :=
  some (some (.int t0), h)
set_option maxRecDepth 10000 in
theorem vX5_match_c130 (h : Hp) (t0 : Int32) (q : RXv) (e : sX5_match_c130 h t0 = some q) : V (GsX 8 q) mX5_match (0, 0) 130 [] [.int t0] h := by
  unfold sX5_match_c130 at e
  exact V.xiret dX5_match_130 rfl (fnX e)
def sX5_match (h : Hp) (a1 : Int32) (a2 : Int32) (a3 : Int32) : Option RXv :=
  (sX5_hasMatch h a1 a2).bind fun q1 => if q1.1 = 0 then (sX5_match_c18 q1.2) else (if a3 < 0 then (sX5_match_c18 q1.2) else (if a3 ≤ (2 : Int32) then ((sX5_sideOf q1.2 a1).bind fun q2 => gd (isC q2.1 2) (gd (inb a2 24) (gd (inb a2 24) ((sX2_unit q2.2 q2.1 (q2.2.1 (q2.1 + 8) a2.toNatClampNeg) (q2.2.1 (q2.1 + 9) a2.toNatClampNeg)).bind fun q6 => (sX4_empty q6.2).bind fun q7 => (sX2_widthOf q7 q2.1 a2 (0 : Int32)).bind fun q8 => (sX4_addFraction q8.2 q8.1 q6.1).bind fun q9 => (sX2_widthOf q9 q2.1 a2 (1 : Int32)).bind fun q10 => (sX4_addFraction q10.2 q10.1 q6.1).bind fun q11 => if a3 = (2 : Int32) then (gd (inb a2 24) (some (some (.int (q11.1 (q2.1 + 10) a2.toNatClampNeg)), q11))) else (if a3 = 0 then (gd (inb a2 24) (sX5_match_c130 q11 (q11.1 (q2.1 + 8) a2.toNatClampNeg))) else (gd (inb a2 24) (sX5_match_c130 q11 (q11.1 (q2.1 + 9) a2.toNatClampNeg)))))))) else (sX5_match_c18 q1.2)))
set_option maxRecDepth 10000 in
theorem kX5_match (h : Hp) (a1 : Int32) (a2 : Int32) (a3 : Int32) (q : RXv) (e : sX5_match h a1 a2 a3 = some q) : KX 8 mX5_match [.ref 1, .int a1, .int a2, .int a3] h q := by
  unfold sX5_match at e
  refine KX.ofV (by decide) rfl (Nat.le_of_ble_eq_true rfl) ?_
  show V (GsX 8 q) mX5_match (0, 0) 0 [(0, .ref 1), (1, .int a1), (2, .int a2), (3, .int a3)] [] h
  refine V.alq dX5_match_0 (pc' := 1) rfl (j := 0) rfl ?_
  refine V.ilq dX5_match_1 (pc' := 2) rfl (j := 1) rfl ?_
  refine V.ilq dX5_match_2 (pc' := 3) rfl (j := 2) rfl ?_
  obtain ⟨q1, eq1, e⟩ := bd_s e
  refine V.callVi dX5_match_3 (pc' := 6) rfl CV_X5_264 (as := [.int a1, .int a2]) (kX5_hasMatch h a1 a2 q1 eq1) (GsX_rm (by decide)) rfl (by decide) rfl (Nat.le_of_ble_eq_true rfl) rfl ?_
  refine V.if_eq dX5_match_6 (pc' := 9) rfl (tgt := 18) (by decide) (fun c => ?_) (fun c => ?_)
  · rw [if_pos c] at e
    refine V.pk [] rfl ?_
    exact vX5_match_c18 q1.2 q e
  · rw [if_neg c] at e
    refine V.ilq dX5_match_9 (pc' := 10) rfl (j := 3) rfl ?_
    refine V.if_lt dX5_match_10 (pc' := 13) rfl (tgt := 18) (by decide) (fun c => ?_) (fun c => ?_)
    · rw [if_pos c] at e
      refine V.pk [] rfl ?_
      exact vX5_match_c18 q1.2 q e
    · rw [if_neg c] at e
      refine V.ilq dX5_match_13 (pc' := 14) rfl (j := 3) rfl ?_
      refine V.iconst dX5_match_14 (pc' := 15) rfl (v := 2) (by decide) ?_
      refine V.ic_le dX5_match_15 (pc' := 18) rfl (tgt := 29) (by decide) (fun c => ?_) (fun c => ?_)
      · rw [if_pos c] at e
        refine V.alq dX5_match_29 (pc' := 30) rfl (j := 0) rfl ?_
        refine V.ilq dX5_match_30 (pc' := 31) rfl (j := 1) rfl ?_
        obtain ⟨q2, eq2, e⟩ := bd_s e
        refine V.callVr dX5_match_31 (pc' := 34) rfl CV_X5_214 (as := [.int a1]) (kX5_sideOf q1.2 a1 q2 eq2) (GsX_rm (by decide)) rfl (by decide) rfl (Nat.le_of_ble_eq_true rfl) rfl ?_
        obtain ⟨c3, e⟩ := gd_s e
        refine V.as dX5_match_34 (pc' := 36) rfl (by decide) rfl (L' := [(4, .ref q2.1), (0, .ref 1), (1, .int a1), (2, .int a2), (3, .int a3)]) rfl ?_
        refine V.al dX5_match_36 (pc' := 38) rfl (j := 0) rfl ?_
        refine V.al dX5_match_38 (pc' := 40) rfl (j := 0) rfl ?_
        refine V.getr dX5_match_40 (pc' := 43) rfl FL_X5_269 (isC_t c3) (by decide) rfl (r' := q2.1 + 8) rfl ?_
        refine V.ilq dX5_match_43 (pc' := 44) rfl (j := 3) rfl ?_
        obtain ⟨c4, e⟩ := gd_s e
        refine V.iald dX5_match_44 (pc' := 45) rfl (akX2_8 (isC_t c3)).1 (akX2_8 (isC_t c3)).2 (inb_t c4) ?_
        refine V.al dX5_match_45 (pc' := 47) rfl (j := 0) rfl ?_
        refine V.getr dX5_match_47 (pc' := 50) rfl FL_X5_271 (isC_t c3) (by decide) rfl (r' := q2.1 + 9) rfl ?_
        refine V.ilq dX5_match_50 (pc' := 51) rfl (j := 3) rfl ?_
        obtain ⟨c5, e⟩ := gd_s e
        refine V.iald dX5_match_51 (pc' := 52) rfl (akX2_9 (isC_t c3)).1 (akX2_9 (isC_t c3)).2 (inb_t c5) ?_
        obtain ⟨q6, eq6, e⟩ := bd_s e
        refine V.callVi dX5_match_52 (pc' := 55) rfl CV_X5_274 (as := [.int (q2.2.1 (q2.1 + 8) a2.toNatClampNeg), .int (q2.2.1 (q2.1 + 9) a2.toNatClampNeg)]) (kX2_unit q2.2 q2.1 (q2.2.1 (q2.1 + 8) a2.toNatClampNeg) (q2.2.1 (q2.1 + 9) a2.toNatClampNeg) q6 eq6) (GsX_rm (by decide)) (isC_t c3) (by decide) rfl (Nat.le_of_ble_eq_true rfl) rfl ?_
        refine V.is dX5_match_55 (pc' := 57) rfl (by decide) rfl (L' := [(5, .int q6.1), (4, .ref q2.1), (0, .ref 1), (1, .int a1), (2, .int a2), (3, .int a3)]) rfl ?_
        refine V.alq dX5_match_57 (pc' := 58) rfl (j := 2) rfl ?_
        refine V.getr dX5_match_58 (pc' := 61) rfl FL_X5_19 rfl (by decide) rfl (r' := 4) rfl ?_
        obtain ⟨q7, eq7, e⟩ := bd_s e
        refine V.callVv dX5_match_61 (pc' := 64) rfl CV_X5_166 (as := []) (kX4_empty q6.2 q7 eq7) (GsX_rm (by decide)) rfl (by decide) rfl (Nat.le_of_ble_eq_true rfl) rfl ?_
        refine V.alq dX5_match_64 (pc' := 65) rfl (j := 2) rfl ?_
        refine V.getr dX5_match_65 (pc' := 68) rfl FL_X5_19 rfl (by decide) rfl (r' := 4) rfl ?_
        refine V.al dX5_match_68 (pc' := 70) rfl (j := 1) rfl ?_
        refine V.ilq dX5_match_70 (pc' := 71) rfl (j := 4) rfl ?_
        refine V.iconst dX5_match_71 (pc' := 72) rfl (v := 0) (by decide) ?_
        obtain ⟨q8, eq8, e⟩ := bd_s e
        refine V.callVi dX5_match_72 (pc' := 75) rfl CV_X5_277 (as := [.int a2, .int (0 : Int32)]) (kX2_widthOf q7 q2.1 a2 (0 : Int32) q8 eq8) (GsX_rm (by decide)) (isC_t c3) (by decide) rfl (Nat.le_of_ble_eq_true rfl) rfl ?_
        refine V.il dX5_match_75 (pc' := 77) rfl (j := 0) rfl ?_
        obtain ⟨q9, eq9, e⟩ := bd_s e
        refine V.callVv dX5_match_77 (pc' := 80) rfl CV_X5_200 (as := [.int q8.1, .int q6.1]) (kX4_addFraction q8.2 q8.1 q6.1 q9 eq9) (GsX_rm (by decide)) rfl (by decide) rfl (Nat.le_of_ble_eq_true rfl) rfl ?_
        refine V.alq dX5_match_80 (pc' := 81) rfl (j := 2) rfl ?_
        refine V.getr dX5_match_81 (pc' := 84) rfl FL_X5_19 rfl (by decide) rfl (r' := 4) rfl ?_
        refine V.al dX5_match_84 (pc' := 86) rfl (j := 1) rfl ?_
        refine V.ilq dX5_match_86 (pc' := 87) rfl (j := 4) rfl ?_
        refine V.iconst dX5_match_87 (pc' := 88) rfl (v := 1) (by decide) ?_
        obtain ⟨q10, eq10, e⟩ := bd_s e
        refine V.callVi dX5_match_88 (pc' := 91) rfl CV_X5_277 (as := [.int a2, .int (1 : Int32)]) (kX2_widthOf q9 q2.1 a2 (1 : Int32) q10 eq10) (GsX_rm (by decide)) (isC_t c3) (by decide) rfl (Nat.le_of_ble_eq_true rfl) rfl ?_
        refine V.il dX5_match_91 (pc' := 93) rfl (j := 0) rfl ?_
        obtain ⟨q11, eq11, e⟩ := bd_s e
        refine V.callVv dX5_match_93 (pc' := 96) rfl CV_X5_200 (as := [.int q10.1, .int q6.1]) (kX4_addFraction q10.2 q10.1 q6.1 q11 eq11) (GsX_rm (by decide)) rfl (by decide) rfl (Nat.le_of_ble_eq_true rfl) rfl ?_
        refine V.ilq dX5_match_96 (pc' := 97) rfl (j := 5) rfl ?_
        refine V.iconst dX5_match_97 (pc' := 98) rfl (v := 2) (by decide) ?_
        refine V.ic_ne dX5_match_98 (pc' := 101) rfl (tgt := 109) (by decide) (fun c => ?_) (fun c => ?_)
        · rw [if_neg c] at e
          refine V.ilq dX5_match_109 (pc' := 110) rfl (j := 5) rfl ?_
          refine V.if_ne dX5_match_110 (pc' := 113) rfl (tgt := 123) (by decide) (fun c => ?_) (fun c => ?_)
          · rw [if_neg c] at e
            refine V.al dX5_match_123 (pc' := 125) rfl (j := 1) rfl ?_
            refine V.getr dX5_match_125 (pc' := 128) rfl FL_X5_271 (isC_t c3) (by decide) rfl (r' := q2.1 + 9) rfl ?_
            refine V.ilq dX5_match_128 (pc' := 129) rfl (j := 4) rfl ?_
            obtain ⟨c12, e⟩ := gd_s e
            refine V.iald dX5_match_129 (pc' := 130) rfl (akX2_9 (isC_t c3)).1 (akX2_9 (isC_t c3)).2 (inb_t c12) ?_
            refine V.pk [] rfl ?_
            exact vX5_match_c130 q11 (q11.1 (q2.1 + 9) a2.toNatClampNeg) q e
          · rw [if_pos c] at e
            refine V.al dX5_match_113 (pc' := 115) rfl (j := 1) rfl ?_
            refine V.getr dX5_match_115 (pc' := 118) rfl FL_X5_269 (isC_t c3) (by decide) rfl (r' := q2.1 + 8) rfl ?_
            refine V.ilq dX5_match_118 (pc' := 119) rfl (j := 4) rfl ?_
            obtain ⟨c13, e⟩ := gd_s e
            refine V.iald dX5_match_119 (pc' := 120) rfl (akX2_8 (isC_t c3)).1 (akX2_8 (isC_t c3)).2 (inb_t c13) ?_
            refine V.goto dX5_match_120 (pc' := 130) (by decide) ?_
            refine V.pk [] rfl ?_
            exact vX5_match_c130 q11 (q11.1 (q2.1 + 8) a2.toNatClampNeg) q e
        · rw [if_pos c] at e
          refine V.al dX5_match_101 (pc' := 103) rfl (j := 1) rfl ?_
          refine V.getr dX5_match_103 (pc' := 106) rfl FL_X5_281 (isC_t c3) (by decide) rfl (r' := q2.1 + 10) rfl ?_
          refine V.ilq dX5_match_106 (pc' := 107) rfl (j := 4) rfl ?_
          obtain ⟨c14, e⟩ := gd_s e
          refine V.iald dX5_match_107 (pc' := 108) rfl (akX2_10 (isC_t c3)).1 (akX2_10 (isC_t c3)).2 (inb_t c14) ?_
          exact V.xiret dX5_match_108 rfl (fnX e)
      · rw [if_neg c] at e
        refine V.pk [] rfl ?_
        exact vX5_match_c18 q1.2 q e
abbrev wX5_match : List (Nat × Option Nat) := [(4, some 1)]
abbrev zX5_match : List Nat := [5]
set_option maxRecDepth 10000 in
theorem fX5_match_c18 (h0 : Hp) (h : Hp) (q : RXv) (F : Fr (wX5_match) zX5_match h0 h) (e : sX5_match_c18 h = some q) : Fr (wX5_match) zX5_match h0 q.2 := by
  unfold sX5_match_c18 at e
  exact Fr.e1 F e
set_option maxRecDepth 10000 in
theorem fX5_match_c130 (h0 : Hp) (h : Hp) (t0 : Int32) (q : RXv) (F : Fr (wX5_match) zX5_match h0 h) (e : sX5_match_c130 h t0 = some q) : Fr (wX5_match) zX5_match h0 q.2 := by
  unfold sX5_match_c130 at e
  exact Fr.e1 F e
set_option maxRecDepth 10000 in
theorem fX5_match (h : Hp) (a1 : Int32) (a2 : Int32) (a3 : Int32) (q : RXv) (e : sX5_match h a1 a2 a3 = some q) : Fr (wX5_match) zX5_match h q.2 := by
  unfold sX5_match at e
  have F : Fr (wX5_match) zX5_match h h := Fr.rf
  obtain ⟨q1, eq1, e⟩ := bd_s e
  have F := Fr.tr F (fX5_hasMatch h a1 a2 q1 eq1) (fun _ hh => absurd hh List.not_mem_nil) (by decide)
  by_cases c : q1.1 = 0
  · rw [if_pos c] at e
    exact fX5_match_c18 h q1.2 q F e
  · rw [if_neg c] at e
    by_cases c : a3 < 0
    · rw [if_pos c] at e
      exact fX5_match_c18 h q1.2 q F e
    · rw [if_neg c] at e
      by_cases c : a3 ≤ (2 : Int32)
      · rw [if_pos c] at e
        obtain ⟨q2, eq2, e⟩ := bd_s e
        have F := Fr.tr F (fX5_sideOf q1.2 a1 q2 eq2) (fun _ hh => absurd hh List.not_mem_nil) (by decide)
        obtain ⟨c3, e⟩ := gd_s e
        obtain ⟨c4, e⟩ := gd_s e
        obtain ⟨c5, e⟩ := gd_s e
        obtain ⟨q6, eq6, e⟩ := bd_s e
        have F := Fr.tr F (fX2_unit q2.2 q2.1 (q2.2.1 (q2.1 + 8) a2.toNatClampNeg) (q2.2.1 (q2.1 + 9) a2.toNatClampNeg) q6 eq6) (fun _ hh => absurd hh List.not_mem_nil) (by decide)
        obtain ⟨q7, eq7, e⟩ := bd_s e
        have F := Fr.tr F (fX4_empty q6.2 q7 eq7) (by decide) (by decide)
        obtain ⟨q8, eq8, e⟩ := bd_s e
        have F := Fr.tr F (fX2_widthOf q7 q2.1 a2 (0 : Int32) q8 eq8) (fun _ hh => absurd hh List.not_mem_nil) (by decide)
        obtain ⟨q9, eq9, e⟩ := bd_s e
        have F := Fr.tr F (fX4_addFraction q8.2 q8.1 q6.1 q9 eq9) (by decide) (by decide)
        obtain ⟨q10, eq10, e⟩ := bd_s e
        have F := Fr.tr F (fX2_widthOf q9 q2.1 a2 (1 : Int32) q10 eq10) (fun _ hh => absurd hh List.not_mem_nil) (by decide)
        obtain ⟨q11, eq11, e⟩ := bd_s e
        have F := Fr.tr F (fX4_addFraction q10.2 q10.1 q6.1 q11 eq11) (by decide) (by decide)
        by_cases c : a3 = (2 : Int32)
        · rw [if_pos c] at e
          obtain ⟨c14, e⟩ := gd_s e
          exact Fr.e1 F e
        · rw [if_neg c] at e
          by_cases c : a3 = 0
          · rw [if_pos c] at e
            obtain ⟨c13, e⟩ := gd_s e
            exact fX5_match_c130 h q11 (q11.1 (q2.1 + 8) a2.toNatClampNeg) q F e
          · rw [if_neg c] at e
            obtain ⟨c12, e⟩ := gd_s e
            exact fX5_match_c130 h q11 (q11.1 (q2.1 + 9) a2.toNatClampNeg) q F e
      · rw [if_neg c] at e
        exact fX5_match_c18 h q1.2 q F e
-- X5_row (level 8)
theorem dX5_row_0 : decode cX5_row 0 = .ok (.iload_n 1, 1) := by decide +kernel
theorem dX5_row_1 : decode cX5_row 1 = .ok (.ifCond .lt 14, 3) := by decide +kernel
theorem dX5_row_4 : decode cX5_row 4 = .ok (.iload_n 1, 1) := by decide +kernel
theorem dX5_row_5 : decode cX5_row 5 = .ok (.aload_n 0, 1) := by decide +kernel
theorem dX5_row_6 : decode cX5_row 6 = .ok (.getfield 19, 3) := by decide +kernel
theorem dX5_row_9 : decode cX5_row 9 = .ok (.getfield 319, 3) := by decide +kernel
theorem dX5_row_12 : decode cX5_row 12 = .ok (.if_icmp .lt 14, 3) := by decide +kernel
theorem dX5_row_15 : decode cX5_row 15 = .ok (.new 123, 3) := by decide +kernel
theorem dX5_row_18 : decode cX5_row 18 = .ok (.dup, 1) := by decide +kernel
theorem dX5_row_19 : decode cX5_row 19 = .ok (.ldc_w 320, 3) := by decide +kernel
theorem dX5_row_22 : decode cX5_row 22 = .ok (.invokespecial 127, 3) := by decide +kernel
theorem dX5_row_25 : decode cX5_row 25 = .ok (.athrow, 1) := by decide +kernel
theorem dX5_row_26 : decode cX5_row 26 = .ok (.aload_n 0, 1) := by decide +kernel
theorem dX5_row_27 : decode cX5_row 27 = .ok (.getfield 19, 3) := by decide +kernel
theorem dX5_row_30 : decode cX5_row 30 = .ok (.getfield 322, 3) := by decide +kernel
theorem dX5_row_33 : decode cX5_row 33 = .ok (.iload_n 1, 1) := by decide +kernel
theorem dX5_row_34 : decode cX5_row 34 = .ok (.laload, 1) := by decide +kernel
theorem dX5_row_35 : decode cX5_row 35 = .ok (.lreturn, 1) := by decide +kernel
def sX5_row_c15 (h : Hp) : Option RXv :=
  some (none, h)
set_option maxRecDepth 10000 in
theorem vX5_row_c15 (h : Hp) (q : RXv) (e : sX5_row_c15 h = some q) : V (GsX 8 q) mX5_row (0, 0) 15 [] [] h := by
  unfold sX5_row_c15 at e
  exact V.xthrowW (is := 320) (tx := "the row has no such number") rfl (by decide) dX5_row_15 dX5_row_18 dX5_row_19 dX5_row_22 dX5_row_25 (by decide) e
def sX5_row (h : Hp) (a1 : Int32) : Option RXv :=
  if a1 < 0 then (sX5_row_c15 h) else (if a1 < (h.1 4 1) then (gd (inb a1 24) (some (some (.long (h.2 5 a1.toNatClampNeg)), h))) else (sX5_row_c15 h))
set_option maxRecDepth 10000 in
theorem kX5_row (h : Hp) (a1 : Int32) (q : RXv) (e : sX5_row h a1 = some q) : KX 8 mX5_row [.ref 1, .int a1] h q := by
  unfold sX5_row at e
  refine KX.ofV (by decide) rfl (Nat.le_of_ble_eq_true rfl) ?_
  show V (GsX 8 q) mX5_row (0, 0) 0 [(0, .ref 1), (1, .int a1)] [] h
  refine V.ilq dX5_row_0 (pc' := 1) rfl (j := 1) rfl ?_
  refine V.if_lt dX5_row_1 (pc' := 4) rfl (tgt := 15) (by decide) (fun c => ?_) (fun c => ?_)
  · rw [if_pos c] at e
    refine V.pk [] rfl ?_
    exact vX5_row_c15 h q e
  · rw [if_neg c] at e
    refine V.ilq dX5_row_4 (pc' := 5) rfl (j := 1) rfl ?_
    refine V.alq dX5_row_5 (pc' := 6) rfl (j := 0) rfl ?_
    refine V.getr dX5_row_6 (pc' := 9) rfl FL_X5_19 rfl (by decide) rfl (r' := 4) rfl ?_
    refine V.getf dX5_row_9 (pc' := 12) rfl FL_X5_319 rfl (by decide) rfl ?_
    refine V.ic_lt dX5_row_12 (pc' := 15) rfl (tgt := 26) (by decide) (fun c => ?_) (fun c => ?_)
    · rw [if_pos c] at e
      refine V.alq dX5_row_26 (pc' := 27) rfl (j := 0) rfl ?_
      refine V.getr dX5_row_27 (pc' := 30) rfl FL_X5_19 rfl (by decide) rfl (r' := 4) rfl ?_
      refine V.getr dX5_row_30 (pc' := 33) rfl FL_X5_322 rfl (by decide) rfl (r' := 5) rfl ?_
      refine V.ilq dX5_row_33 (pc' := 34) rfl (j := 1) rfl ?_
      obtain ⟨c1, e⟩ := gd_s e
      refine V.lald dX5_row_34 (pc' := 35) rfl rfl rfl (inb_t c1) ?_
      exact V.xlret dX5_row_35 rfl (fnX e)
    · rw [if_neg c] at e
      refine V.pk [] rfl ?_
      exact vX5_row_c15 h q e
abbrev wX5_row : List (Nat × Option Nat) := []
abbrev zX5_row : List Nat := []
set_option maxRecDepth 10000 in
theorem fX5_row_c15 (h0 : Hp) (h : Hp) (q : RXv) (F : Fr (wX5_row) zX5_row h0 h) (e : sX5_row_c15 h = some q) : Fr (wX5_row) zX5_row h0 q.2 := by
  unfold sX5_row_c15 at e
  exact Fr.e1 F e
set_option maxRecDepth 10000 in
theorem fX5_row (h : Hp) (a1 : Int32) (q : RXv) (e : sX5_row h a1 = some q) : Fr (wX5_row) zX5_row h q.2 := by
  unfold sX5_row at e
  have F : Fr (wX5_row) zX5_row h h := Fr.rf
  by_cases c : a1 < 0
  · rw [if_pos c] at e
    exact fX5_row_c15 h h q F e
  · rw [if_neg c] at e
    by_cases c : a1 < (h.1 4 1)
    · rw [if_pos c] at e
      obtain ⟨c1, e⟩ := gd_s e
      exact Fr.e1 F e
    · rw [if_neg c] at e
      exact fX5_row_c15 h h q F e
-- X5_stream (level 8)
theorem dX5_stream_0 : decode cX5_stream 0 = .ok (.aload_n 0, 1) := by decide +kernel
theorem dX5_stream_1 : decode cX5_stream 1 = .ok (.getfield 26, 3) := by decide +kernel
theorem dX5_stream_4 : decode cX5_stream 4 = .ok (.iload_n 1, 1) := by decide +kernel
theorem dX5_stream_5 : decode cX5_stream 5 = .ok (.invokevirtual 81, 3) := by decide +kernel
theorem dX5_stream_8 : decode cX5_stream 8 = .ok (.ifCond .eq 12, 3) := by decide +kernel
theorem dX5_stream_11 : decode cX5_stream 11 = .ok (.iload_n 2, 1) := by decide +kernel
theorem dX5_stream_12 : decode cX5_stream 12 = .ok (.ifCond .lt 8, 3) := by decide +kernel
theorem dX5_stream_15 : decode cX5_stream 15 = .ok (.iload_n 2, 1) := by decide +kernel
theorem dX5_stream_16 : decode cX5_stream 16 = .ok (.iconst 4, 1) := by decide +kernel
theorem dX5_stream_17 : decode cX5_stream 17 = .ok (.if_icmp .le 13, 3) := by decide +kernel
theorem dX5_stream_20 : decode cX5_stream 20 = .ok (.new 123, 3) := by decide +kernel
theorem dX5_stream_23 : decode cX5_stream 23 = .ok (.dup, 1) := by decide +kernel
theorem dX5_stream_24 : decode cX5_stream 24 = .ok (.ldc 125, 2) := by decide +kernel
theorem dX5_stream_26 : decode cX5_stream 26 = .ok (.invokespecial 127, 3) := by decide +kernel
theorem dX5_stream_29 : decode cX5_stream 29 = .ok (.athrow, 1) := by decide +kernel
theorem dX5_stream_30 : decode cX5_stream 30 = .ok (.iload_n 2, 1) := by decide +kernel
theorem dX5_stream_31 : decode cX5_stream 31 = .ok (.ifCond .ne 21, 3) := by decide +kernel
theorem dX5_stream_34 : decode cX5_stream 34 = .ok (.aload_n 0, 1) := by decide +kernel
theorem dX5_stream_35 : decode cX5_stream 35 = .ok (.getfield 26, 3) := by decide +kernel
theorem dX5_stream_38 : decode cX5_stream 38 = .ok (.getfield 106, 3) := by decide +kernel
theorem dX5_stream_41 : decode cX5_stream 41 = .ok (.iload_n 1, 1) := by decide +kernel
theorem dX5_stream_42 : decode cX5_stream 42 = .ok (.baload, 1) := by decide +kernel
theorem dX5_stream_43 : decode cX5_stream 43 = .ok (.ifCond .eq 7, 3) := by decide +kernel
theorem dX5_stream_46 : decode cX5_stream 46 = .ok (.iconst 1, 1) := by decide +kernel
theorem dX5_stream_47 : decode cX5_stream 47 = .ok (.goto 4, 3) := by decide +kernel
theorem dX5_stream_50 : decode cX5_stream 50 = .ok (.iconst 0, 1) := by decide +kernel
theorem dX5_stream_51 : decode cX5_stream 51 = .ok (.ireturn, 1) := by decide +kernel
theorem dX5_stream_52 : decode cX5_stream 52 = .ok (.iload_n 2, 1) := by decide +kernel
theorem dX5_stream_53 : decode cX5_stream 53 = .ok (.iconst 4, 1) := by decide +kernel
theorem dX5_stream_54 : decode cX5_stream 54 = .ok (.if_icmp .ne 14, 3) := by decide +kernel
theorem dX5_stream_57 : decode cX5_stream 57 = .ok (.aload_n 0, 1) := by decide +kernel
theorem dX5_stream_58 : decode cX5_stream 58 = .ok (.getfield 26, 3) := by decide +kernel
theorem dX5_stream_61 : decode cX5_stream 61 = .ok (.iload_n 1, 1) := by decide +kernel
theorem dX5_stream_62 : decode cX5_stream 62 = .ok (.invokevirtual 130, 3) := by decide +kernel
theorem dX5_stream_65 : decode cX5_stream 65 = .ok (.goto 14, 3) := by decide +kernel
theorem dX5_stream_68 : decode cX5_stream 68 = .ok (.aload_n 0, 1) := by decide +kernel
theorem dX5_stream_69 : decode cX5_stream 69 = .ok (.getfield 26, 3) := by decide +kernel
theorem dX5_stream_72 : decode cX5_stream 72 = .ok (.iload_n 1, 1) := by decide +kernel
theorem dX5_stream_73 : decode cX5_stream 73 = .ok (.iload_n 2, 1) := by decide +kernel
theorem dX5_stream_74 : decode cX5_stream 74 = .ok (.iconst 1, 1) := by decide +kernel
theorem dX5_stream_75 : decode cX5_stream 75 = .ok (.isub, 1) := by decide +kernel
theorem dX5_stream_76 : decode cX5_stream 76 = .ok (.invokevirtual 88, 3) := by decide +kernel
theorem dX5_stream_79 : decode cX5_stream 79 = .ok (.ireturn, 1) := by decide +kernel
def sX5_stream_c20 (h : Hp) : Option RXv :=
  some (none, h)
set_option maxRecDepth 10000 in
theorem vX5_stream_c20 (h : Hp) (q : RXv) (e : sX5_stream_c20 h = some q) : V (GsX 8 q) mX5_stream (0, 0) 20 [] [] h := by
  unfold sX5_stream_c20 at e
  exact V.xthrowS (is := 125) (tx := "no such stream, or nothing such of it") rfl (by decide) dX5_stream_20 dX5_stream_23 dX5_stream_24 dX5_stream_26 dX5_stream_29 (by decide) e
def sX5_stream_c51 (h : Hp) (t0 : Int32) : Option RXv :=
  some (some (.int t0), h)
set_option maxRecDepth 10000 in
theorem vX5_stream_c51 (h : Hp) (t0 : Int32) (q : RXv) (e : sX5_stream_c51 h t0 = some q) : V (GsX 8 q) mX5_stream (0, 0) 51 [] [.int t0] h := by
  unfold sX5_stream_c51 at e
  exact V.xiret dX5_stream_51 rfl (fnX e)
def sX5_stream_c79 (h : Hp) (t0 : Int32) : Option RXv :=
  some (some (.int t0), h)
set_option maxRecDepth 10000 in
theorem vX5_stream_c79 (h : Hp) (t0 : Int32) (q : RXv) (e : sX5_stream_c79 h t0 = some q) : V (GsX 8 q) mX5_stream (0, 0) 79 [] [.int t0] h := by
  unfold sX5_stream_c79 at e
  exact V.xiret dX5_stream_79 rfl (fnX e)
def sX5_stream (h : Hp) (a1 : Int32) (a2 : Int32) : Option RXv :=
  (sX1_has h 6 a1).bind fun q1 => if q1.1 = 0 then (sX5_stream_c20 q1.2) else (if a2 < 0 then (sX5_stream_c20 q1.2) else (if a2 ≤ (4 : Int32) then (if a2 = 0 then (gd (inb a1 10) (if (q1.2.1 7 a1.toNatClampNeg) = 0 then (sX5_stream_c51 q1.2 (0 : Int32)) else (sX5_stream_c51 q1.2 (1 : Int32)))) else (if a2 = (4 : Int32) then ((sX1_heatOf q1.2 6 a1).bind fun q3 => sX5_stream_c79 q3.2 q3.1) else ((sX1_value q1.2 6 a1 (a2 - (1 : Int32))).bind fun q2 => sX5_stream_c79 q2.2 q2.1))) else (sX5_stream_c20 q1.2)))
set_option maxRecDepth 10000 in
theorem kX5_stream (h : Hp) (a1 : Int32) (a2 : Int32) (q : RXv) (e : sX5_stream h a1 a2 = some q) : KX 8 mX5_stream [.ref 1, .int a1, .int a2] h q := by
  unfold sX5_stream at e
  refine KX.ofV (by decide) rfl (Nat.le_of_ble_eq_true rfl) ?_
  show V (GsX 8 q) mX5_stream (0, 0) 0 [(0, .ref 1), (1, .int a1), (2, .int a2)] [] h
  refine V.alq dX5_stream_0 (pc' := 1) rfl (j := 0) rfl ?_
  refine V.getr dX5_stream_1 (pc' := 4) rfl FL_X5_26 rfl (by decide) rfl (r' := 6) rfl ?_
  refine V.ilq dX5_stream_4 (pc' := 5) rfl (j := 1) rfl ?_
  obtain ⟨q1, eq1, e⟩ := bd_s e
  refine V.callVi dX5_stream_5 (pc' := 8) rfl CV_X5_81 (as := [.int a1]) (kX1_has h 6 a1 q1 eq1) (GsX_rm (by decide)) rfl (by decide) rfl (Nat.le_of_ble_eq_true rfl) rfl ?_
  refine V.if_eq dX5_stream_8 (pc' := 11) rfl (tgt := 20) (by decide) (fun c => ?_) (fun c => ?_)
  · rw [if_pos c] at e
    refine V.pk [] rfl ?_
    exact vX5_stream_c20 q1.2 q e
  · rw [if_neg c] at e
    refine V.ilq dX5_stream_11 (pc' := 12) rfl (j := 2) rfl ?_
    refine V.if_lt dX5_stream_12 (pc' := 15) rfl (tgt := 20) (by decide) (fun c => ?_) (fun c => ?_)
    · rw [if_pos c] at e
      refine V.pk [] rfl ?_
      exact vX5_stream_c20 q1.2 q e
    · rw [if_neg c] at e
      refine V.ilq dX5_stream_15 (pc' := 16) rfl (j := 2) rfl ?_
      refine V.iconst dX5_stream_16 (pc' := 17) rfl (v := 4) (by decide) ?_
      refine V.ic_le dX5_stream_17 (pc' := 20) rfl (tgt := 30) (by decide) (fun c => ?_) (fun c => ?_)
      · rw [if_pos c] at e
        refine V.ilq dX5_stream_30 (pc' := 31) rfl (j := 2) rfl ?_
        refine V.if_ne dX5_stream_31 (pc' := 34) rfl (tgt := 52) (by decide) (fun c => ?_) (fun c => ?_)
        · rw [if_neg c] at e
          refine V.ilq dX5_stream_52 (pc' := 53) rfl (j := 2) rfl ?_
          refine V.iconst dX5_stream_53 (pc' := 54) rfl (v := 4) (by decide) ?_
          refine V.ic_ne dX5_stream_54 (pc' := 57) rfl (tgt := 68) (by decide) (fun c => ?_) (fun c => ?_)
          · rw [if_neg c] at e
            refine V.alq dX5_stream_68 (pc' := 69) rfl (j := 0) rfl ?_
            refine V.getr dX5_stream_69 (pc' := 72) rfl FL_X5_26 rfl (by decide) rfl (r' := 6) rfl ?_
            refine V.ilq dX5_stream_72 (pc' := 73) rfl (j := 1) rfl ?_
            refine V.ilq dX5_stream_73 (pc' := 74) rfl (j := 2) rfl ?_
            refine V.iconst dX5_stream_74 (pc' := 75) rfl (v := 1) (by decide) ?_
            refine V.isub dX5_stream_75 (pc' := 76) rfl ?_
            obtain ⟨q2, eq2, e⟩ := bd_s e
            refine V.callVi dX5_stream_76 (pc' := 79) rfl CV_X5_88 (as := [.int a1, .int (a2 - (1 : Int32))]) (kX1_value q1.2 6 a1 (a2 - (1 : Int32)) q2 eq2) (GsX_rm (by decide)) rfl (by decide) rfl (Nat.le_of_ble_eq_true rfl) rfl ?_
            refine V.pk [] rfl ?_
            exact vX5_stream_c79 q2.2 q2.1 q e
          · rw [if_pos c] at e
            refine V.alq dX5_stream_57 (pc' := 58) rfl (j := 0) rfl ?_
            refine V.getr dX5_stream_58 (pc' := 61) rfl FL_X5_26 rfl (by decide) rfl (r' := 6) rfl ?_
            refine V.ilq dX5_stream_61 (pc' := 62) rfl (j := 1) rfl ?_
            obtain ⟨q3, eq3, e⟩ := bd_s e
            refine V.callVi dX5_stream_62 (pc' := 65) rfl CV_X5_130 (as := [.int a1]) (kX1_heatOf q1.2 6 a1 q3 eq3) (GsX_rm (by decide)) rfl (by decide) rfl (Nat.le_of_ble_eq_true rfl) rfl ?_
            refine V.goto dX5_stream_65 (pc' := 79) (by decide) ?_
            refine V.pk [] rfl ?_
            exact vX5_stream_c79 q3.2 q3.1 q e
        · rw [if_pos c] at e
          refine V.alq dX5_stream_34 (pc' := 35) rfl (j := 0) rfl ?_
          refine V.getr dX5_stream_35 (pc' := 38) rfl FL_X5_26 rfl (by decide) rfl (r' := 6) rfl ?_
          refine V.getr dX5_stream_38 (pc' := 41) rfl FL_X5_106 rfl (by decide) rfl (r' := 7) rfl ?_
          refine V.ilq dX5_stream_41 (pc' := 42) rfl (j := 1) rfl ?_
          obtain ⟨c4, e⟩ := gd_s e
          refine V.zald dX5_stream_42 (pc' := 43) rfl rfl rfl (inb_t c4) ?_
          refine V.if_eq dX5_stream_43 (pc' := 46) rfl (tgt := 50) (by decide) (fun c => ?_) (fun c => ?_)
          · rw [if_pos c] at e
            refine V.iconst dX5_stream_50 (pc' := 51) rfl (v := 0) (by decide) ?_
            refine V.pk [] rfl ?_
            exact vX5_stream_c51 q1.2 (0 : Int32) q e
          · rw [if_neg c] at e
            refine V.iconst dX5_stream_46 (pc' := 47) rfl (v := 1) (by decide) ?_
            refine V.goto dX5_stream_47 (pc' := 51) (by decide) ?_
            refine V.pk [] rfl ?_
            exact vX5_stream_c51 q1.2 (1 : Int32) q e
      · rw [if_neg c] at e
        refine V.pk [] rfl ?_
        exact vX5_stream_c20 q1.2 q e
abbrev wX5_stream : List (Nat × Option Nat) := []
abbrev zX5_stream : List Nat := []
set_option maxRecDepth 10000 in
theorem fX5_stream_c20 (h0 : Hp) (h : Hp) (q : RXv) (F : Fr (wX5_stream) zX5_stream h0 h) (e : sX5_stream_c20 h = some q) : Fr (wX5_stream) zX5_stream h0 q.2 := by
  unfold sX5_stream_c20 at e
  exact Fr.e1 F e
set_option maxRecDepth 10000 in
theorem fX5_stream_c51 (h0 : Hp) (h : Hp) (t0 : Int32) (q : RXv) (F : Fr (wX5_stream) zX5_stream h0 h) (e : sX5_stream_c51 h t0 = some q) : Fr (wX5_stream) zX5_stream h0 q.2 := by
  unfold sX5_stream_c51 at e
  exact Fr.e1 F e
set_option maxRecDepth 10000 in
theorem fX5_stream_c79 (h0 : Hp) (h : Hp) (t0 : Int32) (q : RXv) (F : Fr (wX5_stream) zX5_stream h0 h) (e : sX5_stream_c79 h t0 = some q) : Fr (wX5_stream) zX5_stream h0 q.2 := by
  unfold sX5_stream_c79 at e
  exact Fr.e1 F e
set_option maxRecDepth 10000 in
theorem fX5_stream (h : Hp) (a1 : Int32) (a2 : Int32) (q : RXv) (e : sX5_stream h a1 a2 = some q) : Fr (wX5_stream) zX5_stream h q.2 := by
  unfold sX5_stream at e
  have F : Fr (wX5_stream) zX5_stream h h := Fr.rf
  obtain ⟨q1, eq1, e⟩ := bd_s e
  have F := Fr.tr F (fX1_has h 6 a1 q1 eq1) (fun _ hh => absurd hh List.not_mem_nil) (by decide)
  by_cases c : q1.1 = 0
  · rw [if_pos c] at e
    exact fX5_stream_c20 h q1.2 q F e
  · rw [if_neg c] at e
    by_cases c : a2 < 0
    · rw [if_pos c] at e
      exact fX5_stream_c20 h q1.2 q F e
    · rw [if_neg c] at e
      by_cases c : a2 ≤ (4 : Int32)
      · rw [if_pos c] at e
        by_cases c : a2 = 0
        · rw [if_pos c] at e
          obtain ⟨c4, e⟩ := gd_s e
          by_cases c : (q1.2.1 7 a1.toNatClampNeg) = 0
          · rw [if_pos c] at e
            exact fX5_stream_c51 h q1.2 (0 : Int32) q F e
          · rw [if_neg c] at e
            exact fX5_stream_c51 h q1.2 (1 : Int32) q F e
        · rw [if_neg c] at e
          by_cases c : a2 = (4 : Int32)
          · rw [if_pos c] at e
            obtain ⟨q3, eq3, e⟩ := bd_s e
            have F := Fr.tr F (fX1_heatOf q1.2 6 a1 q3 eq3) (fun _ hh => absurd hh List.not_mem_nil) (by decide)
            exact fX5_stream_c79 h q3.2 q3.1 q F e
          · rw [if_neg c] at e
            obtain ⟨q2, eq2, e⟩ := bd_s e
            have F := Fr.tr F (fX1_value q1.2 6 a1 (a2 - (1 : Int32)) q2 eq2) (fun _ hh => absurd hh List.not_mem_nil) (by decide)
            exact fX5_stream_c79 h q2.2 q2.1 q F e
      · rw [if_neg c] at e
        exact fX5_stream_c20 h q1.2 q F e
