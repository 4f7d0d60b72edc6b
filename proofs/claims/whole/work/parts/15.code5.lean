-- X0_work (level 3)
theorem dX0_work_0 : decode cX0_work 0 = .ok (.aload_n 0, 1) := by decide +kernel
theorem dX0_work_1 : decode cX0_work 1 = .ok (.aload_n 1, 1) := by decide +kernel
theorem dX0_work_2 : decode cX0_work 2 = .ok (.iload_n 2, 1) := by decide +kernel
theorem dX0_work_3 : decode cX0_work 3 = .ok (.invokevirtual 31, 3) := by decide +kernel
theorem dX0_work_6 : decode cX0_work 6 = .ok (.iconst 0, 1) := by decide +kernel
theorem dX0_work_7 : decode cX0_work 7 = .ok (.istore_n 3, 1) := by decide +kernel
theorem dX0_work_8 : decode cX0_work 8 = .ok (.iconst 0, 1) := by decide +kernel
theorem dX0_work_9 : decode cX0_work 9 = .ok (.istore 4, 2) := by decide +kernel
theorem dX0_work_11 : decode cX0_work 11 = .ok (.iconst 0, 1) := by decide +kernel
theorem dX0_work_12 : decode cX0_work 12 = .ok (.istore 5, 2) := by decide +kernel
theorem dX0_work_14 : decode cX0_work 14 = .ok (.iload 5, 2) := by decide +kernel
theorem dX0_work_16 : decode cX0_work 16 = .ok (.aload_n 0, 1) := by decide +kernel
theorem dX0_work_17 : decode cX0_work 17 = .ok (.getfield 24, 3) := by decide +kernel
theorem dX0_work_20 : decode cX0_work 20 = .ok (.if_icmp .ge 130, 3) := by decide +kernel
theorem dX0_work_23 : decode cX0_work 23 = .ok (.iload 5, 2) := by decide +kernel
theorem dX0_work_25 : decode cX0_work 25 = .ok (.aload_n 0, 1) := by decide +kernel
theorem dX0_work_26 : decode cX0_work 26 = .ok (.getfield 24, 3) := by decide +kernel
theorem dX0_work_29 : decode cX0_work 29 = .ok (.iconst 1, 1) := by decide +kernel
theorem dX0_work_30 : decode cX0_work 30 = .ok (.isub, 1) := by decide +kernel
theorem dX0_work_31 : decode cX0_work 31 = .ok (.if_icmp .ne 7, 3) := by decide +kernel
theorem dX0_work_34 : decode cX0_work 34 = .ok (.iconst 1, 1) := by decide +kernel
theorem dX0_work_35 : decode cX0_work 35 = .ok (.goto 4, 3) := by decide +kernel
theorem dX0_work_38 : decode cX0_work 38 = .ok (.iconst 0, 1) := by decide +kernel
theorem dX0_work_39 : decode cX0_work 39 = .ok (.istore 6, 2) := by decide +kernel
theorem dX0_work_41 : decode cX0_work 41 = .ok (.aload_n 0, 1) := by decide +kernel
theorem dX0_work_42 : decode cX0_work 42 = .ok (.getfield 18, 3) := by decide +kernel
theorem dX0_work_45 : decode cX0_work 45 = .ok (.iload 5, 2) := by decide +kernel
theorem dX0_work_47 : decode cX0_work 47 = .ok (.iload 6, 2) := by decide +kernel
theorem dX0_work_49 : decode cX0_work 49 = .ok (.ifCond .eq 7, 3) := by decide +kernel
theorem dX0_work_52 : decode cX0_work 52 = .ok (.iconst 0, 1) := by decide +kernel
theorem dX0_work_53 : decode cX0_work 53 = .ok (.goto 28, 3) := by decide +kernel
theorem dX0_work_56 : decode cX0_work 56 = .ok (.aload_n 1, 1) := by decide +kernel
theorem dX0_work_57 : decode cX0_work 57 = .ok (.iconst 1, 1) := by decide +kernel
theorem dX0_work_58 : decode cX0_work 58 = .ok (.aload_n 0, 1) := by decide +kernel
theorem dX0_work_59 : decode cX0_work 59 = .ok (.getfield 9, 3) := by decide +kernel
theorem dX0_work_62 : decode cX0_work 62 = .ok (.iload 5, 2) := by decide +kernel
theorem dX0_work_64 : decode cX0_work 64 = .ok (.iconst 1, 1) := by decide +kernel
theorem dX0_work_65 : decode cX0_work 65 = .ok (.iadd, 1) := by decide +kernel
theorem dX0_work_66 : decode cX0_work 66 = .ok (.iaload, 1) := by decide +kernel
theorem dX0_work_67 : decode cX0_work 67 = .ok (.iload_n 2, 1) := by decide +kernel
theorem dX0_work_68 : decode cX0_work 68 = .ok (.iadd, 1) := by decide +kernel
theorem dX0_work_69 : decode cX0_work 69 = .ok (.aload_n 0, 1) := by decide +kernel
theorem dX0_work_70 : decode cX0_work 70 = .ok (.getfield 9, 3) := by decide +kernel
theorem dX0_work_73 : decode cX0_work 73 = .ok (.iload 5, 2) := by decide +kernel
theorem dX0_work_75 : decode cX0_work 75 = .ok (.iaload, 1) := by decide +kernel
theorem dX0_work_76 : decode cX0_work 76 = .ok (.iload_n 2, 1) := by decide +kernel
theorem dX0_work_77 : decode cX0_work 77 = .ok (.iadd, 1) := by decide +kernel
theorem dX0_work_78 : decode cX0_work 78 = .ok (.invokevirtual 35, 3) := by decide +kernel
theorem dX0_work_81 : decode cX0_work 81 = .ok (.iastore, 1) := by decide +kernel
theorem dX0_work_82 : decode cX0_work 82 = .ok (.aload_n 0, 1) := by decide +kernel
theorem dX0_work_83 : decode cX0_work 83 = .ok (.getfield 21, 3) := by decide +kernel
theorem dX0_work_86 : decode cX0_work 86 = .ok (.iload 5, 2) := by decide +kernel
theorem dX0_work_88 : decode cX0_work 88 = .ok (.iload 6, 2) := by decide +kernel
theorem dX0_work_90 : decode cX0_work 90 = .ok (.ifCond .eq 7, 3) := by decide +kernel
theorem dX0_work_93 : decode cX0_work 93 = .ok (.iconst 0, 1) := by decide +kernel
theorem dX0_work_94 : decode cX0_work 94 = .ok (.goto 24, 3) := by decide +kernel
theorem dX0_work_97 : decode cX0_work 97 = .ok (.aload_n 1, 1) := by decide +kernel
theorem dX0_work_98 : decode cX0_work 98 = .ok (.iconst 0, 1) := by decide +kernel
theorem dX0_work_99 : decode cX0_work 99 = .ok (.aload_n 0, 1) := by decide +kernel
theorem dX0_work_100 : decode cX0_work 100 = .ok (.getfield 9, 3) := by decide +kernel
theorem dX0_work_103 : decode cX0_work 103 = .ok (.iload 5, 2) := by decide +kernel
theorem dX0_work_105 : decode cX0_work 105 = .ok (.iconst 1, 1) := by decide +kernel
theorem dX0_work_106 : decode cX0_work 106 = .ok (.iadd, 1) := by decide +kernel
theorem dX0_work_107 : decode cX0_work 107 = .ok (.iaload, 1) := by decide +kernel
theorem dX0_work_108 : decode cX0_work 108 = .ok (.aload_n 0, 1) := by decide +kernel
theorem dX0_work_109 : decode cX0_work 109 = .ok (.getfield 9, 3) := by decide +kernel
theorem dX0_work_112 : decode cX0_work 112 = .ok (.iload 5, 2) := by decide +kernel
theorem dX0_work_114 : decode cX0_work 114 = .ok (.iaload, 1) := by decide +kernel
theorem dX0_work_115 : decode cX0_work 115 = .ok (.invokevirtual 35, 3) := by decide +kernel
theorem dX0_work_118 : decode cX0_work 118 = .ok (.iastore, 1) := by decide +kernel
theorem dX0_work_119 : decode cX0_work 119 = .ok (.aload_n 0, 1) := by decide +kernel
theorem dX0_work_120 : decode cX0_work 120 = .ok (.getfield 15, 3) := by decide +kernel
theorem dX0_work_123 : decode cX0_work 123 = .ok (.iload 5, 2) := by decide +kernel
theorem dX0_work_125 : decode cX0_work 125 = .ok (.iload_n 3, 1) := by decide +kernel
theorem dX0_work_126 : decode cX0_work 126 = .ok (.iastore, 1) := by decide +kernel
theorem dX0_work_127 : decode cX0_work 127 = .ok (.iload 4, 2) := by decide +kernel
theorem dX0_work_129 : decode cX0_work 129 = .ok (.iload_n 3, 1) := by decide +kernel
theorem dX0_work_130 : decode cX0_work 130 = .ok (.invokestatic 41, 3) := by decide +kernel
theorem dX0_work_133 : decode cX0_work 133 = .ok (.istore 4, 2) := by decide +kernel
theorem dX0_work_135 : decode cX0_work 135 = .ok (.iload_n 3, 1) := by decide +kernel
theorem dX0_work_136 : decode cX0_work 136 = .ok (.aload_n 0, 1) := by decide +kernel
theorem dX0_work_137 : decode cX0_work 137 = .ok (.iload 5, 2) := by decide +kernel
theorem dX0_work_139 : decode cX0_work 139 = .ok (.invokevirtual 47, 3) := by decide +kernel
theorem dX0_work_142 : decode cX0_work 142 = .ok (.iadd, 1) := by decide +kernel
theorem dX0_work_143 : decode cX0_work 143 = .ok (.istore_n 3, 1) := by decide +kernel
theorem dX0_work_144 : decode cX0_work 144 = .ok (.iinc 5 1, 3) := by decide +kernel
theorem dX0_work_147 : decode cX0_work 147 = .ok (.goto (-133), 3) := by decide +kernel
theorem dX0_work_150 : decode cX0_work 150 = .ok (.aload_n 0, 1) := by decide +kernel
theorem dX0_work_151 : decode cX0_work 151 = .ok (.iload 4, 2) := by decide +kernel
theorem dX0_work_153 : decode cX0_work 153 = .ok (.ineg, 1) := by decide +kernel
theorem dX0_work_154 : decode cX0_work 154 = .ok (.putfield 28, 3) := by decide +kernel
theorem dX0_work_157 : decode cX0_work 157 = .ok (.iconst 0, 1) := by decide +kernel
theorem dX0_work_158 : decode cX0_work 158 = .ok (.istore 5, 2) := by decide +kernel
theorem dX0_work_160 : decode cX0_work 160 = .ok (.iload 5, 2) := by decide +kernel
theorem dX0_work_162 : decode cX0_work 162 = .ok (.aload_n 0, 1) := by decide +kernel
theorem dX0_work_163 : decode cX0_work 163 = .ok (.getfield 24, 3) := by decide +kernel
theorem dX0_work_166 : decode cX0_work 166 = .ok (.if_icmp .ge 23, 3) := by decide +kernel
theorem dX0_work_169 : decode cX0_work 169 = .ok (.aload_n 0, 1) := by decide +kernel
theorem dX0_work_170 : decode cX0_work 170 = .ok (.getfield 15, 3) := by decide +kernel
theorem dX0_work_173 : decode cX0_work 173 = .ok (.iload 5, 2) := by decide +kernel
theorem dX0_work_175 : decode cX0_work 175 = .ok (.dup2, 1) := by decide +kernel
theorem dX0_work_176 : decode cX0_work 176 = .ok (.iaload, 1) := by decide +kernel
theorem dX0_work_177 : decode cX0_work 177 = .ok (.aload_n 0, 1) := by decide +kernel
theorem dX0_work_178 : decode cX0_work 178 = .ok (.getfield 28, 3) := by decide +kernel
theorem dX0_work_181 : decode cX0_work 181 = .ok (.iadd, 1) := by decide +kernel
theorem dX0_work_182 : decode cX0_work 182 = .ok (.iastore, 1) := by decide +kernel
theorem dX0_work_183 : decode cX0_work 183 = .ok (.iinc 5 1, 3) := by decide +kernel
theorem dX0_work_186 : decode cX0_work 186 = .ok (.goto (-26), 3) := by decide +kernel
theorem dX0_work_189 : decode cX0_work 189 = .ok (.return_, 1) := by decide +kernel
def sX0_work_c118 (k14 : Hp → Nat → Nat → Int32 → Int32 → Int32 → Int32 → Option Hp) (h : Hp) (r : Nat) (a1 : Nat) (v2 : Int32) (v3 : Int32) (v4 : Int32) (v5 : Int32) (t0 : Int32) (t1 : Int32) : Option Hp :=
  gd (inb t1 20) (nm (u1 h (r + 4) t1.toNatClampNeg t0) fun h12 => gd (inb v5 20) (nm (u1 h12 (r + 2) v5.toNatClampNeg v3) fun h14 => nm ((imin v4 v3)) fun x15 => (sX0_surplusOf h14 r v5).bind fun q16 => nm ((v3 + q16.1)) fun x17 => nm (v5 + (1 : Int32)) fun x18 => k14 q16.2 r a1 v2 x17 x15 x18))
set_option maxRecDepth 10000 in
theorem vX0_work_c118 (k14 : Hp → Nat → Nat → Int32 → Int32 → Int32 → Int32 → Option Hp) (hk14 : ∀ (h : Hp) (r : Nat) (a1 : Nat) (v2 : Int32) (v3 : Int32) (v4 : Int32) (v5 : Int32) (hr : ck r = 0) (ha1 : ck a1 = 1) (q : Hp), k14 h r a1 v2 v3 v4 v5 = some q → V (Gs 3 (pV q)) mX0_work (0, 0) 14 [(0, .ref r), (1, .ref a1), (2, .int v2), (3, .int v3), (4, .int v4), (5, .int v5)] [] h) (h : Hp) (r : Nat) (a1 : Nat) (v2 : Int32) (v3 : Int32) (v4 : Int32) (v5 : Int32) (t0 : Int32) (t1 : Int32) (hr : ck r = 0) (ha1 : ck a1 = 1) (q : Hp) (e : sX0_work_c118 k14 h r a1 v2 v3 v4 v5 t0 t1 = some q) : V (Gs 3 (pV q)) mX0_work (0, 0) 118 [(0, .ref r), (1, .ref a1), (2, .int v2), (3, .int v3), (4, .int v4), (5, .int v5)] [.int t0, .int t1, .ref (r + 4)] h := by
  unfold sX0_work_c118 at e
  obtain ⟨c11, e⟩ := gd_s e
  obtain ⟨h12, eh12, e⟩ := nm_s e
  refine V.iast dX0_work_118 (pc' := 119) rfl (akX0_4 hr).1 (akX0_4 hr).2 (inb_t c11) eh12 ?_
  refine V.alq dX0_work_119 (pc' := 120) rfl (j := 0) rfl ?_
  refine V.getr dX0_work_120 (pc' := 123) rfl FL_X0_15 hr (by decide) rfl (r' := r + 2) rfl ?_
  refine V.il dX0_work_123 (pc' := 125) rfl (j := 5) rfl ?_
  refine V.ilq dX0_work_125 (pc' := 126) rfl (j := 3) rfl ?_
  obtain ⟨c13, e⟩ := gd_s e
  obtain ⟨h14, eh14, e⟩ := nm_s e
  refine V.iast dX0_work_126 (pc' := 127) rfl (akX0_2 hr).1 (akX0_2 hr).2 (inb_t c13) eh14 ?_
  refine V.il dX0_work_127 (pc' := 129) rfl (j := 4) rfl ?_
  refine V.ilq dX0_work_129 (pc' := 130) rfl (j := 3) rfl ?_
  refine V.mmin dX0_work_130 (pc' := 133) rfl (Gs_rm (by decide)) ML_X0_41 MS_imin MI_Math MC_imin (Nat.le_of_ble_eq_true rfl) ?_
  obtain ⟨x15, ex15, e⟩ := nm_s e
  refine V.is dX0_work_133 (pc' := 135) rfl (by decide) ex15 (L' := [(4, .int x15), (0, .ref r), (1, .ref a1), (2, .int v2), (3, .int v3), (5, .int v5)]) rfl ?_
  refine V.ilq dX0_work_135 (pc' := 136) rfl (j := 4) rfl ?_
  refine V.alq dX0_work_136 (pc' := 137) rfl (j := 1) rfl ?_
  refine V.il dX0_work_137 (pc' := 139) rfl (j := 5) rfl ?_
  obtain ⟨q16, eq16, e⟩ := bd_s e
  refine V.callVi dX0_work_139 (pc' := 142) rfl CV_X0_47 (as := [.int v5]) (kX0_surplusOf h14 r v5 q16 eq16) (Gs_rm (by decide)) hr (by decide) rfl (Nat.le_of_ble_eq_true rfl) rfl ?_
  refine V.iadd dX0_work_142 (pc' := 143) rfl ?_
  obtain ⟨x17, ex17, e⟩ := nm_s e
  refine V.isq dX0_work_143 (pc' := 144) rfl (by decide) ex17 (L' := [(3, .int x17), (4, .int x15), (0, .ref r), (1, .ref a1), (2, .int v2), (5, .int v5)]) rfl ?_
  obtain ⟨x18, ex18, e⟩ := nm_s e
  refine V.iinc dX0_work_144 (pc' := 147) rfl (j := 5) rfl (v := 1) (by decide) (by decide) ex18 (L' := [(5, .int x18), (3, .int x17), (4, .int x15), (0, .ref r), (1, .ref a1), (2, .int v2)]) rfl ?_
  refine V.goto dX0_work_147 (pc' := 14) (by decide) ?_
  refine V.pk [3, 4, 5, 1, 2, 0] rfl ?_
  exact hk14 q16.2 r a1 v2 x17 x15 x18 hr ha1 q e
def sX0_work_c81 (k14 : Hp → Nat → Nat → Int32 → Int32 → Int32 → Int32 → Option Hp) (h : Hp) (r : Nat) (a1 : Nat) (v2 : Int32) (v3 : Int32) (v4 : Int32) (v5 : Int32) (v6 : Int32) (t0 : Int32) (t1 : Int32) : Option Hp :=
  gd (inb t1 20) (nm (u1 h (r + 3) t1.toNatClampNeg t0) fun h7 => if v6 = 0 then (gd (inb (v5 + (1 : Int32)) 20) (gd (inb v5 20) ((sX1_capThrough h7 a1 (0 : Int32) (h7.1 (r + 1) (v5 + (1 : Int32)).toNatClampNeg) (h7.1 (r + 1) v5.toNatClampNeg)).bind fun q10 => sX0_work_c118 k14 q10.2 r a1 v2 v3 v4 v5 q10.1 v5))) else (sX0_work_c118 k14 h7 r a1 v2 v3 v4 v5 (0 : Int32) v5))
set_option maxRecDepth 10000 in
theorem vX0_work_c81 (k14 : Hp → Nat → Nat → Int32 → Int32 → Int32 → Int32 → Option Hp) (hk14 : ∀ (h : Hp) (r : Nat) (a1 : Nat) (v2 : Int32) (v3 : Int32) (v4 : Int32) (v5 : Int32) (hr : ck r = 0) (ha1 : ck a1 = 1) (q : Hp), k14 h r a1 v2 v3 v4 v5 = some q → V (Gs 3 (pV q)) mX0_work (0, 0) 14 [(0, .ref r), (1, .ref a1), (2, .int v2), (3, .int v3), (4, .int v4), (5, .int v5)] [] h) (h : Hp) (r : Nat) (a1 : Nat) (v2 : Int32) (v3 : Int32) (v4 : Int32) (v5 : Int32) (v6 : Int32) (t0 : Int32) (t1 : Int32) (hr : ck r = 0) (ha1 : ck a1 = 1) (q : Hp) (e : sX0_work_c81 k14 h r a1 v2 v3 v4 v5 v6 t0 t1 = some q) : V (Gs 3 (pV q)) mX0_work (0, 0) 81 [(0, .ref r), (1, .ref a1), (2, .int v2), (3, .int v3), (4, .int v4), (5, .int v5), (6, .int v6)] [.int t0, .int t1, .ref (r + 3)] h := by
  unfold sX0_work_c81 at e
  obtain ⟨c6, e⟩ := gd_s e
  obtain ⟨h7, eh7, e⟩ := nm_s e
  refine V.iast dX0_work_81 (pc' := 82) rfl (akX0_3 hr).1 (akX0_3 hr).2 (inb_t c6) eh7 ?_
  refine V.alq dX0_work_82 (pc' := 83) rfl (j := 0) rfl ?_
  refine V.getr dX0_work_83 (pc' := 86) rfl FL_X0_21 hr (by decide) rfl (r' := r + 4) rfl ?_
  refine V.il dX0_work_86 (pc' := 88) rfl (j := 5) rfl ?_
  refine V.il dX0_work_88 (pc' := 90) rfl (j := 6) rfl ?_
  refine V.if_eq dX0_work_90 (pc' := 93) rfl (tgt := 97) (by decide) (fun c => ?_) (fun c => ?_)
  · rw [if_pos c] at e
    refine V.alq dX0_work_97 (pc' := 98) rfl (j := 1) rfl ?_
    refine V.iconst dX0_work_98 (pc' := 99) rfl (v := 0) (by decide) ?_
    refine V.alq dX0_work_99 (pc' := 100) rfl (j := 0) rfl ?_
    refine V.getr dX0_work_100 (pc' := 103) rfl FL_X0_9 hr (by decide) rfl (r' := r + 1) rfl ?_
    refine V.il dX0_work_103 (pc' := 105) rfl (j := 5) rfl ?_
    refine V.iconst dX0_work_105 (pc' := 106) rfl (v := 1) (by decide) ?_
    refine V.iadd dX0_work_106 (pc' := 107) rfl ?_
    obtain ⟨c8, e⟩ := gd_s e
    refine V.iald dX0_work_107 (pc' := 108) rfl (akX0_1 hr).1 (akX0_1 hr).2 (inb_t c8) ?_
    refine V.alq dX0_work_108 (pc' := 109) rfl (j := 0) rfl ?_
    refine V.getr dX0_work_109 (pc' := 112) rfl FL_X0_9 hr (by decide) rfl (r' := r + 1) rfl ?_
    refine V.il dX0_work_112 (pc' := 114) rfl (j := 5) rfl ?_
    obtain ⟨c9, e⟩ := gd_s e
    refine V.iald dX0_work_114 (pc' := 115) rfl (akX0_1 hr).1 (akX0_1 hr).2 (inb_t c9) ?_
    obtain ⟨q10, eq10, e⟩ := bd_s e
    refine V.callVi dX0_work_115 (pc' := 118) rfl CV_X0_35 (as := [.int (0 : Int32), .int (h7.1 (r + 1) (v5 + (1 : Int32)).toNatClampNeg), .int (h7.1 (r + 1) v5.toNatClampNeg)]) (kX1_capThrough h7 a1 (0 : Int32) (h7.1 (r + 1) (v5 + (1 : Int32)).toNatClampNeg) (h7.1 (r + 1) v5.toNatClampNeg) q10 eq10) (Gs_rm (by decide)) ha1 (by decide) rfl (Nat.le_of_ble_eq_true rfl) rfl ?_
    refine V.pk [0, 1, 2, 3, 4, 5] rfl ?_
    exact vX0_work_c118 k14 hk14 q10.2 r a1 v2 v3 v4 v5 q10.1 v5 hr ha1 q e
  · rw [if_neg c] at e
    refine V.iconst dX0_work_93 (pc' := 94) rfl (v := 0) (by decide) ?_
    refine V.goto dX0_work_94 (pc' := 118) (by decide) ?_
    refine V.pk [0, 1, 2, 3, 4, 5] rfl ?_
    exact vX0_work_c118 k14 hk14 h7 r a1 v2 v3 v4 v5 (0 : Int32) v5 hr ha1 q e
def sX0_work_c39 (k14 : Hp → Nat → Nat → Int32 → Int32 → Int32 → Int32 → Option Hp) (h : Hp) (r : Nat) (a1 : Nat) (v2 : Int32) (v3 : Int32) (v4 : Int32) (v5 : Int32) (t0 : Int32) : Option Hp :=
  if t0 = 0 then (gd (inb (v5 + (1 : Int32)) 20) (gd (inb v5 20) ((sX1_capThrough h a1 (1 : Int32) ((h.1 (r + 1) (v5 + (1 : Int32)).toNatClampNeg) + v2) ((h.1 (r + 1) v5.toNatClampNeg) + v2)).bind fun q5 => sX0_work_c81 k14 q5.2 r a1 v2 v3 v4 v5 t0 q5.1 v5))) else (sX0_work_c81 k14 h r a1 v2 v3 v4 v5 t0 (0 : Int32) v5)
set_option maxRecDepth 10000 in
theorem vX0_work_c39 (k14 : Hp → Nat → Nat → Int32 → Int32 → Int32 → Int32 → Option Hp) (hk14 : ∀ (h : Hp) (r : Nat) (a1 : Nat) (v2 : Int32) (v3 : Int32) (v4 : Int32) (v5 : Int32) (hr : ck r = 0) (ha1 : ck a1 = 1) (q : Hp), k14 h r a1 v2 v3 v4 v5 = some q → V (Gs 3 (pV q)) mX0_work (0, 0) 14 [(0, .ref r), (1, .ref a1), (2, .int v2), (3, .int v3), (4, .int v4), (5, .int v5)] [] h) (h : Hp) (r : Nat) (a1 : Nat) (v2 : Int32) (v3 : Int32) (v4 : Int32) (v5 : Int32) (t0 : Int32) (hr : ck r = 0) (ha1 : ck a1 = 1) (q : Hp) (e : sX0_work_c39 k14 h r a1 v2 v3 v4 v5 t0 = some q) : V (Gs 3 (pV q)) mX0_work (0, 0) 39 [(0, .ref r), (1, .ref a1), (2, .int v2), (3, .int v3), (4, .int v4), (5, .int v5)] [.int t0] h := by
  unfold sX0_work_c39 at e
  refine V.is dX0_work_39 (pc' := 41) rfl (by decide) rfl (L' := [(6, .int t0), (0, .ref r), (1, .ref a1), (2, .int v2), (3, .int v3), (4, .int v4), (5, .int v5)]) rfl ?_
  refine V.alq dX0_work_41 (pc' := 42) rfl (j := 1) rfl ?_
  refine V.getr dX0_work_42 (pc' := 45) rfl FL_X0_18 hr (by decide) rfl (r' := r + 3) rfl ?_
  refine V.il dX0_work_45 (pc' := 47) rfl (j := 6) rfl ?_
  refine V.il dX0_work_47 (pc' := 49) rfl (j := 0) rfl ?_
  refine V.if_eq dX0_work_49 (pc' := 52) rfl (tgt := 56) (by decide) (fun c => ?_) (fun c => ?_)
  · rw [if_pos c] at e
    refine V.alq dX0_work_56 (pc' := 57) rfl (j := 2) rfl ?_
    refine V.iconst dX0_work_57 (pc' := 58) rfl (v := 1) (by decide) ?_
    refine V.alq dX0_work_58 (pc' := 59) rfl (j := 1) rfl ?_
    refine V.getr dX0_work_59 (pc' := 62) rfl FL_X0_9 hr (by decide) rfl (r' := r + 1) rfl ?_
    refine V.il dX0_work_62 (pc' := 64) rfl (j := 6) rfl ?_
    refine V.iconst dX0_work_64 (pc' := 65) rfl (v := 1) (by decide) ?_
    refine V.iadd dX0_work_65 (pc' := 66) rfl ?_
    obtain ⟨c3, e⟩ := gd_s e
    refine V.iald dX0_work_66 (pc' := 67) rfl (akX0_1 hr).1 (akX0_1 hr).2 (inb_t c3) ?_
    refine V.ilq dX0_work_67 (pc' := 68) rfl (j := 3) rfl ?_
    refine V.iadd dX0_work_68 (pc' := 69) rfl ?_
    refine V.alq dX0_work_69 (pc' := 70) rfl (j := 1) rfl ?_
    refine V.getr dX0_work_70 (pc' := 73) rfl FL_X0_9 hr (by decide) rfl (r' := r + 1) rfl ?_
    refine V.il dX0_work_73 (pc' := 75) rfl (j := 6) rfl ?_
    obtain ⟨c4, e⟩ := gd_s e
    refine V.iald dX0_work_75 (pc' := 76) rfl (akX0_1 hr).1 (akX0_1 hr).2 (inb_t c4) ?_
    refine V.ilq dX0_work_76 (pc' := 77) rfl (j := 3) rfl ?_
    refine V.iadd dX0_work_77 (pc' := 78) rfl ?_
    obtain ⟨q5, eq5, e⟩ := bd_s e
    refine V.callVi dX0_work_78 (pc' := 81) rfl CV_X0_35 (as := [.int (1 : Int32), .int ((h.1 (r + 1) (v5 + (1 : Int32)).toNatClampNeg) + v2), .int ((h.1 (r + 1) v5.toNatClampNeg) + v2)]) (kX1_capThrough h a1 (1 : Int32) ((h.1 (r + 1) (v5 + (1 : Int32)).toNatClampNeg) + v2) ((h.1 (r + 1) v5.toNatClampNeg) + v2) q5 eq5) (Gs_rm (by decide)) ha1 (by decide) rfl (Nat.le_of_ble_eq_true rfl) rfl ?_
    refine V.pk [1, 2, 3, 4, 5, 6, 0] rfl ?_
    exact vX0_work_c81 k14 hk14 q5.2 r a1 v2 v3 v4 v5 t0 q5.1 v5 hr ha1 q e
  · rw [if_neg c] at e
    refine V.iconst dX0_work_52 (pc' := 53) rfl (v := 0) (by decide) ?_
    refine V.goto dX0_work_53 (pc' := 81) (by decide) ?_
    refine V.pk [1, 2, 3, 4, 5, 6, 0] rfl ?_
    exact vX0_work_c81 k14 hk14 h r a1 v2 v3 v4 v5 t0 (0 : Int32) v5 hr ha1 q e
def sX0_work_c160 (k160 : Hp → Nat → Int32 → Option Hp) (h : Hp) (r : Nat) (v5 : Int32) : Option Hp :=
  if (h.1 r 4) ≤ v5 then (some h) else (gd (inb v5 20) (gd (inb v5 20) (nm (u1 h (r + 2) v5.toNatClampNeg ((h.1 (r + 2) v5.toNatClampNeg) + (h.1 r 5))) fun h21 => nm (v5 + (1 : Int32)) fun x22 => k160 h21 r x22)))
set_option maxRecDepth 10000 in
theorem vX0_work_c160 (k160 : Hp → Nat → Int32 → Option Hp) (hk160 : ∀ (h : Hp) (r : Nat) (v5 : Int32) (hr : ck r = 0) (q : Hp), k160 h r v5 = some q → V (Gs 3 (pV q)) mX0_work (0, 0) 160 [(0, .ref r), (5, .int v5)] [] h) (h : Hp) (r : Nat) (v5 : Int32) (hr : ck r = 0) (q : Hp) (e : sX0_work_c160 k160 h r v5 = some q) : V (Gs 3 (pV q)) mX0_work (0, 0) 160 [(0, .ref r), (5, .int v5)] [] h := by
  unfold sX0_work_c160 at e
  refine V.il dX0_work_160 (pc' := 162) rfl (j := 1) rfl ?_
  refine V.alq dX0_work_162 (pc' := 163) rfl (j := 0) rfl ?_
  refine V.getf dX0_work_163 (pc' := 166) rfl FL_X0_24 hr (by decide) rfl ?_
  refine V.ic_ge dX0_work_166 (pc' := 169) rfl (tgt := 189) (by decide) (fun c => ?_) (fun c => ?_)
  · rw [if_pos c] at e
    exact V.vret dX0_work_189 rfl (fnV e)
  · rw [if_neg c] at e
    refine V.alq dX0_work_169 (pc' := 170) rfl (j := 0) rfl ?_
    refine V.getr dX0_work_170 (pc' := 173) rfl FL_X0_15 hr (by decide) rfl (r' := r + 2) rfl ?_
    refine V.il dX0_work_173 (pc' := 175) rfl (j := 1) rfl ?_
    refine V.dup2 dX0_work_175 (pc' := 176) rfl rfl rfl ?_
    obtain ⟨c19, e⟩ := gd_s e
    refine V.iald dX0_work_176 (pc' := 177) rfl (akX0_2 hr).1 (akX0_2 hr).2 (inb_t c19) ?_
    refine V.alq dX0_work_177 (pc' := 178) rfl (j := 0) rfl ?_
    refine V.getf dX0_work_178 (pc' := 181) rfl FL_X0_28 hr (by decide) rfl ?_
    refine V.iadd dX0_work_181 (pc' := 182) rfl ?_
    obtain ⟨c20, e⟩ := gd_s e
    obtain ⟨h21, eh21, e⟩ := nm_s e
    refine V.iast dX0_work_182 (pc' := 183) rfl (akX0_2 hr).1 (akX0_2 hr).2 (inb_t c20) eh21 ?_
    obtain ⟨x22, ex22, e⟩ := nm_s e
    refine V.iinc dX0_work_183 (pc' := 186) rfl (j := 1) rfl (v := 1) (by decide) (by decide) ex22 (L' := [(5, .int x22), (0, .ref r)]) rfl ?_
    refine V.goto dX0_work_186 (pc' := 160) (by decide) ?_
    refine V.pk [1, 0] rfl ?_
    exact hk160 h21 r x22 hr q e
def sX0_work_b160 : Nat → Hp → Nat → Int32 → Option Hp
  | 0 => fun _ _ _ => none
  | n + 1 => sX0_work_c160 (sX0_work_b160 n)
theorem vX0_work_b160 : ∀ (n : Nat) (h : Hp) (r : Nat) (v5 : Int32) (hr : ck r = 0) (q : Hp), sX0_work_b160 n h r v5 = some q → V (Gs 3 (pV q)) mX0_work (0, 0) 160 [(0, .ref r), (5, .int v5)] [] h
  | 0 => fun _ _ _ _ _ e => by cases e
  | n + 1 => fun h r v5 hr q e => vX0_work_c160 (sX0_work_b160 n) (vX0_work_b160 n) h r v5 hr q e
def sX0_work_c14 (k14 : Hp → Nat → Nat → Int32 → Int32 → Int32 → Int32 → Option Hp) (h : Hp) (r : Nat) (a1 : Nat) (v2 : Int32) (v3 : Int32) (v4 : Int32) (v5 : Int32) : Option Hp :=
  if (h.1 r 4) ≤ v5 then (nm (u1 h r 5 (-v4)) fun h2 => sX0_work_b160 FU h2 r (0 : Int32)) else (if v5 = ((h.1 r 4) - (1 : Int32)) then (sX0_work_c39 k14 h r a1 v2 v3 v4 v5 (1 : Int32)) else (sX0_work_c39 k14 h r a1 v2 v3 v4 v5 (0 : Int32)))
set_option maxRecDepth 10000 in
theorem vX0_work_c14 (k14 : Hp → Nat → Nat → Int32 → Int32 → Int32 → Int32 → Option Hp) (hk14 : ∀ (h : Hp) (r : Nat) (a1 : Nat) (v2 : Int32) (v3 : Int32) (v4 : Int32) (v5 : Int32) (hr : ck r = 0) (ha1 : ck a1 = 1) (q : Hp), k14 h r a1 v2 v3 v4 v5 = some q → V (Gs 3 (pV q)) mX0_work (0, 0) 14 [(0, .ref r), (1, .ref a1), (2, .int v2), (3, .int v3), (4, .int v4), (5, .int v5)] [] h) (h : Hp) (r : Nat) (a1 : Nat) (v2 : Int32) (v3 : Int32) (v4 : Int32) (v5 : Int32) (hr : ck r = 0) (ha1 : ck a1 = 1) (q : Hp) (e : sX0_work_c14 k14 h r a1 v2 v3 v4 v5 = some q) : V (Gs 3 (pV q)) mX0_work (0, 0) 14 [(0, .ref r), (1, .ref a1), (2, .int v2), (3, .int v3), (4, .int v4), (5, .int v5)] [] h := by
  unfold sX0_work_c14 at e
  refine V.il dX0_work_14 (pc' := 16) rfl (j := 5) rfl ?_
  refine V.alq dX0_work_16 (pc' := 17) rfl (j := 0) rfl ?_
  refine V.getf dX0_work_17 (pc' := 20) rfl FL_X0_24 hr (by decide) rfl ?_
  refine V.ic_ge dX0_work_20 (pc' := 23) rfl (tgt := 150) (by decide) (fun c => ?_) (fun c => ?_)
  · rw [if_pos c] at e
    refine V.alq dX0_work_150 (pc' := 151) rfl (j := 0) rfl ?_
    refine V.il dX0_work_151 (pc' := 153) rfl (j := 4) rfl ?_
    refine V.ineg dX0_work_153 (pc' := 154) rfl ?_
    obtain ⟨h2, eh2, e⟩ := nm_s e
    refine V.putf dX0_work_154 (pc' := 157) rfl FP_X0_28 hr (by decide) rfl eh2 ?_
    refine V.iconst dX0_work_157 (pc' := 158) rfl (v := 0) (by decide) ?_
    refine V.is dX0_work_158 (pc' := 160) rfl (by decide) rfl (L' := [(5, .int (0 : Int32)), (0, .ref r), (1, .ref a1), (2, .int v2), (3, .int v3), (4, .int v4)]) rfl ?_
    refine V.pk [1, 0] rfl ?_
    exact vX0_work_b160 FU h2 r (0 : Int32) hr q e
  · rw [if_neg c] at e
    refine V.il dX0_work_23 (pc' := 25) rfl (j := 5) rfl ?_
    refine V.alq dX0_work_25 (pc' := 26) rfl (j := 0) rfl ?_
    refine V.getf dX0_work_26 (pc' := 29) rfl FL_X0_24 hr (by decide) rfl ?_
    refine V.iconst dX0_work_29 (pc' := 30) rfl (v := 1) (by decide) ?_
    refine V.isub dX0_work_30 (pc' := 31) rfl ?_
    refine V.ic_ne dX0_work_31 (pc' := 34) rfl (tgt := 38) (by decide) (fun c => ?_) (fun c => ?_)
    · rw [if_neg c] at e
      refine V.iconst dX0_work_38 (pc' := 39) rfl (v := 0) (by decide) ?_
      exact vX0_work_c39 k14 hk14 h r a1 v2 v3 v4 v5 (0 : Int32) hr ha1 q e
    · rw [if_pos c] at e
      refine V.iconst dX0_work_34 (pc' := 35) rfl (v := 1) (by decide) ?_
      refine V.goto dX0_work_35 (pc' := 39) (by decide) ?_
      exact vX0_work_c39 k14 hk14 h r a1 v2 v3 v4 v5 (1 : Int32) hr ha1 q e
def sX0_work_b14 : Nat → Hp → Nat → Nat → Int32 → Int32 → Int32 → Int32 → Option Hp
  | 0 => fun _ _ _ _ _ _ _ => none
  | n + 1 => sX0_work_c14 (sX0_work_b14 n)
theorem vX0_work_b14 : ∀ (n : Nat) (h : Hp) (r : Nat) (a1 : Nat) (v2 : Int32) (v3 : Int32) (v4 : Int32) (v5 : Int32) (hr : ck r = 0) (ha1 : ck a1 = 1) (q : Hp), sX0_work_b14 n h r a1 v2 v3 v4 v5 = some q → V (Gs 3 (pV q)) mX0_work (0, 0) 14 [(0, .ref r), (1, .ref a1), (2, .int v2), (3, .int v3), (4, .int v4), (5, .int v5)] [] h
  | 0 => fun _ _ _ _ _ _ _ _ _ _ e => by cases e
  | n + 1 => fun h r a1 v2 v3 v4 v5 hr ha1 q e => vX0_work_c14 (sX0_work_b14 n) (vX0_work_b14 n) h r a1 v2 v3 v4 v5 hr ha1 q e
def sX0_work (h : Hp) (r : Nat) (a1 : Nat) (a2 : Int32) : Option Hp :=
  gd (isC r 0) (gd (isC a1 1) ((sX0_placeBorders h r a1 a2).bind fun q1 => sX0_work_b14 FU q1 r a1 a2 (0 : Int32) (0 : Int32) (0 : Int32)))
set_option maxRecDepth 10000 in
theorem kX0_work (h : Hp) (r : Nat) (a1 : Nat) (a2 : Int32) (q : Hp) (e : sX0_work h r a1 a2 = some q) : K 3 mX0_work [.ref r, .ref a1, .int a2] h (pV q) := by
  unfold sX0_work at e
  obtain ⟨hr, e⟩ := gd_s e
  have hr := isC_t hr
  obtain ⟨ha1, e⟩ := gd_s e
  have ha1 := isC_t ha1
  refine K.ofV (by decide) rfl (Nat.le_of_ble_eq_true rfl) ?_
  show V (Gs 3 (pV q)) mX0_work (0, 0) 0 [(0, .ref r), (1, .ref a1), (2, .int a2)] [] h
  refine V.alq dX0_work_0 (pc' := 1) rfl (j := 0) rfl ?_
  refine V.alq dX0_work_1 (pc' := 2) rfl (j := 1) rfl ?_
  refine V.ilq dX0_work_2 (pc' := 3) rfl (j := 2) rfl ?_
  obtain ⟨q1, eq1, e⟩ := bd_s e
  refine V.callVv dX0_work_3 (pc' := 6) rfl CV_X0_31 (as := [.ref a1, .int a2]) (kX0_placeBorders h r a1 a2 q1 eq1) (Gs_rm (by decide)) hr (by decide) rfl (Nat.le_of_ble_eq_true rfl) rfl ?_
  refine V.iconst dX0_work_6 (pc' := 7) rfl (v := 0) (by decide) ?_
  refine V.isq dX0_work_7 (pc' := 8) rfl (by decide) rfl (L' := [(3, .int (0 : Int32)), (0, .ref r), (1, .ref a1), (2, .int a2)]) rfl ?_
  refine V.iconst dX0_work_8 (pc' := 9) rfl (v := 0) (by decide) ?_
  refine V.is dX0_work_9 (pc' := 11) rfl (by decide) rfl (L' := [(4, .int (0 : Int32)), (3, .int (0 : Int32)), (0, .ref r), (1, .ref a1), (2, .int a2)]) rfl ?_
  refine V.iconst dX0_work_11 (pc' := 12) rfl (v := 0) (by decide) ?_
  refine V.is dX0_work_12 (pc' := 14) rfl (by decide) rfl (L' := [(5, .int (0 : Int32)), (4, .int (0 : Int32)), (3, .int (0 : Int32)), (0, .ref r), (1, .ref a1), (2, .int a2)]) rfl ?_
  refine V.pk [3, 4, 5, 2, 1, 0] rfl ?_
  exact vX0_work_b14 FU q1 r a1 a2 (0 : Int32) (0 : Int32) (0 : Int32) hr ha1 q e

-- X2_isWide (level 3)
theorem dX2_isWide_0 : decode cX2_isWide 0 = .ok (.aload_n 0, 1) := by decide +kernel
theorem dX2_isWide_1 : decode cX2_isWide 1 = .ok (.iload_n 1, 1) := by decide +kernel
theorem dX2_isWide_2 : decode cX2_isWide 2 = .ok (.iload_n 2, 1) := by decide +kernel
theorem dX2_isWide_3 : decode cX2_isWide 3 = .ok (.iload_n 3, 1) := by decide +kernel
theorem dX2_isWide_4 : decode cX2_isWide 4 = .ok (.iload 4, 2) := by decide +kernel
theorem dX2_isWide_6 : decode cX2_isWide 6 = .ok (.invokevirtual 107, 3) := by decide +kernel
theorem dX2_isWide_9 : decode cX2_isWide 9 = .ok (.ifCond .lt 7, 3) := by decide +kernel
theorem dX2_isWide_12 : decode cX2_isWide 12 = .ok (.iconst 1, 1) := by decide +kernel
theorem dX2_isWide_13 : decode cX2_isWide 13 = .ok (.goto 4, 3) := by decide +kernel
theorem dX2_isWide_16 : decode cX2_isWide 16 = .ok (.iconst 0, 1) := by decide +kernel
theorem dX2_isWide_17 : decode cX2_isWide 17 = .ok (.ireturn, 1) := by decide +kernel
def sX2_isWide_c17 (h : Hp) (t0 : Int32) : Option (Int32 × Hp) :=
  gd (zb t0) (some (t0, h))
set_option maxRecDepth 10000 in
theorem vX2_isWide_c17 (h : Hp) (t0 : Int32) (q : (Int32 × Hp)) (e : sX2_isWide_c17 h t0 = some q) : V (Gs 3 (pI q)) mX2_isWide (0, 0) 17 [] [.int t0] h := by
  unfold sX2_isWide_c17 at e
  obtain ⟨c2, e⟩ := gd_s e
  exact V.zret dX2_isWide_17 rfl (zb_t c2) (fnI e)
def sX2_isWide (h : Hp) (r : Nat) (a1 : Int32) (a2 : Int32) (a3 : Int32) (a4 : Int32) : Option (Int32 × Hp) :=
  gd (isC r 2) ((sX2_spare h r a1 a2 a3 a4).bind fun q1 => if q1.1 < 0 then (sX2_isWide_c17 q1.2 (0 : Int32)) else (sX2_isWide_c17 q1.2 (1 : Int32)))
set_option maxRecDepth 10000 in
theorem kX2_isWide (h : Hp) (r : Nat) (a1 : Int32) (a2 : Int32) (a3 : Int32) (a4 : Int32) (q : (Int32 × Hp)) (e : sX2_isWide h r a1 a2 a3 a4 = some q) : K 3 mX2_isWide [.ref r, .int a1, .int a2, .int a3, .int a4] h (pI q) := by
  unfold sX2_isWide at e
  obtain ⟨hr, e⟩ := gd_s e
  have hr := isC_t hr
  refine K.ofV (by decide) rfl (Nat.le_of_ble_eq_true rfl) ?_
  show V (Gs 3 (pI q)) mX2_isWide (0, 0) 0 [(0, .ref r), (1, .int a1), (2, .int a2), (3, .int a3), (4, .int a4)] [] h
  refine V.alq dX2_isWide_0 (pc' := 1) rfl (j := 0) rfl ?_
  refine V.ilq dX2_isWide_1 (pc' := 2) rfl (j := 1) rfl ?_
  refine V.ilq dX2_isWide_2 (pc' := 3) rfl (j := 2) rfl ?_
  refine V.ilq dX2_isWide_3 (pc' := 4) rfl (j := 3) rfl ?_
  refine V.il dX2_isWide_4 (pc' := 6) rfl (j := 4) rfl ?_
  obtain ⟨q1, eq1, e⟩ := bd_s e
  refine V.callVi dX2_isWide_6 (pc' := 9) rfl CV_X2_107 (as := [.int a1, .int a2, .int a3, .int a4]) (kX2_spare h r a1 a2 a3 a4 q1 eq1) (Gs_rm (by decide)) hr (by decide) rfl (Nat.le_of_ble_eq_true rfl) rfl ?_
  refine V.if_lt dX2_isWide_9 (pc' := 12) rfl (tgt := 16) (by decide) (fun c => ?_) (fun c => ?_)
  · rw [if_pos c] at e
    refine V.iconst dX2_isWide_16 (pc' := 17) rfl (v := 0) (by decide) ?_
    refine V.pk [] rfl ?_
    exact vX2_isWide_c17 q1.2 (0 : Int32) q e
  · rw [if_neg c] at e
    refine V.iconst dX2_isWide_12 (pc' := 13) rfl (v := 1) (by decide) ?_
    refine V.goto dX2_isWide_13 (pc' := 17) (by decide) ?_
    refine V.pk [] rfl ?_
    exact vX2_isWide_c17 q1.2 (1 : Int32) q e

-- X2_greatestLoad (level 3)
theorem dX2_greatestLoad_0 : decode cX2_greatestLoad 0 = .ok (.aload_n 0, 1) := by decide +kernel
theorem dX2_greatestLoad_1 : decode cX2_greatestLoad 1 = .ok (.iload_n 1, 1) := by decide +kernel
theorem dX2_greatestLoad_2 : decode cX2_greatestLoad 2 = .ok (.iload_n 2, 1) := by decide +kernel
theorem dX2_greatestLoad_3 : decode cX2_greatestLoad 3 = .ok (.aload_n 0, 1) := by decide +kernel
theorem dX2_greatestLoad_4 : decode cX2_greatestLoad 4 = .ok (.getfield 38, 3) := by decide +kernel
theorem dX2_greatestLoad_7 : decode cX2_greatestLoad 7 = .ok (.iload_n 1, 1) := by decide +kernel
theorem dX2_greatestLoad_8 : decode cX2_greatestLoad 8 = .ok (.iaload, 1) := by decide +kernel
theorem dX2_greatestLoad_9 : decode cX2_greatestLoad 9 = .ok (.aload_n 0, 1) := by decide +kernel
theorem dX2_greatestLoad_10 : decode cX2_greatestLoad 10 = .ok (.getfield 38, 3) := by decide +kernel
theorem dX2_greatestLoad_13 : decode cX2_greatestLoad 13 = .ok (.iload_n 2, 1) := by decide +kernel
theorem dX2_greatestLoad_14 : decode cX2_greatestLoad 14 = .ok (.iaload, 1) := by decide +kernel
theorem dX2_greatestLoad_15 : decode cX2_greatestLoad 15 = .ok (.invokevirtual 107, 3) := by decide +kernel
theorem dX2_greatestLoad_18 : decode cX2_greatestLoad 18 = .ok (.istore_n 3, 1) := by decide +kernel
theorem dX2_greatestLoad_19 : decode cX2_greatestLoad 19 = .ok (.iload_n 3, 1) := by decide +kernel
theorem dX2_greatestLoad_20 : decode cX2_greatestLoad 20 = .ok (.ifCond .ge 5, 3) := by decide +kernel
theorem dX2_greatestLoad_23 : decode cX2_greatestLoad 23 = .ok (.iconst 0, 1) := by decide +kernel
theorem dX2_greatestLoad_24 : decode cX2_greatestLoad 24 = .ok (.ireturn, 1) := by decide +kernel
theorem dX2_greatestLoad_25 : decode cX2_greatestLoad 25 = .ok (.aload_n 0, 1) := by decide +kernel
theorem dX2_greatestLoad_26 : decode cX2_greatestLoad 26 = .ok (.iload_n 1, 1) := by decide +kernel
theorem dX2_greatestLoad_27 : decode cX2_greatestLoad 27 = .ok (.invokevirtual 93, 3) := by decide +kernel
theorem dX2_greatestLoad_30 : decode cX2_greatestLoad 30 = .ok (.aload_n 0, 1) := by decide +kernel
theorem dX2_greatestLoad_31 : decode cX2_greatestLoad 31 = .ok (.iload_n 2, 1) := by decide +kernel
theorem dX2_greatestLoad_32 : decode cX2_greatestLoad 32 = .ok (.invokevirtual 93, 3) := by decide +kernel
theorem dX2_greatestLoad_35 : decode cX2_greatestLoad 35 = .ok (.invokestatic 87, 3) := by decide +kernel
theorem dX2_greatestLoad_38 : decode cX2_greatestLoad 38 = .ok (.istore 4, 2) := by decide +kernel
theorem dX2_greatestLoad_40 : decode cX2_greatestLoad 40 = .ok (.aload_n 0, 1) := by decide +kernel
theorem dX2_greatestLoad_41 : decode cX2_greatestLoad 41 = .ok (.getfield 65, 3) := by decide +kernel
theorem dX2_greatestLoad_44 : decode cX2_greatestLoad 44 = .ok (.aload_n 0, 1) := by decide +kernel
theorem dX2_greatestLoad_45 : decode cX2_greatestLoad 45 = .ok (.getfield 25, 3) := by decide +kernel
theorem dX2_greatestLoad_48 : decode cX2_greatestLoad 48 = .ok (.iload_n 1, 1) := by decide +kernel
theorem dX2_greatestLoad_49 : decode cX2_greatestLoad 49 = .ok (.iaload, 1) := by decide +kernel
theorem dX2_greatestLoad_50 : decode cX2_greatestLoad 50 = .ok (.aload_n 0, 1) := by decide +kernel
theorem dX2_greatestLoad_51 : decode cX2_greatestLoad 51 = .ok (.getfield 25, 3) := by decide +kernel
theorem dX2_greatestLoad_54 : decode cX2_greatestLoad 54 = .ok (.iload_n 2, 1) := by decide +kernel
theorem dX2_greatestLoad_55 : decode cX2_greatestLoad 55 = .ok (.iaload, 1) := by decide +kernel
theorem dX2_greatestLoad_56 : decode cX2_greatestLoad 56 = .ok (.isub, 1) := by decide +kernel
theorem dX2_greatestLoad_57 : decode cX2_greatestLoad 57 = .ok (.imul, 1) := by decide +kernel
theorem dX2_greatestLoad_58 : decode cX2_greatestLoad 58 = .ok (.istore 5, 2) := by decide +kernel
theorem dX2_greatestLoad_60 : decode cX2_greatestLoad 60 = .ok (.iload 5, 2) := by decide +kernel
theorem dX2_greatestLoad_62 : decode cX2_greatestLoad 62 = .ok (.ifCond .le 15, 3) := by decide +kernel
theorem dX2_greatestLoad_65 : decode cX2_greatestLoad 65 = .ok (.iload 4, 2) := by decide +kernel
theorem dX2_greatestLoad_67 : decode cX2_greatestLoad 67 = .ok (.iload_n 3, 1) := by decide +kernel
theorem dX2_greatestLoad_68 : decode cX2_greatestLoad 68 = .ok (.iload 5, 2) := by decide +kernel
theorem dX2_greatestLoad_70 : decode cX2_greatestLoad 70 = .ok (.idiv, 1) := by decide +kernel
theorem dX2_greatestLoad_71 : decode cX2_greatestLoad 71 = .ok (.invokestatic 87, 3) := by decide +kernel
theorem dX2_greatestLoad_74 : decode cX2_greatestLoad 74 = .ok (.goto 5, 3) := by decide +kernel
theorem dX2_greatestLoad_77 : decode cX2_greatestLoad 77 = .ok (.iload 4, 2) := by decide +kernel
theorem dX2_greatestLoad_79 : decode cX2_greatestLoad 79 = .ok (.ireturn, 1) := by decide +kernel
def sX2_greatestLoad_c79 (h : Hp) (t0 : Int32) : Option (Int32 × Hp) :=
  some (t0, h)
set_option maxRecDepth 10000 in
theorem vX2_greatestLoad_c79 (h : Hp) (t0 : Int32) (q : (Int32 × Hp)) (e : sX2_greatestLoad_c79 h t0 = some q) : V (Gs 3 (pI q)) mX2_greatestLoad (0, 0) 79 [] [.int t0] h := by
  unfold sX2_greatestLoad_c79 at e
  exact V.iret dX2_greatestLoad_79 rfl (fnI e)
def sX2_greatestLoad (h : Hp) (r : Nat) (a1 : Int32) (a2 : Int32) : Option (Int32 × Hp) :=
  gd (isC r 2) (gd (inb a1 10) (gd (inb a2 10) ((sX2_spare h r a1 a2 (h.1 (r + 7) a1.toNatClampNeg) (h.1 (r + 7) a2.toNatClampNeg)).bind fun q3 => if 0 ≤ q3.1 then ((sX2_rest q3.2 r a1).bind fun q4 => (sX2_rest q4.2 r a2).bind fun q5 => nm ((imin q4.1 q5.1)) fun x6 => gd (inb a1 10) (gd (inb a2 10) (nm (((q5.2.1 r 0) * ((q5.2.1 (r + 3) a1.toNatClampNeg) - (q5.2.1 (r + 3) a2.toNatClampNeg)))) fun x9 => if x9 ≤ 0 then (sX2_greatestLoad_c79 q5.2 x6) else (gd (nzI x9) (sX2_greatestLoad_c79 q5.2 (imin x6 (q3.1 / x9))))))) else (some ((0 : Int32), q3.2)))))
set_option maxRecDepth 10000 in
theorem kX2_greatestLoad (h : Hp) (r : Nat) (a1 : Int32) (a2 : Int32) (q : (Int32 × Hp)) (e : sX2_greatestLoad h r a1 a2 = some q) : K 3 mX2_greatestLoad [.ref r, .int a1, .int a2] h (pI q) := by
  unfold sX2_greatestLoad at e
  obtain ⟨hr, e⟩ := gd_s e
  have hr := isC_t hr
  refine K.ofV (by decide) rfl (Nat.le_of_ble_eq_true rfl) ?_
  show V (Gs 3 (pI q)) mX2_greatestLoad (0, 0) 0 [(0, .ref r), (1, .int a1), (2, .int a2)] [] h
  refine V.alq dX2_greatestLoad_0 (pc' := 1) rfl (j := 0) rfl ?_
  refine V.ilq dX2_greatestLoad_1 (pc' := 2) rfl (j := 1) rfl ?_
  refine V.ilq dX2_greatestLoad_2 (pc' := 3) rfl (j := 2) rfl ?_
  refine V.alq dX2_greatestLoad_3 (pc' := 4) rfl (j := 0) rfl ?_
  refine V.getr dX2_greatestLoad_4 (pc' := 7) rfl FL_X2_38 hr (by decide) rfl (r' := r + 7) rfl ?_
  refine V.ilq dX2_greatestLoad_7 (pc' := 8) rfl (j := 1) rfl ?_
  obtain ⟨c1, e⟩ := gd_s e
  refine V.iald dX2_greatestLoad_8 (pc' := 9) rfl (akX2_7 hr).1 (akX2_7 hr).2 (inb_t c1) ?_
  refine V.alq dX2_greatestLoad_9 (pc' := 10) rfl (j := 0) rfl ?_
  refine V.getr dX2_greatestLoad_10 (pc' := 13) rfl FL_X2_38 hr (by decide) rfl (r' := r + 7) rfl ?_
  refine V.ilq dX2_greatestLoad_13 (pc' := 14) rfl (j := 2) rfl ?_
  obtain ⟨c2, e⟩ := gd_s e
  refine V.iald dX2_greatestLoad_14 (pc' := 15) rfl (akX2_7 hr).1 (akX2_7 hr).2 (inb_t c2) ?_
  obtain ⟨q3, eq3, e⟩ := bd_s e
  refine V.callVi dX2_greatestLoad_15 (pc' := 18) rfl CV_X2_107 (as := [.int a1, .int a2, .int (h.1 (r + 7) a1.toNatClampNeg), .int (h.1 (r + 7) a2.toNatClampNeg)]) (kX2_spare h r a1 a2 (h.1 (r + 7) a1.toNatClampNeg) (h.1 (r + 7) a2.toNatClampNeg) q3 eq3) (Gs_rm (by decide)) hr (by decide) rfl (Nat.le_of_ble_eq_true rfl) rfl ?_
  refine V.isq dX2_greatestLoad_18 (pc' := 19) rfl (by decide) rfl (L' := [(3, .int q3.1), (0, .ref r), (1, .int a1), (2, .int a2)]) rfl ?_
  refine V.ilq dX2_greatestLoad_19 (pc' := 20) rfl (j := 0) rfl ?_
  refine V.if_ge dX2_greatestLoad_20 (pc' := 23) rfl (tgt := 25) (by decide) (fun c => ?_) (fun c => ?_)
  · rw [if_pos c] at e
    refine V.alq dX2_greatestLoad_25 (pc' := 26) rfl (j := 1) rfl ?_
    refine V.ilq dX2_greatestLoad_26 (pc' := 27) rfl (j := 2) rfl ?_
    obtain ⟨q4, eq4, e⟩ := bd_s e
    refine V.callVi dX2_greatestLoad_27 (pc' := 30) rfl CV_X2_93 (as := [.int a1]) (kX2_rest q3.2 r a1 q4 eq4) (Gs_rm (by decide)) hr (by decide) rfl (Nat.le_of_ble_eq_true rfl) rfl ?_
    refine V.alq dX2_greatestLoad_30 (pc' := 31) rfl (j := 1) rfl ?_
    refine V.ilq dX2_greatestLoad_31 (pc' := 32) rfl (j := 3) rfl ?_
    obtain ⟨q5, eq5, e⟩ := bd_s e
    refine V.callVi dX2_greatestLoad_32 (pc' := 35) rfl CV_X2_93 (as := [.int a2]) (kX2_rest q4.2 r a2 q5 eq5) (Gs_rm (by decide)) hr (by decide) rfl (Nat.le_of_ble_eq_true rfl) rfl ?_
    refine V.mmin dX2_greatestLoad_35 (pc' := 38) rfl (Gs_rm (by decide)) ML_X2_87 MS_imin MI_Math MC_imin (Nat.le_of_ble_eq_true rfl) ?_
    obtain ⟨x6, ex6, e⟩ := nm_s e
    refine V.is dX2_greatestLoad_38 (pc' := 40) rfl (by decide) ex6 (L' := [(4, .int x6), (3, .int q3.1), (0, .ref r), (1, .int a1), (2, .int a2)]) rfl ?_
    refine V.alq dX2_greatestLoad_40 (pc' := 41) rfl (j := 2) rfl ?_
    refine V.getf dX2_greatestLoad_41 (pc' := 44) rfl FL_X2_65 hr (by decide) rfl ?_
    refine V.alq dX2_greatestLoad_44 (pc' := 45) rfl (j := 2) rfl ?_
    refine V.getr dX2_greatestLoad_45 (pc' := 48) rfl FL_X2_25 hr (by decide) rfl (r' := r + 3) rfl ?_
    refine V.ilq dX2_greatestLoad_48 (pc' := 49) rfl (j := 3) rfl ?_
    obtain ⟨c7, e⟩ := gd_s e
    refine V.iald dX2_greatestLoad_49 (pc' := 50) rfl (akX2_3 hr).1 (akX2_3 hr).2 (inb_t c7) ?_
    refine V.alq dX2_greatestLoad_50 (pc' := 51) rfl (j := 2) rfl ?_
    refine V.getr dX2_greatestLoad_51 (pc' := 54) rfl FL_X2_25 hr (by decide) rfl (r' := r + 3) rfl ?_
    refine V.ilq dX2_greatestLoad_54 (pc' := 55) rfl (j := 4) rfl ?_
    obtain ⟨c8, e⟩ := gd_s e
    refine V.iald dX2_greatestLoad_55 (pc' := 56) rfl (akX2_3 hr).1 (akX2_3 hr).2 (inb_t c8) ?_
    refine V.isub dX2_greatestLoad_56 (pc' := 57) rfl ?_
    refine V.imul dX2_greatestLoad_57 (pc' := 58) rfl ?_
    obtain ⟨x9, ex9, e⟩ := nm_s e
    refine V.is dX2_greatestLoad_58 (pc' := 60) rfl (by decide) ex9 (L' := [(5, .int x9), (4, .int x6), (3, .int q3.1), (0, .ref r), (1, .int a1), (2, .int a2)]) rfl ?_
    refine V.il dX2_greatestLoad_60 (pc' := 62) rfl (j := 0) rfl ?_
    refine V.if_le dX2_greatestLoad_62 (pc' := 65) rfl (tgt := 77) (by decide) (fun c => ?_) (fun c => ?_)
    · rw [if_pos c] at e
      refine V.il dX2_greatestLoad_77 (pc' := 79) rfl (j := 1) rfl ?_
      refine V.pk [] rfl ?_
      exact vX2_greatestLoad_c79 q5.2 x6 q e
    · rw [if_neg c] at e
      refine V.il dX2_greatestLoad_65 (pc' := 67) rfl (j := 1) rfl ?_
      refine V.ilq dX2_greatestLoad_67 (pc' := 68) rfl (j := 2) rfl ?_
      refine V.il dX2_greatestLoad_68 (pc' := 70) rfl (j := 0) rfl ?_
      obtain ⟨c10, e⟩ := gd_s e
      refine V.idiv dX2_greatestLoad_70 (pc' := 71) rfl (nzI_t c10) ?_
      refine V.mmin dX2_greatestLoad_71 (pc' := 74) rfl (Gs_rm (by decide)) ML_X2_87 MS_imin MI_Math MC_imin (Nat.le_of_ble_eq_true rfl) ?_
      refine V.goto dX2_greatestLoad_74 (pc' := 79) (by decide) ?_
      refine V.pk [] rfl ?_
      exact vX2_greatestLoad_c79 q5.2 (imin x6 (q3.1 / x9)) q e
  · rw [if_neg c] at e
    refine V.iconst dX2_greatestLoad_23 (pc' := 24) rfl (v := 0) (by decide) ?_
    exact V.iret dX2_greatestLoad_24 rfl (fnI e)

-- X2_areaOf (level 3)
theorem dX2_areaOf_0 : decode cX2_areaOf 0 = .ok (.aload_n 0, 1) := by decide +kernel
theorem dX2_areaOf_1 : decode cX2_areaOf 1 = .ok (.iload_n 1, 1) := by decide +kernel
theorem dX2_areaOf_2 : decode cX2_areaOf 2 = .ok (.iconst 0, 1) := by decide +kernel
theorem dX2_areaOf_3 : decode cX2_areaOf 3 = .ok (.invokevirtual 125, 3) := by decide +kernel
theorem dX2_areaOf_6 : decode cX2_areaOf 6 = .ok (.aload_n 0, 1) := by decide +kernel
theorem dX2_areaOf_7 : decode cX2_areaOf 7 = .ok (.iload_n 1, 1) := by decide +kernel
theorem dX2_areaOf_8 : decode cX2_areaOf 8 = .ok (.iconst 1, 1) := by decide +kernel
theorem dX2_areaOf_9 : decode cX2_areaOf 9 = .ok (.invokevirtual 125, 3) := by decide +kernel
theorem dX2_areaOf_12 : decode cX2_areaOf 12 = .ok (.iadd, 1) := by decide +kernel
theorem dX2_areaOf_13 : decode cX2_areaOf 13 = .ok (.istore_n 2, 1) := by decide +kernel
theorem dX2_areaOf_14 : decode cX2_areaOf 14 = .ok (.iload_n 2, 1) := by decide +kernel
theorem dX2_areaOf_15 : decode cX2_areaOf 15 = .ok (.ifCond .gt 6, 3) := by decide +kernel
theorem dX2_areaOf_18 : decode cX2_areaOf 18 = .ok (.bipush (-2), 2) := by decide +kernel
theorem dX2_areaOf_20 : decode cX2_areaOf 20 = .ok (.ireturn, 1) := by decide +kernel
theorem dX2_areaOf_21 : decode cX2_areaOf 21 = .ok (.iconst 2, 1) := by decide +kernel
theorem dX2_areaOf_22 : decode cX2_areaOf 22 = .ok (.aload_n 0, 1) := by decide +kernel
theorem dX2_areaOf_23 : decode cX2_areaOf 23 = .ok (.getfield 47, 3) := by decide +kernel
theorem dX2_areaOf_26 : decode cX2_areaOf 26 = .ok (.iload_n 1, 1) := by decide +kernel
theorem dX2_areaOf_27 : decode cX2_areaOf 27 = .ok (.iaload, 1) := by decide +kernel
theorem dX2_areaOf_28 : decode cX2_areaOf 28 = .ok (.imul, 1) := by decide +kernel
theorem dX2_areaOf_29 : decode cX2_areaOf 29 = .ok (.aload_n 0, 1) := by decide +kernel
theorem dX2_areaOf_30 : decode cX2_areaOf 30 = .ok (.aload_n 0, 1) := by decide +kernel
theorem dX2_areaOf_31 : decode cX2_areaOf 31 = .ok (.getfield 41, 3) := by decide +kernel
theorem dX2_areaOf_34 : decode cX2_areaOf 34 = .ok (.iload_n 1, 1) := by decide +kernel
theorem dX2_areaOf_35 : decode cX2_areaOf 35 = .ok (.iaload, 1) := by decide +kernel
theorem dX2_areaOf_36 : decode cX2_areaOf 36 = .ok (.aload_n 0, 1) := by decide +kernel
theorem dX2_areaOf_37 : decode cX2_areaOf 37 = .ok (.getfield 44, 3) := by decide +kernel
theorem dX2_areaOf_40 : decode cX2_areaOf 40 = .ok (.iload_n 1, 1) := by decide +kernel
theorem dX2_areaOf_41 : decode cX2_areaOf 41 = .ok (.iaload, 1) := by decide +kernel
theorem dX2_areaOf_42 : decode cX2_areaOf 42 = .ok (.invokevirtual 100, 3) := by decide +kernel
theorem dX2_areaOf_45 : decode cX2_areaOf 45 = .ok (.imul, 1) := by decide +kernel
theorem dX2_areaOf_46 : decode cX2_areaOf 46 = .ok (.istore_n 3, 1) := by decide +kernel
theorem dX2_areaOf_47 : decode cX2_areaOf 47 = .ok (.iload_n 3, 1) := by decide +kernel
theorem dX2_areaOf_48 : decode cX2_areaOf 48 = .ok (.iload_n 2, 1) := by decide +kernel
theorem dX2_areaOf_49 : decode cX2_areaOf 49 = .ok (.iadd, 1) := by decide +kernel
theorem dX2_areaOf_50 : decode cX2_areaOf 50 = .ok (.iconst 1, 1) := by decide +kernel
theorem dX2_areaOf_51 : decode cX2_areaOf 51 = .ok (.isub, 1) := by decide +kernel
theorem dX2_areaOf_52 : decode cX2_areaOf 52 = .ok (.iload_n 2, 1) := by decide +kernel
theorem dX2_areaOf_53 : decode cX2_areaOf 53 = .ok (.idiv, 1) := by decide +kernel
theorem dX2_areaOf_54 : decode cX2_areaOf 54 = .ok (.ireturn, 1) := by decide +kernel
def sX2_areaOf (h : Hp) (r : Nat) (a1 : Int32) : Option (Int32 × Hp) :=
  gd (isC r 2) ((sX2_widthOf h r a1 (0 : Int32)).bind fun q1 => (sX2_widthOf q1.2 r a1 (1 : Int32)).bind fun q2 => nm ((q1.1 + q2.1)) fun x3 => if 0 < x3 then (gd (inb a1 24) (gd (inb a1 24) (gd (inb a1 24) ((sX2_unit q2.2 r (q2.2.1 (r + 8) a1.toNatClampNeg) (q2.2.1 (r + 9) a1.toNatClampNeg)).bind fun q7 => nm ((((2 : Int32) * (q2.2.1 (r + 10) a1.toNatClampNeg)) * q7.1)) fun x8 => gd (nzI x3) (some ((((x8 + x3) - (1 : Int32)) / x3), q7.2)))))) else (some ((-2 : Int32), q2.2)))
set_option maxRecDepth 10000 in
theorem kX2_areaOf (h : Hp) (r : Nat) (a1 : Int32) (q : (Int32 × Hp)) (e : sX2_areaOf h r a1 = some q) : K 3 mX2_areaOf [.ref r, .int a1] h (pI q) := by
  unfold sX2_areaOf at e
  obtain ⟨hr, e⟩ := gd_s e
  have hr := isC_t hr
  refine K.ofV (by decide) rfl (Nat.le_of_ble_eq_true rfl) ?_
  show V (Gs 3 (pI q)) mX2_areaOf (0, 0) 0 [(0, .ref r), (1, .int a1)] [] h
  refine V.alq dX2_areaOf_0 (pc' := 1) rfl (j := 0) rfl ?_
  refine V.ilq dX2_areaOf_1 (pc' := 2) rfl (j := 1) rfl ?_
  refine V.iconst dX2_areaOf_2 (pc' := 3) rfl (v := 0) (by decide) ?_
  obtain ⟨q1, eq1, e⟩ := bd_s e
  refine V.callVi dX2_areaOf_3 (pc' := 6) rfl CV_X2_125 (as := [.int a1, .int (0 : Int32)]) (kX2_widthOf h r a1 (0 : Int32) q1 eq1) (Gs_rm (by decide)) hr (by decide) rfl (Nat.le_of_ble_eq_true rfl) rfl ?_
  refine V.alq dX2_areaOf_6 (pc' := 7) rfl (j := 0) rfl ?_
  refine V.ilq dX2_areaOf_7 (pc' := 8) rfl (j := 1) rfl ?_
  refine V.iconst dX2_areaOf_8 (pc' := 9) rfl (v := 1) (by decide) ?_
  obtain ⟨q2, eq2, e⟩ := bd_s e
  refine V.callVi dX2_areaOf_9 (pc' := 12) rfl CV_X2_125 (as := [.int a1, .int (1 : Int32)]) (kX2_widthOf q1.2 r a1 (1 : Int32) q2 eq2) (Gs_rm (by decide)) hr (by decide) rfl (Nat.le_of_ble_eq_true rfl) rfl ?_
  refine V.iadd dX2_areaOf_12 (pc' := 13) rfl ?_
  obtain ⟨x3, ex3, e⟩ := nm_s e
  refine V.isq dX2_areaOf_13 (pc' := 14) rfl (by decide) ex3 (L' := [(2, .int x3), (0, .ref r), (1, .int a1)]) rfl ?_
  refine V.ilq dX2_areaOf_14 (pc' := 15) rfl (j := 0) rfl ?_
  refine V.if_gt dX2_areaOf_15 (pc' := 18) rfl (tgt := 21) (by decide) (fun c => ?_) (fun c => ?_)
  · rw [if_pos c] at e
    refine V.iconst dX2_areaOf_21 (pc' := 22) rfl (v := 2) (by decide) ?_
    refine V.alq dX2_areaOf_22 (pc' := 23) rfl (j := 1) rfl ?_
    refine V.getr dX2_areaOf_23 (pc' := 26) rfl FL_X2_47 hr (by decide) rfl (r' := r + 10) rfl ?_
    refine V.ilq dX2_areaOf_26 (pc' := 27) rfl (j := 2) rfl ?_
    obtain ⟨c4, e⟩ := gd_s e
    refine V.iald dX2_areaOf_27 (pc' := 28) rfl (akX2_10 hr).1 (akX2_10 hr).2 (inb_t c4) ?_
    refine V.imul dX2_areaOf_28 (pc' := 29) rfl ?_
    refine V.alq dX2_areaOf_29 (pc' := 30) rfl (j := 1) rfl ?_
    refine V.alq dX2_areaOf_30 (pc' := 31) rfl (j := 1) rfl ?_
    refine V.getr dX2_areaOf_31 (pc' := 34) rfl FL_X2_41 hr (by decide) rfl (r' := r + 8) rfl ?_
    refine V.ilq dX2_areaOf_34 (pc' := 35) rfl (j := 2) rfl ?_
    obtain ⟨c5, e⟩ := gd_s e
    refine V.iald dX2_areaOf_35 (pc' := 36) rfl (akX2_8 hr).1 (akX2_8 hr).2 (inb_t c5) ?_
    refine V.alq dX2_areaOf_36 (pc' := 37) rfl (j := 1) rfl ?_
    refine V.getr dX2_areaOf_37 (pc' := 40) rfl FL_X2_44 hr (by decide) rfl (r' := r + 9) rfl ?_
    refine V.ilq dX2_areaOf_40 (pc' := 41) rfl (j := 2) rfl ?_
    obtain ⟨c6, e⟩ := gd_s e
    refine V.iald dX2_areaOf_41 (pc' := 42) rfl (akX2_9 hr).1 (akX2_9 hr).2 (inb_t c6) ?_
    obtain ⟨q7, eq7, e⟩ := bd_s e
    refine V.callVi dX2_areaOf_42 (pc' := 45) rfl CV_X2_100 (as := [.int (q2.2.1 (r + 8) a1.toNatClampNeg), .int (q2.2.1 (r + 9) a1.toNatClampNeg)]) (kX2_unit q2.2 r (q2.2.1 (r + 8) a1.toNatClampNeg) (q2.2.1 (r + 9) a1.toNatClampNeg) q7 eq7) (Gs_rm (by decide)) hr (by decide) rfl (Nat.le_of_ble_eq_true rfl) rfl ?_
    refine V.imul dX2_areaOf_45 (pc' := 46) rfl ?_
    obtain ⟨x8, ex8, e⟩ := nm_s e
    refine V.isq dX2_areaOf_46 (pc' := 47) rfl (by decide) ex8 (L' := [(3, .int x8), (2, .int x3), (0, .ref r), (1, .int a1)]) rfl ?_
    refine V.ilq dX2_areaOf_47 (pc' := 48) rfl (j := 0) rfl ?_
    refine V.ilq dX2_areaOf_48 (pc' := 49) rfl (j := 1) rfl ?_
    refine V.iadd dX2_areaOf_49 (pc' := 50) rfl ?_
    refine V.iconst dX2_areaOf_50 (pc' := 51) rfl (v := 1) (by decide) ?_
    refine V.isub dX2_areaOf_51 (pc' := 52) rfl ?_
    refine V.ilq dX2_areaOf_52 (pc' := 53) rfl (j := 1) rfl ?_
    obtain ⟨c9, e⟩ := gd_s e
    refine V.idiv dX2_areaOf_53 (pc' := 54) rfl (nzI_t c9) ?_
    exact V.iret dX2_areaOf_54 rfl (fnI e)
  · rw [if_neg c] at e
    refine V.bipush dX2_areaOf_18 (pc' := 20) rfl (v := -2) (by decide) ?_
    exact V.iret dX2_areaOf_20 rfl (fnI e)

-- X3_readInto (level 3)
theorem dX3_readInto_0 : decode cX3_readInto 0 = .ok (.aload_n 1, 1) := by decide +kernel
theorem dX3_readInto_1 : decode cX3_readInto 1 = .ok (.invokevirtual 28, 3) := by decide +kernel
theorem dX3_readInto_4 : decode cX3_readInto 4 = .ok (.aload_n 0, 1) := by decide +kernel
theorem dX3_readInto_5 : decode cX3_readInto 5 = .ok (.iconst 0, 1) := by decide +kernel
theorem dX3_readInto_6 : decode cX3_readInto 6 = .ok (.putfield 19, 3) := by decide +kernel
theorem dX3_readInto_9 : decode cX3_readInto 9 = .ok (.aload_n 0, 1) := by decide +kernel
theorem dX3_readInto_10 : decode cX3_readInto 10 = .ok (.iconst (-1), 1) := by decide +kernel
theorem dX3_readInto_11 : decode cX3_readInto 11 = .ok (.putfield 25, 3) := by decide +kernel
theorem dX3_readInto_14 : decode cX3_readInto 14 = .ok (.aload_n 0, 1) := by decide +kernel
theorem dX3_readInto_15 : decode cX3_readInto 15 = .ok (.getfield 15, 3) := by decide +kernel
theorem dX3_readInto_18 : decode cX3_readInto 18 = .ok (.ifCond .ne 5, 3) := by decide +kernel
theorem dX3_readInto_21 : decode cX3_readInto 21 = .ok (.iconst (-1), 1) := by decide +kernel
theorem dX3_readInto_22 : decode cX3_readInto 22 = .ok (.ireturn, 1) := by decide +kernel
theorem dX3_readInto_23 : decode cX3_readInto 23 = .ok (.iconst 1, 1) := by decide +kernel
theorem dX3_readInto_24 : decode cX3_readInto 24 = .ok (.istore_n 2, 1) := by decide +kernel
theorem dX3_readInto_25 : decode cX3_readInto 25 = .ok (.iload_n 2, 1) := by decide +kernel
theorem dX3_readInto_26 : decode cX3_readInto 26 = .ok (.bipush 10, 2) := by decide +kernel
theorem dX3_readInto_28 : decode cX3_readInto 28 = .ok (.if_icmp .gt 55, 3) := by decide +kernel
theorem dX3_readInto_31 : decode cX3_readInto 31 = .ok (.aload_n 0, 1) := by decide +kernel
theorem dX3_readInto_32 : decode cX3_readInto 32 = .ok (.aload_n 1, 1) := by decide +kernel
theorem dX3_readInto_33 : decode cX3_readInto 33 = .ok (.invokevirtual 33, 3) := by decide +kernel
theorem dX3_readInto_36 : decode cX3_readInto 36 = .ok (.ifCond .ne 8, 3) := by decide +kernel
theorem dX3_readInto_39 : decode cX3_readInto 39 = .ok (.aload_n 0, 1) := by decide +kernel
theorem dX3_readInto_40 : decode cX3_readInto 40 = .ok (.getfield 25, 3) := by decide +kernel
theorem dX3_readInto_43 : decode cX3_readInto 43 = .ok (.ireturn, 1) := by decide +kernel
theorem dX3_readInto_44 : decode cX3_readInto 44 = .ok (.aload_n 0, 1) := by decide +kernel
theorem dX3_readInto_45 : decode cX3_readInto 45 = .ok (.getfield 19, 3) := by decide +kernel
theorem dX3_readInto_48 : decode cX3_readInto 48 = .ok (.aload_n 0, 1) := by decide +kernel
theorem dX3_readInto_49 : decode cX3_readInto 49 = .ok (.getfield 15, 3) := by decide +kernel
theorem dX3_readInto_52 : decode cX3_readInto 52 = .ok (.if_icmp .lt 5, 3) := by decide +kernel
theorem dX3_readInto_55 : decode cX3_readInto 55 = .ok (.iconst (-1), 1) := by decide +kernel
theorem dX3_readInto_56 : decode cX3_readInto 56 = .ok (.ireturn, 1) := by decide +kernel
theorem dX3_readInto_57 : decode cX3_readInto 57 = .ok (.iload_n 2, 1) := by decide +kernel
theorem dX3_readInto_58 : decode cX3_readInto 58 = .ok (.bipush 10, 2) := by decide +kernel
theorem dX3_readInto_60 : decode cX3_readInto 60 = .ok (.if_icmp .eq 12, 3) := by decide +kernel
theorem dX3_readInto_63 : decode cX3_readInto 63 = .ok (.aload_n 0, 1) := by decide +kernel
theorem dX3_readInto_64 : decode cX3_readInto 64 = .ok (.bipush 44, 2) := by decide +kernel
theorem dX3_readInto_66 : decode cX3_readInto 66 = .ok (.invokevirtual 37, 3) := by decide +kernel
theorem dX3_readInto_69 : decode cX3_readInto 69 = .ok (.ifCond .ne 8, 3) := by decide +kernel
theorem dX3_readInto_72 : decode cX3_readInto 72 = .ok (.aload_n 0, 1) := by decide +kernel
theorem dX3_readInto_73 : decode cX3_readInto 73 = .ok (.getfield 19, 3) := by decide +kernel
theorem dX3_readInto_76 : decode cX3_readInto 76 = .ok (.ireturn, 1) := by decide +kernel
theorem dX3_readInto_77 : decode cX3_readInto 77 = .ok (.iinc 2 1, 3) := by decide +kernel
theorem dX3_readInto_80 : decode cX3_readInto 80 = .ok (.goto (-55), 3) := by decide +kernel
theorem dX3_readInto_83 : decode cX3_readInto 83 = .ok (.aload_n 0, 1) := by decide +kernel
theorem dX3_readInto_84 : decode cX3_readInto 84 = .ok (.getfield 19, 3) := by decide +kernel
theorem dX3_readInto_87 : decode cX3_readInto 87 = .ok (.ireturn, 1) := by decide +kernel
def sX3_readInto_c72 (h : Hp) : Option (Int32 × Hp) :=
  some ((h.1 2 2), h)
set_option maxRecDepth 10000 in
theorem vX3_readInto_c72 (h : Hp) (q : (Int32 × Hp)) (e : sX3_readInto_c72 h = some q) : V (Gs 3 (pI q)) mX3_readInto (0, 0) 72 [(0, .ref 2)] [] h := by
  unfold sX3_readInto_c72 at e
  refine V.alq dX3_readInto_72 (pc' := 73) rfl (j := 0) rfl ?_
  refine V.getf dX3_readInto_73 (pc' := 76) rfl FL_X3_19 rfl (by decide) rfl ?_
  exact V.iret dX3_readInto_76 rfl (fnI e)
def sX3_readInto_c25 (k25 : Hp → Nat → Int32 → Option (Int32 × Hp)) (h : Hp) (a1 : Nat) (v2 : Int32) : Option (Int32 × Hp) :=
  if (10 : Int32) < v2 then (some ((h.1 2 2), h)) else ((sX3_readStream h a1).bind fun q4 => if q4.1 = 0 then (some ((q4.2.1 2 4), q4.2)) else (if (q4.2.1 2 2) < (q4.2.1 2 1) then (if v2 = (10 : Int32) then (sX3_readInto_c72 q4.2) else ((sX3_readSign q4.2 (44 : Int32)).bind fun q5 => if q5.1 = 0 then (sX3_readInto_c72 q5.2) else (nm (v2 + (1 : Int32)) fun x6 => k25 q5.2 a1 x6))) else (some ((-1 : Int32), q4.2))))
set_option maxRecDepth 10000 in
theorem vX3_readInto_c25 (k25 : Hp → Nat → Int32 → Option (Int32 × Hp)) (hk25 : ∀ (h : Hp) (a1 : Nat) (v2 : Int32) (ha1 : ck a1 = 1) (q : (Int32 × Hp)), k25 h a1 v2 = some q → V (Gs 3 (pI q)) mX3_readInto (0, 0) 25 [(0, .ref 2), (1, .ref a1), (2, .int v2)] [] h) (h : Hp) (a1 : Nat) (v2 : Int32) (ha1 : ck a1 = 1) (q : (Int32 × Hp)) (e : sX3_readInto_c25 k25 h a1 v2 = some q) : V (Gs 3 (pI q)) mX3_readInto (0, 0) 25 [(0, .ref 2), (1, .ref a1), (2, .int v2)] [] h := by
  unfold sX3_readInto_c25 at e
  refine V.ilq dX3_readInto_25 (pc' := 26) rfl (j := 2) rfl ?_
  refine V.bipush dX3_readInto_26 (pc' := 28) rfl (v := 10) (by decide) ?_
  refine V.ic_gt dX3_readInto_28 (pc' := 31) rfl (tgt := 83) (by decide) (fun c => ?_) (fun c => ?_)
  · rw [if_pos c] at e
    refine V.alq dX3_readInto_83 (pc' := 84) rfl (j := 0) rfl ?_
    refine V.getf dX3_readInto_84 (pc' := 87) rfl FL_X3_19 rfl (by decide) rfl ?_
    exact V.iret dX3_readInto_87 rfl (fnI e)
  · rw [if_neg c] at e
    refine V.alq dX3_readInto_31 (pc' := 32) rfl (j := 0) rfl ?_
    refine V.alq dX3_readInto_32 (pc' := 33) rfl (j := 1) rfl ?_
    obtain ⟨q4, eq4, e⟩ := bd_s e
    refine V.callVi dX3_readInto_33 (pc' := 36) rfl CV_X3_33 (as := [.ref a1]) (kX3_readStream h a1 q4 eq4) (Gs_rm (by decide)) rfl (by decide) rfl (Nat.le_of_ble_eq_true rfl) rfl ?_
    refine V.if_ne dX3_readInto_36 (pc' := 39) rfl (tgt := 44) (by decide) (fun c => ?_) (fun c => ?_)
    · rw [if_neg c] at e
      refine V.alq dX3_readInto_44 (pc' := 45) rfl (j := 0) rfl ?_
      refine V.getf dX3_readInto_45 (pc' := 48) rfl FL_X3_19 rfl (by decide) rfl ?_
      refine V.alq dX3_readInto_48 (pc' := 49) rfl (j := 0) rfl ?_
      refine V.getf dX3_readInto_49 (pc' := 52) rfl FL_X3_15 rfl (by decide) rfl ?_
      refine V.ic_lt dX3_readInto_52 (pc' := 55) rfl (tgt := 57) (by decide) (fun c => ?_) (fun c => ?_)
      · rw [if_pos c] at e
        refine V.ilq dX3_readInto_57 (pc' := 58) rfl (j := 2) rfl ?_
        refine V.bipush dX3_readInto_58 (pc' := 60) rfl (v := 10) (by decide) ?_
        refine V.ic_eq dX3_readInto_60 (pc' := 63) rfl (tgt := 72) (by decide) (fun c => ?_) (fun c => ?_)
        · rw [if_pos c] at e
          refine V.pk [0] rfl ?_
          exact vX3_readInto_c72 q4.2 q e
        · rw [if_neg c] at e
          refine V.alq dX3_readInto_63 (pc' := 64) rfl (j := 0) rfl ?_
          refine V.bipush dX3_readInto_64 (pc' := 66) rfl (v := 44) (by decide) ?_
          obtain ⟨q5, eq5, e⟩ := bd_s e
          refine V.callVi dX3_readInto_66 (pc' := 69) rfl CV_X3_37 (as := [.int (44 : Int32)]) (kX3_readSign q4.2 (44 : Int32) q5 eq5) (Gs_rm (by decide)) rfl (by decide) rfl (Nat.le_of_ble_eq_true rfl) rfl ?_
          refine V.if_ne dX3_readInto_69 (pc' := 72) rfl (tgt := 77) (by decide) (fun c => ?_) (fun c => ?_)
          · rw [if_neg c] at e
            obtain ⟨x6, ex6, e⟩ := nm_s e
            refine V.iinc dX3_readInto_77 (pc' := 80) rfl (j := 2) rfl (v := 1) (by decide) (by decide) ex6 (L' := [(2, .int x6), (0, .ref 2), (1, .ref a1)]) rfl ?_
            refine V.goto dX3_readInto_80 (pc' := 25) (by decide) ?_
            refine V.pk [1, 2, 0] rfl ?_
            exact hk25 q5.2 a1 x6 ha1 q e
          · rw [if_pos c] at e
            refine V.pk [0] rfl ?_
            exact vX3_readInto_c72 q5.2 q e
      · rw [if_neg c] at e
        refine V.iconst dX3_readInto_55 (pc' := 56) rfl (v := -1) (by decide) ?_
        exact V.iret dX3_readInto_56 rfl (fnI e)
    · rw [if_pos c] at e
      refine V.alq dX3_readInto_39 (pc' := 40) rfl (j := 0) rfl ?_
      refine V.getf dX3_readInto_40 (pc' := 43) rfl FL_X3_25 rfl (by decide) rfl ?_
      exact V.iret dX3_readInto_43 rfl (fnI e)
def sX3_readInto_b25 : Nat → Hp → Nat → Int32 → Option (Int32 × Hp)
  | 0 => fun _ _ _ => none
  | n + 1 => sX3_readInto_c25 (sX3_readInto_b25 n)
theorem vX3_readInto_b25 : ∀ (n : Nat) (h : Hp) (a1 : Nat) (v2 : Int32) (ha1 : ck a1 = 1) (q : (Int32 × Hp)), sX3_readInto_b25 n h a1 v2 = some q → V (Gs 3 (pI q)) mX3_readInto (0, 0) 25 [(0, .ref 2), (1, .ref a1), (2, .int v2)] [] h
  | 0 => fun _ _ _ _ _ e => by cases e
  | n + 1 => fun h a1 v2 ha1 q e => vX3_readInto_c25 (sX3_readInto_b25 n) (vX3_readInto_b25 n) h a1 v2 ha1 q e
def sX3_readInto (h : Hp) (a1 : Nat) : Option (Int32 × Hp) :=
  gd (isC a1 1) ((sX1_empty h a1).bind fun q1 => nm (u1 q1 2 2 (0 : Int32)) fun h2 => nm (u1 h2 2 4 (-1 : Int32)) fun h3 => if (h3.1 2 1) = 0 then (some ((-1 : Int32), h3)) else (sX3_readInto_b25 FU h3 a1 (1 : Int32)))
set_option maxRecDepth 10000 in
theorem kX3_readInto (h : Hp) (a1 : Nat) (q : (Int32 × Hp)) (e : sX3_readInto h a1 = some q) : K 3 mX3_readInto [.ref 2, .ref a1] h (pI q) := by
  unfold sX3_readInto at e
  obtain ⟨ha1, e⟩ := gd_s e
  have ha1 := isC_t ha1
  refine K.ofV (by decide) rfl (Nat.le_of_ble_eq_true rfl) ?_
  show V (Gs 3 (pI q)) mX3_readInto (0, 0) 0 [(0, .ref 2), (1, .ref a1)] [] h
  refine V.alq dX3_readInto_0 (pc' := 1) rfl (j := 1) rfl ?_
  obtain ⟨q1, eq1, e⟩ := bd_s e
  refine V.callVv dX3_readInto_1 (pc' := 4) rfl CV_X3_28 (as := []) (kX1_empty h a1 q1 eq1) (Gs_rm (by decide)) ha1 (by decide) rfl (Nat.le_of_ble_eq_true rfl) rfl ?_
  refine V.alq dX3_readInto_4 (pc' := 5) rfl (j := 0) rfl ?_
  refine V.iconst dX3_readInto_5 (pc' := 6) rfl (v := 0) (by decide) ?_
  obtain ⟨h2, eh2, e⟩ := nm_s e
  refine V.putf dX3_readInto_6 (pc' := 9) rfl FP_X3_19 rfl (by decide) rfl eh2 ?_
  refine V.alq dX3_readInto_9 (pc' := 10) rfl (j := 0) rfl ?_
  refine V.iconst dX3_readInto_10 (pc' := 11) rfl (v := -1) (by decide) ?_
  obtain ⟨h3, eh3, e⟩ := nm_s e
  refine V.putf dX3_readInto_11 (pc' := 14) rfl FP_X3_25 rfl (by decide) rfl eh3 ?_
  refine V.alq dX3_readInto_14 (pc' := 15) rfl (j := 0) rfl ?_
  refine V.getf dX3_readInto_15 (pc' := 18) rfl FL_X3_15 rfl (by decide) rfl ?_
  refine V.if_ne dX3_readInto_18 (pc' := 21) rfl (tgt := 23) (by decide) (fun c => ?_) (fun c => ?_)
  · rw [if_neg c] at e
    refine V.iconst dX3_readInto_23 (pc' := 24) rfl (v := 1) (by decide) ?_
    refine V.isq dX3_readInto_24 (pc' := 25) rfl (by decide) rfl (L' := [(2, .int (1 : Int32)), (0, .ref 2), (1, .ref a1)]) rfl ?_
    refine V.pk [1, 2, 0] rfl ?_
    exact vX3_readInto_b25 FU h3 a1 (1 : Int32) ha1 q e
  · rw [if_pos c] at e
    refine V.iconst dX3_readInto_21 (pc' := 22) rfl (v := -1) (by decide) ?_
    exact V.iret dX3_readInto_22 rfl (fnI e)

-- X4_tell__ (level 3)
theorem dX4_tell___0 : decode cX4_tell__ 0 = .ok (.aload_n 0, 1) := by decide +kernel
theorem dX4_tell___1 : decode cX4_tell__ 1 = .ok (.lload_n 1, 1) := by decide +kernel
theorem dX4_tell___2 : decode cX4_tell__ 2 = .ok (.lload_n 3, 1) := by decide +kernel
theorem dX4_tell___3 : decode cX4_tell__ 3 = .ok (.invokevirtual 33, 3) := by decide +kernel
theorem dX4_tell___6 : decode cX4_tell__ 6 = .ok (.aload_n 0, 1) := by decide +kernel
theorem dX4_tell___7 : decode cX4_tell__ 7 = .ok (.lload 5, 2) := by decide +kernel
theorem dX4_tell___9 : decode cX4_tell__ 9 = .ok (.invokevirtual 23, 3) := by decide +kernel
theorem dX4_tell___12 : decode cX4_tell__ 12 = .ok (.return_, 1) := by decide +kernel
def sX4_tell__ (h : Hp) (a1 : Int64) (a3 : Int64) (a5 : Int64) : Option Hp :=
  (sX4_tell_ h a1 a3).bind fun q1 => (sX4_add q1 a5).bind fun q2 => some q2
set_option maxRecDepth 10000 in
theorem kX4_tell__ (h : Hp) (a1 : Int64) (a3 : Int64) (a5 : Int64) (q : Hp) (e : sX4_tell__ h a1 a3 a5 = some q) : K 3 mX4_tell__ [.ref 4, .long a1, .long a3, .long a5] h (pV q) := by
  unfold sX4_tell__ at e
  refine K.ofV (by decide) rfl (Nat.le_of_ble_eq_true rfl) ?_
  show V (Gs 3 (pV q)) mX4_tell__ (0, 0) 0 [(0, .ref 4), (1, .long a1), (3, .long a3), (5, .long a5)] [] h
  refine V.alq dX4_tell___0 (pc' := 1) rfl (j := 0) rfl ?_
  refine V.llq dX4_tell___1 (pc' := 2) rfl (j := 1) rfl ?_
  refine V.llq dX4_tell___2 (pc' := 3) rfl (j := 2) rfl ?_
  obtain ⟨q1, eq1, e⟩ := bd_s e
  refine V.callVv dX4_tell___3 (pc' := 6) rfl CV_X4_33 (as := [.long a1, .long a3]) (kX4_tell_ h a1 a3 q1 eq1) (Gs_rm (by decide)) rfl (by decide) rfl (Nat.le_of_ble_eq_true rfl) rfl ?_
  refine V.alq dX4_tell___6 (pc' := 7) rfl (j := 0) rfl ?_
  refine V.ll dX4_tell___7 (pc' := 9) rfl (j := 3) rfl ?_
  obtain ⟨q2, eq2, e⟩ := bd_s e
  refine V.callVv dX4_tell___9 (pc' := 12) rfl CV_X4_23 (as := [.long a5]) (kX4_add q1 a5 q2 eq2) (Gs_rm (by decide)) rfl (by decide) rfl (Nat.le_of_ble_eq_true rfl) rfl ?_
  exact V.vret dX4_tell___12 rfl (fnV e)

-- X5_fuel (level 3)
theorem dX5_fuel_0 : decode cX5_fuel 0 = .ok (.aload_n 0, 1) := by decide +kernel
theorem dX5_fuel_1 : decode cX5_fuel 1 = .ok (.getfield 19, 3) := by decide +kernel
theorem dX5_fuel_4 : decode cX5_fuel 4 = .ok (.aload_n 0, 1) := by decide +kernel
theorem dX5_fuel_5 : decode cX5_fuel 5 = .ok (.getfield 36, 3) := by decide +kernel
theorem dX5_fuel_8 : decode cX5_fuel 8 = .ok (.invokevirtual 156, 3) := by decide +kernel
theorem dX5_fuel_11 : decode cX5_fuel 11 = .ok (.i2l, 1) := by decide +kernel
theorem dX5_fuel_12 : decode cX5_fuel 12 = .ok (.aload_n 0, 1) := by decide +kernel
theorem dX5_fuel_13 : decode cX5_fuel 13 = .ok (.getfield 36, 3) := by decide +kernel
theorem dX5_fuel_16 : decode cX5_fuel 16 = .ok (.getfield 134, 3) := by decide +kernel
theorem dX5_fuel_19 : decode cX5_fuel 19 = .ok (.i2l, 1) := by decide +kernel
theorem dX5_fuel_20 : decode cX5_fuel 20 = .ok (.invokevirtual 160, 3) := by decide +kernel
theorem dX5_fuel_23 : decode cX5_fuel 23 = .ok (.aload_n 0, 1) := by decide +kernel
theorem dX5_fuel_24 : decode cX5_fuel 24 = .ok (.getfield 36, 3) := by decide +kernel
theorem dX5_fuel_27 : decode cX5_fuel 27 = .ok (.getfield 163, 3) := by decide +kernel
theorem dX5_fuel_30 : decode cX5_fuel 30 = .ok (.ireturn, 1) := by decide +kernel
def sX5_fuel (h : Hp) : Option (Int32 × Hp) :=
  (sX0_cool h 16).bind fun q1 => (sX4_tell_ q1.2 q1.1.toInt64 ((q1.2.1 16 4).toInt64)).bind fun q2 => some ((q2.1 16 5), q2)
set_option maxRecDepth 10000 in
theorem kX5_fuel (h : Hp) (q : (Int32 × Hp)) (e : sX5_fuel h = some q) : K 3 mX5_fuel [.ref 1] h (pI q) := by
  unfold sX5_fuel at e
  refine K.ofV (by decide) rfl (Nat.le_of_ble_eq_true rfl) ?_
  show V (Gs 3 (pI q)) mX5_fuel (0, 0) 0 [(0, .ref 1)] [] h
  refine V.alq dX5_fuel_0 (pc' := 1) rfl (j := 0) rfl ?_
  refine V.getr dX5_fuel_1 (pc' := 4) rfl FL_X5_19 rfl (by decide) rfl (r' := 4) rfl ?_
  refine V.alq dX5_fuel_4 (pc' := 5) rfl (j := 0) rfl ?_
  refine V.getr dX5_fuel_5 (pc' := 8) rfl FL_X5_36 rfl (by decide) rfl (r' := 16) rfl ?_
  obtain ⟨q1, eq1, e⟩ := bd_s e
  refine V.callVi dX5_fuel_8 (pc' := 11) rfl CV_X5_156 (as := []) (kX0_cool h 16 q1 eq1) (Gs_rm (by decide)) rfl (by decide) rfl (Nat.le_of_ble_eq_true rfl) rfl ?_
  refine V.i2l dX5_fuel_11 (pc' := 12) rfl ?_
  refine V.alq dX5_fuel_12 (pc' := 13) rfl (j := 0) rfl ?_
  refine V.getr dX5_fuel_13 (pc' := 16) rfl FL_X5_36 rfl (by decide) rfl (r' := 16) rfl ?_
  refine V.getf dX5_fuel_16 (pc' := 19) rfl FL_X5_134 rfl (by decide) rfl ?_
  refine V.i2l dX5_fuel_19 (pc' := 20) rfl ?_
  obtain ⟨q2, eq2, e⟩ := bd_s e
  refine V.callVv dX5_fuel_20 (pc' := 23) rfl CV_X5_160 (as := [.long q1.1.toInt64, .long ((q1.2.1 16 4).toInt64)]) (kX4_tell_ q1.2 q1.1.toInt64 ((q1.2.1 16 4).toInt64) q2 eq2) (Gs_rm (by decide)) rfl (by decide) rfl (Nat.le_of_ble_eq_true rfl) rfl ?_
  refine V.alq dX5_fuel_23 (pc' := 24) rfl (j := 0) rfl ?_
  refine V.getr dX5_fuel_24 (pc' := 27) rfl FL_X5_36 rfl (by decide) rfl (r' := 16) rfl ?_
  refine V.getf dX5_fuel_27 (pc' := 30) rfl FL_X5_163 rfl (by decide) rfl ?_
  exact V.iret dX5_fuel_30 rfl (fnI e)

-- X5_above (level 3)
theorem dX5_above_0 : decode cX5_above 0 = .ok (.iload_n 2, 1) := by decide +kernel
theorem dX5_above_1 : decode cX5_above 1 = .ok (.invokestatic 183, 3) := by decide +kernel
theorem dX5_above_4 : decode cX5_above 4 = .ok (.ifCond .ne 5, 3) := by decide +kernel
theorem dX5_above_7 : decode cX5_above 7 = .ok (.iconst (-1), 1) := by decide +kernel
theorem dX5_above_8 : decode cX5_above 8 = .ok (.ireturn, 1) := by decide +kernel
theorem dX5_above_9 : decode cX5_above 9 = .ok (.aload_n 0, 1) := by decide +kernel
theorem dX5_above_10 : decode cX5_above 10 = .ok (.getfield 19, 3) := by decide +kernel
theorem dX5_above_13 : decode cX5_above 13 = .ok (.aload_n 0, 1) := by decide +kernel
theorem dX5_above_14 : decode cX5_above 14 = .ok (.getfield 26, 3) := by decide +kernel
theorem dX5_above_17 : decode cX5_above 17 = .ok (.iload_n 1, 1) := by decide +kernel
theorem dX5_above_18 : decode cX5_above 18 = .ok (.iload_n 2, 1) := by decide +kernel
theorem dX5_above_19 : decode cX5_above 19 = .ok (.invokevirtual 186, 3) := by decide +kernel
theorem dX5_above_22 : decode cX5_above 22 = .ok (.i2l, 1) := by decide +kernel
theorem dX5_above_23 : decode cX5_above 23 = .ok (.invokevirtual 181, 3) := by decide +kernel
theorem dX5_above_26 : decode cX5_above 26 = .ok (.aload_n 0, 1) := by decide +kernel
theorem dX5_above_27 : decode cX5_above 27 = .ok (.getfield 26, 3) := by decide +kernel
theorem dX5_above_30 : decode cX5_above 30 = .ok (.iload_n 1, 1) := by decide +kernel
theorem dX5_above_31 : decode cX5_above 31 = .ok (.iload_n 2, 1) := by decide +kernel
theorem dX5_above_32 : decode cX5_above 32 = .ok (.invokevirtual 190, 3) := by decide +kernel
theorem dX5_above_35 : decode cX5_above 35 = .ok (.ireturn, 1) := by decide +kernel
def sX5_above (h : Hp) (a1 : Int32) (a2 : Int32) : Option (Int32 × Hp) :=
  (sX5_isDegree h a2).bind fun q1 => if q1.1 = 0 then (some ((-1 : Int32), q1.2)) else ((sX1_howManyAt q1.2 6 a1 a2).bind fun q2 => (sX4_tell q2.2 q2.1.toInt64).bind fun q3 => (sX1_heatAbove q3 6 a1 a2).bind fun q4 => some (q4.1, q4.2))
set_option maxRecDepth 10000 in
theorem kX5_above (h : Hp) (a1 : Int32) (a2 : Int32) (q : (Int32 × Hp)) (e : sX5_above h a1 a2 = some q) : K 3 mX5_above [.ref 1, .int a1, .int a2] h (pI q) := by
  unfold sX5_above at e
  refine K.ofV (by decide) rfl (Nat.le_of_ble_eq_true rfl) ?_
  show V (Gs 3 (pI q)) mX5_above (0, 0) 0 [(0, .ref 1), (1, .int a1), (2, .int a2)] [] h
  refine V.ilq dX5_above_0 (pc' := 1) rfl (j := 2) rfl ?_
  obtain ⟨q1, eq1, e⟩ := bd_s e
  refine V.callSi dX5_above_1 (pc' := 4) rfl CS_X5_183 (as := [.int a2]) (kX5_isDegree h a2 q1 eq1) (Gs_rm (by decide)) rfl (Nat.le_of_ble_eq_true rfl) rfl ?_
  refine V.if_ne dX5_above_4 (pc' := 7) rfl (tgt := 9) (by decide) (fun c => ?_) (fun c => ?_)
  · rw [if_neg c] at e
    refine V.alq dX5_above_9 (pc' := 10) rfl (j := 0) rfl ?_
    refine V.getr dX5_above_10 (pc' := 13) rfl FL_X5_19 rfl (by decide) rfl (r' := 4) rfl ?_
    refine V.alq dX5_above_13 (pc' := 14) rfl (j := 0) rfl ?_
    refine V.getr dX5_above_14 (pc' := 17) rfl FL_X5_26 rfl (by decide) rfl (r' := 6) rfl ?_
    refine V.ilq dX5_above_17 (pc' := 18) rfl (j := 1) rfl ?_
    refine V.ilq dX5_above_18 (pc' := 19) rfl (j := 2) rfl ?_
    obtain ⟨q2, eq2, e⟩ := bd_s e
    refine V.callVi dX5_above_19 (pc' := 22) rfl CV_X5_186 (as := [.int a1, .int a2]) (kX1_howManyAt q1.2 6 a1 a2 q2 eq2) (Gs_rm (by decide)) rfl (by decide) rfl (Nat.le_of_ble_eq_true rfl) rfl ?_
    refine V.i2l dX5_above_22 (pc' := 23) rfl ?_
    obtain ⟨q3, eq3, e⟩ := bd_s e
    refine V.callVv dX5_above_23 (pc' := 26) rfl CV_X5_181 (as := [.long q2.1.toInt64]) (kX4_tell q2.2 q2.1.toInt64 q3 eq3) (Gs_rm (by decide)) rfl (by decide) rfl (Nat.le_of_ble_eq_true rfl) rfl ?_
    refine V.alq dX5_above_26 (pc' := 27) rfl (j := 0) rfl ?_
    refine V.getr dX5_above_27 (pc' := 30) rfl FL_X5_26 rfl (by decide) rfl (r' := 6) rfl ?_
    refine V.ilq dX5_above_30 (pc' := 31) rfl (j := 1) rfl ?_
    refine V.ilq dX5_above_31 (pc' := 32) rfl (j := 2) rfl ?_
    obtain ⟨q4, eq4, e⟩ := bd_s e
    refine V.callVi dX5_above_32 (pc' := 35) rfl CV_X5_190 (as := [.int a1, .int a2]) (kX1_heatAbove q3 6 a1 a2 q4 eq4) (Gs_rm (by decide)) rfl (by decide) rfl (Nat.le_of_ble_eq_true rfl) rfl ?_
    exact V.iret dX5_above_35 rfl (fnI e)
  · rw [if_pos c] at e
    refine V.iconst dX5_above_7 (pc' := 8) rfl (v := -1) (by decide) ?_
    exact V.iret dX5_above_8 rfl (fnI e)

-- X5_level (level 3)
theorem dX5_level_0 : decode cX5_level 0 = .ok (.iload_n 2, 1) := by decide +kernel
theorem dX5_level_1 : decode cX5_level 1 = .ok (.iconst 1, 1) := by decide +kernel
theorem dX5_level_2 : decode cX5_level 2 = .ok (.if_icmp .ge 5, 3) := by decide +kernel
theorem dX5_level_5 : decode cX5_level 5 = .ok (.iconst (-1), 1) := by decide +kernel
theorem dX5_level_6 : decode cX5_level 6 = .ok (.ireturn, 1) := by decide +kernel
theorem dX5_level_7 : decode cX5_level 7 = .ok (.iload_n 2, 1) := by decide +kernel
theorem dX5_level_8 : decode cX5_level 8 = .ok (.istore_n 3, 1) := by decide +kernel
theorem dX5_level_9 : decode cX5_level 9 = .ok (.aload_n 0, 1) := by decide +kernel
theorem dX5_level_10 : decode cX5_level 10 = .ok (.getfield 26, 3) := by decide +kernel
theorem dX5_level_13 : decode cX5_level 13 = .ok (.iload_n 1, 1) := by decide +kernel
theorem dX5_level_14 : decode cX5_level 14 = .ok (.sipush 501, 3) := by decide +kernel
theorem dX5_level_17 : decode cX5_level 17 = .ok (.invokevirtual 193, 3) := by decide +kernel
theorem dX5_level_20 : decode cX5_level 20 = .ok (.istore 4, 2) := by decide +kernel
theorem dX5_level_22 : decode cX5_level 22 = .ok (.iconst 0, 1) := by decide +kernel
theorem dX5_level_23 : decode cX5_level 23 = .ok (.istore 5, 2) := by decide +kernel
theorem dX5_level_25 : decode cX5_level 25 = .ok (.iload 5, 2) := by decide +kernel
theorem dX5_level_27 : decode cX5_level 27 = .ok (.bipush 20, 2) := by decide +kernel
theorem dX5_level_29 : decode cX5_level 29 = .ok (.if_icmp .ge 101, 3) := by decide +kernel
theorem dX5_level_32 : decode cX5_level 32 = .ok (.iload 4, 2) := by decide +kernel
theorem dX5_level_34 : decode cX5_level 34 = .ok (.iconst (-1), 1) := by decide +kernel
theorem dX5_level_35 : decode cX5_level 35 = .ok (.if_icmp .eq 95, 3) := by decide +kernel
theorem dX5_level_38 : decode cX5_level 38 = .ok (.aload_n 0, 1) := by decide +kernel
theorem dX5_level_39 : decode cX5_level 39 = .ok (.getfield 26, 3) := by decide +kernel
theorem dX5_level_42 : decode cX5_level 42 = .ok (.iload_n 1, 1) := by decide +kernel
theorem dX5_level_43 : decode cX5_level 43 = .ok (.iload 4, 2) := by decide +kernel
theorem dX5_level_45 : decode cX5_level 45 = .ok (.invokevirtual 193, 3) := by decide +kernel
theorem dX5_level_48 : decode cX5_level 48 = .ok (.istore 6, 2) := by decide +kernel
theorem dX5_level_50 : decode cX5_level 50 = .ok (.iload 6, 2) := by decide +kernel
theorem dX5_level_52 : decode cX5_level 52 = .ok (.iconst (-1), 1) := by decide +kernel
theorem dX5_level_53 : decode cX5_level 53 = .ok (.if_icmp .ne 7, 3) := by decide +kernel
theorem dX5_level_56 : decode cX5_level 56 = .ok (.iconst 0, 1) := by decide +kernel
theorem dX5_level_57 : decode cX5_level 57 = .ok (.goto 15, 3) := by decide +kernel
theorem dX5_level_60 : decode cX5_level 60 = .ok (.aload_n 0, 1) := by decide +kernel
theorem dX5_level_61 : decode cX5_level 61 = .ok (.getfield 26, 3) := by decide +kernel
theorem dX5_level_64 : decode cX5_level 64 = .ok (.iload_n 1, 1) := by decide +kernel
theorem dX5_level_65 : decode cX5_level 65 = .ok (.iload 6, 2) := by decide +kernel
theorem dX5_level_67 : decode cX5_level 67 = .ok (.iload 4, 2) := by decide +kernel
theorem dX5_level_69 : decode cX5_level 69 = .ok (.invokevirtual 196, 3) := by decide +kernel
theorem dX5_level_72 : decode cX5_level 72 = .ok (.istore 7, 2) := by decide +kernel
theorem dX5_level_74 : decode cX5_level 74 = .ok (.iload 7, 2) := by decide +kernel
theorem dX5_level_76 : decode cX5_level 76 = .ok (.iload 4, 2) := by decide +kernel
theorem dX5_level_78 : decode cX5_level 78 = .ok (.iload 6, 2) := by decide +kernel
theorem dX5_level_80 : decode cX5_level 80 = .ok (.isub, 1) := by decide +kernel
theorem dX5_level_81 : decode cX5_level 81 = .ok (.imul, 1) := by decide +kernel
theorem dX5_level_82 : decode cX5_level 82 = .ok (.istore 8, 2) := by decide +kernel
theorem dX5_level_84 : decode cX5_level 84 = .ok (.iload 8, 2) := by decide +kernel
theorem dX5_level_86 : decode cX5_level 86 = .ok (.iload_n 3, 1) := by decide +kernel
theorem dX5_level_87 : decode cX5_level 87 = .ok (.if_icmp .lt 28, 3) := by decide +kernel
theorem dX5_level_90 : decode cX5_level 90 = .ok (.aload_n 0, 1) := by decide +kernel
theorem dX5_level_91 : decode cX5_level 91 = .ok (.getfield 19, 3) := by decide +kernel
theorem dX5_level_94 : decode cX5_level 94 = .ok (.invokevirtual 166, 3) := by decide +kernel
theorem dX5_level_97 : decode cX5_level 97 = .ok (.aload_n 0, 1) := by decide +kernel
theorem dX5_level_98 : decode cX5_level 98 = .ok (.getfield 19, 3) := by decide +kernel
theorem dX5_level_101 : decode cX5_level 101 = .ok (.iload 4, 2) := by decide +kernel
theorem dX5_level_103 : decode cX5_level 103 = .ok (.iload 7, 2) := by decide +kernel
theorem dX5_level_105 : decode cX5_level 105 = .ok (.imul, 1) := by decide +kernel
theorem dX5_level_106 : decode cX5_level 106 = .ok (.iload_n 3, 1) := by decide +kernel
theorem dX5_level_107 : decode cX5_level 107 = .ok (.isub, 1) := by decide +kernel
theorem dX5_level_108 : decode cX5_level 108 = .ok (.iload 7, 2) := by decide +kernel
theorem dX5_level_110 : decode cX5_level 110 = .ok (.invokevirtual 200, 3) := by decide +kernel
theorem dX5_level_113 : decode cX5_level 113 = .ok (.iconst 0, 1) := by decide +kernel
theorem dX5_level_114 : decode cX5_level 114 = .ok (.ireturn, 1) := by decide +kernel
theorem dX5_level_115 : decode cX5_level 115 = .ok (.iload_n 3, 1) := by decide +kernel
theorem dX5_level_116 : decode cX5_level 116 = .ok (.iload 8, 2) := by decide +kernel
theorem dX5_level_118 : decode cX5_level 118 = .ok (.isub, 1) := by decide +kernel
theorem dX5_level_119 : decode cX5_level 119 = .ok (.istore_n 3, 1) := by decide +kernel
theorem dX5_level_120 : decode cX5_level 120 = .ok (.iload 6, 2) := by decide +kernel
theorem dX5_level_122 : decode cX5_level 122 = .ok (.istore 4, 2) := by decide +kernel
theorem dX5_level_124 : decode cX5_level 124 = .ok (.iinc 5 1, 3) := by decide +kernel
theorem dX5_level_127 : decode cX5_level 127 = .ok (.goto (-102), 3) := by decide +kernel
theorem dX5_level_130 : decode cX5_level 130 = .ok (.bipush (-2), 2) := by decide +kernel
theorem dX5_level_132 : decode cX5_level 132 = .ok (.ireturn, 1) := by decide +kernel
def sX5_level_c72 (k25 : Hp → Int32 → Int32 → Int32 → Int32 → Option (Int32 × Hp)) (h : Hp) (v1 : Int32) (v3 : Int32) (v4 : Int32) (v5 : Int32) (v6 : Int32) (t0 : Int32) : Option (Int32 × Hp) :=
  nm ((t0 * (v4 - v6))) fun x4 => if x4 < v3 then (nm ((v3 - x4)) fun x5 => nm (v5 + (1 : Int32)) fun x6 => k25 h v1 x5 v6 x6) else ((sX4_empty h).bind fun q7 => (sX4_addFraction q7 ((v4 * t0) - v3) t0).bind fun q8 => some ((0 : Int32), q8))
set_option maxRecDepth 10000 in
theorem vX5_level_c72 (k25 : Hp → Int32 → Int32 → Int32 → Int32 → Option (Int32 × Hp)) (hk25 : ∀ (h : Hp) (v1 : Int32) (v3 : Int32) (v4 : Int32) (v5 : Int32) (q : (Int32 × Hp)), k25 h v1 v3 v4 v5 = some q → V (Gs 3 (pI q)) mX5_level (0, 0) 25 [(0, .ref 1), (1, .int v1), (3, .int v3), (4, .int v4), (5, .int v5)] [] h) (h : Hp) (v1 : Int32) (v3 : Int32) (v4 : Int32) (v5 : Int32) (v6 : Int32) (t0 : Int32) (q : (Int32 × Hp)) (e : sX5_level_c72 k25 h v1 v3 v4 v5 v6 t0 = some q) : V (Gs 3 (pI q)) mX5_level (0, 0) 72 [(0, .ref 1), (1, .int v1), (3, .int v3), (4, .int v4), (5, .int v5), (6, .int v6)] [.int t0] h := by
  unfold sX5_level_c72 at e
  refine V.is dX5_level_72 (pc' := 74) rfl (by decide) rfl (L' := [(7, .int t0), (0, .ref 1), (1, .int v1), (3, .int v3), (4, .int v4), (5, .int v5), (6, .int v6)]) rfl ?_
  refine V.il dX5_level_74 (pc' := 76) rfl (j := 0) rfl ?_
  refine V.il dX5_level_76 (pc' := 78) rfl (j := 4) rfl ?_
  refine V.il dX5_level_78 (pc' := 80) rfl (j := 6) rfl ?_
  refine V.isub dX5_level_80 (pc' := 81) rfl ?_
  refine V.imul dX5_level_81 (pc' := 82) rfl ?_
  obtain ⟨x4, ex4, e⟩ := nm_s e
  refine V.is dX5_level_82 (pc' := 84) rfl (by decide) ex4 (L' := [(8, .int x4), (7, .int t0), (0, .ref 1), (1, .int v1), (3, .int v3), (4, .int v4), (5, .int v5), (6, .int v6)]) rfl ?_
  refine V.il dX5_level_84 (pc' := 86) rfl (j := 0) rfl ?_
  refine V.ilq dX5_level_86 (pc' := 87) rfl (j := 4) rfl ?_
  refine V.ic_lt dX5_level_87 (pc' := 90) rfl (tgt := 115) (by decide) (fun c => ?_) (fun c => ?_)
  · rw [if_pos c] at e
    refine V.ilq dX5_level_115 (pc' := 116) rfl (j := 4) rfl ?_
    refine V.il dX5_level_116 (pc' := 118) rfl (j := 0) rfl ?_
    refine V.isub dX5_level_118 (pc' := 119) rfl ?_
    obtain ⟨x5, ex5, e⟩ := nm_s e
    refine V.isq dX5_level_119 (pc' := 120) rfl (by decide) ex5 (L' := [(3, .int x5), (8, .int x4), (7, .int t0), (0, .ref 1), (1, .int v1), (4, .int v4), (5, .int v5), (6, .int v6)]) rfl ?_
    refine V.il dX5_level_120 (pc' := 122) rfl (j := 7) rfl ?_
    refine V.is dX5_level_122 (pc' := 124) rfl (by decide) rfl (L' := [(4, .int v6), (3, .int x5), (8, .int x4), (7, .int t0), (0, .ref 1), (1, .int v1), (5, .int v5), (6, .int v6)]) rfl ?_
    obtain ⟨x6, ex6, e⟩ := nm_s e
    refine V.iinc dX5_level_124 (pc' := 127) rfl (j := 6) rfl (v := 1) (by decide) (by decide) ex6 (L' := [(5, .int x6), (4, .int v6), (3, .int x5), (8, .int x4), (7, .int t0), (0, .ref 1), (1, .int v1), (6, .int v6)]) rfl ?_
    refine V.goto dX5_level_127 (pc' := 25) (by decide) ?_
    refine V.pk [5, 6, 2, 1, 0] rfl ?_
    exact hk25 h v1 x5 v6 x6 q e
  · rw [if_neg c] at e
    refine V.alq dX5_level_90 (pc' := 91) rfl (j := 2) rfl ?_
    refine V.getr dX5_level_91 (pc' := 94) rfl FL_X5_19 rfl (by decide) rfl (r' := 4) rfl ?_
    obtain ⟨q7, eq7, e⟩ := bd_s e
    refine V.callVv dX5_level_94 (pc' := 97) rfl CV_X5_166 (as := []) (kX4_empty h q7 eq7) (Gs_rm (by decide)) rfl (by decide) rfl (Nat.le_of_ble_eq_true rfl) rfl ?_
    refine V.alq dX5_level_97 (pc' := 98) rfl (j := 2) rfl ?_
    refine V.getr dX5_level_98 (pc' := 101) rfl FL_X5_19 rfl (by decide) rfl (r' := 4) rfl ?_
    refine V.il dX5_level_101 (pc' := 103) rfl (j := 5) rfl ?_
    refine V.il dX5_level_103 (pc' := 105) rfl (j := 1) rfl ?_
    refine V.imul dX5_level_105 (pc' := 106) rfl ?_
    refine V.ilq dX5_level_106 (pc' := 107) rfl (j := 4) rfl ?_
    refine V.isub dX5_level_107 (pc' := 108) rfl ?_
    refine V.il dX5_level_108 (pc' := 110) rfl (j := 1) rfl ?_
    obtain ⟨q8, eq8, e⟩ := bd_s e
    refine V.callVv dX5_level_110 (pc' := 113) rfl CV_X5_200 (as := [.int ((v4 * t0) - v3), .int t0]) (kX4_addFraction q7 ((v4 * t0) - v3) t0 q8 eq8) (Gs_rm (by decide)) rfl (by decide) rfl (Nat.le_of_ble_eq_true rfl) rfl ?_
    refine V.iconst dX5_level_113 (pc' := 114) rfl (v := 0) (by decide) ?_
    exact V.iret dX5_level_114 rfl (fnI e)
def sX5_level_c130 (h : Hp) : Option (Int32 × Hp) :=
  some ((-2 : Int32), h)
set_option maxRecDepth 10000 in
theorem vX5_level_c130 (h : Hp) (q : (Int32 × Hp)) (e : sX5_level_c130 h = some q) : V (Gs 3 (pI q)) mX5_level (0, 0) 130 [] [] h := by
  unfold sX5_level_c130 at e
  refine V.bipush dX5_level_130 (pc' := 132) rfl (v := -2) (by decide) ?_
  exact V.iret dX5_level_132 rfl (fnI e)
def sX5_level_c25 (k25 : Hp → Int32 → Int32 → Int32 → Int32 → Option (Int32 × Hp)) (h : Hp) (v1 : Int32) (v3 : Int32) (v4 : Int32) (v5 : Int32) : Option (Int32 × Hp) :=
  if (20 : Int32) ≤ v5 then (sX5_level_c130 h) else (if v4 = (-1 : Int32) then (sX5_level_c130 h) else ((sX1_endBelow h 6 v1 v4).bind fun q2 => if q2.1 = (-1 : Int32) then (sX5_level_c72 k25 q2.2 v1 v3 v4 v5 q2.1 (0 : Int32)) else ((sX1_capThrough q2.2 6 v1 q2.1 v4).bind fun q3 => sX5_level_c72 k25 q3.2 v1 v3 v4 v5 q2.1 q3.1)))
set_option maxRecDepth 10000 in
theorem vX5_level_c25 (k25 : Hp → Int32 → Int32 → Int32 → Int32 → Option (Int32 × Hp)) (hk25 : ∀ (h : Hp) (v1 : Int32) (v3 : Int32) (v4 : Int32) (v5 : Int32) (q : (Int32 × Hp)), k25 h v1 v3 v4 v5 = some q → V (Gs 3 (pI q)) mX5_level (0, 0) 25 [(0, .ref 1), (1, .int v1), (3, .int v3), (4, .int v4), (5, .int v5)] [] h) (h : Hp) (v1 : Int32) (v3 : Int32) (v4 : Int32) (v5 : Int32) (q : (Int32 × Hp)) (e : sX5_level_c25 k25 h v1 v3 v4 v5 = some q) : V (Gs 3 (pI q)) mX5_level (0, 0) 25 [(0, .ref 1), (1, .int v1), (3, .int v3), (4, .int v4), (5, .int v5)] [] h := by
  unfold sX5_level_c25 at e
  refine V.il dX5_level_25 (pc' := 27) rfl (j := 4) rfl ?_
  refine V.bipush dX5_level_27 (pc' := 29) rfl (v := 20) (by decide) ?_
  refine V.ic_ge dX5_level_29 (pc' := 32) rfl (tgt := 130) (by decide) (fun c => ?_) (fun c => ?_)
  · rw [if_pos c] at e
    refine V.pk [] rfl ?_
    exact vX5_level_c130 h q e
  · rw [if_neg c] at e
    refine V.il dX5_level_32 (pc' := 34) rfl (j := 3) rfl ?_
    refine V.iconst dX5_level_34 (pc' := 35) rfl (v := -1) (by decide) ?_
    refine V.ic_eq dX5_level_35 (pc' := 38) rfl (tgt := 130) (by decide) (fun c => ?_) (fun c => ?_)
    · rw [if_pos c] at e
      refine V.pk [] rfl ?_
      exact vX5_level_c130 h q e
    · rw [if_neg c] at e
      refine V.alq dX5_level_38 (pc' := 39) rfl (j := 0) rfl ?_
      refine V.getr dX5_level_39 (pc' := 42) rfl FL_X5_26 rfl (by decide) rfl (r' := 6) rfl ?_
      refine V.ilq dX5_level_42 (pc' := 43) rfl (j := 1) rfl ?_
      refine V.il dX5_level_43 (pc' := 45) rfl (j := 3) rfl ?_
      obtain ⟨q2, eq2, e⟩ := bd_s e
      refine V.callVi dX5_level_45 (pc' := 48) rfl CV_X5_193 (as := [.int v1, .int v4]) (kX1_endBelow h 6 v1 v4 q2 eq2) (Gs_rm (by decide)) rfl (by decide) rfl (Nat.le_of_ble_eq_true rfl) rfl ?_
      refine V.is dX5_level_48 (pc' := 50) rfl (by decide) rfl (L' := [(6, .int q2.1), (0, .ref 1), (1, .int v1), (3, .int v3), (4, .int v4), (5, .int v5)]) rfl ?_
      refine V.il dX5_level_50 (pc' := 52) rfl (j := 0) rfl ?_
      refine V.iconst dX5_level_52 (pc' := 53) rfl (v := -1) (by decide) ?_
      refine V.ic_ne dX5_level_53 (pc' := 56) rfl (tgt := 60) (by decide) (fun c => ?_) (fun c => ?_)
      · rw [if_neg c] at e
        refine V.alq dX5_level_60 (pc' := 61) rfl (j := 1) rfl ?_
        refine V.getr dX5_level_61 (pc' := 64) rfl FL_X5_26 rfl (by decide) rfl (r' := 6) rfl ?_
        refine V.ilq dX5_level_64 (pc' := 65) rfl (j := 2) rfl ?_
        refine V.il dX5_level_65 (pc' := 67) rfl (j := 0) rfl ?_
        refine V.il dX5_level_67 (pc' := 69) rfl (j := 4) rfl ?_
        obtain ⟨q3, eq3, e⟩ := bd_s e
        refine V.callVi dX5_level_69 (pc' := 72) rfl CV_X5_196 (as := [.int v1, .int q2.1, .int v4]) (kX1_capThrough q2.2 6 v1 q2.1 v4 q3 eq3) (Gs_rm (by decide)) rfl (by decide) rfl (Nat.le_of_ble_eq_true rfl) rfl ?_
        refine V.pk [1, 2, 3, 4, 5, 0] rfl ?_
        exact vX5_level_c72 k25 hk25 q3.2 v1 v3 v4 v5 q2.1 q3.1 q e
      · rw [if_pos c] at e
        refine V.iconst dX5_level_56 (pc' := 57) rfl (v := 0) (by decide) ?_
        refine V.goto dX5_level_57 (pc' := 72) (by decide) ?_
        refine V.pk [1, 2, 3, 4, 5, 0] rfl ?_
        exact vX5_level_c72 k25 hk25 q2.2 v1 v3 v4 v5 q2.1 (0 : Int32) q e
def sX5_level_b25 : Nat → Hp → Int32 → Int32 → Int32 → Int32 → Option (Int32 × Hp)
  | 0 => fun _ _ _ _ _ => none
  | n + 1 => sX5_level_c25 (sX5_level_b25 n)
theorem vX5_level_b25 : ∀ (n : Nat) (h : Hp) (v1 : Int32) (v3 : Int32) (v4 : Int32) (v5 : Int32) (q : (Int32 × Hp)), sX5_level_b25 n h v1 v3 v4 v5 = some q → V (Gs 3 (pI q)) mX5_level (0, 0) 25 [(0, .ref 1), (1, .int v1), (3, .int v3), (4, .int v4), (5, .int v5)] [] h
  | 0 => fun _ _ _ _ _ _ e => by cases e
  | n + 1 => fun h v1 v3 v4 v5 q e => vX5_level_c25 (sX5_level_b25 n) (vX5_level_b25 n) h v1 v3 v4 v5 q e
def sX5_level (h : Hp) (a1 : Int32) (a2 : Int32) : Option (Int32 × Hp) :=
  if (1 : Int32) ≤ a2 then ((sX1_endBelow h 6 a1 (501 : Int32)).bind fun q1 => sX5_level_b25 FU q1.2 a1 a2 q1.1 (0 : Int32)) else (some ((-1 : Int32), h))
set_option maxRecDepth 10000 in
theorem kX5_level (h : Hp) (a1 : Int32) (a2 : Int32) (q : (Int32 × Hp)) (e : sX5_level h a1 a2 = some q) : K 3 mX5_level [.ref 1, .int a1, .int a2] h (pI q) := by
  unfold sX5_level at e
  refine K.ofV (by decide) rfl (Nat.le_of_ble_eq_true rfl) ?_
  show V (Gs 3 (pI q)) mX5_level (0, 0) 0 [(0, .ref 1), (1, .int a1), (2, .int a2)] [] h
  refine V.ilq dX5_level_0 (pc' := 1) rfl (j := 2) rfl ?_
  refine V.iconst dX5_level_1 (pc' := 2) rfl (v := 1) (by decide) ?_
  refine V.ic_ge dX5_level_2 (pc' := 5) rfl (tgt := 7) (by decide) (fun c => ?_) (fun c => ?_)
  · rw [if_pos c] at e
    refine V.ilq dX5_level_7 (pc' := 8) rfl (j := 2) rfl ?_
    refine V.isq dX5_level_8 (pc' := 9) rfl (by decide) rfl (L' := [(3, .int a2), (0, .ref 1), (1, .int a1), (2, .int a2)]) rfl ?_
    refine V.alq dX5_level_9 (pc' := 10) rfl (j := 1) rfl ?_
    refine V.getr dX5_level_10 (pc' := 13) rfl FL_X5_26 rfl (by decide) rfl (r' := 6) rfl ?_
    refine V.ilq dX5_level_13 (pc' := 14) rfl (j := 2) rfl ?_
    refine V.sipush dX5_level_14 (pc' := 17) rfl (v := 501) (by decide) ?_
    obtain ⟨q1, eq1, e⟩ := bd_s e
    refine V.callVi dX5_level_17 (pc' := 20) rfl CV_X5_193 (as := [.int a1, .int (501 : Int32)]) (kX1_endBelow h 6 a1 (501 : Int32) q1 eq1) (Gs_rm (by decide)) rfl (by decide) rfl (Nat.le_of_ble_eq_true rfl) rfl ?_
    refine V.is dX5_level_20 (pc' := 22) rfl (by decide) rfl (L' := [(4, .int q1.1), (3, .int a2), (0, .ref 1), (1, .int a1), (2, .int a2)]) rfl ?_
    refine V.iconst dX5_level_22 (pc' := 23) rfl (v := 0) (by decide) ?_
    refine V.is dX5_level_23 (pc' := 25) rfl (by decide) rfl (L' := [(5, .int (0 : Int32)), (4, .int q1.1), (3, .int a2), (0, .ref 1), (1, .int a1), (2, .int a2)]) rfl ?_
    refine V.pk [3, 4, 2, 1, 0] rfl ?_
    exact vX5_level_b25 FU q1.2 a1 a2 q1.1 (0 : Int32) q e
  · rw [if_neg c] at e
    refine V.iconst dX5_level_5 (pc' := 6) rfl (v := -1) (by decide) ?_
    exact V.iret dX5_level_6 rfl (fnI e)

-- X5_left (level 3)
theorem dX5_left_0 : decode cX5_left 0 = .ok (.aload_n 0, 1) := by decide +kernel
theorem dX5_left_1 : decode cX5_left 1 = .ok (.getfield 48, 3) := by decide +kernel
theorem dX5_left_4 : decode cX5_left 4 = .ok (.iconst 0, 1) := by decide +kernel
theorem dX5_left_5 : decode cX5_left 5 = .ok (.invokevirtual 260, 3) := by decide +kernel
theorem dX5_left_8 : decode cX5_left 8 = .ok (.aload_n 0, 1) := by decide +kernel
theorem dX5_left_9 : decode cX5_left 9 = .ok (.getfield 52, 3) := by decide +kernel
theorem dX5_left_12 : decode cX5_left 12 = .ok (.iconst 0, 1) := by decide +kernel
theorem dX5_left_13 : decode cX5_left 13 = .ok (.invokevirtual 260, 3) := by decide +kernel
theorem dX5_left_16 : decode cX5_left 16 = .ok (.iadd, 1) := by decide +kernel
theorem dX5_left_17 : decode cX5_left 17 = .ok (.istore_n 1, 1) := by decide +kernel
theorem dX5_left_18 : decode cX5_left 18 = .ok (.aload_n 0, 1) := by decide +kernel
theorem dX5_left_19 : decode cX5_left 19 = .ok (.getfield 48, 3) := by decide +kernel
theorem dX5_left_22 : decode cX5_left 22 = .ok (.iconst 1, 1) := by decide +kernel
theorem dX5_left_23 : decode cX5_left 23 = .ok (.invokevirtual 260, 3) := by decide +kernel
theorem dX5_left_26 : decode cX5_left 26 = .ok (.aload_n 0, 1) := by decide +kernel
theorem dX5_left_27 : decode cX5_left 27 = .ok (.getfield 52, 3) := by decide +kernel
theorem dX5_left_30 : decode cX5_left 30 = .ok (.iconst 1, 1) := by decide +kernel
theorem dX5_left_31 : decode cX5_left 31 = .ok (.invokevirtual 260, 3) := by decide +kernel
theorem dX5_left_34 : decode cX5_left 34 = .ok (.iadd, 1) := by decide +kernel
theorem dX5_left_35 : decode cX5_left 35 = .ok (.istore_n 2, 1) := by decide +kernel
theorem dX5_left_36 : decode cX5_left 36 = .ok (.aload_n 0, 1) := by decide +kernel
theorem dX5_left_37 : decode cX5_left 37 = .ok (.getfield 19, 3) := by decide +kernel
theorem dX5_left_40 : decode cX5_left 40 = .ok (.iload_n 2, 1) := by decide +kernel
theorem dX5_left_41 : decode cX5_left 41 = .ok (.i2l, 1) := by decide +kernel
theorem dX5_left_42 : decode cX5_left 42 = .ok (.iload_n 1, 1) := by decide +kernel
theorem dX5_left_43 : decode cX5_left 43 = .ok (.aload_n 0, 1) := by decide +kernel
theorem dX5_left_44 : decode cX5_left 44 = .ok (.getfield 36, 3) := by decide +kernel
theorem dX5_left_47 : decode cX5_left 47 = .ok (.getfield 163, 3) := by decide +kernel
theorem dX5_left_50 : decode cX5_left 50 = .ok (.isub, 1) := by decide +kernel
theorem dX5_left_51 : decode cX5_left 51 = .ok (.i2l, 1) := by decide +kernel
theorem dX5_left_52 : decode cX5_left 52 = .ok (.invokevirtual 160, 3) := by decide +kernel
theorem dX5_left_55 : decode cX5_left 55 = .ok (.iload_n 1, 1) := by decide +kernel
theorem dX5_left_56 : decode cX5_left 56 = .ok (.ireturn, 1) := by decide +kernel
def sX5_left (h : Hp) : Option (Int32 × Hp) :=
  (sX2_restOfKind h 26 (0 : Int32)).bind fun q1 => (sX2_restOfKind q1.2 40 (0 : Int32)).bind fun q2 => nm ((q1.1 + q2.1)) fun x3 => (sX2_restOfKind q2.2 26 (1 : Int32)).bind fun q4 => (sX2_restOfKind q4.2 40 (1 : Int32)).bind fun q5 => nm ((q4.1 + q5.1)) fun x6 => (sX4_tell_ q5.2 x6.toInt64 ((x3 - (q5.2.1 16 5)).toInt64)).bind fun q7 => some (x3, q7)
set_option maxRecDepth 10000 in
theorem kX5_left (h : Hp) (q : (Int32 × Hp)) (e : sX5_left h = some q) : K 3 mX5_left [.ref 1] h (pI q) := by
  unfold sX5_left at e
  refine K.ofV (by decide) rfl (Nat.le_of_ble_eq_true rfl) ?_
  show V (Gs 3 (pI q)) mX5_left (0, 0) 0 [(0, .ref 1)] [] h
  refine V.alq dX5_left_0 (pc' := 1) rfl (j := 0) rfl ?_
  refine V.getr dX5_left_1 (pc' := 4) rfl FL_X5_48 rfl (by decide) rfl (r' := 26) rfl ?_
  refine V.iconst dX5_left_4 (pc' := 5) rfl (v := 0) (by decide) ?_
  obtain ⟨q1, eq1, e⟩ := bd_s e
  refine V.callVi dX5_left_5 (pc' := 8) rfl CV_X5_260 (as := [.int (0 : Int32)]) (kX2_restOfKind h 26 (0 : Int32) q1 eq1) (Gs_rm (by decide)) rfl (by decide) rfl (Nat.le_of_ble_eq_true rfl) rfl ?_
  refine V.alq dX5_left_8 (pc' := 9) rfl (j := 0) rfl ?_
  refine V.getr dX5_left_9 (pc' := 12) rfl FL_X5_52 rfl (by decide) rfl (r' := 40) rfl ?_
  refine V.iconst dX5_left_12 (pc' := 13) rfl (v := 0) (by decide) ?_
  obtain ⟨q2, eq2, e⟩ := bd_s e
  refine V.callVi dX5_left_13 (pc' := 16) rfl CV_X5_260 (as := [.int (0 : Int32)]) (kX2_restOfKind q1.2 40 (0 : Int32) q2 eq2) (Gs_rm (by decide)) rfl (by decide) rfl (Nat.le_of_ble_eq_true rfl) rfl ?_
  refine V.iadd dX5_left_16 (pc' := 17) rfl ?_
  obtain ⟨x3, ex3, e⟩ := nm_s e
  refine V.isq dX5_left_17 (pc' := 18) rfl (by decide) ex3 (L' := [(1, .int x3), (0, .ref 1)]) rfl ?_
  refine V.alq dX5_left_18 (pc' := 19) rfl (j := 1) rfl ?_
  refine V.getr dX5_left_19 (pc' := 22) rfl FL_X5_48 rfl (by decide) rfl (r' := 26) rfl ?_
  refine V.iconst dX5_left_22 (pc' := 23) rfl (v := 1) (by decide) ?_
  obtain ⟨q4, eq4, e⟩ := bd_s e
  refine V.callVi dX5_left_23 (pc' := 26) rfl CV_X5_260 (as := [.int (1 : Int32)]) (kX2_restOfKind q2.2 26 (1 : Int32) q4 eq4) (Gs_rm (by decide)) rfl (by decide) rfl (Nat.le_of_ble_eq_true rfl) rfl ?_
  refine V.alq dX5_left_26 (pc' := 27) rfl (j := 1) rfl ?_
  refine V.getr dX5_left_27 (pc' := 30) rfl FL_X5_52 rfl (by decide) rfl (r' := 40) rfl ?_
  refine V.iconst dX5_left_30 (pc' := 31) rfl (v := 1) (by decide) ?_
  obtain ⟨q5, eq5, e⟩ := bd_s e
  refine V.callVi dX5_left_31 (pc' := 34) rfl CV_X5_260 (as := [.int (1 : Int32)]) (kX2_restOfKind q4.2 40 (1 : Int32) q5 eq5) (Gs_rm (by decide)) rfl (by decide) rfl (Nat.le_of_ble_eq_true rfl) rfl ?_
  refine V.iadd dX5_left_34 (pc' := 35) rfl ?_
  obtain ⟨x6, ex6, e⟩ := nm_s e
  refine V.isq dX5_left_35 (pc' := 36) rfl (by decide) ex6 (L' := [(2, .int x6), (1, .int x3), (0, .ref 1)]) rfl ?_
  refine V.alq dX5_left_36 (pc' := 37) rfl (j := 2) rfl ?_
  refine V.getr dX5_left_37 (pc' := 40) rfl FL_X5_19 rfl (by decide) rfl (r' := 4) rfl ?_
  refine V.ilq dX5_left_40 (pc' := 41) rfl (j := 0) rfl ?_
  refine V.i2l dX5_left_41 (pc' := 42) rfl ?_
  refine V.ilq dX5_left_42 (pc' := 43) rfl (j := 1) rfl ?_
  refine V.alq dX5_left_43 (pc' := 44) rfl (j := 2) rfl ?_
  refine V.getr dX5_left_44 (pc' := 47) rfl FL_X5_36 rfl (by decide) rfl (r' := 16) rfl ?_
  refine V.getf dX5_left_47 (pc' := 50) rfl FL_X5_163 rfl (by decide) rfl ?_
  refine V.isub dX5_left_50 (pc' := 51) rfl ?_
  refine V.i2l dX5_left_51 (pc' := 52) rfl ?_
  obtain ⟨q7, eq7, e⟩ := bd_s e
  refine V.callVv dX5_left_52 (pc' := 55) rfl CV_X5_160 (as := [.long x6.toInt64, .long ((x3 - (q5.2.1 16 5)).toInt64)]) (kX4_tell_ q5.2 x6.toInt64 ((x3 - (q5.2.1 16 5)).toInt64) q7 eq7) (Gs_rm (by decide)) rfl (by decide) rfl (Nat.le_of_ble_eq_true rfl) rfl ?_
  refine V.ilq dX5_left_55 (pc' := 56) rfl (j := 1) rfl ?_
  exact V.iret dX5_left_56 rfl (fnI e)

-- X5_loop (level 3)
theorem dX5_loop_0 : decode cX5_loop 0 = .ok (.aload_n 0, 1) := by decide +kernel
theorem dX5_loop_1 : decode cX5_loop 1 = .ok (.iload_n 1, 1) := by decide +kernel
theorem dX5_loop_2 : decode cX5_loop 2 = .ok (.iload_n 2, 1) := by decide +kernel
theorem dX5_loop_3 : decode cX5_loop 3 = .ok (.invokevirtual 264, 3) := by decide +kernel
theorem dX5_loop_6 : decode cX5_loop 6 = .ok (.ifCond .ne 5, 3) := by decide +kernel
theorem dX5_loop_9 : decode cX5_loop 9 = .ok (.iconst (-1), 1) := by decide +kernel
theorem dX5_loop_10 : decode cX5_loop 10 = .ok (.ireturn, 1) := by decide +kernel
theorem dX5_loop_11 : decode cX5_loop 11 = .ok (.aload_n 0, 1) := by decide +kernel
theorem dX5_loop_12 : decode cX5_loop 12 = .ok (.iload_n 1, 1) := by decide +kernel
theorem dX5_loop_13 : decode cX5_loop 13 = .ok (.invokevirtual 214, 3) := by decide +kernel
theorem dX5_loop_16 : decode cX5_loop 16 = .ok (.astore_n 3, 1) := by decide +kernel
theorem dX5_loop_17 : decode cX5_loop 17 = .ok (.aload_n 3, 1) := by decide +kernel
theorem dX5_loop_18 : decode cX5_loop 18 = .ok (.iload_n 2, 1) := by decide +kernel
theorem dX5_loop_19 : decode cX5_loop 19 = .ok (.invokevirtual 304, 3) := by decide +kernel
theorem dX5_loop_22 : decode cX5_loop 22 = .ok (.ifCond .ne 6, 3) := by decide +kernel
theorem dX5_loop_25 : decode cX5_loop 25 = .ok (.bipush (-2), 2) := by decide +kernel
theorem dX5_loop_27 : decode cX5_loop 27 = .ok (.ireturn, 1) := by decide +kernel
theorem dX5_loop_28 : decode cX5_loop 28 = .ok (.aload_n 0, 1) := by decide +kernel
theorem dX5_loop_29 : decode cX5_loop 29 = .ok (.getfield 19, 3) := by decide +kernel
theorem dX5_loop_32 : decode cX5_loop 32 = .ok (.invokevirtual 166, 3) := by decide +kernel
theorem dX5_loop_35 : decode cX5_loop 35 = .ok (.iconst 0, 1) := by decide +kernel
theorem dX5_loop_36 : decode cX5_loop 36 = .ok (.istore 4, 2) := by decide +kernel
theorem dX5_loop_38 : decode cX5_loop 38 = .ok (.iload 4, 2) := by decide +kernel
theorem dX5_loop_40 : decode cX5_loop 40 = .ok (.aload_n 3, 1) := by decide +kernel
theorem dX5_loop_41 : decode cX5_loop 41 = .ok (.getfield 307, 3) := by decide +kernel
theorem dX5_loop_44 : decode cX5_loop 44 = .ok (.if_icmp .ge 24, 3) := by decide +kernel
theorem dX5_loop_47 : decode cX5_loop 47 = .ok (.aload_n 0, 1) := by decide +kernel
theorem dX5_loop_48 : decode cX5_loop 48 = .ok (.getfield 19, 3) := by decide +kernel
theorem dX5_loop_51 : decode cX5_loop 51 = .ok (.aload_n 3, 1) := by decide +kernel
theorem dX5_loop_52 : decode cX5_loop 52 = .ok (.getfield 310, 3) := by decide +kernel
theorem dX5_loop_55 : decode cX5_loop 55 = .ok (.iload 4, 2) := by decide +kernel
theorem dX5_loop_57 : decode cX5_loop 57 = .ok (.iaload, 1) := by decide +kernel
theorem dX5_loop_58 : decode cX5_loop 58 = .ok (.i2l, 1) := by decide +kernel
theorem dX5_loop_59 : decode cX5_loop 59 = .ok (.invokevirtual 169, 3) := by decide +kernel
theorem dX5_loop_62 : decode cX5_loop 62 = .ok (.iinc 4 1, 3) := by decide +kernel
theorem dX5_loop_65 : decode cX5_loop 65 = .ok (.goto (-27), 3) := by decide +kernel
theorem dX5_loop_68 : decode cX5_loop 68 = .ok (.aload_n 3, 1) := by decide +kernel
theorem dX5_loop_69 : decode cX5_loop 69 = .ok (.getfield 307, 3) := by decide +kernel
theorem dX5_loop_72 : decode cX5_loop 72 = .ok (.ireturn, 1) := by decide +kernel
def sX5_loop_c38 (k38 : Hp → Nat → Int32 → Option (Int32 × Hp)) (h : Hp) (v3 : Nat) (v4 : Int32) : Option (Int32 × Hp) :=
  if (h.1 v3 16) ≤ v4 then (some ((h.1 v3 16), h)) else (gd (inb v4 10) ((sX4_add h ((h.1 (v3 + 12) v4.toNatClampNeg).toInt64)).bind fun q7 => nm (v4 + (1 : Int32)) fun x8 => k38 q7 v3 x8))
set_option maxRecDepth 10000 in
theorem vX5_loop_c38 (k38 : Hp → Nat → Int32 → Option (Int32 × Hp)) (hk38 : ∀ (h : Hp) (v3 : Nat) (v4 : Int32) (hv3 : ck v3 = 2) (q : (Int32 × Hp)), k38 h v3 v4 = some q → V (Gs 3 (pI q)) mX5_loop (0, 0) 38 [(0, .ref 1), (3, .ref v3), (4, .int v4)] [] h) (h : Hp) (v3 : Nat) (v4 : Int32) (hv3 : ck v3 = 2) (q : (Int32 × Hp)) (e : sX5_loop_c38 k38 h v3 v4 = some q) : V (Gs 3 (pI q)) mX5_loop (0, 0) 38 [(0, .ref 1), (3, .ref v3), (4, .int v4)] [] h := by
  unfold sX5_loop_c38 at e
  refine V.il dX5_loop_38 (pc' := 40) rfl (j := 2) rfl ?_
  refine V.alq dX5_loop_40 (pc' := 41) rfl (j := 1) rfl ?_
  refine V.getf dX5_loop_41 (pc' := 44) rfl FL_X5_307 hv3 (by decide) rfl ?_
  refine V.ic_ge dX5_loop_44 (pc' := 47) rfl (tgt := 68) (by decide) (fun c => ?_) (fun c => ?_)
  · rw [if_pos c] at e
    refine V.alq dX5_loop_68 (pc' := 69) rfl (j := 1) rfl ?_
    refine V.getf dX5_loop_69 (pc' := 72) rfl FL_X5_307 hv3 (by decide) rfl ?_
    exact V.iret dX5_loop_72 rfl (fnI e)
  · rw [if_neg c] at e
    refine V.alq dX5_loop_47 (pc' := 48) rfl (j := 0) rfl ?_
    refine V.getr dX5_loop_48 (pc' := 51) rfl FL_X5_19 rfl (by decide) rfl (r' := 4) rfl ?_
    refine V.alq dX5_loop_51 (pc' := 52) rfl (j := 1) rfl ?_
    refine V.getr dX5_loop_52 (pc' := 55) rfl FL_X5_310 hv3 (by decide) rfl (r' := v3 + 12) rfl ?_
    refine V.il dX5_loop_55 (pc' := 57) rfl (j := 2) rfl ?_
    obtain ⟨c6, e⟩ := gd_s e
    refine V.iald dX5_loop_57 (pc' := 58) rfl (akX2_12 hv3).1 (akX2_12 hv3).2 (inb_t c6) ?_
    refine V.i2l dX5_loop_58 (pc' := 59) rfl ?_
    obtain ⟨q7, eq7, e⟩ := bd_s e
    refine V.callVv dX5_loop_59 (pc' := 62) rfl CV_X5_169 (as := [.long ((h.1 (v3 + 12) v4.toNatClampNeg).toInt64)]) (kX4_add h ((h.1 (v3 + 12) v4.toNatClampNeg).toInt64) q7 eq7) (Gs_rm (by decide)) rfl (by decide) rfl (Nat.le_of_ble_eq_true rfl) rfl ?_
    obtain ⟨x8, ex8, e⟩ := nm_s e
    refine V.iinc dX5_loop_62 (pc' := 65) rfl (j := 2) rfl (v := 1) (by decide) (by decide) ex8 (L' := [(4, .int x8), (0, .ref 1), (3, .ref v3)]) rfl ?_
    refine V.goto dX5_loop_65 (pc' := 38) (by decide) ?_
    refine V.pk [1, 2, 0] rfl ?_
    exact hk38 q7 v3 x8 hv3 q e
def sX5_loop_b38 : Nat → Hp → Nat → Int32 → Option (Int32 × Hp)
  | 0 => fun _ _ _ => none
  | n + 1 => sX5_loop_c38 (sX5_loop_b38 n)
theorem vX5_loop_b38 : ∀ (n : Nat) (h : Hp) (v3 : Nat) (v4 : Int32) (hv3 : ck v3 = 2) (q : (Int32 × Hp)), sX5_loop_b38 n h v3 v4 = some q → V (Gs 3 (pI q)) mX5_loop (0, 0) 38 [(0, .ref 1), (3, .ref v3), (4, .int v4)] [] h
  | 0 => fun _ _ _ _ _ e => by cases e
  | n + 1 => fun h v3 v4 hv3 q e => vX5_loop_c38 (sX5_loop_b38 n) (vX5_loop_b38 n) h v3 v4 hv3 q e
def sX5_loop (h : Hp) (a1 : Int32) (a2 : Int32) : Option (Int32 × Hp) :=
  (sX5_hasMatch h a1 a2).bind fun q1 => if q1.1 = 0 then (some ((-1 : Int32), q1.2)) else ((sX5_sideOf q1.2 a1).bind fun q2 => gd (isC q2.1 2) ((sX2_findRing q2.2 q2.1 a2).bind fun q4 => if q4.1 = 0 then (some ((-2 : Int32), q4.2)) else ((sX4_empty q4.2).bind fun q5 => sX5_loop_b38 FU q5 q2.1 (0 : Int32))))
set_option maxRecDepth 10000 in
theorem kX5_loop (h : Hp) (a1 : Int32) (a2 : Int32) (q : (Int32 × Hp)) (e : sX5_loop h a1 a2 = some q) : K 3 mX5_loop [.ref 1, .int a1, .int a2] h (pI q) := by
  unfold sX5_loop at e
  refine K.ofV (by decide) rfl (Nat.le_of_ble_eq_true rfl) ?_
  show V (Gs 3 (pI q)) mX5_loop (0, 0) 0 [(0, .ref 1), (1, .int a1), (2, .int a2)] [] h
  refine V.alq dX5_loop_0 (pc' := 1) rfl (j := 0) rfl ?_
  refine V.ilq dX5_loop_1 (pc' := 2) rfl (j := 1) rfl ?_
  refine V.ilq dX5_loop_2 (pc' := 3) rfl (j := 2) rfl ?_
  obtain ⟨q1, eq1, e⟩ := bd_s e
  refine V.callVi dX5_loop_3 (pc' := 6) rfl CV_X5_264 (as := [.int a1, .int a2]) (kX5_hasMatch h a1 a2 q1 eq1) (Gs_rm (by decide)) rfl (by decide) rfl (Nat.le_of_ble_eq_true rfl) rfl ?_
  refine V.if_ne dX5_loop_6 (pc' := 9) rfl (tgt := 11) (by decide) (fun c => ?_) (fun c => ?_)
  · rw [if_neg c] at e
    refine V.alq dX5_loop_11 (pc' := 12) rfl (j := 0) rfl ?_
    refine V.ilq dX5_loop_12 (pc' := 13) rfl (j := 1) rfl ?_
    obtain ⟨q2, eq2, e⟩ := bd_s e
    refine V.callVr dX5_loop_13 (pc' := 16) rfl CV_X5_214 (as := [.int a1]) (kX5_sideOf q1.2 a1 q2 eq2) (Gs_rm (by decide)) rfl (by decide) rfl (Nat.le_of_ble_eq_true rfl) rfl ?_
    obtain ⟨c3, e⟩ := gd_s e
    refine V.asq dX5_loop_16 (pc' := 17) rfl (by decide) rfl (L' := [(3, .ref q2.1), (0, .ref 1), (1, .int a1), (2, .int a2)]) rfl ?_
    refine V.alq dX5_loop_17 (pc' := 18) rfl (j := 0) rfl ?_
    refine V.ilq dX5_loop_18 (pc' := 19) rfl (j := 3) rfl ?_
    obtain ⟨q4, eq4, e⟩ := bd_s e
    refine V.callVi dX5_loop_19 (pc' := 22) rfl CV_X5_304 (as := [.int a2]) (kX2_findRing q2.2 q2.1 a2 q4 eq4) (Gs_rm (by decide)) (isC_t c3) (by decide) rfl (Nat.le_of_ble_eq_true rfl) rfl ?_
    refine V.if_ne dX5_loop_22 (pc' := 25) rfl (tgt := 28) (by decide) (fun c => ?_) (fun c => ?_)
    · rw [if_neg c] at e
      refine V.alq dX5_loop_28 (pc' := 29) rfl (j := 1) rfl ?_
      refine V.getr dX5_loop_29 (pc' := 32) rfl FL_X5_19 rfl (by decide) rfl (r' := 4) rfl ?_
      obtain ⟨q5, eq5, e⟩ := bd_s e
      refine V.callVv dX5_loop_32 (pc' := 35) rfl CV_X5_166 (as := []) (kX4_empty q4.2 q5 eq5) (Gs_rm (by decide)) rfl (by decide) rfl (Nat.le_of_ble_eq_true rfl) rfl ?_
      refine V.iconst dX5_loop_35 (pc' := 36) rfl (v := 0) (by decide) ?_
      refine V.is dX5_loop_36 (pc' := 38) rfl (by decide) rfl (L' := [(4, .int (0 : Int32)), (3, .ref q2.1), (0, .ref 1), (1, .int a1), (2, .int a2)]) rfl ?_
      refine V.pk [2, 1, 0] rfl ?_
      exact vX5_loop_b38 FU q5 q2.1 (0 : Int32) (isC_t c3) q e
    · rw [if_pos c] at e
      refine V.bipush dX5_loop_25 (pc' := 27) rfl (v := -2) (by decide) ?_
      exact V.iret dX5_loop_27 rfl (fnI e)
  · rw [if_pos c] at e
    refine V.iconst dX5_loop_9 (pc' := 10) rfl (v := -1) (by decide) ?_
    exact V.iret dX5_loop_10 rfl (fnI e)

-- X5_count (level 3)
theorem dX5_count_0 : decode cX5_count 0 = .ok (.iload_n 1, 1) := by decide +kernel
theorem dX5_count_1 : decode cX5_count 1 = .ok (.tableswitch 124 0 8 #[51, 59, 67, 72, 80, 88, 98, 108, 116], 51) := by decide +kernel
theorem dX5_count_52 : decode cX5_count 52 = .ok (.aload_n 0, 1) := by decide +kernel
theorem dX5_count_53 : decode cX5_count 53 = .ok (.getfield 26, 3) := by decide +kernel
theorem dX5_count_56 : decode cX5_count 56 = .ok (.getfield 80, 3) := by decide +kernel
theorem dX5_count_59 : decode cX5_count 59 = .ok (.ireturn, 1) := by decide +kernel
theorem dX5_count_60 : decode cX5_count 60 = .ok (.aload_n 0, 1) := by decide +kernel
theorem dX5_count_61 : decode cX5_count 61 = .ok (.getfield 26, 3) := by decide +kernel
theorem dX5_count_64 : decode cX5_count 64 = .ok (.invokevirtual 316, 3) := by decide +kernel
theorem dX5_count_67 : decode cX5_count 67 = .ok (.ireturn, 1) := by decide +kernel
theorem dX5_count_68 : decode cX5_count 68 = .ok (.aload_n 0, 1) := by decide +kernel
theorem dX5_count_69 : decode cX5_count 69 = .ok (.getfield 55, 3) := by decide +kernel
theorem dX5_count_72 : decode cX5_count 72 = .ok (.ireturn, 1) := by decide +kernel
theorem dX5_count_73 : decode cX5_count 73 = .ok (.aload_n 0, 1) := by decide +kernel
theorem dX5_count_74 : decode cX5_count 74 = .ok (.getfield 48, 3) := by decide +kernel
theorem dX5_count_77 : decode cX5_count 77 = .ok (.getfield 243, 3) := by decide +kernel
theorem dX5_count_80 : decode cX5_count 80 = .ok (.ireturn, 1) := by decide +kernel
theorem dX5_count_81 : decode cX5_count 81 = .ok (.aload_n 0, 1) := by decide +kernel
theorem dX5_count_82 : decode cX5_count 82 = .ok (.getfield 52, 3) := by decide +kernel
theorem dX5_count_85 : decode cX5_count 85 = .ok (.getfield 243, 3) := by decide +kernel
theorem dX5_count_88 : decode cX5_count 88 = .ok (.ireturn, 1) := by decide +kernel
theorem dX5_count_89 : decode cX5_count 89 = .ok (.aload_n 0, 1) := by decide +kernel
theorem dX5_count_90 : decode cX5_count 90 = .ok (.getfield 26, 3) := by decide +kernel
theorem dX5_count_93 : decode cX5_count 93 = .ok (.iconst 1, 1) := by decide +kernel
theorem dX5_count_94 : decode cX5_count 94 = .ok (.iconst 0, 1) := by decide +kernel
theorem dX5_count_95 : decode cX5_count 95 = .ok (.invokevirtual 190, 3) := by decide +kernel
theorem dX5_count_98 : decode cX5_count 98 = .ok (.ireturn, 1) := by decide +kernel
theorem dX5_count_99 : decode cX5_count 99 = .ok (.aload_n 0, 1) := by decide +kernel
theorem dX5_count_100 : decode cX5_count 100 = .ok (.getfield 26, 3) := by decide +kernel
theorem dX5_count_103 : decode cX5_count 103 = .ok (.iconst 0, 1) := by decide +kernel
theorem dX5_count_104 : decode cX5_count 104 = .ok (.iconst 0, 1) := by decide +kernel
theorem dX5_count_105 : decode cX5_count 105 = .ok (.invokevirtual 190, 3) := by decide +kernel
theorem dX5_count_108 : decode cX5_count 108 = .ok (.ireturn, 1) := by decide +kernel
theorem dX5_count_109 : decode cX5_count 109 = .ok (.aload_n 0, 1) := by decide +kernel
theorem dX5_count_110 : decode cX5_count 110 = .ok (.getfield 19, 3) := by decide +kernel
theorem dX5_count_113 : decode cX5_count 113 = .ok (.getfield 319, 3) := by decide +kernel
theorem dX5_count_116 : decode cX5_count 116 = .ok (.ireturn, 1) := by decide +kernel
theorem dX5_count_117 : decode cX5_count 117 = .ok (.aload_n 0, 1) := by decide +kernel
theorem dX5_count_118 : decode cX5_count 118 = .ok (.getfield 12, 3) := by decide +kernel
theorem dX5_count_121 : decode cX5_count 121 = .ok (.getfield 63, 3) := by decide +kernel
theorem dX5_count_124 : decode cX5_count 124 = .ok (.ireturn, 1) := by decide +kernel
theorem dX5_count_125 : decode cX5_count 125 = .ok (.iconst (-1), 1) := by decide +kernel
theorem dX5_count_126 : decode cX5_count 126 = .ok (.ireturn, 1) := by decide +kernel
def sX5_count (h : Hp) (a1 : Int32) : Option (Int32 × Hp) :=
  if a1 = 0 then (some ((h.1 6 4), h)) else (if a1 = 1 then ((sX1_hotBits h 6).bind fun q1 => some (q1.1, q1.2)) else (if a1 = 2 then (some ((h.1 1 8), h)) else (if a1 = 3 then (some ((h.1 26 14), h)) else (if a1 = 4 then (some ((h.1 40 14), h)) else (if a1 = 5 then ((sX1_heatAbove h 6 (1 : Int32) (0 : Int32)).bind fun q2 => some (q2.1, q2.2)) else (if a1 = 6 then ((sX1_heatAbove h 6 (0 : Int32) (0 : Int32)).bind fun q3 => some (q3.1, q3.2)) else (if a1 = 7 then (some ((h.1 4 1), h)) else (if a1 = 8 then (some ((h.1 2 1), h)) else (some ((-1 : Int32), h))))))))))
set_option maxRecDepth 10000 in
theorem kX5_count (h : Hp) (a1 : Int32) (q : (Int32 × Hp)) (e : sX5_count h a1 = some q) : K 3 mX5_count [.ref 1, .int a1] h (pI q) := by
  unfold sX5_count at e
  refine K.ofV (by decide) rfl (Nat.le_of_ble_eq_true rfl) ?_
  show V (Gs 3 (pI q)) mX5_count (0, 0) 0 [(0, .ref 1), (1, .int a1)] [] h
  refine V.ilq dX5_count_0 (pc' := 1) rfl (j := 1) rfl ?_
  by_cases c0 : a1 = 0
  · rw [if_pos c0] at e
    refine V.tbIn dX5_count_1 (by rw [c0]; decide) (by rw [c0]; decide) (off := 51) (by rw [c0]; rfl) (tgt := 52) (by decide) ?_
    refine V.alq dX5_count_52 (pc' := 53) rfl (j := 0) rfl ?_
    refine V.getr dX5_count_53 (pc' := 56) rfl FL_X5_26 rfl (by decide) rfl (r' := 6) rfl ?_
    refine V.getf dX5_count_56 (pc' := 59) rfl FL_X5_80 rfl (by decide) rfl ?_
    exact V.iret dX5_count_59 rfl (fnI e)
  rw [if_neg c0] at e
  by_cases c1 : a1 = 1
  · rw [if_pos c1] at e
    refine V.tbIn dX5_count_1 (by rw [c1]; decide) (by rw [c1]; decide) (off := 59) (by rw [c1]; rfl) (tgt := 60) (by decide) ?_
    refine V.alq dX5_count_60 (pc' := 61) rfl (j := 0) rfl ?_
    refine V.getr dX5_count_61 (pc' := 64) rfl FL_X5_26 rfl (by decide) rfl (r' := 6) rfl ?_
    obtain ⟨q1, eq1, e⟩ := bd_s e
    refine V.callVi dX5_count_64 (pc' := 67) rfl CV_X5_316 (as := []) (kX1_hotBits h 6 q1 eq1) (Gs_rm (by decide)) rfl (by decide) rfl (Nat.le_of_ble_eq_true rfl) rfl ?_
    exact V.iret dX5_count_67 rfl (fnI e)
  rw [if_neg c1] at e
  by_cases c2 : a1 = 2
  · rw [if_pos c2] at e
    refine V.tbIn dX5_count_1 (by rw [c2]; decide) (by rw [c2]; decide) (off := 67) (by rw [c2]; rfl) (tgt := 68) (by decide) ?_
    refine V.alq dX5_count_68 (pc' := 69) rfl (j := 0) rfl ?_
    refine V.getf dX5_count_69 (pc' := 72) rfl FL_X5_55 rfl (by decide) rfl ?_
    exact V.iret dX5_count_72 rfl (fnI e)
  rw [if_neg c2] at e
  by_cases c3 : a1 = 3
  · rw [if_pos c3] at e
    refine V.tbIn dX5_count_1 (by rw [c3]; decide) (by rw [c3]; decide) (off := 72) (by rw [c3]; rfl) (tgt := 73) (by decide) ?_
    refine V.alq dX5_count_73 (pc' := 74) rfl (j := 0) rfl ?_
    refine V.getr dX5_count_74 (pc' := 77) rfl FL_X5_48 rfl (by decide) rfl (r' := 26) rfl ?_
    refine V.getf dX5_count_77 (pc' := 80) rfl FL_X5_243 rfl (by decide) rfl ?_
    exact V.iret dX5_count_80 rfl (fnI e)
  rw [if_neg c3] at e
  by_cases c4 : a1 = 4
  · rw [if_pos c4] at e
    refine V.tbIn dX5_count_1 (by rw [c4]; decide) (by rw [c4]; decide) (off := 80) (by rw [c4]; rfl) (tgt := 81) (by decide) ?_
    refine V.alq dX5_count_81 (pc' := 82) rfl (j := 0) rfl ?_
    refine V.getr dX5_count_82 (pc' := 85) rfl FL_X5_52 rfl (by decide) rfl (r' := 40) rfl ?_
    refine V.getf dX5_count_85 (pc' := 88) rfl FL_X5_243 rfl (by decide) rfl ?_
    exact V.iret dX5_count_88 rfl (fnI e)
  rw [if_neg c4] at e
  by_cases c5 : a1 = 5
  · rw [if_pos c5] at e
    refine V.tbIn dX5_count_1 (by rw [c5]; decide) (by rw [c5]; decide) (off := 88) (by rw [c5]; rfl) (tgt := 89) (by decide) ?_
    refine V.alq dX5_count_89 (pc' := 90) rfl (j := 0) rfl ?_
    refine V.getr dX5_count_90 (pc' := 93) rfl FL_X5_26 rfl (by decide) rfl (r' := 6) rfl ?_
    refine V.iconst dX5_count_93 (pc' := 94) rfl (v := 1) (by decide) ?_
    refine V.iconst dX5_count_94 (pc' := 95) rfl (v := 0) (by decide) ?_
    obtain ⟨q2, eq2, e⟩ := bd_s e
    refine V.callVi dX5_count_95 (pc' := 98) rfl CV_X5_190 (as := [.int (1 : Int32), .int (0 : Int32)]) (kX1_heatAbove h 6 (1 : Int32) (0 : Int32) q2 eq2) (Gs_rm (by decide)) rfl (by decide) rfl (Nat.le_of_ble_eq_true rfl) rfl ?_
    exact V.iret dX5_count_98 rfl (fnI e)
  rw [if_neg c5] at e
  by_cases c6 : a1 = 6
  · rw [if_pos c6] at e
    refine V.tbIn dX5_count_1 (by rw [c6]; decide) (by rw [c6]; decide) (off := 98) (by rw [c6]; rfl) (tgt := 99) (by decide) ?_
    refine V.alq dX5_count_99 (pc' := 100) rfl (j := 0) rfl ?_
    refine V.getr dX5_count_100 (pc' := 103) rfl FL_X5_26 rfl (by decide) rfl (r' := 6) rfl ?_
    refine V.iconst dX5_count_103 (pc' := 104) rfl (v := 0) (by decide) ?_
    refine V.iconst dX5_count_104 (pc' := 105) rfl (v := 0) (by decide) ?_
    obtain ⟨q3, eq3, e⟩ := bd_s e
    refine V.callVi dX5_count_105 (pc' := 108) rfl CV_X5_190 (as := [.int (0 : Int32), .int (0 : Int32)]) (kX1_heatAbove h 6 (0 : Int32) (0 : Int32) q3 eq3) (Gs_rm (by decide)) rfl (by decide) rfl (Nat.le_of_ble_eq_true rfl) rfl ?_
    exact V.iret dX5_count_108 rfl (fnI e)
  rw [if_neg c6] at e
  by_cases c7 : a1 = 7
  · rw [if_pos c7] at e
    refine V.tbIn dX5_count_1 (by rw [c7]; decide) (by rw [c7]; decide) (off := 108) (by rw [c7]; rfl) (tgt := 109) (by decide) ?_
    refine V.alq dX5_count_109 (pc' := 110) rfl (j := 0) rfl ?_
    refine V.getr dX5_count_110 (pc' := 113) rfl FL_X5_19 rfl (by decide) rfl (r' := 4) rfl ?_
    refine V.getf dX5_count_113 (pc' := 116) rfl FL_X5_319 rfl (by decide) rfl ?_
    exact V.iret dX5_count_116 rfl (fnI e)
  rw [if_neg c7] at e
  by_cases c8 : a1 = 8
  · rw [if_pos c8] at e
    refine V.tbIn dX5_count_1 (by rw [c8]; decide) (by rw [c8]; decide) (off := 116) (by rw [c8]; rfl) (tgt := 117) (by decide) ?_
    refine V.alq dX5_count_117 (pc' := 118) rfl (j := 0) rfl ?_
    refine V.getr dX5_count_118 (pc' := 121) rfl FL_X5_12 rfl (by decide) rfl (r' := 2) rfl ?_
    refine V.getf dX5_count_121 (pc' := 124) rfl FL_X5_63 rfl (by decide) rfl ?_
    exact V.iret dX5_count_124 rfl (fnI e)
  rw [if_neg c8] at e
  have n0 : ¬ (a1).toInt = 0 := fun z => c0 (Int32.toInt_inj.mp z)
  have n1 : ¬ (a1).toInt = 1 := fun z => c1 (Int32.toInt_inj.mp z)
  have n2 : ¬ (a1).toInt = 2 := fun z => c2 (Int32.toInt_inj.mp z)
  have n3 : ¬ (a1).toInt = 3 := fun z => c3 (Int32.toInt_inj.mp z)
  have n4 : ¬ (a1).toInt = 4 := fun z => c4 (Int32.toInt_inj.mp z)
  have n5 : ¬ (a1).toInt = 5 := fun z => c5 (Int32.toInt_inj.mp z)
  have n6 : ¬ (a1).toInt = 6 := fun z => c6 (Int32.toInt_inj.mp z)
  have n7 : ¬ (a1).toInt = 7 := fun z => c7 (Int32.toInt_inj.mp z)
  have n8 : ¬ (a1).toInt = 8 := fun z => c8 (Int32.toInt_inj.mp z)
  refine V.tbOut dX5_count_1 (by omega) (tgt := 125) (by decide) ?_
  refine V.iconst dX5_count_125 (pc' := 126) rfl (v := -1) (by decide) ?_
  exact V.iret dX5_count_126 rfl (fnI e)

-- X6_readsStream (level 3)
theorem dX6_readsStream_0 : decode cX6_readsStream 0 = .ok (.aload_n 0, 1) := by decide +kernel
theorem dX6_readsStream_1 : decode cX6_readsStream 1 = .ok (.bipush 104, 2) := by decide +kernel
theorem dX6_readsStream_3 : decode cX6_readsStream 3 = .ok (.invokevirtual 114, 3) := by decide +kernel
theorem dX6_readsStream_6 : decode cX6_readsStream 6 = .ok (.istore_n 2, 1) := by decide +kernel
theorem dX6_readsStream_7 : decode cX6_readsStream 7 = .ok (.iload_n 2, 1) := by decide +kernel
theorem dX6_readsStream_8 : decode cX6_readsStream 8 = .ok (.ifCond .ne 14, 3) := by decide +kernel
theorem dX6_readsStream_11 : decode cX6_readsStream 11 = .ok (.aload_n 0, 1) := by decide +kernel
theorem dX6_readsStream_12 : decode cX6_readsStream 12 = .ok (.bipush 99, 2) := by decide +kernel
theorem dX6_readsStream_14 : decode cX6_readsStream 14 = .ok (.invokevirtual 114, 3) := by decide +kernel
theorem dX6_readsStream_17 : decode cX6_readsStream 17 = .ok (.ifCond .ne 5, 3) := by decide +kernel
theorem dX6_readsStream_20 : decode cX6_readsStream 20 = .ok (.iconst 0, 1) := by decide +kernel
theorem dX6_readsStream_21 : decode cX6_readsStream 21 = .ok (.ireturn, 1) := by decide +kernel
theorem dX6_readsStream_22 : decode cX6_readsStream 22 = .ok (.aload_n 0, 1) := by decide +kernel
theorem dX6_readsStream_23 : decode cX6_readsStream 23 = .ok (.iconst 3, 1) := by decide +kernel
theorem dX6_readsStream_24 : decode cX6_readsStream 24 = .ok (.invokevirtual 118, 3) := by decide +kernel
theorem dX6_readsStream_27 : decode cX6_readsStream 27 = .ok (.istore_n 3, 1) := by decide +kernel
theorem dX6_readsStream_28 : decode cX6_readsStream 28 = .ok (.iload_n 3, 1) := by decide +kernel
theorem dX6_readsStream_29 : decode cX6_readsStream 29 = .ok (.ifCond .lt 31, 3) := by decide +kernel
theorem dX6_readsStream_32 : decode cX6_readsStream 32 = .ok (.aload_n 0, 1) := by decide +kernel
theorem dX6_readsStream_33 : decode cX6_readsStream 33 = .ok (.iload_n 3, 1) := by decide +kernel
theorem dX6_readsStream_34 : decode cX6_readsStream 34 = .ok (.sipush 500, 3) := by decide +kernel
theorem dX6_readsStream_37 : decode cX6_readsStream 37 = .ok (.if_icmp .gt 7, 3) := by decide +kernel
theorem dX6_readsStream_40 : decode cX6_readsStream 40 = .ok (.iconst 1, 1) := by decide +kernel
theorem dX6_readsStream_41 : decode cX6_readsStream 41 = .ok (.goto 4, 3) := by decide +kernel
theorem dX6_readsStream_44 : decode cX6_readsStream 44 = .ok (.iconst 0, 1) := by decide +kernel
theorem dX6_readsStream_45 : decode cX6_readsStream 45 = .ok (.invokevirtual 122, 3) := by decide +kernel
theorem dX6_readsStream_48 : decode cX6_readsStream 48 = .ok (.ifCond .eq 12, 3) := by decide +kernel
theorem dX6_readsStream_51 : decode cX6_readsStream 51 = .ok (.aload_n 0, 1) := by decide +kernel
theorem dX6_readsStream_52 : decode cX6_readsStream 52 = .ok (.bipush 45, 2) := by decide +kernel
theorem dX6_readsStream_54 : decode cX6_readsStream 54 = .ok (.invokevirtual 114, 3) := by decide +kernel
theorem dX6_readsStream_57 : decode cX6_readsStream 57 = .ok (.ifCond .ne 5, 3) := by decide +kernel
theorem dX6_readsStream_60 : decode cX6_readsStream 60 = .ok (.iconst 0, 1) := by decide +kernel
theorem dX6_readsStream_61 : decode cX6_readsStream 61 = .ok (.ireturn, 1) := by decide +kernel
theorem dX6_readsStream_62 : decode cX6_readsStream 62 = .ok (.aload_n 0, 1) := by decide +kernel
theorem dX6_readsStream_63 : decode cX6_readsStream 63 = .ok (.iconst 3, 1) := by decide +kernel
theorem dX6_readsStream_64 : decode cX6_readsStream 64 = .ok (.invokevirtual 118, 3) := by decide +kernel
theorem dX6_readsStream_67 : decode cX6_readsStream 67 = .ok (.istore 4, 2) := by decide +kernel
theorem dX6_readsStream_69 : decode cX6_readsStream 69 = .ok (.iload 4, 2) := by decide +kernel
theorem dX6_readsStream_71 : decode cX6_readsStream 71 = .ok (.ifCond .lt 51, 3) := by decide +kernel
theorem dX6_readsStream_74 : decode cX6_readsStream 74 = .ok (.aload_n 0, 1) := by decide +kernel
theorem dX6_readsStream_75 : decode cX6_readsStream 75 = .ok (.iload 4, 2) := by decide +kernel
theorem dX6_readsStream_77 : decode cX6_readsStream 77 = .ok (.sipush 500, 3) := by decide +kernel
theorem dX6_readsStream_80 : decode cX6_readsStream 80 = .ok (.if_icmp .gt 26, 3) := by decide +kernel
theorem dX6_readsStream_83 : decode cX6_readsStream 83 = .ok (.iload_n 2, 1) := by decide +kernel
theorem dX6_readsStream_84 : decode cX6_readsStream 84 = .ok (.ifCond .eq 12, 3) := by decide +kernel
theorem dX6_readsStream_87 : decode cX6_readsStream 87 = .ok (.iload 4, 2) := by decide +kernel
theorem dX6_readsStream_89 : decode cX6_readsStream 89 = .ok (.iload_n 3, 1) := by decide +kernel
theorem dX6_readsStream_90 : decode cX6_readsStream 90 = .ok (.if_icmp .ge 16, 3) := by decide +kernel
theorem dX6_readsStream_93 : decode cX6_readsStream 93 = .ok (.goto 9, 3) := by decide +kernel
theorem dX6_readsStream_96 : decode cX6_readsStream 96 = .ok (.iload 4, 2) := by decide +kernel
theorem dX6_readsStream_98 : decode cX6_readsStream 98 = .ok (.iload_n 3, 1) := by decide +kernel
theorem dX6_readsStream_99 : decode cX6_readsStream 99 = .ok (.if_icmp .le 7, 3) := by decide +kernel
theorem dX6_readsStream_102 : decode cX6_readsStream 102 = .ok (.iconst 1, 1) := by decide +kernel
theorem dX6_readsStream_103 : decode cX6_readsStream 103 = .ok (.goto 4, 3) := by decide +kernel
theorem dX6_readsStream_106 : decode cX6_readsStream 106 = .ok (.iconst 0, 1) := by decide +kernel
theorem dX6_readsStream_107 : decode cX6_readsStream 107 = .ok (.invokevirtual 122, 3) := by decide +kernel
theorem dX6_readsStream_110 : decode cX6_readsStream 110 = .ok (.ifCond .eq 12, 3) := by decide +kernel
theorem dX6_readsStream_113 : decode cX6_readsStream 113 = .ok (.aload_n 0, 1) := by decide +kernel
theorem dX6_readsStream_114 : decode cX6_readsStream 114 = .ok (.bipush 42, 2) := by decide +kernel
theorem dX6_readsStream_116 : decode cX6_readsStream 116 = .ok (.invokevirtual 114, 3) := by decide +kernel
theorem dX6_readsStream_119 : decode cX6_readsStream 119 = .ok (.ifCond .ne 5, 3) := by decide +kernel
theorem dX6_readsStream_122 : decode cX6_readsStream 122 = .ok (.iconst 0, 1) := by decide +kernel
theorem dX6_readsStream_123 : decode cX6_readsStream 123 = .ok (.ireturn, 1) := by decide +kernel
theorem dX6_readsStream_124 : decode cX6_readsStream 124 = .ok (.aload_n 0, 1) := by decide +kernel
theorem dX6_readsStream_125 : decode cX6_readsStream 125 = .ok (.iconst 2, 1) := by decide +kernel
theorem dX6_readsStream_126 : decode cX6_readsStream 126 = .ok (.invokevirtual 118, 3) := by decide +kernel
theorem dX6_readsStream_129 : decode cX6_readsStream 129 = .ok (.istore 5, 2) := by decide +kernel
theorem dX6_readsStream_131 : decode cX6_readsStream 131 = .ok (.iload 5, 2) := by decide +kernel
theorem dX6_readsStream_133 : decode cX6_readsStream 133 = .ok (.ifCond .lt 20, 3) := by decide +kernel
theorem dX6_readsStream_136 : decode cX6_readsStream 136 = .ok (.aload_n 0, 1) := by decide +kernel
theorem dX6_readsStream_137 : decode cX6_readsStream 137 = .ok (.iload 5, 2) := by decide +kernel
theorem dX6_readsStream_139 : decode cX6_readsStream 139 = .ok (.i2l, 1) := by decide +kernel
theorem dX6_readsStream_140 : decode cX6_readsStream 140 = .ok (.lconst 1, 1) := by decide +kernel
theorem dX6_readsStream_141 : decode cX6_readsStream 141 = .ok (.ldc2_w 126, 3) := by decide +kernel
theorem dX6_readsStream_144 : decode cX6_readsStream 144 = .ok (.invokestatic 29, 3) := by decide +kernel
theorem dX6_readsStream_147 : decode cX6_readsStream 147 = .ok (.invokevirtual 122, 3) := by decide +kernel
theorem dX6_readsStream_150 : decode cX6_readsStream 150 = .ok (.ifCond .ne 5, 3) := by decide +kernel
theorem dX6_readsStream_153 : decode cX6_readsStream 153 = .ok (.iconst 0, 1) := by decide +kernel
theorem dX6_readsStream_154 : decode cX6_readsStream 154 = .ok (.ireturn, 1) := by decide +kernel
theorem dX6_readsStream_155 : decode cX6_readsStream 155 = .ok (.aload_n 0, 1) := by decide +kernel
theorem dX6_readsStream_156 : decode cX6_readsStream 156 = .ok (.getfield 69, 3) := by decide +kernel
theorem dX6_readsStream_159 : decode cX6_readsStream 159 = .ok (.iload_n 1, 1) := by decide +kernel
theorem dX6_readsStream_160 : decode cX6_readsStream 160 = .ok (.iload_n 3, 1) := by decide +kernel
theorem dX6_readsStream_161 : decode cX6_readsStream 161 = .ok (.iastore, 1) := by decide +kernel
theorem dX6_readsStream_162 : decode cX6_readsStream 162 = .ok (.aload_n 0, 1) := by decide +kernel
theorem dX6_readsStream_163 : decode cX6_readsStream 163 = .ok (.getfield 72, 3) := by decide +kernel
theorem dX6_readsStream_166 : decode cX6_readsStream 166 = .ok (.iload_n 1, 1) := by decide +kernel
theorem dX6_readsStream_167 : decode cX6_readsStream 167 = .ok (.iload 4, 2) := by decide +kernel
theorem dX6_readsStream_169 : decode cX6_readsStream 169 = .ok (.iastore, 1) := by decide +kernel
theorem dX6_readsStream_170 : decode cX6_readsStream 170 = .ok (.aload_n 0, 1) := by decide +kernel
theorem dX6_readsStream_171 : decode cX6_readsStream 171 = .ok (.getfield 75, 3) := by decide +kernel
theorem dX6_readsStream_174 : decode cX6_readsStream 174 = .ok (.iload_n 1, 1) := by decide +kernel
theorem dX6_readsStream_175 : decode cX6_readsStream 175 = .ok (.iload 5, 2) := by decide +kernel
theorem dX6_readsStream_177 : decode cX6_readsStream 177 = .ok (.iastore, 1) := by decide +kernel
theorem dX6_readsStream_178 : decode cX6_readsStream 178 = .ok (.iconst 1, 1) := by decide +kernel
theorem dX6_readsStream_179 : decode cX6_readsStream 179 = .ok (.ireturn, 1) := by decide +kernel
def sX6_readsStream_c60 (h : Hp) : Option (Int32 × Hp) :=
  some ((0 : Int32), h)
set_option maxRecDepth 10000 in
theorem vX6_readsStream_c60 (h : Hp) (q : (Int32 × Hp)) (e : sX6_readsStream_c60 h = some q) : V (Gs 3 (pI q)) mX6_readsStream (0, 0) 60 [] [] h := by
  unfold sX6_readsStream_c60 at e
  refine V.iconst dX6_readsStream_60 (pc' := 61) rfl (v := 0) (by decide) ?_
  exact V.zret dX6_readsStream_61 rfl (Or.inl rfl) (fnI e)
def sX6_readsStream_c122 (h : Hp) : Option (Int32 × Hp) :=
  some ((0 : Int32), h)
set_option maxRecDepth 10000 in
theorem vX6_readsStream_c122 (h : Hp) (q : (Int32 × Hp)) (e : sX6_readsStream_c122 h = some q) : V (Gs 3 (pI q)) mX6_readsStream (0, 0) 122 [] [] h := by
  unfold sX6_readsStream_c122 at e
  refine V.iconst dX6_readsStream_122 (pc' := 123) rfl (v := 0) (by decide) ?_
  exact V.zret dX6_readsStream_123 rfl (Or.inl rfl) (fnI e)
def sX6_readsStream_c153 (h : Hp) : Option (Int32 × Hp) :=
  some ((0 : Int32), h)
set_option maxRecDepth 10000 in
theorem vX6_readsStream_c153 (h : Hp) (q : (Int32 × Hp)) (e : sX6_readsStream_c153 h = some q) : V (Gs 3 (pI q)) mX6_readsStream (0, 0) 153 [] [] h := by
  unfold sX6_readsStream_c153 at e
  refine V.iconst dX6_readsStream_153 (pc' := 154) rfl (v := 0) (by decide) ?_
  exact V.zret dX6_readsStream_154 rfl (Or.inl rfl) (fnI e)
def sX6_readsStream_c107 (h : Hp) (v1 : Int32) (v3 : Int32) (v4 : Int32) (t0 : Int32) : Option (Int32 × Hp) :=
  (sX6_isFit h t0).bind fun q7 => if q7.1 = 0 then (sX6_readsStream_c122 q7.2) else ((sX6_takes q7.2 (42 : Int32)).bind fun q8 => if q8.1 = 0 then (sX6_readsStream_c122 q8.2) else ((sX6_number q8.2 (2 : Int32)).bind fun q9 => if q9.1 < 0 then (sX6_readsStream_c153 q9.2) else ((sX6_in q9.2 q9.1.toInt64 (1 : Int64) (20 : Int64)).bind fun q10 => (sX6_isFit q10.2 q10.1).bind fun q11 => if q11.1 = 0 then (sX6_readsStream_c153 q11.2) else (gd (inb v1 10) (nm (u1 q11.2 60 v1.toNatClampNeg v3) fun h13 => gd (inb v1 10) (nm (u1 h13 61 v1.toNatClampNeg v4) fun h15 => gd (inb v1 10) (nm (u1 h15 62 v1.toNatClampNeg q9.1) fun h17 => some ((1 : Int32), h17))))))))
set_option maxRecDepth 10000 in
theorem vX6_readsStream_c107 (h : Hp) (v1 : Int32) (v3 : Int32) (v4 : Int32) (t0 : Int32) (q : (Int32 × Hp)) (e : sX6_readsStream_c107 h v1 v3 v4 t0 = some q) : V (Gs 3 (pI q)) mX6_readsStream (0, 0) 107 [(0, .ref 54), (1, .int v1), (3, .int v3), (4, .int v4)] [.int t0, .ref 54] h := by
  unfold sX6_readsStream_c107 at e
  obtain ⟨q7, eq7, e⟩ := bd_s e
  refine V.callVi dX6_readsStream_107 (pc' := 110) rfl CV_X6_122 (as := [.int t0]) (kX6_isFit h t0 q7 eq7) (Gs_rm (by decide)) rfl (by decide) rfl (Nat.le_of_ble_eq_true rfl) rfl ?_
  refine V.if_eq dX6_readsStream_110 (pc' := 113) rfl (tgt := 122) (by decide) (fun c => ?_) (fun c => ?_)
  · rw [if_pos c] at e
    refine V.pk [] rfl ?_
    exact vX6_readsStream_c122 q7.2 q e
  · rw [if_neg c] at e
    refine V.alq dX6_readsStream_113 (pc' := 114) rfl (j := 0) rfl ?_
    refine V.bipush dX6_readsStream_114 (pc' := 116) rfl (v := 42) (by decide) ?_
    obtain ⟨q8, eq8, e⟩ := bd_s e
    refine V.callVi dX6_readsStream_116 (pc' := 119) rfl CV_X6_114 (as := [.int (42 : Int32)]) (kX6_takes q7.2 (42 : Int32) q8 eq8) (Gs_rm (by decide)) rfl (by decide) rfl (Nat.le_of_ble_eq_true rfl) rfl ?_
    refine V.if_ne dX6_readsStream_119 (pc' := 122) rfl (tgt := 124) (by decide) (fun c => ?_) (fun c => ?_)
    · rw [if_neg c] at e
      refine V.alq dX6_readsStream_124 (pc' := 125) rfl (j := 0) rfl ?_
      refine V.iconst dX6_readsStream_125 (pc' := 126) rfl (v := 2) (by decide) ?_
      obtain ⟨q9, eq9, e⟩ := bd_s e
      refine V.callVi dX6_readsStream_126 (pc' := 129) rfl CV_X6_118 (as := [.int (2 : Int32)]) (kX6_number q8.2 (2 : Int32) q9 eq9) (Gs_rm (by decide)) rfl (by decide) rfl (Nat.le_of_ble_eq_true rfl) rfl ?_
      refine V.is dX6_readsStream_129 (pc' := 131) rfl (by decide) rfl (L' := [(5, .int q9.1), (0, .ref 54), (1, .int v1), (3, .int v3), (4, .int v4)]) rfl ?_
      refine V.il dX6_readsStream_131 (pc' := 133) rfl (j := 0) rfl ?_
      refine V.if_lt dX6_readsStream_133 (pc' := 136) rfl (tgt := 153) (by decide) (fun c => ?_) (fun c => ?_)
      · rw [if_pos c] at e
        refine V.pk [] rfl ?_
        exact vX6_readsStream_c153 q9.2 q e
      · rw [if_neg c] at e
        refine V.alq dX6_readsStream_136 (pc' := 137) rfl (j := 1) rfl ?_
        refine V.il dX6_readsStream_137 (pc' := 139) rfl (j := 0) rfl ?_
        refine V.i2l dX6_readsStream_139 (pc' := 140) rfl ?_
        refine V.lconst dX6_readsStream_140 (pc' := 141) rfl (v := 1) (by decide) ?_
        refine V.ldc2 dX6_readsStream_141 (pc' := 144) rfl (v := 20) (TBm 1031 (by decide +kernel) rfl) ?_
        obtain ⟨q10, eq10, e⟩ := bd_s e
        refine V.callSi dX6_readsStream_144 (pc' := 147) rfl CS_X6_29 (as := [.long q9.1.toInt64, .long (1 : Int64), .long (20 : Int64)]) (kX6_in q9.2 q9.1.toInt64 (1 : Int64) (20 : Int64) q10 eq10) (Gs_rm (by decide)) rfl (Nat.le_of_ble_eq_true rfl) rfl ?_
        obtain ⟨q11, eq11, e⟩ := bd_s e
        refine V.callVi dX6_readsStream_147 (pc' := 150) rfl CV_X6_122 (as := [.int q10.1]) (kX6_isFit q10.2 q10.1 q11 eq11) (Gs_rm (by decide)) rfl (by decide) rfl (Nat.le_of_ble_eq_true rfl) rfl ?_
        refine V.if_ne dX6_readsStream_150 (pc' := 153) rfl (tgt := 155) (by decide) (fun c => ?_) (fun c => ?_)
        · rw [if_neg c] at e
          refine V.alq dX6_readsStream_155 (pc' := 156) rfl (j := 1) rfl ?_
          refine V.getr dX6_readsStream_156 (pc' := 159) rfl FL_X6_69 rfl (by decide) rfl (r' := 60) rfl ?_
          refine V.ilq dX6_readsStream_159 (pc' := 160) rfl (j := 2) rfl ?_
          refine V.ilq dX6_readsStream_160 (pc' := 161) rfl (j := 3) rfl ?_
          obtain ⟨c12, e⟩ := gd_s e
          obtain ⟨h13, eh13, e⟩ := nm_s e
          refine V.iast dX6_readsStream_161 (pc' := 162) rfl rfl rfl (inb_t c12) eh13 ?_
          refine V.alq dX6_readsStream_162 (pc' := 163) rfl (j := 1) rfl ?_
          refine V.getr dX6_readsStream_163 (pc' := 166) rfl FL_X6_72 rfl (by decide) rfl (r' := 61) rfl ?_
          refine V.ilq dX6_readsStream_166 (pc' := 167) rfl (j := 2) rfl ?_
          refine V.il dX6_readsStream_167 (pc' := 169) rfl (j := 4) rfl ?_
          obtain ⟨c14, e⟩ := gd_s e
          obtain ⟨h15, eh15, e⟩ := nm_s e
          refine V.iast dX6_readsStream_169 (pc' := 170) rfl rfl rfl (inb_t c14) eh15 ?_
          refine V.alq dX6_readsStream_170 (pc' := 171) rfl (j := 1) rfl ?_
          refine V.getr dX6_readsStream_171 (pc' := 174) rfl FL_X6_75 rfl (by decide) rfl (r' := 62) rfl ?_
          refine V.ilq dX6_readsStream_174 (pc' := 175) rfl (j := 2) rfl ?_
          refine V.il dX6_readsStream_175 (pc' := 177) rfl (j := 0) rfl ?_
          obtain ⟨c16, e⟩ := gd_s e
          obtain ⟨h17, eh17, e⟩ := nm_s e
          refine V.iast dX6_readsStream_177 (pc' := 178) rfl rfl rfl (inb_t c16) eh17 ?_
          refine V.iconst dX6_readsStream_178 (pc' := 179) rfl (v := 1) (by decide) ?_
          exact V.zret dX6_readsStream_179 rfl (Or.inr rfl) (fnI e)
        · rw [if_pos c] at e
          refine V.pk [] rfl ?_
          exact vX6_readsStream_c153 q11.2 q e
    · rw [if_pos c] at e
      refine V.pk [] rfl ?_
      exact vX6_readsStream_c122 q8.2 q e
def sX6_readsStream_c102 (h : Hp) (v1 : Int32) (v3 : Int32) (v4 : Int32) : Option (Int32 × Hp) :=
  sX6_readsStream_c107 h v1 v3 v4 (1 : Int32)
set_option maxRecDepth 10000 in
theorem vX6_readsStream_c102 (h : Hp) (v1 : Int32) (v3 : Int32) (v4 : Int32) (q : (Int32 × Hp)) (e : sX6_readsStream_c102 h v1 v3 v4 = some q) : V (Gs 3 (pI q)) mX6_readsStream (0, 0) 102 [(0, .ref 54), (1, .int v1), (3, .int v3), (4, .int v4)] [.ref 54] h := by
  unfold sX6_readsStream_c102 at e
  refine V.iconst dX6_readsStream_102 (pc' := 103) rfl (v := 1) (by decide) ?_
  refine V.goto dX6_readsStream_103 (pc' := 107) (by decide) ?_
  exact vX6_readsStream_c107 h v1 v3 v4 (1 : Int32) q e
def sX6_readsStream_c106 (h : Hp) (v1 : Int32) (v3 : Int32) (v4 : Int32) : Option (Int32 × Hp) :=
  sX6_readsStream_c107 h v1 v3 v4 (0 : Int32)
set_option maxRecDepth 10000 in
theorem vX6_readsStream_c106 (h : Hp) (v1 : Int32) (v3 : Int32) (v4 : Int32) (q : (Int32 × Hp)) (e : sX6_readsStream_c106 h v1 v3 v4 = some q) : V (Gs 3 (pI q)) mX6_readsStream (0, 0) 106 [(0, .ref 54), (1, .int v1), (3, .int v3), (4, .int v4)] [.ref 54] h := by
  unfold sX6_readsStream_c106 at e
  refine V.iconst dX6_readsStream_106 (pc' := 107) rfl (v := 0) (by decide) ?_
  exact vX6_readsStream_c107 h v1 v3 v4 (0 : Int32) q e
def sX6_readsStream_c45 (h : Hp) (v1 : Int32) (v2 : Int32) (v3 : Int32) (t0 : Int32) : Option (Int32 × Hp) :=
  (sX6_isFit h t0).bind fun q4 => if q4.1 = 0 then (sX6_readsStream_c60 q4.2) else ((sX6_takes q4.2 (45 : Int32)).bind fun q5 => if q5.1 = 0 then (sX6_readsStream_c60 q5.2) else ((sX6_number q5.2 (3 : Int32)).bind fun q6 => if q6.1 < 0 then (sX6_readsStream_c122 q6.2) else (if (500 : Int32) < q6.1 then (sX6_readsStream_c106 q6.2 v1 v3 q6.1) else (if v2 = 0 then (if q6.1 ≤ v3 then (sX6_readsStream_c106 q6.2 v1 v3 q6.1) else (sX6_readsStream_c102 q6.2 v1 v3 q6.1)) else (if v3 ≤ q6.1 then (sX6_readsStream_c106 q6.2 v1 v3 q6.1) else (sX6_readsStream_c102 q6.2 v1 v3 q6.1))))))
set_option maxRecDepth 10000 in
theorem vX6_readsStream_c45 (h : Hp) (v1 : Int32) (v2 : Int32) (v3 : Int32) (t0 : Int32) (q : (Int32 × Hp)) (e : sX6_readsStream_c45 h v1 v2 v3 t0 = some q) : V (Gs 3 (pI q)) mX6_readsStream (0, 0) 45 [(0, .ref 54), (1, .int v1), (2, .int v2), (3, .int v3)] [.int t0, .ref 54] h := by
  unfold sX6_readsStream_c45 at e
  obtain ⟨q4, eq4, e⟩ := bd_s e
  refine V.callVi dX6_readsStream_45 (pc' := 48) rfl CV_X6_122 (as := [.int t0]) (kX6_isFit h t0 q4 eq4) (Gs_rm (by decide)) rfl (by decide) rfl (Nat.le_of_ble_eq_true rfl) rfl ?_
  refine V.if_eq dX6_readsStream_48 (pc' := 51) rfl (tgt := 60) (by decide) (fun c => ?_) (fun c => ?_)
  · rw [if_pos c] at e
    refine V.pk [] rfl ?_
    exact vX6_readsStream_c60 q4.2 q e
  · rw [if_neg c] at e
    refine V.alq dX6_readsStream_51 (pc' := 52) rfl (j := 0) rfl ?_
    refine V.bipush dX6_readsStream_52 (pc' := 54) rfl (v := 45) (by decide) ?_
    obtain ⟨q5, eq5, e⟩ := bd_s e
    refine V.callVi dX6_readsStream_54 (pc' := 57) rfl CV_X6_114 (as := [.int (45 : Int32)]) (kX6_takes q4.2 (45 : Int32) q5 eq5) (Gs_rm (by decide)) rfl (by decide) rfl (Nat.le_of_ble_eq_true rfl) rfl ?_
    refine V.if_ne dX6_readsStream_57 (pc' := 60) rfl (tgt := 62) (by decide) (fun c => ?_) (fun c => ?_)
    · rw [if_neg c] at e
      refine V.alq dX6_readsStream_62 (pc' := 63) rfl (j := 0) rfl ?_
      refine V.iconst dX6_readsStream_63 (pc' := 64) rfl (v := 3) (by decide) ?_
      obtain ⟨q6, eq6, e⟩ := bd_s e
      refine V.callVi dX6_readsStream_64 (pc' := 67) rfl CV_X6_118 (as := [.int (3 : Int32)]) (kX6_number q5.2 (3 : Int32) q6 eq6) (Gs_rm (by decide)) rfl (by decide) rfl (Nat.le_of_ble_eq_true rfl) rfl ?_
      refine V.is dX6_readsStream_67 (pc' := 69) rfl (by decide) rfl (L' := [(4, .int q6.1), (0, .ref 54), (1, .int v1), (2, .int v2), (3, .int v3)]) rfl ?_
      refine V.il dX6_readsStream_69 (pc' := 71) rfl (j := 0) rfl ?_
      refine V.if_lt dX6_readsStream_71 (pc' := 74) rfl (tgt := 122) (by decide) (fun c => ?_) (fun c => ?_)
      · rw [if_pos c] at e
        refine V.pk [] rfl ?_
        exact vX6_readsStream_c122 q6.2 q e
      · rw [if_neg c] at e
        refine V.alq dX6_readsStream_74 (pc' := 75) rfl (j := 1) rfl ?_
        refine V.il dX6_readsStream_75 (pc' := 77) rfl (j := 0) rfl ?_
        refine V.sipush dX6_readsStream_77 (pc' := 80) rfl (v := 500) (by decide) ?_
        refine V.ic_gt dX6_readsStream_80 (pc' := 83) rfl (tgt := 106) (by decide) (fun c => ?_) (fun c => ?_)
        · rw [if_pos c] at e
          refine V.pk [1, 2, 4, 0] rfl ?_
          exact vX6_readsStream_c106 q6.2 v1 v3 q6.1 q e
        · rw [if_neg c] at e
          refine V.ilq dX6_readsStream_83 (pc' := 84) rfl (j := 3) rfl ?_
          refine V.if_eq dX6_readsStream_84 (pc' := 87) rfl (tgt := 96) (by decide) (fun c => ?_) (fun c => ?_)
          · rw [if_pos c] at e
            refine V.il dX6_readsStream_96 (pc' := 98) rfl (j := 0) rfl ?_
            refine V.ilq dX6_readsStream_98 (pc' := 99) rfl (j := 4) rfl ?_
            refine V.ic_le dX6_readsStream_99 (pc' := 102) rfl (tgt := 106) (by decide) (fun c => ?_) (fun c => ?_)
            · rw [if_pos c] at e
              refine V.pk [1, 2, 4, 0] rfl ?_
              exact vX6_readsStream_c106 q6.2 v1 v3 q6.1 q e
            · rw [if_neg c] at e
              refine V.pk [1, 2, 4, 0] rfl ?_
              exact vX6_readsStream_c102 q6.2 v1 v3 q6.1 q e
          · rw [if_neg c] at e
            refine V.il dX6_readsStream_87 (pc' := 89) rfl (j := 0) rfl ?_
            refine V.ilq dX6_readsStream_89 (pc' := 90) rfl (j := 4) rfl ?_
            refine V.ic_ge dX6_readsStream_90 (pc' := 93) rfl (tgt := 106) (by decide) (fun c => ?_) (fun c => ?_)
            · rw [if_pos c] at e
              refine V.pk [1, 2, 4, 0] rfl ?_
              exact vX6_readsStream_c106 q6.2 v1 v3 q6.1 q e
            · rw [if_neg c] at e
              refine V.goto dX6_readsStream_93 (pc' := 102) (by decide) ?_
              refine V.pk [1, 2, 4, 0] rfl ?_
              exact vX6_readsStream_c102 q6.2 v1 v3 q6.1 q e
    · rw [if_pos c] at e
      refine V.pk [] rfl ?_
      exact vX6_readsStream_c60 q5.2 q e
def sX6_readsStream_c22 (h : Hp) (v1 : Int32) (v2 : Int32) : Option (Int32 × Hp) :=
  (sX6_number h (3 : Int32)).bind fun q3 => if q3.1 < 0 then (sX6_readsStream_c60 q3.2) else (if (500 : Int32) < q3.1 then (sX6_readsStream_c45 q3.2 v1 v2 q3.1 (0 : Int32)) else (sX6_readsStream_c45 q3.2 v1 v2 q3.1 (1 : Int32)))
set_option maxRecDepth 10000 in
theorem vX6_readsStream_c22 (h : Hp) (v1 : Int32) (v2 : Int32) (q : (Int32 × Hp)) (e : sX6_readsStream_c22 h v1 v2 = some q) : V (Gs 3 (pI q)) mX6_readsStream (0, 0) 22 [(0, .ref 54), (1, .int v1), (2, .int v2)] [] h := by
  unfold sX6_readsStream_c22 at e
  refine V.alq dX6_readsStream_22 (pc' := 23) rfl (j := 0) rfl ?_
  refine V.iconst dX6_readsStream_23 (pc' := 24) rfl (v := 3) (by decide) ?_
  obtain ⟨q3, eq3, e⟩ := bd_s e
  refine V.callVi dX6_readsStream_24 (pc' := 27) rfl CV_X6_118 (as := [.int (3 : Int32)]) (kX6_number h (3 : Int32) q3 eq3) (Gs_rm (by decide)) rfl (by decide) rfl (Nat.le_of_ble_eq_true rfl) rfl ?_
  refine V.isq dX6_readsStream_27 (pc' := 28) rfl (by decide) rfl (L' := [(3, .int q3.1), (0, .ref 54), (1, .int v1), (2, .int v2)]) rfl ?_
  refine V.ilq dX6_readsStream_28 (pc' := 29) rfl (j := 0) rfl ?_
  refine V.if_lt dX6_readsStream_29 (pc' := 32) rfl (tgt := 60) (by decide) (fun c => ?_) (fun c => ?_)
  · rw [if_pos c] at e
    refine V.pk [] rfl ?_
    exact vX6_readsStream_c60 q3.2 q e
  · rw [if_neg c] at e
    refine V.alq dX6_readsStream_32 (pc' := 33) rfl (j := 1) rfl ?_
    refine V.ilq dX6_readsStream_33 (pc' := 34) rfl (j := 0) rfl ?_
    refine V.sipush dX6_readsStream_34 (pc' := 37) rfl (v := 500) (by decide) ?_
    refine V.ic_gt dX6_readsStream_37 (pc' := 40) rfl (tgt := 44) (by decide) (fun c => ?_) (fun c => ?_)
    · rw [if_pos c] at e
      refine V.iconst dX6_readsStream_44 (pc' := 45) rfl (v := 0) (by decide) ?_
      refine V.pk [1, 2, 3, 0] rfl ?_
      exact vX6_readsStream_c45 q3.2 v1 v2 q3.1 (0 : Int32) q e
    · rw [if_neg c] at e
      refine V.iconst dX6_readsStream_40 (pc' := 41) rfl (v := 1) (by decide) ?_
      refine V.goto dX6_readsStream_41 (pc' := 45) (by decide) ?_
      refine V.pk [1, 2, 3, 0] rfl ?_
      exact vX6_readsStream_c45 q3.2 v1 v2 q3.1 (1 : Int32) q e
def sX6_readsStream (h : Hp) (a1 : Int32) : Option (Int32 × Hp) :=
  (sX6_takes h (104 : Int32)).bind fun q1 => if q1.1 = 0 then ((sX6_takes q1.2 (99 : Int32)).bind fun q2 => if q2.1 = 0 then (some ((0 : Int32), q2.2)) else (sX6_readsStream_c22 q2.2 a1 q1.1)) else (sX6_readsStream_c22 q1.2 a1 q1.1)
set_option maxRecDepth 10000 in
theorem kX6_readsStream (h : Hp) (a1 : Int32) (q : (Int32 × Hp)) (e : sX6_readsStream h a1 = some q) : K 3 mX6_readsStream [.ref 54, .int a1] h (pI q) := by
  unfold sX6_readsStream at e
  refine K.ofV (by decide) rfl (Nat.le_of_ble_eq_true rfl) ?_
  show V (Gs 3 (pI q)) mX6_readsStream (0, 0) 0 [(0, .ref 54), (1, .int a1)] [] h
  refine V.alq dX6_readsStream_0 (pc' := 1) rfl (j := 0) rfl ?_
  refine V.bipush dX6_readsStream_1 (pc' := 3) rfl (v := 104) (by decide) ?_
  obtain ⟨q1, eq1, e⟩ := bd_s e
  refine V.callVi dX6_readsStream_3 (pc' := 6) rfl CV_X6_114 (as := [.int (104 : Int32)]) (kX6_takes h (104 : Int32) q1 eq1) (Gs_rm (by decide)) rfl (by decide) rfl (Nat.le_of_ble_eq_true rfl) rfl ?_
  refine V.isq dX6_readsStream_6 (pc' := 7) rfl (by decide) rfl (L' := [(2, .int q1.1), (0, .ref 54), (1, .int a1)]) rfl ?_
  refine V.ilq dX6_readsStream_7 (pc' := 8) rfl (j := 0) rfl ?_
  refine V.if_ne dX6_readsStream_8 (pc' := 11) rfl (tgt := 22) (by decide) (fun c => ?_) (fun c => ?_)
  · rw [if_neg c] at e
    refine V.pk [1, 2, 0] rfl ?_
    exact vX6_readsStream_c22 q1.2 a1 q1.1 q e
  · rw [if_pos c] at e
    refine V.alq dX6_readsStream_11 (pc' := 12) rfl (j := 1) rfl ?_
    refine V.bipush dX6_readsStream_12 (pc' := 14) rfl (v := 99) (by decide) ?_
    obtain ⟨q2, eq2, e⟩ := bd_s e
    refine V.callVi dX6_readsStream_14 (pc' := 17) rfl CV_X6_114 (as := [.int (99 : Int32)]) (kX6_takes q1.2 (99 : Int32) q2 eq2) (Gs_rm (by decide)) rfl (by decide) rfl (Nat.le_of_ble_eq_true rfl) rfl ?_
    refine V.if_ne dX6_readsStream_17 (pc' := 20) rfl (tgt := 22) (by decide) (fun c => ?_) (fun c => ?_)
    · rw [if_neg c] at e
      refine V.pk [1, 2, 0] rfl ?_
      exact vX6_readsStream_c22 q2.2 a1 q1.1 q e
    · rw [if_pos c] at e
      refine V.iconst dX6_readsStream_20 (pc' := 21) rfl (v := 0) (by decide) ?_
      exact V.zret dX6_readsStream_21 rfl (Or.inl rfl) (fnI e)

-- X6_sets (level 3)
theorem dX6_sets_0 : decode cX6_sets 0 = .ok (.aload_n 0, 1) := by decide +kernel
theorem dX6_sets_1 : decode cX6_sets 1 = .ok (.iconst 0, 1) := by decide +kernel
theorem dX6_sets_2 : decode cX6_sets 2 = .ok (.putfield 1, 3) := by decide +kernel
theorem dX6_sets_5 : decode cX6_sets 5 = .ok (.aload_n 0, 1) := by decide +kernel
theorem dX6_sets_6 : decode cX6_sets 6 = .ok (.iload_n 1, 1) := by decide +kernel
theorem dX6_sets_7 : decode cX6_sets 7 = .ok (.iload_n 2, 1) := by decide +kernel
theorem dX6_sets_8 : decode cX6_sets 8 = .ok (.iload_n 3, 1) := by decide +kernel
theorem dX6_sets_9 : decode cX6_sets 9 = .ok (.invokevirtual 147, 3) := by decide +kernel
theorem dX6_sets_12 : decode cX6_sets 12 = .ok (.ifCond .ne 5, 3) := by decide +kernel
theorem dX6_sets_15 : decode cX6_sets 15 = .ok (.iconst (-1), 1) := by decide +kernel
theorem dX6_sets_16 : decode cX6_sets 16 = .ok (.ireturn, 1) := by decide +kernel
theorem dX6_sets_17 : decode cX6_sets 17 = .ok (.aload_n 0, 1) := by decide +kernel
theorem dX6_sets_18 : decode cX6_sets 18 = .ok (.iload_n 1, 1) := by decide +kernel
theorem dX6_sets_19 : decode cX6_sets 19 = .ok (.iload_n 2, 1) := by decide +kernel
theorem dX6_sets_20 : decode cX6_sets 20 = .ok (.invokevirtual 151, 3) := by decide +kernel
theorem dX6_sets_23 : decode cX6_sets 23 = .ok (.istore 4, 2) := by decide +kernel
theorem dX6_sets_25 : decode cX6_sets 25 = .ok (.iload 4, 2) := by decide +kernel
theorem dX6_sets_27 : decode cX6_sets 27 = .ok (.iload_n 3, 1) := by decide +kernel
theorem dX6_sets_28 : decode cX6_sets 28 = .ok (.if_icmp .ne 6, 3) := by decide +kernel
theorem dX6_sets_31 : decode cX6_sets 31 = .ok (.bipush (-2), 2) := by decide +kernel
theorem dX6_sets_33 : decode cX6_sets 33 = .ok (.ireturn, 1) := by decide +kernel
theorem dX6_sets_34 : decode cX6_sets 34 = .ok (.aload_n 0, 1) := by decide +kernel
theorem dX6_sets_35 : decode cX6_sets 35 = .ok (.iload_n 1, 1) := by decide +kernel
theorem dX6_sets_36 : decode cX6_sets 36 = .ok (.iload_n 2, 1) := by decide +kernel
theorem dX6_sets_37 : decode cX6_sets 37 = .ok (.iload_n 3, 1) := by decide +kernel
theorem dX6_sets_38 : decode cX6_sets 38 = .ok (.invokevirtual 155, 3) := by decide +kernel
theorem dX6_sets_41 : decode cX6_sets 41 = .ok (.ifCond .eq 6, 3) := by decide +kernel
theorem dX6_sets_44 : decode cX6_sets 44 = .ok (.bipush (-3), 2) := by decide +kernel
theorem dX6_sets_46 : decode cX6_sets 46 = .ok (.ireturn, 1) := by decide +kernel
theorem dX6_sets_47 : decode cX6_sets 47 = .ok (.aload_n 0, 1) := by decide +kernel
theorem dX6_sets_48 : decode cX6_sets 48 = .ok (.iload_n 1, 1) := by decide +kernel
theorem dX6_sets_49 : decode cX6_sets 49 = .ok (.iload_n 2, 1) := by decide +kernel
theorem dX6_sets_50 : decode cX6_sets 50 = .ok (.iload_n 3, 1) := by decide +kernel
theorem dX6_sets_51 : decode cX6_sets 51 = .ok (.invokevirtual 158, 3) := by decide +kernel
theorem dX6_sets_54 : decode cX6_sets 54 = .ok (.aload_n 0, 1) := by decide +kernel
theorem dX6_sets_55 : decode cX6_sets 55 = .ok (.invokevirtual 134, 3) := by decide +kernel
theorem dX6_sets_58 : decode cX6_sets 58 = .ok (.iload 4, 2) := by decide +kernel
theorem dX6_sets_60 : decode cX6_sets 60 = .ok (.ireturn, 1) := by decide +kernel
def sX6_sets (h : Hp) (a1 : Int32) (a2 : Int32) (a3 : Int32) : Option (Int32 × Hp) :=
  nm (u1 h 54 0 (0 : Int32)) fun h1 => (sX6_canSet h1 a1 a2 a3).bind fun q2 => if q2.1 = 0 then (some ((-1 : Int32), q2.2)) else ((sX6_of q2.2 a1 a2).bind fun q3 => if q3.1 = a3 then (some ((-2 : Int32), q3.2)) else ((sX6_wouldTurn q3.2 a1 a2 a3).bind fun q4 => if q4.1 = 0 then ((sX6_becomes q4.2 a1 a2 a3).bind fun q5 => (sX6_allGo q5).bind fun q6 => some (q3.1, q6)) else (some ((-3 : Int32), q4.2))))
set_option maxRecDepth 10000 in
theorem kX6_sets (h : Hp) (a1 : Int32) (a2 : Int32) (a3 : Int32) (q : (Int32 × Hp)) (e : sX6_sets h a1 a2 a3 = some q) : K 3 mX6_sets [.ref 54, .int a1, .int a2, .int a3] h (pI q) := by
  unfold sX6_sets at e
  refine K.ofV (by decide) rfl (Nat.le_of_ble_eq_true rfl) ?_
  show V (Gs 3 (pI q)) mX6_sets (0, 0) 0 [(0, .ref 54), (1, .int a1), (2, .int a2), (3, .int a3)] [] h
  refine V.alq dX6_sets_0 (pc' := 1) rfl (j := 0) rfl ?_
  refine V.iconst dX6_sets_1 (pc' := 2) rfl (v := 0) (by decide) ?_
  obtain ⟨h1, eh1, e⟩ := nm_s e
  refine V.putf dX6_sets_2 (pc' := 5) rfl FP_X6_1 rfl (by decide) rfl eh1 ?_
  refine V.alq dX6_sets_5 (pc' := 6) rfl (j := 0) rfl ?_
  refine V.ilq dX6_sets_6 (pc' := 7) rfl (j := 1) rfl ?_
  refine V.ilq dX6_sets_7 (pc' := 8) rfl (j := 2) rfl ?_
  refine V.ilq dX6_sets_8 (pc' := 9) rfl (j := 3) rfl ?_
  obtain ⟨q2, eq2, e⟩ := bd_s e
  refine V.callVi dX6_sets_9 (pc' := 12) rfl CV_X6_147 (as := [.int a1, .int a2, .int a3]) (kX6_canSet h1 a1 a2 a3 q2 eq2) (Gs_rm (by decide)) rfl (by decide) rfl (Nat.le_of_ble_eq_true rfl) rfl ?_
  refine V.if_ne dX6_sets_12 (pc' := 15) rfl (tgt := 17) (by decide) (fun c => ?_) (fun c => ?_)
  · rw [if_neg c] at e
    refine V.alq dX6_sets_17 (pc' := 18) rfl (j := 0) rfl ?_
    refine V.ilq dX6_sets_18 (pc' := 19) rfl (j := 1) rfl ?_
    refine V.ilq dX6_sets_19 (pc' := 20) rfl (j := 2) rfl ?_
    obtain ⟨q3, eq3, e⟩ := bd_s e
    refine V.callVi dX6_sets_20 (pc' := 23) rfl CV_X6_151 (as := [.int a1, .int a2]) (kX6_of q2.2 a1 a2 q3 eq3) (Gs_rm (by decide)) rfl (by decide) rfl (Nat.le_of_ble_eq_true rfl) rfl ?_
    refine V.is dX6_sets_23 (pc' := 25) rfl (by decide) rfl (L' := [(4, .int q3.1), (0, .ref 54), (1, .int a1), (2, .int a2), (3, .int a3)]) rfl ?_
    refine V.il dX6_sets_25 (pc' := 27) rfl (j := 0) rfl ?_
    refine V.ilq dX6_sets_27 (pc' := 28) rfl (j := 4) rfl ?_
    refine V.ic_ne dX6_sets_28 (pc' := 31) rfl (tgt := 34) (by decide) (fun c => ?_) (fun c => ?_)
    · rw [if_neg c] at e
      refine V.alq dX6_sets_34 (pc' := 35) rfl (j := 1) rfl ?_
      refine V.ilq dX6_sets_35 (pc' := 36) rfl (j := 2) rfl ?_
      refine V.ilq dX6_sets_36 (pc' := 37) rfl (j := 3) rfl ?_
      refine V.ilq dX6_sets_37 (pc' := 38) rfl (j := 4) rfl ?_
      obtain ⟨q4, eq4, e⟩ := bd_s e
      refine V.callVi dX6_sets_38 (pc' := 41) rfl CV_X6_155 (as := [.int a1, .int a2, .int a3]) (kX6_wouldTurn q3.2 a1 a2 a3 q4 eq4) (Gs_rm (by decide)) rfl (by decide) rfl (Nat.le_of_ble_eq_true rfl) rfl ?_
      refine V.if_eq dX6_sets_41 (pc' := 44) rfl (tgt := 47) (by decide) (fun c => ?_) (fun c => ?_)
      · rw [if_pos c] at e
        refine V.alq dX6_sets_47 (pc' := 48) rfl (j := 1) rfl ?_
        refine V.ilq dX6_sets_48 (pc' := 49) rfl (j := 2) rfl ?_
        refine V.ilq dX6_sets_49 (pc' := 50) rfl (j := 3) rfl ?_
        refine V.ilq dX6_sets_50 (pc' := 51) rfl (j := 4) rfl ?_
        obtain ⟨q5, eq5, e⟩ := bd_s e
        refine V.callVv dX6_sets_51 (pc' := 54) rfl CV_X6_158 (as := [.int a1, .int a2, .int a3]) (kX6_becomes q4.2 a1 a2 a3 q5 eq5) (Gs_rm (by decide)) rfl (by decide) rfl (Nat.le_of_ble_eq_true rfl) rfl ?_
        refine V.alq dX6_sets_54 (pc' := 55) rfl (j := 1) rfl ?_
        obtain ⟨q6, eq6, e⟩ := bd_s e
        refine V.callVv dX6_sets_55 (pc' := 58) rfl CV_X6_134 (as := []) (kX6_allGo q5 q6 eq6) (Gs_rm (by decide)) rfl (by decide) rfl (Nat.le_of_ble_eq_true rfl) rfl ?_
        refine V.il dX6_sets_58 (pc' := 60) rfl (j := 0) rfl ?_
        exact V.iret dX6_sets_60 rfl (fnI e)
      · rw [if_neg c] at e
        refine V.bipush dX6_sets_44 (pc' := 46) rfl (v := -3) (by decide) ?_
        exact V.iret dX6_sets_46 rfl (fnI e)
    · rw [if_pos c] at e
      refine V.bipush dX6_sets_31 (pc' := 33) rfl (v := -2) (by decide) ?_
      exact V.iret dX6_sets_33 rfl (fnI e)
  · rw [if_pos c] at e
    refine V.iconst dX6_sets_15 (pc' := 16) rfl (v := -1) (by decide) ?_
    exact V.iret dX6_sets_16 rfl (fnI e)

-- X6_stream (level 3)
theorem dX6_stream_0 : decode cX6_stream 0 = .ok (.aload_n 0, 1) := by decide +kernel
theorem dX6_stream_1 : decode cX6_stream 1 = .ok (.aload_n 0, 1) := by decide +kernel
theorem dX6_stream_2 : decode cX6_stream 2 = .ok (.iload_n 1, 1) := by decide +kernel
theorem dX6_stream_3 : decode cX6_stream 3 = .ok (.invokevirtual 137, 3) := by decide +kernel
theorem dX6_stream_6 : decode cX6_stream 6 = .ok (.ifCond .eq 15, 3) := by decide +kernel
theorem dX6_stream_9 : decode cX6_stream 9 = .ok (.iload_n 2, 1) := by decide +kernel
theorem dX6_stream_10 : decode cX6_stream 10 = .ok (.i2l, 1) := by decide +kernel
theorem dX6_stream_11 : decode cX6_stream 11 = .ok (.lconst 0, 1) := by decide +kernel
theorem dX6_stream_12 : decode cX6_stream 12 = .ok (.ldc2_w 182, 3) := by decide +kernel
theorem dX6_stream_15 : decode cX6_stream 15 = .ok (.invokestatic 29, 3) := by decide +kernel
theorem dX6_stream_18 : decode cX6_stream 18 = .ok (.ifCond .ne 7, 3) := by decide +kernel
theorem dX6_stream_21 : decode cX6_stream 21 = .ok (.iconst 1, 1) := by decide +kernel
theorem dX6_stream_22 : decode cX6_stream 22 = .ok (.goto 4, 3) := by decide +kernel
theorem dX6_stream_25 : decode cX6_stream 25 = .ok (.iconst 0, 1) := by decide +kernel
theorem dX6_stream_26 : decode cX6_stream 26 = .ok (.invokestatic 39, 3) := by decide +kernel
theorem dX6_stream_29 : decode cX6_stream 29 = .ok (.putfield 1, 3) := by decide +kernel
theorem dX6_stream_32 : decode cX6_stream 32 = .ok (.aload_n 0, 1) := by decide +kernel
theorem dX6_stream_33 : decode cX6_stream 33 = .ok (.getfield 1, 3) := by decide +kernel
theorem dX6_stream_36 : decode cX6_stream 36 = .ok (.iconst 1, 1) := by decide +kernel
theorem dX6_stream_37 : decode cX6_stream 37 = .ok (.if_icmp .ne 5, 3) := by decide +kernel
theorem dX6_stream_40 : decode cX6_stream 40 = .ok (.iconst 0, 1) := by decide +kernel
theorem dX6_stream_41 : decode cX6_stream 41 = .ok (.ireturn, 1) := by decide +kernel
theorem dX6_stream_42 : decode cX6_stream 42 = .ok (.iload_n 2, 1) := by decide +kernel
theorem dX6_stream_43 : decode cX6_stream 43 = .ok (.ifCond .ne 14, 3) := by decide +kernel
theorem dX6_stream_46 : decode cX6_stream 46 = .ok (.aload_n 0, 1) := by decide +kernel
theorem dX6_stream_47 : decode cX6_stream 47 = .ok (.iload_n 1, 1) := by decide +kernel
theorem dX6_stream_48 : decode cX6_stream 48 = .ok (.invokevirtual 144, 3) := by decide +kernel
theorem dX6_stream_51 : decode cX6_stream 51 = .ok (.invokestatic 39, 3) := by decide +kernel
theorem dX6_stream_54 : decode cX6_stream 54 = .ok (.goto 24, 3) := by decide +kernel
theorem dX6_stream_57 : decode cX6_stream 57 = .ok (.iload_n 2, 1) := by decide +kernel
theorem dX6_stream_58 : decode cX6_stream 58 = .ok (.iconst 4, 1) := by decide +kernel
theorem dX6_stream_59 : decode cX6_stream 59 = .ok (.if_icmp .ne 11, 3) := by decide +kernel
theorem dX6_stream_62 : decode cX6_stream 62 = .ok (.aload_n 0, 1) := by decide +kernel
theorem dX6_stream_63 : decode cX6_stream 63 = .ok (.iload_n 1, 1) := by decide +kernel
theorem dX6_stream_64 : decode cX6_stream 64 = .ok (.invokevirtual 184, 3) := by decide +kernel
theorem dX6_stream_67 : decode cX6_stream 67 = .ok (.goto 11, 3) := by decide +kernel
theorem dX6_stream_70 : decode cX6_stream 70 = .ok (.aload_n 0, 1) := by decide +kernel
theorem dX6_stream_71 : decode cX6_stream 71 = .ok (.iload_n 1, 1) := by decide +kernel
theorem dX6_stream_72 : decode cX6_stream 72 = .ok (.iload_n 2, 1) := by decide +kernel
theorem dX6_stream_73 : decode cX6_stream 73 = .ok (.iconst 1, 1) := by decide +kernel
theorem dX6_stream_74 : decode cX6_stream 74 = .ok (.isub, 1) := by decide +kernel
theorem dX6_stream_75 : decode cX6_stream 75 = .ok (.invokevirtual 151, 3) := by decide +kernel
theorem dX6_stream_78 : decode cX6_stream 78 = .ok (.ireturn, 1) := by decide +kernel
def sX6_stream_c78 (h : Hp) (t0 : Int32) : Option (Int32 × Hp) :=
  some (t0, h)
set_option maxRecDepth 10000 in
theorem vX6_stream_c78 (h : Hp) (t0 : Int32) (q : (Int32 × Hp)) (e : sX6_stream_c78 h t0 = some q) : V (Gs 3 (pI q)) mX6_stream (0, 0) 78 [] [.int t0] h := by
  unfold sX6_stream_c78 at e
  exact V.iret dX6_stream_78 rfl (fnI e)
def sX6_stream_c26 (h : Hp) (v1 : Int32) (v2 : Int32) (t0 : Int32) : Option (Int32 × Hp) :=
  (sX6_flag h t0).bind fun q3 => nm (u1 q3.2 54 0 q3.1) fun h4 => if (h4.1 54 0) = (1 : Int32) then (some ((0 : Int32), h4)) else (if v2 = 0 then ((sX6_isHot h4 v1).bind fun q7 => (sX6_flag q7.2 q7.1).bind fun q8 => sX6_stream_c78 q8.2 q8.1) else (if v2 = (4 : Int32) then ((sX6_heatOf h4 v1).bind fun q6 => sX6_stream_c78 q6.2 q6.1) else ((sX6_of h4 v1 (v2 - (1 : Int32))).bind fun q5 => sX6_stream_c78 q5.2 q5.1)))
set_option maxRecDepth 10000 in
theorem vX6_stream_c26 (h : Hp) (v1 : Int32) (v2 : Int32) (t0 : Int32) (q : (Int32 × Hp)) (e : sX6_stream_c26 h v1 v2 t0 = some q) : V (Gs 3 (pI q)) mX6_stream (0, 0) 26 [(0, .ref 54), (1, .int v1), (2, .int v2)] [.int t0, .ref 54] h := by
  unfold sX6_stream_c26 at e
  obtain ⟨q3, eq3, e⟩ := bd_s e
  refine V.callSi dX6_stream_26 (pc' := 29) rfl CS_X6_39 (as := [.int t0]) (kX6_flag h t0 q3 eq3) (Gs_rm (by decide)) rfl (Nat.le_of_ble_eq_true rfl) rfl ?_
  obtain ⟨h4, eh4, e⟩ := nm_s e
  refine V.putf dX6_stream_29 (pc' := 32) rfl FP_X6_1 rfl (by decide) rfl eh4 ?_
  refine V.alq dX6_stream_32 (pc' := 33) rfl (j := 0) rfl ?_
  refine V.getf dX6_stream_33 (pc' := 36) rfl FL_X6_1 rfl (by decide) rfl ?_
  refine V.iconst dX6_stream_36 (pc' := 37) rfl (v := 1) (by decide) ?_
  refine V.ic_ne dX6_stream_37 (pc' := 40) rfl (tgt := 42) (by decide) (fun c => ?_) (fun c => ?_)
  · rw [if_neg c] at e
    refine V.ilq dX6_stream_42 (pc' := 43) rfl (j := 2) rfl ?_
    refine V.if_ne dX6_stream_43 (pc' := 46) rfl (tgt := 57) (by decide) (fun c => ?_) (fun c => ?_)
    · rw [if_neg c] at e
      refine V.ilq dX6_stream_57 (pc' := 58) rfl (j := 2) rfl ?_
      refine V.iconst dX6_stream_58 (pc' := 59) rfl (v := 4) (by decide) ?_
      refine V.ic_ne dX6_stream_59 (pc' := 62) rfl (tgt := 70) (by decide) (fun c => ?_) (fun c => ?_)
      · rw [if_neg c] at e
        refine V.alq dX6_stream_70 (pc' := 71) rfl (j := 0) rfl ?_
        refine V.ilq dX6_stream_71 (pc' := 72) rfl (j := 1) rfl ?_
        refine V.ilq dX6_stream_72 (pc' := 73) rfl (j := 2) rfl ?_
        refine V.iconst dX6_stream_73 (pc' := 74) rfl (v := 1) (by decide) ?_
        refine V.isub dX6_stream_74 (pc' := 75) rfl ?_
        obtain ⟨q5, eq5, e⟩ := bd_s e
        refine V.callVi dX6_stream_75 (pc' := 78) rfl CV_X6_151 (as := [.int v1, .int (v2 - (1 : Int32))]) (kX6_of h4 v1 (v2 - (1 : Int32)) q5 eq5) (Gs_rm (by decide)) rfl (by decide) rfl (Nat.le_of_ble_eq_true rfl) rfl ?_
        refine V.pk [] rfl ?_
        exact vX6_stream_c78 q5.2 q5.1 q e
      · rw [if_pos c] at e
        refine V.alq dX6_stream_62 (pc' := 63) rfl (j := 0) rfl ?_
        refine V.ilq dX6_stream_63 (pc' := 64) rfl (j := 1) rfl ?_
        obtain ⟨q6, eq6, e⟩ := bd_s e
        refine V.callVi dX6_stream_64 (pc' := 67) rfl CV_X6_184 (as := [.int v1]) (kX6_heatOf h4 v1 q6 eq6) (Gs_rm (by decide)) rfl (by decide) rfl (Nat.le_of_ble_eq_true rfl) rfl ?_
        refine V.goto dX6_stream_67 (pc' := 78) (by decide) ?_
        refine V.pk [] rfl ?_
        exact vX6_stream_c78 q6.2 q6.1 q e
    · rw [if_pos c] at e
      refine V.alq dX6_stream_46 (pc' := 47) rfl (j := 0) rfl ?_
      refine V.ilq dX6_stream_47 (pc' := 48) rfl (j := 1) rfl ?_
      obtain ⟨q7, eq7, e⟩ := bd_s e
      refine V.callVi dX6_stream_48 (pc' := 51) rfl CV_X6_144 (as := [.int v1]) (kX6_isHot h4 v1 q7 eq7) (Gs_rm (by decide)) rfl (by decide) rfl (Nat.le_of_ble_eq_true rfl) rfl ?_
      obtain ⟨q8, eq8, e⟩ := bd_s e
      refine V.callSi dX6_stream_51 (pc' := 54) rfl CS_X6_39 (as := [.int q7.1]) (kX6_flag q7.2 q7.1 q8 eq8) (Gs_rm (by decide)) rfl (Nat.le_of_ble_eq_true rfl) rfl ?_
      refine V.goto dX6_stream_54 (pc' := 78) (by decide) ?_
      refine V.pk [] rfl ?_
      exact vX6_stream_c78 q8.2 q8.1 q e
  · rw [if_pos c] at e
    refine V.iconst dX6_stream_40 (pc' := 41) rfl (v := 0) (by decide) ?_
    exact V.iret dX6_stream_41 rfl (fnI e)
def sX6_stream_c21 (h : Hp) (v1 : Int32) (v2 : Int32) : Option (Int32 × Hp) :=
  sX6_stream_c26 h v1 v2 (1 : Int32)
set_option maxRecDepth 10000 in
theorem vX6_stream_c21 (h : Hp) (v1 : Int32) (v2 : Int32) (q : (Int32 × Hp)) (e : sX6_stream_c21 h v1 v2 = some q) : V (Gs 3 (pI q)) mX6_stream (0, 0) 21 [(0, .ref 54), (1, .int v1), (2, .int v2)] [.ref 54] h := by
  unfold sX6_stream_c21 at e
  refine V.iconst dX6_stream_21 (pc' := 22) rfl (v := 1) (by decide) ?_
  refine V.goto dX6_stream_22 (pc' := 26) (by decide) ?_
  exact vX6_stream_c26 h v1 v2 (1 : Int32) q e
def sX6_stream (h : Hp) (a1 : Int32) (a2 : Int32) : Option (Int32 × Hp) :=
  (sX6_isStream h a1).bind fun q1 => if q1.1 = 0 then (sX6_stream_c21 q1.2 a1 a2) else ((sX6_in q1.2 a2.toInt64 (0 : Int64) (4 : Int64)).bind fun q2 => if q2.1 = 0 then (sX6_stream_c21 q2.2 a1 a2) else (sX6_stream_c26 q2.2 a1 a2 (0 : Int32)))
set_option maxRecDepth 10000 in
theorem kX6_stream (h : Hp) (a1 : Int32) (a2 : Int32) (q : (Int32 × Hp)) (e : sX6_stream h a1 a2 = some q) : K 3 mX6_stream [.ref 54, .int a1, .int a2] h (pI q) := by
  unfold sX6_stream at e
  refine K.ofV (by decide) rfl (Nat.le_of_ble_eq_true rfl) ?_
  show V (Gs 3 (pI q)) mX6_stream (0, 0) 0 [(0, .ref 54), (1, .int a1), (2, .int a2)] [] h
  refine V.alq dX6_stream_0 (pc' := 1) rfl (j := 0) rfl ?_
  refine V.alq dX6_stream_1 (pc' := 2) rfl (j := 0) rfl ?_
  refine V.ilq dX6_stream_2 (pc' := 3) rfl (j := 1) rfl ?_
  obtain ⟨q1, eq1, e⟩ := bd_s e
  refine V.callVi dX6_stream_3 (pc' := 6) rfl CV_X6_137 (as := [.int a1]) (kX6_isStream h a1 q1 eq1) (Gs_rm (by decide)) rfl (by decide) rfl (Nat.le_of_ble_eq_true rfl) rfl ?_
  refine V.if_eq dX6_stream_6 (pc' := 9) rfl (tgt := 21) (by decide) (fun c => ?_) (fun c => ?_)
  · rw [if_pos c] at e
    exact vX6_stream_c21 q1.2 a1 a2 q e
  · rw [if_neg c] at e
    refine V.ilq dX6_stream_9 (pc' := 10) rfl (j := 2) rfl ?_
    refine V.i2l dX6_stream_10 (pc' := 11) rfl ?_
    refine V.lconst dX6_stream_11 (pc' := 12) rfl (v := 0) (by decide) ?_
    refine V.ldc2 dX6_stream_12 (pc' := 15) rfl (v := 4) (TBm 1087 (by decide +kernel) rfl) ?_
    obtain ⟨q2, eq2, e⟩ := bd_s e
    refine V.callSi dX6_stream_15 (pc' := 18) rfl CS_X6_29 (as := [.long a2.toInt64, .long (0 : Int64), .long (4 : Int64)]) (kX6_in q1.2 a2.toInt64 (0 : Int64) (4 : Int64) q2 eq2) (Gs_rm (by decide)) rfl (Nat.le_of_ble_eq_true rfl) rfl ?_
    refine V.if_ne dX6_stream_18 (pc' := 21) rfl (tgt := 25) (by decide) (fun c => ?_) (fun c => ?_)
    · rw [if_neg c] at e
      refine V.iconst dX6_stream_25 (pc' := 26) rfl (v := 0) (by decide) ?_
      exact vX6_stream_c26 q2.2 a1 a2 (0 : Int32) q e
    · rw [if_pos c] at e
      exact vX6_stream_c21 q2.2 a1 a2 q e

-- X6_surplus (level 3)
theorem dX6_surplus_0 : decode cX6_surplus 0 = .ok (.iload_n 1, 1) := by decide +kernel
theorem dX6_surplus_1 : decode cX6_surplus 1 = .ok (.iconst 1, 1) := by decide +kernel
theorem dX6_surplus_2 : decode cX6_surplus 2 = .ok (.iadd, 1) := by decide +kernel
theorem dX6_surplus_3 : decode cX6_surplus 3 = .ok (.aload_n 0, 1) := by decide +kernel
theorem dX6_surplus_4 : decode cX6_surplus 4 = .ok (.getfield 187, 3) := by decide +kernel
theorem dX6_surplus_7 : decode cX6_surplus 7 = .ok (.if_icmp .lt 5, 3) := by decide +kernel
theorem dX6_surplus_10 : decode cX6_surplus 10 = .ok (.iconst 0, 1) := by decide +kernel
theorem dX6_surplus_11 : decode cX6_surplus 11 = .ok (.ireturn, 1) := by decide +kernel
theorem dX6_surplus_12 : decode cX6_surplus 12 = .ok (.aload_n 0, 1) := by decide +kernel
theorem dX6_surplus_13 : decode cX6_surplus 13 = .ok (.getfield 78, 3) := by decide +kernel
theorem dX6_surplus_16 : decode cX6_surplus 16 = .ok (.iload_n 1, 1) := by decide +kernel
theorem dX6_surplus_17 : decode cX6_surplus 17 = .ok (.iaload, 1) := by decide +kernel
theorem dX6_surplus_18 : decode cX6_surplus 18 = .ok (.aload_n 0, 1) := by decide +kernel
theorem dX6_surplus_19 : decode cX6_surplus 19 = .ok (.getfield 78, 3) := by decide +kernel
theorem dX6_surplus_22 : decode cX6_surplus 22 = .ok (.iload_n 1, 1) := by decide +kernel
theorem dX6_surplus_23 : decode cX6_surplus 23 = .ok (.iconst 1, 1) := by decide +kernel
theorem dX6_surplus_24 : decode cX6_surplus 24 = .ok (.iadd, 1) := by decide +kernel
theorem dX6_surplus_25 : decode cX6_surplus 25 = .ok (.iaload, 1) := by decide +kernel
theorem dX6_surplus_26 : decode cX6_surplus 26 = .ok (.isub, 1) := by decide +kernel
theorem dX6_surplus_27 : decode cX6_surplus 27 = .ok (.aload_n 0, 1) := by decide +kernel
theorem dX6_surplus_28 : decode cX6_surplus 28 = .ok (.iconst 1, 1) := by decide +kernel
theorem dX6_surplus_29 : decode cX6_surplus 29 = .ok (.aload_n 0, 1) := by decide +kernel
theorem dX6_surplus_30 : decode cX6_surplus 30 = .ok (.getfield 78, 3) := by decide +kernel
theorem dX6_surplus_33 : decode cX6_surplus 33 = .ok (.iload_n 1, 1) := by decide +kernel
theorem dX6_surplus_34 : decode cX6_surplus 34 = .ok (.iaload, 1) := by decide +kernel
theorem dX6_surplus_35 : decode cX6_surplus 35 = .ok (.aload_n 0, 1) := by decide +kernel
theorem dX6_surplus_36 : decode cX6_surplus 36 = .ok (.getfield 78, 3) := by decide +kernel
theorem dX6_surplus_39 : decode cX6_surplus 39 = .ok (.iload_n 1, 1) := by decide +kernel
theorem dX6_surplus_40 : decode cX6_surplus 40 = .ok (.iconst 1, 1) := by decide +kernel
theorem dX6_surplus_41 : decode cX6_surplus 41 = .ok (.iadd, 1) := by decide +kernel
theorem dX6_surplus_42 : decode cX6_surplus 42 = .ok (.iaload, 1) := by decide +kernel
theorem dX6_surplus_43 : decode cX6_surplus 43 = .ok (.invokevirtual 193, 3) := by decide +kernel
theorem dX6_surplus_46 : decode cX6_surplus 46 = .ok (.aload_n 0, 1) := by decide +kernel
theorem dX6_surplus_47 : decode cX6_surplus 47 = .ok (.iconst 0, 1) := by decide +kernel
theorem dX6_surplus_48 : decode cX6_surplus 48 = .ok (.aload_n 0, 1) := by decide +kernel
theorem dX6_surplus_49 : decode cX6_surplus 49 = .ok (.getfield 78, 3) := by decide +kernel
theorem dX6_surplus_52 : decode cX6_surplus 52 = .ok (.iload_n 1, 1) := by decide +kernel
theorem dX6_surplus_53 : decode cX6_surplus 53 = .ok (.iaload, 1) := by decide +kernel
theorem dX6_surplus_54 : decode cX6_surplus 54 = .ok (.aload_n 0, 1) := by decide +kernel
theorem dX6_surplus_55 : decode cX6_surplus 55 = .ok (.getfield 78, 3) := by decide +kernel
theorem dX6_surplus_58 : decode cX6_surplus 58 = .ok (.iload_n 1, 1) := by decide +kernel
theorem dX6_surplus_59 : decode cX6_surplus 59 = .ok (.iconst 1, 1) := by decide +kernel
theorem dX6_surplus_60 : decode cX6_surplus 60 = .ok (.iadd, 1) := by decide +kernel
theorem dX6_surplus_61 : decode cX6_surplus 61 = .ok (.iaload, 1) := by decide +kernel
theorem dX6_surplus_62 : decode cX6_surplus 62 = .ok (.invokevirtual 193, 3) := by decide +kernel
theorem dX6_surplus_65 : decode cX6_surplus 65 = .ok (.isub, 1) := by decide +kernel
theorem dX6_surplus_66 : decode cX6_surplus 66 = .ok (.imul, 1) := by decide +kernel
theorem dX6_surplus_67 : decode cX6_surplus 67 = .ok (.ireturn, 1) := by decide +kernel
def sX6_surplus (h : Hp) (a1 : Int32) : Option (Int32 × Hp) :=
  if (a1 + (1 : Int32)) < (h.1 54 17) then (gd (inb a1 20) (gd (inb (a1 + (1 : Int32)) 20) (gd (inb a1 20) (gd (inb (a1 + (1 : Int32)) 20) ((sX6_through h (1 : Int32) (h.1 63 a1.toNatClampNeg) (h.1 63 (a1 + (1 : Int32)).toNatClampNeg)).bind fun q5 => gd (inb a1 20) (gd (inb (a1 + (1 : Int32)) 20) ((sX6_through q5.2 (0 : Int32) (q5.2.1 63 a1.toNatClampNeg) (q5.2.1 63 (a1 + (1 : Int32)).toNatClampNeg)).bind fun q8 => some ((((h.1 63 a1.toNatClampNeg) - (h.1 63 (a1 + (1 : Int32)).toNatClampNeg)) * (q5.1 - q8.1)), q8.2)))))))) else (some ((0 : Int32), h))
set_option maxRecDepth 10000 in
theorem kX6_surplus (h : Hp) (a1 : Int32) (q : (Int32 × Hp)) (e : sX6_surplus h a1 = some q) : K 3 mX6_surplus [.ref 54, .int a1] h (pI q) := by
  unfold sX6_surplus at e
  refine K.ofV (by decide) rfl (Nat.le_of_ble_eq_true rfl) ?_
  show V (Gs 3 (pI q)) mX6_surplus (0, 0) 0 [(0, .ref 54), (1, .int a1)] [] h
  refine V.ilq dX6_surplus_0 (pc' := 1) rfl (j := 1) rfl ?_
  refine V.iconst dX6_surplus_1 (pc' := 2) rfl (v := 1) (by decide) ?_
  refine V.iadd dX6_surplus_2 (pc' := 3) rfl ?_
  refine V.alq dX6_surplus_3 (pc' := 4) rfl (j := 0) rfl ?_
  refine V.getf dX6_surplus_4 (pc' := 7) rfl FL_X6_187 rfl (by decide) rfl ?_
  refine V.ic_lt dX6_surplus_7 (pc' := 10) rfl (tgt := 12) (by decide) (fun c => ?_) (fun c => ?_)
  · rw [if_pos c] at e
    refine V.alq dX6_surplus_12 (pc' := 13) rfl (j := 0) rfl ?_
    refine V.getr dX6_surplus_13 (pc' := 16) rfl FL_X6_78 rfl (by decide) rfl (r' := 63) rfl ?_
    refine V.ilq dX6_surplus_16 (pc' := 17) rfl (j := 1) rfl ?_
    obtain ⟨c1, e⟩ := gd_s e
    refine V.iald dX6_surplus_17 (pc' := 18) rfl rfl rfl (inb_t c1) ?_
    refine V.alq dX6_surplus_18 (pc' := 19) rfl (j := 0) rfl ?_
    refine V.getr dX6_surplus_19 (pc' := 22) rfl FL_X6_78 rfl (by decide) rfl (r' := 63) rfl ?_
    refine V.ilq dX6_surplus_22 (pc' := 23) rfl (j := 1) rfl ?_
    refine V.iconst dX6_surplus_23 (pc' := 24) rfl (v := 1) (by decide) ?_
    refine V.iadd dX6_surplus_24 (pc' := 25) rfl ?_
    obtain ⟨c2, e⟩ := gd_s e
    refine V.iald dX6_surplus_25 (pc' := 26) rfl rfl rfl (inb_t c2) ?_
    refine V.isub dX6_surplus_26 (pc' := 27) rfl ?_
    refine V.alq dX6_surplus_27 (pc' := 28) rfl (j := 0) rfl ?_
    refine V.iconst dX6_surplus_28 (pc' := 29) rfl (v := 1) (by decide) ?_
    refine V.alq dX6_surplus_29 (pc' := 30) rfl (j := 0) rfl ?_
    refine V.getr dX6_surplus_30 (pc' := 33) rfl FL_X6_78 rfl (by decide) rfl (r' := 63) rfl ?_
    refine V.ilq dX6_surplus_33 (pc' := 34) rfl (j := 1) rfl ?_
    obtain ⟨c3, e⟩ := gd_s e
    refine V.iald dX6_surplus_34 (pc' := 35) rfl rfl rfl (inb_t c3) ?_
    refine V.alq dX6_surplus_35 (pc' := 36) rfl (j := 0) rfl ?_
    refine V.getr dX6_surplus_36 (pc' := 39) rfl FL_X6_78 rfl (by decide) rfl (r' := 63) rfl ?_
    refine V.ilq dX6_surplus_39 (pc' := 40) rfl (j := 1) rfl ?_
    refine V.iconst dX6_surplus_40 (pc' := 41) rfl (v := 1) (by decide) ?_
    refine V.iadd dX6_surplus_41 (pc' := 42) rfl ?_
    obtain ⟨c4, e⟩ := gd_s e
    refine V.iald dX6_surplus_42 (pc' := 43) rfl rfl rfl (inb_t c4) ?_
    obtain ⟨q5, eq5, e⟩ := bd_s e
    refine V.callVi dX6_surplus_43 (pc' := 46) rfl CV_X6_193 (as := [.int (1 : Int32), .int (h.1 63 a1.toNatClampNeg), .int (h.1 63 (a1 + (1 : Int32)).toNatClampNeg)]) (kX6_through h (1 : Int32) (h.1 63 a1.toNatClampNeg) (h.1 63 (a1 + (1 : Int32)).toNatClampNeg) q5 eq5) (Gs_rm (by decide)) rfl (by decide) rfl (Nat.le_of_ble_eq_true rfl) rfl ?_
    refine V.alq dX6_surplus_46 (pc' := 47) rfl (j := 0) rfl ?_
    refine V.iconst dX6_surplus_47 (pc' := 48) rfl (v := 0) (by decide) ?_
    refine V.alq dX6_surplus_48 (pc' := 49) rfl (j := 0) rfl ?_
    refine V.getr dX6_surplus_49 (pc' := 52) rfl FL_X6_78 rfl (by decide) rfl (r' := 63) rfl ?_
    refine V.ilq dX6_surplus_52 (pc' := 53) rfl (j := 1) rfl ?_
    obtain ⟨c6, e⟩ := gd_s e
    refine V.iald dX6_surplus_53 (pc' := 54) rfl rfl rfl (inb_t c6) ?_
    refine V.alq dX6_surplus_54 (pc' := 55) rfl (j := 0) rfl ?_
    refine V.getr dX6_surplus_55 (pc' := 58) rfl FL_X6_78 rfl (by decide) rfl (r' := 63) rfl ?_
    refine V.ilq dX6_surplus_58 (pc' := 59) rfl (j := 1) rfl ?_
    refine V.iconst dX6_surplus_59 (pc' := 60) rfl (v := 1) (by decide) ?_
    refine V.iadd dX6_surplus_60 (pc' := 61) rfl ?_
    obtain ⟨c7, e⟩ := gd_s e
    refine V.iald dX6_surplus_61 (pc' := 62) rfl rfl rfl (inb_t c7) ?_
    obtain ⟨q8, eq8, e⟩ := bd_s e
    refine V.callVi dX6_surplus_62 (pc' := 65) rfl CV_X6_193 (as := [.int (0 : Int32), .int (q5.2.1 63 a1.toNatClampNeg), .int (q5.2.1 63 (a1 + (1 : Int32)).toNatClampNeg)]) (kX6_through q5.2 (0 : Int32) (q5.2.1 63 a1.toNatClampNeg) (q5.2.1 63 (a1 + (1 : Int32)).toNatClampNeg) q8 eq8) (Gs_rm (by decide)) rfl (by decide) rfl (Nat.le_of_ble_eq_true rfl) rfl ?_
    refine V.isub dX6_surplus_65 (pc' := 66) rfl ?_
    refine V.imul dX6_surplus_66 (pc' := 67) rfl ?_
    exact V.iret dX6_surplus_67 rfl (fnI e)
  · rw [if_neg c] at e
    refine V.iconst dX6_surplus_10 (pc' := 11) rfl (v := 0) (by decide) ?_
    exact V.iret dX6_surplus_11 rfl (fnI e)

-- X6_above (level 3)
theorem dX6_above_0 : decode cX6_above 0 = .ok (.aload_n 0, 1) := by decide +kernel
theorem dX6_above_1 : decode cX6_above 1 = .ok (.iconst 0, 1) := by decide +kernel
theorem dX6_above_2 : decode cX6_above 2 = .ok (.putfield 1, 3) := by decide +kernel
theorem dX6_above_5 : decode cX6_above 5 = .ok (.iload_n 2, 1) := by decide +kernel
theorem dX6_above_6 : decode cX6_above 6 = .ok (.i2l, 1) := by decide +kernel
theorem dX6_above_7 : decode cX6_above 7 = .ok (.lconst 0, 1) := by decide +kernel
theorem dX6_above_8 : decode cX6_above 8 = .ok (.ldc2_w 142, 3) := by decide +kernel
theorem dX6_above_11 : decode cX6_above 11 = .ok (.invokestatic 29, 3) := by decide +kernel
theorem dX6_above_14 : decode cX6_above 14 = .ok (.ifCond .ne 5, 3) := by decide +kernel
theorem dX6_above_17 : decode cX6_above 17 = .ok (.iconst (-1), 1) := by decide +kernel
theorem dX6_above_18 : decode cX6_above 18 = .ok (.ireturn, 1) := by decide +kernel
theorem dX6_above_19 : decode cX6_above 19 = .ok (.iconst 0, 1) := by decide +kernel
theorem dX6_above_20 : decode cX6_above 20 = .ok (.istore_n 3, 1) := by decide +kernel
theorem dX6_above_21 : decode cX6_above 21 = .ok (.iconst 0, 1) := by decide +kernel
theorem dX6_above_22 : decode cX6_above 22 = .ok (.istore 4, 2) := by decide +kernel
theorem dX6_above_24 : decode cX6_above 24 = .ok (.iload 4, 2) := by decide +kernel
theorem dX6_above_26 : decode cX6_above 26 = .ok (.aload_n 0, 1) := by decide +kernel
theorem dX6_above_27 : decode cX6_above 27 = .ok (.getfield 131, 3) := by decide +kernel
theorem dX6_above_30 : decode cX6_above 30 = .ok (.if_icmp .ge 52, 3) := by decide +kernel
theorem dX6_above_33 : decode cX6_above 33 = .ok (.iload_n 3, 1) := by decide +kernel
theorem dX6_above_34 : decode cX6_above 34 = .ok (.aload_n 0, 1) := by decide +kernel
theorem dX6_above_35 : decode cX6_above 35 = .ok (.iload 4, 2) := by decide +kernel
theorem dX6_above_37 : decode cX6_above 37 = .ok (.invokevirtual 144, 3) := by decide +kernel
theorem dX6_above_40 : decode cX6_above 40 = .ok (.iload_n 1, 1) := by decide +kernel
theorem dX6_above_41 : decode cX6_above 41 = .ok (.if_icmp .ne 29, 3) := by decide +kernel
theorem dX6_above_44 : decode cX6_above 44 = .ok (.iload_n 2, 1) := by decide +kernel
theorem dX6_above_45 : decode cX6_above 45 = .ok (.i2l, 1) := by decide +kernel
theorem dX6_above_46 : decode cX6_above 46 = .ok (.aload_n 0, 1) := by decide +kernel
theorem dX6_above_47 : decode cX6_above 47 = .ok (.iload 4, 2) := by decide +kernel
theorem dX6_above_49 : decode cX6_above 49 = .ok (.invokevirtual 179, 3) := by decide +kernel
theorem dX6_above_52 : decode cX6_above 52 = .ok (.i2l, 1) := by decide +kernel
theorem dX6_above_53 : decode cX6_above 53 = .ok (.aload_n 0, 1) := by decide +kernel
theorem dX6_above_54 : decode cX6_above 54 = .ok (.iload 4, 2) := by decide +kernel
theorem dX6_above_56 : decode cX6_above 56 = .ok (.invokevirtual 176, 3) := by decide +kernel
theorem dX6_above_59 : decode cX6_above 59 = .ok (.i2l, 1) := by decide +kernel
theorem dX6_above_60 : decode cX6_above 60 = .ok (.invokestatic 29, 3) := by decide +kernel
theorem dX6_above_63 : decode cX6_above 63 = .ok (.ifCond .eq 7, 3) := by decide +kernel
theorem dX6_above_66 : decode cX6_above 66 = .ok (.iconst 1, 1) := by decide +kernel
theorem dX6_above_67 : decode cX6_above 67 = .ok (.goto 4, 3) := by decide +kernel
theorem dX6_above_70 : decode cX6_above 70 = .ok (.iconst 0, 1) := by decide +kernel
theorem dX6_above_71 : decode cX6_above 71 = .ok (.invokestatic 39, 3) := by decide +kernel
theorem dX6_above_74 : decode cX6_above 74 = .ok (.iadd, 1) := by decide +kernel
theorem dX6_above_75 : decode cX6_above 75 = .ok (.istore_n 3, 1) := by decide +kernel
theorem dX6_above_76 : decode cX6_above 76 = .ok (.iinc 4 1, 3) := by decide +kernel
theorem dX6_above_79 : decode cX6_above 79 = .ok (.goto (-55), 3) := by decide +kernel
theorem dX6_above_82 : decode cX6_above 82 = .ok (.aload_n 0, 1) := by decide +kernel
theorem dX6_above_83 : decode cX6_above 83 = .ok (.iconst 0, 1) := by decide +kernel
theorem dX6_above_84 : decode cX6_above 84 = .ok (.putfield 11, 3) := by decide +kernel
theorem dX6_above_87 : decode cX6_above 87 = .ok (.aload_n 0, 1) := by decide +kernel
theorem dX6_above_88 : decode cX6_above 88 = .ok (.iload_n 3, 1) := by decide +kernel
theorem dX6_above_89 : decode cX6_above 89 = .ok (.i2l, 1) := by decide +kernel
theorem dX6_above_90 : decode cX6_above 90 = .ok (.invokevirtual 18, 3) := by decide +kernel
theorem dX6_above_93 : decode cX6_above 93 = .ok (.aload_n 0, 1) := by decide +kernel
theorem dX6_above_94 : decode cX6_above 94 = .ok (.iload_n 1, 1) := by decide +kernel
theorem dX6_above_95 : decode cX6_above 95 = .ok (.iload_n 2, 1) := by decide +kernel
theorem dX6_above_96 : decode cX6_above 96 = .ok (.invokevirtual 218, 3) := by decide +kernel
theorem dX6_above_99 : decode cX6_above 99 = .ok (.ireturn, 1) := by decide +kernel
def sX6_above_c71 (k24 : Hp → Int32 → Int32 → Int32 → Int32 → Option (Int32 × Hp)) (h : Hp) (v1 : Int32) (v2 : Int32) (v4 : Int32) (t0 : Int32) (t1 : Int32) : Option (Int32 × Hp) :=
  (sX6_flag h t0).bind fun q10 => nm ((t1 + q10.1)) fun x11 => nm (v4 + (1 : Int32)) fun x12 => k24 q10.2 v1 v2 x11 x12
set_option maxRecDepth 10000 in
theorem vX6_above_c71 (k24 : Hp → Int32 → Int32 → Int32 → Int32 → Option (Int32 × Hp)) (hk24 : ∀ (h : Hp) (v1 : Int32) (v2 : Int32) (v3 : Int32) (v4 : Int32) (q : (Int32 × Hp)), k24 h v1 v2 v3 v4 = some q → V (Gs 3 (pI q)) mX6_above (0, 0) 24 [(0, .ref 54), (1, .int v1), (2, .int v2), (3, .int v3), (4, .int v4)] [] h) (h : Hp) (v1 : Int32) (v2 : Int32) (v4 : Int32) (t0 : Int32) (t1 : Int32) (q : (Int32 × Hp)) (e : sX6_above_c71 k24 h v1 v2 v4 t0 t1 = some q) : V (Gs 3 (pI q)) mX6_above (0, 0) 71 [(0, .ref 54), (1, .int v1), (2, .int v2), (4, .int v4)] [.int t0, .int t1] h := by
  unfold sX6_above_c71 at e
  obtain ⟨q10, eq10, e⟩ := bd_s e
  refine V.callSi dX6_above_71 (pc' := 74) rfl CS_X6_39 (as := [.int t0]) (kX6_flag h t0 q10 eq10) (Gs_rm (by decide)) rfl (Nat.le_of_ble_eq_true rfl) rfl ?_
  refine V.iadd dX6_above_74 (pc' := 75) rfl ?_
  obtain ⟨x11, ex11, e⟩ := nm_s e
  refine V.isq dX6_above_75 (pc' := 76) rfl (by decide) ex11 (L' := [(3, .int x11), (0, .ref 54), (1, .int v1), (2, .int v2), (4, .int v4)]) rfl ?_
  obtain ⟨x12, ex12, e⟩ := nm_s e
  refine V.iinc dX6_above_76 (pc' := 79) rfl (j := 4) rfl (v := 1) (by decide) (by decide) ex12 (L' := [(4, .int x12), (3, .int x11), (0, .ref 54), (1, .int v1), (2, .int v2)]) rfl ?_
  refine V.goto dX6_above_79 (pc' := 24) (by decide) ?_
  refine V.pk [2, 3, 4, 1, 0] rfl ?_
  exact hk24 q10.2 v1 v2 x11 x12 q e
def sX6_above_c70 (k24 : Hp → Int32 → Int32 → Int32 → Int32 → Option (Int32 × Hp)) (h : Hp) (v1 : Int32) (v2 : Int32) (v4 : Int32) (t0 : Int32) : Option (Int32 × Hp) :=
  sX6_above_c71 k24 h v1 v2 v4 (0 : Int32) t0
set_option maxRecDepth 10000 in
theorem vX6_above_c70 (k24 : Hp → Int32 → Int32 → Int32 → Int32 → Option (Int32 × Hp)) (hk24 : ∀ (h : Hp) (v1 : Int32) (v2 : Int32) (v3 : Int32) (v4 : Int32) (q : (Int32 × Hp)), k24 h v1 v2 v3 v4 = some q → V (Gs 3 (pI q)) mX6_above (0, 0) 24 [(0, .ref 54), (1, .int v1), (2, .int v2), (3, .int v3), (4, .int v4)] [] h) (h : Hp) (v1 : Int32) (v2 : Int32) (v4 : Int32) (t0 : Int32) (q : (Int32 × Hp)) (e : sX6_above_c70 k24 h v1 v2 v4 t0 = some q) : V (Gs 3 (pI q)) mX6_above (0, 0) 70 [(0, .ref 54), (1, .int v1), (2, .int v2), (4, .int v4)] [.int t0] h := by
  unfold sX6_above_c70 at e
  refine V.iconst dX6_above_70 (pc' := 71) rfl (v := 0) (by decide) ?_
  exact vX6_above_c71 k24 hk24 h v1 v2 v4 (0 : Int32) t0 q e
def sX6_above_c24 (k24 : Hp → Int32 → Int32 → Int32 → Int32 → Option (Int32 × Hp)) (h : Hp) (v1 : Int32) (v2 : Int32) (v3 : Int32) (v4 : Int32) : Option (Int32 × Hp) :=
  if (h.1 54 7) ≤ v4 then (nm (u1 h 54 1 (0 : Int32)) fun h3 => (sX6_enters h3 v3.toInt64).bind fun q4 => (sX6_aboveOf q4 v1 v2).bind fun q5 => some (q5.1, q5.2)) else ((sX6_isHot h v4).bind fun q6 => if q6.1 = v1 then ((sX6_low q6.2 v4).bind fun q7 => (sX6_high q7.2 v4).bind fun q8 => (sX6_in q8.2 v2.toInt64 q7.1.toInt64 q8.1.toInt64).bind fun q9 => if q9.1 = 0 then (sX6_above_c70 k24 q9.2 v1 v2 v4 v3) else (sX6_above_c71 k24 q9.2 v1 v2 v4 (1 : Int32) v3)) else (sX6_above_c70 k24 q6.2 v1 v2 v4 v3))
set_option maxRecDepth 10000 in
theorem vX6_above_c24 (k24 : Hp → Int32 → Int32 → Int32 → Int32 → Option (Int32 × Hp)) (hk24 : ∀ (h : Hp) (v1 : Int32) (v2 : Int32) (v3 : Int32) (v4 : Int32) (q : (Int32 × Hp)), k24 h v1 v2 v3 v4 = some q → V (Gs 3 (pI q)) mX6_above (0, 0) 24 [(0, .ref 54), (1, .int v1), (2, .int v2), (3, .int v3), (4, .int v4)] [] h) (h : Hp) (v1 : Int32) (v2 : Int32) (v3 : Int32) (v4 : Int32) (q : (Int32 × Hp)) (e : sX6_above_c24 k24 h v1 v2 v3 v4 = some q) : V (Gs 3 (pI q)) mX6_above (0, 0) 24 [(0, .ref 54), (1, .int v1), (2, .int v2), (3, .int v3), (4, .int v4)] [] h := by
  unfold sX6_above_c24 at e
  refine V.il dX6_above_24 (pc' := 26) rfl (j := 4) rfl ?_
  refine V.alq dX6_above_26 (pc' := 27) rfl (j := 0) rfl ?_
  refine V.getf dX6_above_27 (pc' := 30) rfl FL_X6_131 rfl (by decide) rfl ?_
  refine V.ic_ge dX6_above_30 (pc' := 33) rfl (tgt := 82) (by decide) (fun c => ?_) (fun c => ?_)
  · rw [if_pos c] at e
    refine V.alq dX6_above_82 (pc' := 83) rfl (j := 0) rfl ?_
    refine V.iconst dX6_above_83 (pc' := 84) rfl (v := 0) (by decide) ?_
    obtain ⟨h3, eh3, e⟩ := nm_s e
    refine V.putf dX6_above_84 (pc' := 87) rfl FP_X6_11 rfl (by decide) rfl eh3 ?_
    refine V.alq dX6_above_87 (pc' := 88) rfl (j := 0) rfl ?_
    refine V.ilq dX6_above_88 (pc' := 89) rfl (j := 3) rfl ?_
    refine V.i2l dX6_above_89 (pc' := 90) rfl ?_
    obtain ⟨q4, eq4, e⟩ := bd_s e
    refine V.callVv dX6_above_90 (pc' := 93) rfl CV_X6_18 (as := [.long v3.toInt64]) (kX6_enters h3 v3.toInt64 q4 eq4) (Gs_rm (by decide)) rfl (by decide) rfl (Nat.le_of_ble_eq_true rfl) rfl ?_
    refine V.alq dX6_above_93 (pc' := 94) rfl (j := 0) rfl ?_
    refine V.ilq dX6_above_94 (pc' := 95) rfl (j := 1) rfl ?_
    refine V.ilq dX6_above_95 (pc' := 96) rfl (j := 2) rfl ?_
    obtain ⟨q5, eq5, e⟩ := bd_s e
    refine V.callVi dX6_above_96 (pc' := 99) rfl CV_X6_218 (as := [.int v1, .int v2]) (kX6_aboveOf q4 v1 v2 q5 eq5) (Gs_rm (by decide)) rfl (by decide) rfl (Nat.le_of_ble_eq_true rfl) rfl ?_
    exact V.iret dX6_above_99 rfl (fnI e)
  · rw [if_neg c] at e
    refine V.ilq dX6_above_33 (pc' := 34) rfl (j := 3) rfl ?_
    refine V.alq dX6_above_34 (pc' := 35) rfl (j := 0) rfl ?_
    refine V.il dX6_above_35 (pc' := 37) rfl (j := 4) rfl ?_
    obtain ⟨q6, eq6, e⟩ := bd_s e
    refine V.callVi dX6_above_37 (pc' := 40) rfl CV_X6_144 (as := [.int v4]) (kX6_isHot h v4 q6 eq6) (Gs_rm (by decide)) rfl (by decide) rfl (Nat.le_of_ble_eq_true rfl) rfl ?_
    refine V.ilq dX6_above_40 (pc' := 41) rfl (j := 1) rfl ?_
    refine V.ic_ne dX6_above_41 (pc' := 44) rfl (tgt := 70) (by decide) (fun c => ?_) (fun c => ?_)
    · rw [if_neg c] at e
      refine V.pk [0, 1, 2, 4] rfl ?_
      exact vX6_above_c70 k24 hk24 q6.2 v1 v2 v4 v3 q e
    · rw [if_pos c] at e
      refine V.ilq dX6_above_44 (pc' := 45) rfl (j := 2) rfl ?_
      refine V.i2l dX6_above_45 (pc' := 46) rfl ?_
      refine V.alq dX6_above_46 (pc' := 47) rfl (j := 0) rfl ?_
      refine V.il dX6_above_47 (pc' := 49) rfl (j := 4) rfl ?_
      obtain ⟨q7, eq7, e⟩ := bd_s e
      refine V.callVi dX6_above_49 (pc' := 52) rfl CV_X6_179 (as := [.int v4]) (kX6_low q6.2 v4 q7 eq7) (Gs_rm (by decide)) rfl (by decide) rfl (Nat.le_of_ble_eq_true rfl) rfl ?_
      refine V.i2l dX6_above_52 (pc' := 53) rfl ?_
      refine V.alq dX6_above_53 (pc' := 54) rfl (j := 0) rfl ?_
      refine V.il dX6_above_54 (pc' := 56) rfl (j := 4) rfl ?_
      obtain ⟨q8, eq8, e⟩ := bd_s e
      refine V.callVi dX6_above_56 (pc' := 59) rfl CV_X6_176 (as := [.int v4]) (kX6_high q7.2 v4 q8 eq8) (Gs_rm (by decide)) rfl (by decide) rfl (Nat.le_of_ble_eq_true rfl) rfl ?_
      refine V.i2l dX6_above_59 (pc' := 60) rfl ?_
      obtain ⟨q9, eq9, e⟩ := bd_s e
      refine V.callSi dX6_above_60 (pc' := 63) rfl CS_X6_29 (as := [.long v2.toInt64, .long q7.1.toInt64, .long q8.1.toInt64]) (kX6_in q8.2 v2.toInt64 q7.1.toInt64 q8.1.toInt64 q9 eq9) (Gs_rm (by decide)) rfl (Nat.le_of_ble_eq_true rfl) rfl ?_
      refine V.if_eq dX6_above_63 (pc' := 66) rfl (tgt := 70) (by decide) (fun c => ?_) (fun c => ?_)
      · rw [if_pos c] at e
        refine V.pk [0, 1, 2, 4] rfl ?_
        exact vX6_above_c70 k24 hk24 q9.2 v1 v2 v4 v3 q e
      · rw [if_neg c] at e
        refine V.iconst dX6_above_66 (pc' := 67) rfl (v := 1) (by decide) ?_
        refine V.goto dX6_above_67 (pc' := 71) (by decide) ?_
        refine V.pk [0, 1, 2, 4] rfl ?_
        exact vX6_above_c71 k24 hk24 q9.2 v1 v2 v4 (1 : Int32) v3 q e
def sX6_above_b24 : Nat → Hp → Int32 → Int32 → Int32 → Int32 → Option (Int32 × Hp)
  | 0 => fun _ _ _ _ _ => none
  | n + 1 => sX6_above_c24 (sX6_above_b24 n)
theorem vX6_above_b24 : ∀ (n : Nat) (h : Hp) (v1 : Int32) (v2 : Int32) (v3 : Int32) (v4 : Int32) (q : (Int32 × Hp)), sX6_above_b24 n h v1 v2 v3 v4 = some q → V (Gs 3 (pI q)) mX6_above (0, 0) 24 [(0, .ref 54), (1, .int v1), (2, .int v2), (3, .int v3), (4, .int v4)] [] h
  | 0 => fun _ _ _ _ _ _ e => by cases e
  | n + 1 => fun h v1 v2 v3 v4 q e => vX6_above_c24 (sX6_above_b24 n) (vX6_above_b24 n) h v1 v2 v3 v4 q e
def sX6_above (h : Hp) (a1 : Int32) (a2 : Int32) : Option (Int32 × Hp) :=
  nm (u1 h 54 0 (0 : Int32)) fun h1 => (sX6_in h1 a2.toInt64 (0 : Int64) (500 : Int64)).bind fun q2 => if q2.1 = 0 then (some ((-1 : Int32), q2.2)) else (sX6_above_b24 FU q2.2 a1 a2 (0 : Int32) (0 : Int32))
set_option maxRecDepth 10000 in
theorem kX6_above (h : Hp) (a1 : Int32) (a2 : Int32) (q : (Int32 × Hp)) (e : sX6_above h a1 a2 = some q) : K 3 mX6_above [.ref 54, .int a1, .int a2] h (pI q) := by
  unfold sX6_above at e
  refine K.ofV (by decide) rfl (Nat.le_of_ble_eq_true rfl) ?_
  show V (Gs 3 (pI q)) mX6_above (0, 0) 0 [(0, .ref 54), (1, .int a1), (2, .int a2)] [] h
  refine V.alq dX6_above_0 (pc' := 1) rfl (j := 0) rfl ?_
  refine V.iconst dX6_above_1 (pc' := 2) rfl (v := 0) (by decide) ?_
  obtain ⟨h1, eh1, e⟩ := nm_s e
  refine V.putf dX6_above_2 (pc' := 5) rfl FP_X6_1 rfl (by decide) rfl eh1 ?_
  refine V.ilq dX6_above_5 (pc' := 6) rfl (j := 2) rfl ?_
  refine V.i2l dX6_above_6 (pc' := 7) rfl ?_
  refine V.lconst dX6_above_7 (pc' := 8) rfl (v := 0) (by decide) ?_
  refine V.ldc2 dX6_above_8 (pc' := 11) rfl (v := 500) (TBm 1049 (by decide +kernel) rfl) ?_
  obtain ⟨q2, eq2, e⟩ := bd_s e
  refine V.callSi dX6_above_11 (pc' := 14) rfl CS_X6_29 (as := [.long a2.toInt64, .long (0 : Int64), .long (500 : Int64)]) (kX6_in h1 a2.toInt64 (0 : Int64) (500 : Int64) q2 eq2) (Gs_rm (by decide)) rfl (Nat.le_of_ble_eq_true rfl) rfl ?_
  refine V.if_ne dX6_above_14 (pc' := 17) rfl (tgt := 19) (by decide) (fun c => ?_) (fun c => ?_)
  · rw [if_neg c] at e
    refine V.iconst dX6_above_19 (pc' := 20) rfl (v := 0) (by decide) ?_
    refine V.isq dX6_above_20 (pc' := 21) rfl (by decide) rfl (L' := [(3, .int (0 : Int32)), (0, .ref 54), (1, .int a1), (2, .int a2)]) rfl ?_
    refine V.iconst dX6_above_21 (pc' := 22) rfl (v := 0) (by decide) ?_
    refine V.is dX6_above_22 (pc' := 24) rfl (by decide) rfl (L' := [(4, .int (0 : Int32)), (3, .int (0 : Int32)), (0, .ref 54), (1, .int a1), (2, .int a2)]) rfl ?_
    refine V.pk [2, 3, 4, 1, 0] rfl ?_
    exact vX6_above_b24 FU q2.2 a1 a2 (0 : Int32) (0 : Int32) q e
  · rw [if_pos c] at e
    refine V.iconst dX6_above_17 (pc' := 18) rfl (v := -1) (by decide) ?_
    exact V.iret dX6_above_18 rfl (fnI e)

-- X6_level (level 3)
theorem dX6_level_0 : decode cX6_level 0 = .ok (.aload_n 0, 1) := by decide +kernel
theorem dX6_level_1 : decode cX6_level 1 = .ok (.iconst 0, 1) := by decide +kernel
theorem dX6_level_2 : decode cX6_level 2 = .ok (.putfield 1, 3) := by decide +kernel
theorem dX6_level_5 : decode cX6_level 5 = .ok (.iload_n 2, 1) := by decide +kernel
theorem dX6_level_6 : decode cX6_level 6 = .ok (.iconst 1, 1) := by decide +kernel
theorem dX6_level_7 : decode cX6_level 7 = .ok (.if_icmp .ge 5, 3) := by decide +kernel
theorem dX6_level_10 : decode cX6_level 10 = .ok (.iconst (-1), 1) := by decide +kernel
theorem dX6_level_11 : decode cX6_level 11 = .ok (.ireturn, 1) := by decide +kernel
theorem dX6_level_12 : decode cX6_level 12 = .ok (.sipush 500, 3) := by decide +kernel
theorem dX6_level_15 : decode cX6_level 15 = .ok (.istore_n 3, 1) := by decide +kernel
theorem dX6_level_16 : decode cX6_level 16 = .ok (.iload_n 3, 1) := by decide +kernel
theorem dX6_level_17 : decode cX6_level 17 = .ok (.ifCond .le 21, 3) := by decide +kernel
theorem dX6_level_20 : decode cX6_level 20 = .ok (.aload_n 0, 1) := by decide +kernel
theorem dX6_level_21 : decode cX6_level 21 = .ok (.iload_n 1, 1) := by decide +kernel
theorem dX6_level_22 : decode cX6_level 22 = .ok (.iload_n 3, 1) := by decide +kernel
theorem dX6_level_23 : decode cX6_level 23 = .ok (.iconst 1, 1) := by decide +kernel
theorem dX6_level_24 : decode cX6_level 24 = .ok (.isub, 1) := by decide +kernel
theorem dX6_level_25 : decode cX6_level 25 = .ok (.invokevirtual 218, 3) := by decide +kernel
theorem dX6_level_28 : decode cX6_level 28 = .ok (.iload_n 2, 1) := by decide +kernel
theorem dX6_level_29 : decode cX6_level 29 = .ok (.if_icmp .ge 9, 3) := by decide +kernel
theorem dX6_level_32 : decode cX6_level 32 = .ok (.iinc 3 (-1), 3) := by decide +kernel
theorem dX6_level_35 : decode cX6_level 35 = .ok (.goto (-19), 3) := by decide +kernel
theorem dX6_level_38 : decode cX6_level 38 = .ok (.iload_n 3, 1) := by decide +kernel
theorem dX6_level_39 : decode cX6_level 39 = .ok (.ifCond .ne 6, 3) := by decide +kernel
theorem dX6_level_42 : decode cX6_level 42 = .ok (.bipush (-2), 2) := by decide +kernel
theorem dX6_level_44 : decode cX6_level 44 = .ok (.ireturn, 1) := by decide +kernel
theorem dX6_level_45 : decode cX6_level 45 = .ok (.aload_n 0, 1) := by decide +kernel
theorem dX6_level_46 : decode cX6_level 46 = .ok (.iload_n 1, 1) := by decide +kernel
theorem dX6_level_47 : decode cX6_level 47 = .ok (.iload_n 3, 1) := by decide +kernel
theorem dX6_level_48 : decode cX6_level 48 = .ok (.invokevirtual 222, 3) := by decide +kernel
theorem dX6_level_51 : decode cX6_level 51 = .ok (.istore 4, 2) := by decide +kernel
theorem dX6_level_53 : decode cX6_level 53 = .ok (.aload_n 0, 1) := by decide +kernel
theorem dX6_level_54 : decode cX6_level 54 = .ok (.iconst 0, 1) := by decide +kernel
theorem dX6_level_55 : decode cX6_level 55 = .ok (.putfield 11, 3) := by decide +kernel
theorem dX6_level_58 : decode cX6_level 58 = .ok (.aload_n 0, 1) := by decide +kernel
theorem dX6_level_59 : decode cX6_level 59 = .ok (.iload_n 3, 1) := by decide +kernel
theorem dX6_level_60 : decode cX6_level 60 = .ok (.i2l, 1) := by decide +kernel
theorem dX6_level_61 : decode cX6_level 61 = .ok (.iload 4, 2) := by decide +kernel
theorem dX6_level_63 : decode cX6_level 63 = .ok (.i2l, 1) := by decide +kernel
theorem dX6_level_64 : decode cX6_level 64 = .ok (.lmul, 1) := by decide +kernel
theorem dX6_level_65 : decode cX6_level 65 = .ok (.iload_n 2, 1) := by decide +kernel
theorem dX6_level_66 : decode cX6_level 66 = .ok (.aload_n 0, 1) := by decide +kernel
theorem dX6_level_67 : decode cX6_level 67 = .ok (.iload_n 1, 1) := by decide +kernel
theorem dX6_level_68 : decode cX6_level 68 = .ok (.iload_n 3, 1) := by decide +kernel
theorem dX6_level_69 : decode cX6_level 69 = .ok (.invokevirtual 218, 3) := by decide +kernel
theorem dX6_level_72 : decode cX6_level 72 = .ok (.isub, 1) := by decide +kernel
theorem dX6_level_73 : decode cX6_level 73 = .ok (.i2l, 1) := by decide +kernel
theorem dX6_level_74 : decode cX6_level 74 = .ok (.lsub, 1) := by decide +kernel
theorem dX6_level_75 : decode cX6_level 75 = .ok (.iload 4, 2) := by decide +kernel
theorem dX6_level_77 : decode cX6_level 77 = .ok (.i2l, 1) := by decide +kernel
theorem dX6_level_78 : decode cX6_level 78 = .ok (.invokevirtual 225, 3) := by decide +kernel
theorem dX6_level_81 : decode cX6_level 81 = .ok (.iconst 0, 1) := by decide +kernel
theorem dX6_level_82 : decode cX6_level 82 = .ok (.ireturn, 1) := by decide +kernel
def sX6_level_c38 (h : Hp) (v1 : Int32) (v2 : Int32) (v3 : Int32) : Option (Int32 × Hp) :=
  if v3 = 0 then (some ((-2 : Int32), h)) else ((sX6_goingOn h v1 v3).bind fun q4 => nm (u1 q4.2 54 1 (0 : Int32)) fun h5 => (sX6_aboveOf h5 v1 v3).bind fun q6 => (sX6_entersPart q6.2 ((v3.toInt64 * q4.1.toInt64) - (v2 - q6.1).toInt64) q4.1.toInt64).bind fun q7 => some ((0 : Int32), q7))
set_option maxRecDepth 10000 in
theorem vX6_level_c38 (h : Hp) (v1 : Int32) (v2 : Int32) (v3 : Int32) (q : (Int32 × Hp)) (e : sX6_level_c38 h v1 v2 v3 = some q) : V (Gs 3 (pI q)) mX6_level (0, 0) 38 [(0, .ref 54), (1, .int v1), (2, .int v2), (3, .int v3)] [] h := by
  unfold sX6_level_c38 at e
  refine V.ilq dX6_level_38 (pc' := 39) rfl (j := 3) rfl ?_
  refine V.if_ne dX6_level_39 (pc' := 42) rfl (tgt := 45) (by decide) (fun c => ?_) (fun c => ?_)
  · rw [if_neg c] at e
    refine V.alq dX6_level_45 (pc' := 46) rfl (j := 0) rfl ?_
    refine V.ilq dX6_level_46 (pc' := 47) rfl (j := 1) rfl ?_
    refine V.ilq dX6_level_47 (pc' := 48) rfl (j := 3) rfl ?_
    obtain ⟨q4, eq4, e⟩ := bd_s e
    refine V.callVi dX6_level_48 (pc' := 51) rfl CV_X6_222 (as := [.int v1, .int v3]) (kX6_goingOn h v1 v3 q4 eq4) (Gs_rm (by decide)) rfl (by decide) rfl (Nat.le_of_ble_eq_true rfl) rfl ?_
    refine V.is dX6_level_51 (pc' := 53) rfl (by decide) rfl (L' := [(4, .int q4.1), (0, .ref 54), (1, .int v1), (2, .int v2), (3, .int v3)]) rfl ?_
    refine V.alq dX6_level_53 (pc' := 54) rfl (j := 1) rfl ?_
    refine V.iconst dX6_level_54 (pc' := 55) rfl (v := 0) (by decide) ?_
    obtain ⟨h5, eh5, e⟩ := nm_s e
    refine V.putf dX6_level_55 (pc' := 58) rfl FP_X6_11 rfl (by decide) rfl eh5 ?_
    refine V.alq dX6_level_58 (pc' := 59) rfl (j := 1) rfl ?_
    refine V.ilq dX6_level_59 (pc' := 60) rfl (j := 4) rfl ?_
    refine V.i2l dX6_level_60 (pc' := 61) rfl ?_
    refine V.il dX6_level_61 (pc' := 63) rfl (j := 0) rfl ?_
    refine V.i2l dX6_level_63 (pc' := 64) rfl ?_
    refine V.lmul dX6_level_64 (pc' := 65) rfl ?_
    refine V.ilq dX6_level_65 (pc' := 66) rfl (j := 3) rfl ?_
    refine V.alq dX6_level_66 (pc' := 67) rfl (j := 1) rfl ?_
    refine V.ilq dX6_level_67 (pc' := 68) rfl (j := 2) rfl ?_
    refine V.ilq dX6_level_68 (pc' := 69) rfl (j := 4) rfl ?_
    obtain ⟨q6, eq6, e⟩ := bd_s e
    refine V.callVi dX6_level_69 (pc' := 72) rfl CV_X6_218 (as := [.int v1, .int v3]) (kX6_aboveOf h5 v1 v3 q6 eq6) (Gs_rm (by decide)) rfl (by decide) rfl (Nat.le_of_ble_eq_true rfl) rfl ?_
    refine V.isub dX6_level_72 (pc' := 73) rfl ?_
    refine V.i2l dX6_level_73 (pc' := 74) rfl ?_
    refine V.lsub dX6_level_74 (pc' := 75) rfl ?_
    refine V.il dX6_level_75 (pc' := 77) rfl (j := 0) rfl ?_
    refine V.i2l dX6_level_77 (pc' := 78) rfl ?_
    obtain ⟨q7, eq7, e⟩ := bd_s e
    refine V.callVv dX6_level_78 (pc' := 81) rfl CV_X6_225 (as := [.long ((v3.toInt64 * q4.1.toInt64) - (v2 - q6.1).toInt64), .long q4.1.toInt64]) (kX6_entersPart q6.2 ((v3.toInt64 * q4.1.toInt64) - (v2 - q6.1).toInt64) q4.1.toInt64 q7 eq7) (Gs_rm (by decide)) rfl (by decide) rfl (Nat.le_of_ble_eq_true rfl) rfl ?_
    refine V.iconst dX6_level_81 (pc' := 82) rfl (v := 0) (by decide) ?_
    exact V.iret dX6_level_82 rfl (fnI e)
  · rw [if_pos c] at e
    refine V.bipush dX6_level_42 (pc' := 44) rfl (v := -2) (by decide) ?_
    exact V.iret dX6_level_44 rfl (fnI e)
def sX6_level_c16 (k16 : Hp → Int32 → Int32 → Int32 → Option (Int32 × Hp)) (h : Hp) (v1 : Int32) (v2 : Int32) (v3 : Int32) : Option (Int32 × Hp) :=
  if v3 ≤ 0 then (sX6_level_c38 h v1 v2 v3) else ((sX6_aboveOf h v1 (v3 - (1 : Int32))).bind fun q2 => if v2 ≤ q2.1 then (sX6_level_c38 q2.2 v1 v2 v3) else (nm (v3 + (-1 : Int32)) fun x3 => k16 q2.2 v1 v2 x3))
set_option maxRecDepth 10000 in
theorem vX6_level_c16 (k16 : Hp → Int32 → Int32 → Int32 → Option (Int32 × Hp)) (hk16 : ∀ (h : Hp) (v1 : Int32) (v2 : Int32) (v3 : Int32) (q : (Int32 × Hp)), k16 h v1 v2 v3 = some q → V (Gs 3 (pI q)) mX6_level (0, 0) 16 [(0, .ref 54), (1, .int v1), (2, .int v2), (3, .int v3)] [] h) (h : Hp) (v1 : Int32) (v2 : Int32) (v3 : Int32) (q : (Int32 × Hp)) (e : sX6_level_c16 k16 h v1 v2 v3 = some q) : V (Gs 3 (pI q)) mX6_level (0, 0) 16 [(0, .ref 54), (1, .int v1), (2, .int v2), (3, .int v3)] [] h := by
  unfold sX6_level_c16 at e
  refine V.ilq dX6_level_16 (pc' := 17) rfl (j := 3) rfl ?_
  refine V.if_le dX6_level_17 (pc' := 20) rfl (tgt := 38) (by decide) (fun c => ?_) (fun c => ?_)
  · rw [if_pos c] at e
    exact vX6_level_c38 h v1 v2 v3 q e
  · rw [if_neg c] at e
    refine V.alq dX6_level_20 (pc' := 21) rfl (j := 0) rfl ?_
    refine V.ilq dX6_level_21 (pc' := 22) rfl (j := 1) rfl ?_
    refine V.ilq dX6_level_22 (pc' := 23) rfl (j := 3) rfl ?_
    refine V.iconst dX6_level_23 (pc' := 24) rfl (v := 1) (by decide) ?_
    refine V.isub dX6_level_24 (pc' := 25) rfl ?_
    obtain ⟨q2, eq2, e⟩ := bd_s e
    refine V.callVi dX6_level_25 (pc' := 28) rfl CV_X6_218 (as := [.int v1, .int (v3 - (1 : Int32))]) (kX6_aboveOf h v1 (v3 - (1 : Int32)) q2 eq2) (Gs_rm (by decide)) rfl (by decide) rfl (Nat.le_of_ble_eq_true rfl) rfl ?_
    refine V.ilq dX6_level_28 (pc' := 29) rfl (j := 2) rfl ?_
    refine V.ic_ge dX6_level_29 (pc' := 32) rfl (tgt := 38) (by decide) (fun c => ?_) (fun c => ?_)
    · rw [if_pos c] at e
      exact vX6_level_c38 q2.2 v1 v2 v3 q e
    · rw [if_neg c] at e
      obtain ⟨x3, ex3, e⟩ := nm_s e
      refine V.iinc dX6_level_32 (pc' := 35) rfl (j := 3) rfl (v := -1) (by decide) (by decide) ex3 (L' := [(3, .int x3), (0, .ref 54), (1, .int v1), (2, .int v2)]) rfl ?_
      refine V.goto dX6_level_35 (pc' := 16) (by decide) ?_
      refine V.pk [1, 2, 3, 0] rfl ?_
      exact hk16 q2.2 v1 v2 x3 q e
def sX6_level_b16 : Nat → Hp → Int32 → Int32 → Int32 → Option (Int32 × Hp)
  | 0 => fun _ _ _ _ => none
  | n + 1 => sX6_level_c16 (sX6_level_b16 n)
theorem vX6_level_b16 : ∀ (n : Nat) (h : Hp) (v1 : Int32) (v2 : Int32) (v3 : Int32) (q : (Int32 × Hp)), sX6_level_b16 n h v1 v2 v3 = some q → V (Gs 3 (pI q)) mX6_level (0, 0) 16 [(0, .ref 54), (1, .int v1), (2, .int v2), (3, .int v3)] [] h
  | 0 => fun _ _ _ _ _ e => by cases e
  | n + 1 => fun h v1 v2 v3 q e => vX6_level_c16 (sX6_level_b16 n) (vX6_level_b16 n) h v1 v2 v3 q e
def sX6_level (h : Hp) (a1 : Int32) (a2 : Int32) : Option (Int32 × Hp) :=
  nm (u1 h 54 0 (0 : Int32)) fun h1 => if (1 : Int32) ≤ a2 then (sX6_level_b16 FU h1 a1 a2 (500 : Int32)) else (some ((-1 : Int32), h1))
set_option maxRecDepth 10000 in
theorem kX6_level (h : Hp) (a1 : Int32) (a2 : Int32) (q : (Int32 × Hp)) (e : sX6_level h a1 a2 = some q) : K 3 mX6_level [.ref 54, .int a1, .int a2] h (pI q) := by
  unfold sX6_level at e
  refine K.ofV (by decide) rfl (Nat.le_of_ble_eq_true rfl) ?_
  show V (Gs 3 (pI q)) mX6_level (0, 0) 0 [(0, .ref 54), (1, .int a1), (2, .int a2)] [] h
  refine V.alq dX6_level_0 (pc' := 1) rfl (j := 0) rfl ?_
  refine V.iconst dX6_level_1 (pc' := 2) rfl (v := 0) (by decide) ?_
  obtain ⟨h1, eh1, e⟩ := nm_s e
  refine V.putf dX6_level_2 (pc' := 5) rfl FP_X6_1 rfl (by decide) rfl eh1 ?_
  refine V.ilq dX6_level_5 (pc' := 6) rfl (j := 2) rfl ?_
  refine V.iconst dX6_level_6 (pc' := 7) rfl (v := 1) (by decide) ?_
  refine V.ic_ge dX6_level_7 (pc' := 10) rfl (tgt := 12) (by decide) (fun c => ?_) (fun c => ?_)
  · rw [if_pos c] at e
    refine V.sipush dX6_level_12 (pc' := 15) rfl (v := 500) (by decide) ?_
    refine V.isq dX6_level_15 (pc' := 16) rfl (by decide) rfl (L' := [(3, .int (500 : Int32)), (0, .ref 54), (1, .int a1), (2, .int a2)]) rfl ?_
    refine V.pk [1, 2, 3, 0] rfl ?_
    exact vX6_level_b16 FU h1 a1 a2 (500 : Int32) q e
  · rw [if_neg c] at e
    refine V.iconst dX6_level_10 (pc' := 11) rfl (v := -1) (by decide) ?_
    exact V.iret dX6_level_11 rfl (fnI e)

-- X6_near (level 3)
theorem dX6_near_0 : decode cX6_near 0 = .ok (.iload_n 1, 1) := by decide +kernel
theorem dX6_near_1 : decode cX6_near 1 = .ok (.ifCond .ne 19, 3) := by decide +kernel
theorem dX6_near_4 : decode cX6_near 4 = .ok (.aload_n 0, 1) := by decide +kernel
theorem dX6_near_5 : decode cX6_near 5 = .ok (.iload_n 2, 1) := by decide +kernel
theorem dX6_near_6 : decode cX6_near 6 = .ok (.invokevirtual 179, 3) := by decide +kernel
theorem dX6_near_9 : decode cX6_near 9 = .ok (.aload_n 0, 1) := by decide +kernel
theorem dX6_near_10 : decode cX6_near 10 = .ok (.iload_n 2, 1) := by decide +kernel
theorem dX6_near_11 : decode cX6_near 11 = .ok (.invokevirtual 241, 3) := by decide +kernel
theorem dX6_near_14 : decode cX6_near 14 = .ok (.invokestatic 173, 3) := by decide +kernel
theorem dX6_near_17 : decode cX6_near 17 = .ok (.goto 16, 3) := by decide +kernel
theorem dX6_near_20 : decode cX6_near 20 = .ok (.aload_n 0, 1) := by decide +kernel
theorem dX6_near_21 : decode cX6_near 21 = .ok (.iload_n 2, 1) := by decide +kernel
theorem dX6_near_22 : decode cX6_near 22 = .ok (.invokevirtual 176, 3) := by decide +kernel
theorem dX6_near_25 : decode cX6_near 25 = .ok (.aload_n 0, 1) := by decide +kernel
theorem dX6_near_26 : decode cX6_near 26 = .ok (.iload_n 2, 1) := by decide +kernel
theorem dX6_near_27 : decode cX6_near 27 = .ok (.invokevirtual 241, 3) := by decide +kernel
theorem dX6_near_30 : decode cX6_near 30 = .ok (.invokestatic 168, 3) := by decide +kernel
theorem dX6_near_33 : decode cX6_near 33 = .ok (.ireturn, 1) := by decide +kernel
def sX6_near_c33 (h : Hp) (t0 : Int32) : Option (Int32 × Hp) :=
  some (t0, h)
set_option maxRecDepth 10000 in
theorem vX6_near_c33 (h : Hp) (t0 : Int32) (q : (Int32 × Hp)) (e : sX6_near_c33 h t0 = some q) : V (Gs 3 (pI q)) mX6_near (0, 0) 33 [] [.int t0] h := by
  unfold sX6_near_c33 at e
  exact V.iret dX6_near_33 rfl (fnI e)
def sX6_near (h : Hp) (a1 : Int32) (a2 : Int32) : Option (Int32 × Hp) :=
  if a1 = 0 then ((sX6_low h a2).bind fun q3 => (sX6_pinchOf q3.2 a2).bind fun q4 => sX6_near_c33 q4.2 (imax q3.1 q4.1)) else ((sX6_high h a2).bind fun q1 => (sX6_pinchOf q1.2 a2).bind fun q2 => sX6_near_c33 q2.2 (imin q1.1 q2.1))
set_option maxRecDepth 10000 in
theorem kX6_near (h : Hp) (a1 : Int32) (a2 : Int32) (q : (Int32 × Hp)) (e : sX6_near h a1 a2 = some q) : K 3 mX6_near [.ref 54, .int a1, .int a2] h (pI q) := by
  unfold sX6_near at e
  refine K.ofV (by decide) rfl (Nat.le_of_ble_eq_true rfl) ?_
  show V (Gs 3 (pI q)) mX6_near (0, 0) 0 [(0, .ref 54), (1, .int a1), (2, .int a2)] [] h
  refine V.ilq dX6_near_0 (pc' := 1) rfl (j := 1) rfl ?_
  refine V.if_ne dX6_near_1 (pc' := 4) rfl (tgt := 20) (by decide) (fun c => ?_) (fun c => ?_)
  · rw [if_neg c] at e
    refine V.alq dX6_near_20 (pc' := 21) rfl (j := 0) rfl ?_
    refine V.ilq dX6_near_21 (pc' := 22) rfl (j := 2) rfl ?_
    obtain ⟨q1, eq1, e⟩ := bd_s e
    refine V.callVi dX6_near_22 (pc' := 25) rfl CV_X6_176 (as := [.int a2]) (kX6_high h a2 q1 eq1) (Gs_rm (by decide)) rfl (by decide) rfl (Nat.le_of_ble_eq_true rfl) rfl ?_
    refine V.alq dX6_near_25 (pc' := 26) rfl (j := 0) rfl ?_
    refine V.ilq dX6_near_26 (pc' := 27) rfl (j := 2) rfl ?_
    obtain ⟨q2, eq2, e⟩ := bd_s e
    refine V.callVi dX6_near_27 (pc' := 30) rfl CV_X6_241 (as := [.int a2]) (kX6_pinchOf q1.2 a2 q2 eq2) (Gs_rm (by decide)) rfl (by decide) rfl (Nat.le_of_ble_eq_true rfl) rfl ?_
    refine V.mmin dX6_near_30 (pc' := 33) rfl (Gs_rm (by decide)) ML_X6_168 MS_imin MI_Math MC_imin (Nat.le_of_ble_eq_true rfl) ?_
    refine V.pk [] rfl ?_
    exact vX6_near_c33 q2.2 (imin q1.1 q2.1) q e
  · rw [if_pos c] at e
    refine V.alq dX6_near_4 (pc' := 5) rfl (j := 0) rfl ?_
    refine V.ilq dX6_near_5 (pc' := 6) rfl (j := 2) rfl ?_
    obtain ⟨q3, eq3, e⟩ := bd_s e
    refine V.callVi dX6_near_6 (pc' := 9) rfl CV_X6_179 (as := [.int a2]) (kX6_low h a2 q3 eq3) (Gs_rm (by decide)) rfl (by decide) rfl (Nat.le_of_ble_eq_true rfl) rfl ?_
    refine V.alq dX6_near_9 (pc' := 10) rfl (j := 0) rfl ?_
    refine V.ilq dX6_near_10 (pc' := 11) rfl (j := 2) rfl ?_
    obtain ⟨q4, eq4, e⟩ := bd_s e
    refine V.callVi dX6_near_11 (pc' := 14) rfl CV_X6_241 (as := [.int a2]) (kX6_pinchOf q3.2 a2 q4 eq4) (Gs_rm (by decide)) rfl (by decide) rfl (Nat.le_of_ble_eq_true rfl) rfl ?_
    refine V.mmax dX6_near_14 (pc' := 17) rfl (Gs_rm (by decide)) ML_X6_173 MS_imax MI_Math MC_imax (Nat.le_of_ble_eq_true rfl) ?_
    refine V.goto dX6_near_17 (pc' := 33) (by decide) ?_
    refine V.pk [] rfl ?_
    exact vX6_near_c33 q4.2 (imax q3.1 q4.1) q e

-- X2_joinGreatest (level 4)
theorem dX2_joinGreatest_0 : decode cX2_joinGreatest 0 = .ok (.iconst 0, 1) := by decide +kernel
theorem dX2_joinGreatest_1 : decode cX2_joinGreatest 1 = .ok (.istore_n 1, 1) := by decide +kernel
theorem dX2_joinGreatest_2 : decode cX2_joinGreatest 2 = .ok (.iconst (-1), 1) := by decide +kernel
theorem dX2_joinGreatest_3 : decode cX2_joinGreatest 3 = .ok (.istore_n 2, 1) := by decide +kernel
theorem dX2_joinGreatest_4 : decode cX2_joinGreatest 4 = .ok (.iconst (-1), 1) := by decide +kernel
theorem dX2_joinGreatest_5 : decode cX2_joinGreatest 5 = .ok (.istore_n 3, 1) := by decide +kernel
theorem dX2_joinGreatest_6 : decode cX2_joinGreatest 6 = .ok (.iconst 0, 1) := by decide +kernel
theorem dX2_joinGreatest_7 : decode cX2_joinGreatest 7 = .ok (.istore 4, 2) := by decide +kernel
theorem dX2_joinGreatest_9 : decode cX2_joinGreatest 9 = .ok (.iload 4, 2) := by decide +kernel
theorem dX2_joinGreatest_11 : decode cX2_joinGreatest 11 = .ok (.aload_n 0, 1) := by decide +kernel
theorem dX2_joinGreatest_12 : decode cX2_joinGreatest 12 = .ok (.getfield 15, 3) := by decide +kernel
theorem dX2_joinGreatest_15 : decode cX2_joinGreatest 15 = .ok (.if_icmp .ge 76, 3) := by decide +kernel
theorem dX2_joinGreatest_18 : decode cX2_joinGreatest 18 = .ok (.iconst 0, 1) := by decide +kernel
theorem dX2_joinGreatest_19 : decode cX2_joinGreatest 19 = .ok (.istore 5, 2) := by decide +kernel
theorem dX2_joinGreatest_21 : decode cX2_joinGreatest 21 = .ok (.iload 5, 2) := by decide +kernel
theorem dX2_joinGreatest_23 : decode cX2_joinGreatest 23 = .ok (.aload_n 0, 1) := by decide +kernel
theorem dX2_joinGreatest_24 : decode cX2_joinGreatest 24 = .ok (.getfield 15, 3) := by decide +kernel
theorem dX2_joinGreatest_27 : decode cX2_joinGreatest 27 = .ok (.if_icmp .ge 58, 3) := by decide +kernel
theorem dX2_joinGreatest_30 : decode cX2_joinGreatest 30 = .ok (.aload_n 0, 1) := by decide +kernel
theorem dX2_joinGreatest_31 : decode cX2_joinGreatest 31 = .ok (.iload 4, 2) := by decide +kernel
theorem dX2_joinGreatest_33 : decode cX2_joinGreatest 33 = .ok (.iconst 1, 1) := by decide +kernel
theorem dX2_joinGreatest_34 : decode cX2_joinGreatest 34 = .ok (.invokevirtual 110, 3) := by decide +kernel
theorem dX2_joinGreatest_37 : decode cX2_joinGreatest 37 = .ok (.ifCond .eq 24, 3) := by decide +kernel
theorem dX2_joinGreatest_40 : decode cX2_joinGreatest 40 = .ok (.aload_n 0, 1) := by decide +kernel
theorem dX2_joinGreatest_41 : decode cX2_joinGreatest 41 = .ok (.iload 5, 2) := by decide +kernel
theorem dX2_joinGreatest_43 : decode cX2_joinGreatest 43 = .ok (.iconst 0, 1) := by decide +kernel
theorem dX2_joinGreatest_44 : decode cX2_joinGreatest 44 = .ok (.invokevirtual 110, 3) := by decide +kernel
theorem dX2_joinGreatest_47 : decode cX2_joinGreatest 47 = .ok (.ifCond .eq 14, 3) := by decide +kernel
theorem dX2_joinGreatest_50 : decode cX2_joinGreatest 50 = .ok (.aload_n 0, 1) := by decide +kernel
theorem dX2_joinGreatest_51 : decode cX2_joinGreatest 51 = .ok (.iload 4, 2) := by decide +kernel
theorem dX2_joinGreatest_53 : decode cX2_joinGreatest 53 = .ok (.iload 5, 2) := by decide +kernel
theorem dX2_joinGreatest_55 : decode cX2_joinGreatest 55 = .ok (.invokevirtual 114, 3) := by decide +kernel
theorem dX2_joinGreatest_58 : decode cX2_joinGreatest 58 = .ok (.goto 4, 3) := by decide +kernel
theorem dX2_joinGreatest_61 : decode cX2_joinGreatest 61 = .ok (.iconst 0, 1) := by decide +kernel
theorem dX2_joinGreatest_62 : decode cX2_joinGreatest 62 = .ok (.istore 6, 2) := by decide +kernel
theorem dX2_joinGreatest_64 : decode cX2_joinGreatest 64 = .ok (.iload 6, 2) := by decide +kernel
theorem dX2_joinGreatest_66 : decode cX2_joinGreatest 66 = .ok (.iload_n 1, 1) := by decide +kernel
theorem dX2_joinGreatest_67 : decode cX2_joinGreatest 67 = .ok (.if_icmp .le 12, 3) := by decide +kernel
theorem dX2_joinGreatest_70 : decode cX2_joinGreatest 70 = .ok (.iload 6, 2) := by decide +kernel
theorem dX2_joinGreatest_72 : decode cX2_joinGreatest 72 = .ok (.istore_n 1, 1) := by decide +kernel
theorem dX2_joinGreatest_73 : decode cX2_joinGreatest 73 = .ok (.iload 4, 2) := by decide +kernel
theorem dX2_joinGreatest_75 : decode cX2_joinGreatest 75 = .ok (.istore_n 2, 1) := by decide +kernel
theorem dX2_joinGreatest_76 : decode cX2_joinGreatest 76 = .ok (.iload 5, 2) := by decide +kernel
theorem dX2_joinGreatest_78 : decode cX2_joinGreatest 78 = .ok (.istore_n 3, 1) := by decide +kernel
theorem dX2_joinGreatest_79 : decode cX2_joinGreatest 79 = .ok (.iinc 5 1, 3) := by decide +kernel
theorem dX2_joinGreatest_82 : decode cX2_joinGreatest 82 = .ok (.goto (-61), 3) := by decide +kernel
theorem dX2_joinGreatest_85 : decode cX2_joinGreatest 85 = .ok (.iinc 4 1, 3) := by decide +kernel
theorem dX2_joinGreatest_88 : decode cX2_joinGreatest 88 = .ok (.goto (-79), 3) := by decide +kernel
theorem dX2_joinGreatest_91 : decode cX2_joinGreatest 91 = .ok (.iload_n 1, 1) := by decide +kernel
theorem dX2_joinGreatest_92 : decode cX2_joinGreatest 92 = .ok (.ifCond .ne 5, 3) := by decide +kernel
theorem dX2_joinGreatest_95 : decode cX2_joinGreatest 95 = .ok (.iconst 0, 1) := by decide +kernel
theorem dX2_joinGreatest_96 : decode cX2_joinGreatest 96 = .ok (.ireturn, 1) := by decide +kernel
theorem dX2_joinGreatest_97 : decode cX2_joinGreatest 97 = .ok (.aload_n 0, 1) := by decide +kernel
theorem dX2_joinGreatest_98 : decode cX2_joinGreatest 98 = .ok (.iload_n 2, 1) := by decide +kernel
theorem dX2_joinGreatest_99 : decode cX2_joinGreatest 99 = .ok (.iload_n 3, 1) := by decide +kernel
theorem dX2_joinGreatest_100 : decode cX2_joinGreatest 100 = .ok (.iload_n 1, 1) := by decide +kernel
theorem dX2_joinGreatest_101 : decode cX2_joinGreatest 101 = .ok (.invokevirtual 117, 3) := by decide +kernel
theorem dX2_joinGreatest_104 : decode cX2_joinGreatest 104 = .ok (.iconst 1, 1) := by decide +kernel
theorem dX2_joinGreatest_105 : decode cX2_joinGreatest 105 = .ok (.ireturn, 1) := by decide +kernel
def sX2_joinGreatest_c79 (k9 : Hp → Nat → Int32 → Int32 → Int32 → Int32 → Option (Int32 × Hp)) (k21 : Hp → Nat → Int32 → Int32 → Int32 → Int32 → Int32 → Option (Int32 × Hp)) (h : Hp) (r : Nat) (v1 : Int32) (v2 : Int32) (v3 : Int32) (v4 : Int32) (v5 : Int32) : Option (Int32 × Hp) :=
  nm (v5 + (1 : Int32)) fun x6 => k21 h r v1 v2 v3 v4 x6
set_option maxRecDepth 10000 in
theorem vX2_joinGreatest_c79 (k9 : Hp → Nat → Int32 → Int32 → Int32 → Int32 → Option (Int32 × Hp)) (hk9 : ∀ (h : Hp) (r : Nat) (v1 : Int32) (v2 : Int32) (v3 : Int32) (v4 : Int32) (hr : ck r = 2) (q : (Int32 × Hp)), k9 h r v1 v2 v3 v4 = some q → V (Gs 4 (pI q)) mX2_joinGreatest (0, 0) 9 [(0, .ref r), (1, .int v1), (2, .int v2), (3, .int v3), (4, .int v4)] [] h) (k21 : Hp → Nat → Int32 → Int32 → Int32 → Int32 → Int32 → Option (Int32 × Hp)) (hk21 : ∀ (h : Hp) (r : Nat) (v1 : Int32) (v2 : Int32) (v3 : Int32) (v4 : Int32) (v5 : Int32) (hr : ck r = 2) (q : (Int32 × Hp)), k21 h r v1 v2 v3 v4 v5 = some q → V (Gs 4 (pI q)) mX2_joinGreatest (0, 0) 21 [(0, .ref r), (1, .int v1), (2, .int v2), (3, .int v3), (4, .int v4), (5, .int v5)] [] h) (h : Hp) (r : Nat) (v1 : Int32) (v2 : Int32) (v3 : Int32) (v4 : Int32) (v5 : Int32) (hr : ck r = 2) (q : (Int32 × Hp)) (e : sX2_joinGreatest_c79 k9 k21 h r v1 v2 v3 v4 v5 = some q) : V (Gs 4 (pI q)) mX2_joinGreatest (0, 0) 79 [(0, .ref r), (1, .int v1), (2, .int v2), (3, .int v3), (4, .int v4), (5, .int v5)] [] h := by
  unfold sX2_joinGreatest_c79 at e
  obtain ⟨x6, ex6, e⟩ := nm_s e
  refine V.iinc dX2_joinGreatest_79 (pc' := 82) rfl (j := 5) rfl (v := 1) (by decide) (by decide) ex6 (L' := [(5, .int x6), (0, .ref r), (1, .int v1), (2, .int v2), (3, .int v3), (4, .int v4)]) rfl ?_
  refine V.goto dX2_joinGreatest_82 (pc' := 21) (by decide) ?_
  refine V.pk [1, 2, 3, 4, 5, 0] rfl ?_
  exact hk21 h r v1 v2 v3 v4 x6 hr q e
def sX2_joinGreatest_c62 (k9 : Hp → Nat → Int32 → Int32 → Int32 → Int32 → Option (Int32 × Hp)) (k21 : Hp → Nat → Int32 → Int32 → Int32 → Int32 → Int32 → Option (Int32 × Hp)) (h : Hp) (r : Nat) (v1 : Int32) (v2 : Int32) (v3 : Int32) (v4 : Int32) (v5 : Int32) (t0 : Int32) : Option (Int32 × Hp) :=
  if t0 ≤ v1 then (sX2_joinGreatest_c79 k9 k21 h r v1 v2 v3 v4 v5) else (sX2_joinGreatest_c79 k9 k21 h r t0 v4 v5 v4 v5)
set_option maxRecDepth 10000 in
theorem vX2_joinGreatest_c62 (k9 : Hp → Nat → Int32 → Int32 → Int32 → Int32 → Option (Int32 × Hp)) (hk9 : ∀ (h : Hp) (r : Nat) (v1 : Int32) (v2 : Int32) (v3 : Int32) (v4 : Int32) (hr : ck r = 2) (q : (Int32 × Hp)), k9 h r v1 v2 v3 v4 = some q → V (Gs 4 (pI q)) mX2_joinGreatest (0, 0) 9 [(0, .ref r), (1, .int v1), (2, .int v2), (3, .int v3), (4, .int v4)] [] h) (k21 : Hp → Nat → Int32 → Int32 → Int32 → Int32 → Int32 → Option (Int32 × Hp)) (hk21 : ∀ (h : Hp) (r : Nat) (v1 : Int32) (v2 : Int32) (v3 : Int32) (v4 : Int32) (v5 : Int32) (hr : ck r = 2) (q : (Int32 × Hp)), k21 h r v1 v2 v3 v4 v5 = some q → V (Gs 4 (pI q)) mX2_joinGreatest (0, 0) 21 [(0, .ref r), (1, .int v1), (2, .int v2), (3, .int v3), (4, .int v4), (5, .int v5)] [] h) (h : Hp) (r : Nat) (v1 : Int32) (v2 : Int32) (v3 : Int32) (v4 : Int32) (v5 : Int32) (t0 : Int32) (hr : ck r = 2) (q : (Int32 × Hp)) (e : sX2_joinGreatest_c62 k9 k21 h r v1 v2 v3 v4 v5 t0 = some q) : V (Gs 4 (pI q)) mX2_joinGreatest (0, 0) 62 [(0, .ref r), (1, .int v1), (2, .int v2), (3, .int v3), (4, .int v4), (5, .int v5)] [.int t0] h := by
  unfold sX2_joinGreatest_c62 at e
  refine V.is dX2_joinGreatest_62 (pc' := 64) rfl (by decide) rfl (L' := [(6, .int t0), (0, .ref r), (1, .int v1), (2, .int v2), (3, .int v3), (4, .int v4), (5, .int v5)]) rfl ?_
  refine V.il dX2_joinGreatest_64 (pc' := 66) rfl (j := 0) rfl ?_
  refine V.ilq dX2_joinGreatest_66 (pc' := 67) rfl (j := 2) rfl ?_
  refine V.ic_le dX2_joinGreatest_67 (pc' := 70) rfl (tgt := 79) (by decide) (fun c => ?_) (fun c => ?_)
  · rw [if_pos c] at e
    refine V.pk [1, 2, 3, 4, 5, 6] rfl ?_
    exact vX2_joinGreatest_c79 k9 hk9 k21 hk21 h r v1 v2 v3 v4 v5 hr q e
  · rw [if_neg c] at e
    refine V.il dX2_joinGreatest_70 (pc' := 72) rfl (j := 0) rfl ?_
    refine V.isq dX2_joinGreatest_72 (pc' := 73) rfl (by decide) rfl (L' := [(1, .int t0), (6, .int t0), (0, .ref r), (2, .int v2), (3, .int v3), (4, .int v4), (5, .int v5)]) rfl ?_
    refine V.il dX2_joinGreatest_73 (pc' := 75) rfl (j := 5) rfl ?_
    refine V.isq dX2_joinGreatest_75 (pc' := 76) rfl (by decide) rfl (L' := [(2, .int v4), (1, .int t0), (6, .int t0), (0, .ref r), (3, .int v3), (4, .int v4), (5, .int v5)]) rfl ?_
    refine V.il dX2_joinGreatest_76 (pc' := 78) rfl (j := 6) rfl ?_
    refine V.isq dX2_joinGreatest_78 (pc' := 79) rfl (by decide) rfl (L' := [(3, .int v5), (2, .int v4), (1, .int t0), (6, .int t0), (0, .ref r), (4, .int v4), (5, .int v5)]) rfl ?_
    refine V.pk [4, 2, 1, 0, 5, 6] rfl ?_
    exact vX2_joinGreatest_c79 k9 hk9 k21 hk21 h r t0 v4 v5 v4 v5 hr q e
def sX2_joinGreatest_c61 (k9 : Hp → Nat → Int32 → Int32 → Int32 → Int32 → Option (Int32 × Hp)) (k21 : Hp → Nat → Int32 → Int32 → Int32 → Int32 → Int32 → Option (Int32 × Hp)) (h : Hp) (r : Nat) (v1 : Int32) (v2 : Int32) (v3 : Int32) (v4 : Int32) (v5 : Int32) : Option (Int32 × Hp) :=
  sX2_joinGreatest_c62 k9 k21 h r v1 v2 v3 v4 v5 (0 : Int32)
set_option maxRecDepth 10000 in
theorem vX2_joinGreatest_c61 (k9 : Hp → Nat → Int32 → Int32 → Int32 → Int32 → Option (Int32 × Hp)) (hk9 : ∀ (h : Hp) (r : Nat) (v1 : Int32) (v2 : Int32) (v3 : Int32) (v4 : Int32) (hr : ck r = 2) (q : (Int32 × Hp)), k9 h r v1 v2 v3 v4 = some q → V (Gs 4 (pI q)) mX2_joinGreatest (0, 0) 9 [(0, .ref r), (1, .int v1), (2, .int v2), (3, .int v3), (4, .int v4)] [] h) (k21 : Hp → Nat → Int32 → Int32 → Int32 → Int32 → Int32 → Option (Int32 × Hp)) (hk21 : ∀ (h : Hp) (r : Nat) (v1 : Int32) (v2 : Int32) (v3 : Int32) (v4 : Int32) (v5 : Int32) (hr : ck r = 2) (q : (Int32 × Hp)), k21 h r v1 v2 v3 v4 v5 = some q → V (Gs 4 (pI q)) mX2_joinGreatest (0, 0) 21 [(0, .ref r), (1, .int v1), (2, .int v2), (3, .int v3), (4, .int v4), (5, .int v5)] [] h) (h : Hp) (r : Nat) (v1 : Int32) (v2 : Int32) (v3 : Int32) (v4 : Int32) (v5 : Int32) (hr : ck r = 2) (q : (Int32 × Hp)) (e : sX2_joinGreatest_c61 k9 k21 h r v1 v2 v3 v4 v5 = some q) : V (Gs 4 (pI q)) mX2_joinGreatest (0, 0) 61 [(0, .ref r), (1, .int v1), (2, .int v2), (3, .int v3), (4, .int v4), (5, .int v5)] [] h := by
  unfold sX2_joinGreatest_c61 at e
  refine V.iconst dX2_joinGreatest_61 (pc' := 62) rfl (v := 0) (by decide) ?_
  exact vX2_joinGreatest_c62 k9 hk9 k21 hk21 h r v1 v2 v3 v4 v5 (0 : Int32) hr q e
def sX2_joinGreatest_c21 (k9 : Hp → Nat → Int32 → Int32 → Int32 → Int32 → Option (Int32 × Hp)) (k21 : Hp → Nat → Int32 → Int32 → Int32 → Int32 → Int32 → Option (Int32 × Hp)) (h : Hp) (r : Nat) (v1 : Int32) (v2 : Int32) (v3 : Int32) (v4 : Int32) (v5 : Int32) : Option (Int32 × Hp) :=
  if (h.1 r 2) ≤ v5 then (nm (v4 + (1 : Int32)) fun x2 => k9 h r v1 v2 v3 x2) else ((sX2_hasHeat h r v4 (1 : Int32)).bind fun q3 => if q3.1 = 0 then (sX2_joinGreatest_c61 k9 k21 q3.2 r v1 v2 v3 v4 v5) else ((sX2_hasHeat q3.2 r v5 (0 : Int32)).bind fun q4 => if q4.1 = 0 then (sX2_joinGreatest_c61 k9 k21 q4.2 r v1 v2 v3 v4 v5) else ((sX2_greatestLoad q4.2 r v4 v5).bind fun q5 => sX2_joinGreatest_c62 k9 k21 q5.2 r v1 v2 v3 v4 v5 q5.1)))
set_option maxRecDepth 10000 in
theorem vX2_joinGreatest_c21 (k9 : Hp → Nat → Int32 → Int32 → Int32 → Int32 → Option (Int32 × Hp)) (hk9 : ∀ (h : Hp) (r : Nat) (v1 : Int32) (v2 : Int32) (v3 : Int32) (v4 : Int32) (hr : ck r = 2) (q : (Int32 × Hp)), k9 h r v1 v2 v3 v4 = some q → V (Gs 4 (pI q)) mX2_joinGreatest (0, 0) 9 [(0, .ref r), (1, .int v1), (2, .int v2), (3, .int v3), (4, .int v4)] [] h) (k21 : Hp → Nat → Int32 → Int32 → Int32 → Int32 → Int32 → Option (Int32 × Hp)) (hk21 : ∀ (h : Hp) (r : Nat) (v1 : Int32) (v2 : Int32) (v3 : Int32) (v4 : Int32) (v5 : Int32) (hr : ck r = 2) (q : (Int32 × Hp)), k21 h r v1 v2 v3 v4 v5 = some q → V (Gs 4 (pI q)) mX2_joinGreatest (0, 0) 21 [(0, .ref r), (1, .int v1), (2, .int v2), (3, .int v3), (4, .int v4), (5, .int v5)] [] h) (h : Hp) (r : Nat) (v1 : Int32) (v2 : Int32) (v3 : Int32) (v4 : Int32) (v5 : Int32) (hr : ck r = 2) (q : (Int32 × Hp)) (e : sX2_joinGreatest_c21 k9 k21 h r v1 v2 v3 v4 v5 = some q) : V (Gs 4 (pI q)) mX2_joinGreatest (0, 0) 21 [(0, .ref r), (1, .int v1), (2, .int v2), (3, .int v3), (4, .int v4), (5, .int v5)] [] h := by
  unfold sX2_joinGreatest_c21 at e
  refine V.il dX2_joinGreatest_21 (pc' := 23) rfl (j := 5) rfl ?_
  refine V.alq dX2_joinGreatest_23 (pc' := 24) rfl (j := 0) rfl ?_
  refine V.getf dX2_joinGreatest_24 (pc' := 27) rfl FL_X2_15 hr (by decide) rfl ?_
  refine V.ic_ge dX2_joinGreatest_27 (pc' := 30) rfl (tgt := 85) (by decide) (fun c => ?_) (fun c => ?_)
  · rw [if_pos c] at e
    obtain ⟨x2, ex2, e⟩ := nm_s e
    refine V.iinc dX2_joinGreatest_85 (pc' := 88) rfl (j := 4) rfl (v := 1) (by decide) (by decide) ex2 (L' := [(4, .int x2), (0, .ref r), (1, .int v1), (2, .int v2), (3, .int v3), (5, .int v5)]) rfl ?_
    refine V.goto dX2_joinGreatest_88 (pc' := 9) (by decide) ?_
    refine V.pk [1, 2, 3, 4, 0] rfl ?_
    exact hk9 h r v1 v2 v3 x2 hr q e
  · rw [if_neg c] at e
    refine V.alq dX2_joinGreatest_30 (pc' := 31) rfl (j := 0) rfl ?_
    refine V.il dX2_joinGreatest_31 (pc' := 33) rfl (j := 4) rfl ?_
    refine V.iconst dX2_joinGreatest_33 (pc' := 34) rfl (v := 1) (by decide) ?_
    obtain ⟨q3, eq3, e⟩ := bd_s e
    refine V.callVi dX2_joinGreatest_34 (pc' := 37) rfl CV_X2_110 (as := [.int v4, .int (1 : Int32)]) (kX2_hasHeat h r v4 (1 : Int32) q3 eq3) (Gs_rm (by decide)) hr (by decide) rfl (Nat.le_of_ble_eq_true rfl) rfl ?_
    refine V.if_eq dX2_joinGreatest_37 (pc' := 40) rfl (tgt := 61) (by decide) (fun c => ?_) (fun c => ?_)
    · rw [if_pos c] at e
      exact vX2_joinGreatest_c61 k9 hk9 k21 hk21 q3.2 r v1 v2 v3 v4 v5 hr q e
    · rw [if_neg c] at e
      refine V.alq dX2_joinGreatest_40 (pc' := 41) rfl (j := 0) rfl ?_
      refine V.il dX2_joinGreatest_41 (pc' := 43) rfl (j := 5) rfl ?_
      refine V.iconst dX2_joinGreatest_43 (pc' := 44) rfl (v := 0) (by decide) ?_
      obtain ⟨q4, eq4, e⟩ := bd_s e
      refine V.callVi dX2_joinGreatest_44 (pc' := 47) rfl CV_X2_110 (as := [.int v5, .int (0 : Int32)]) (kX2_hasHeat q3.2 r v5 (0 : Int32) q4 eq4) (Gs_rm (by decide)) hr (by decide) rfl (Nat.le_of_ble_eq_true rfl) rfl ?_
      refine V.if_eq dX2_joinGreatest_47 (pc' := 50) rfl (tgt := 61) (by decide) (fun c => ?_) (fun c => ?_)
      · rw [if_pos c] at e
        exact vX2_joinGreatest_c61 k9 hk9 k21 hk21 q4.2 r v1 v2 v3 v4 v5 hr q e
      · rw [if_neg c] at e
        refine V.alq dX2_joinGreatest_50 (pc' := 51) rfl (j := 0) rfl ?_
        refine V.il dX2_joinGreatest_51 (pc' := 53) rfl (j := 4) rfl ?_
        refine V.il dX2_joinGreatest_53 (pc' := 55) rfl (j := 5) rfl ?_
        obtain ⟨q5, eq5, e⟩ := bd_s e
        refine V.callVi dX2_joinGreatest_55 (pc' := 58) rfl CV_X2_114 (as := [.int v4, .int v5]) (kX2_greatestLoad q4.2 r v4 v5 q5 eq5) (Gs_rm (by decide)) hr (by decide) rfl (Nat.le_of_ble_eq_true rfl) rfl ?_
        refine V.goto dX2_joinGreatest_58 (pc' := 62) (by decide) ?_
        exact vX2_joinGreatest_c62 k9 hk9 k21 hk21 q5.2 r v1 v2 v3 v4 v5 q5.1 hr q e
def sX2_joinGreatest_b21 (k9 : Hp → Nat → Int32 → Int32 → Int32 → Int32 → Option (Int32 × Hp)) : Nat → Hp → Nat → Int32 → Int32 → Int32 → Int32 → Int32 → Option (Int32 × Hp)
  | 0 => fun _ _ _ _ _ _ _ => none
  | n + 1 => sX2_joinGreatest_c21 k9 (sX2_joinGreatest_b21 k9 n)
theorem vX2_joinGreatest_b21 (k9 : Hp → Nat → Int32 → Int32 → Int32 → Int32 → Option (Int32 × Hp)) (hk9 : ∀ (h : Hp) (r : Nat) (v1 : Int32) (v2 : Int32) (v3 : Int32) (v4 : Int32) (hr : ck r = 2) (q : (Int32 × Hp)), k9 h r v1 v2 v3 v4 = some q → V (Gs 4 (pI q)) mX2_joinGreatest (0, 0) 9 [(0, .ref r), (1, .int v1), (2, .int v2), (3, .int v3), (4, .int v4)] [] h) : ∀ (n : Nat) (h : Hp) (r : Nat) (v1 : Int32) (v2 : Int32) (v3 : Int32) (v4 : Int32) (v5 : Int32) (hr : ck r = 2) (q : (Int32 × Hp)), sX2_joinGreatest_b21 k9 n h r v1 v2 v3 v4 v5 = some q → V (Gs 4 (pI q)) mX2_joinGreatest (0, 0) 21 [(0, .ref r), (1, .int v1), (2, .int v2), (3, .int v3), (4, .int v4), (5, .int v5)] [] h
  | 0 => fun _ _ _ _ _ _ _ _ _ e => by cases e
  | n + 1 => fun h r v1 v2 v3 v4 v5 hr q e => vX2_joinGreatest_c21 k9 hk9 (sX2_joinGreatest_b21 k9 n) (vX2_joinGreatest_b21 k9 hk9 n) h r v1 v2 v3 v4 v5 hr q e
def sX2_joinGreatest_c9 (k9 : Hp → Nat → Int32 → Int32 → Int32 → Int32 → Option (Int32 × Hp)) (h : Hp) (r : Nat) (v1 : Int32) (v2 : Int32) (v3 : Int32) (v4 : Int32) : Option (Int32 × Hp) :=
  if (h.1 r 2) ≤ v4 then (if v1 = 0 then (some ((0 : Int32), h)) else ((sX2_add h r v2 v3 v1).bind fun q1 => some ((1 : Int32), q1))) else (sX2_joinGreatest_b21 k9 FU h r v1 v2 v3 v4 (0 : Int32))
set_option maxRecDepth 10000 in
theorem vX2_joinGreatest_c9 (k9 : Hp → Nat → Int32 → Int32 → Int32 → Int32 → Option (Int32 × Hp)) (hk9 : ∀ (h : Hp) (r : Nat) (v1 : Int32) (v2 : Int32) (v3 : Int32) (v4 : Int32) (hr : ck r = 2) (q : (Int32 × Hp)), k9 h r v1 v2 v3 v4 = some q → V (Gs 4 (pI q)) mX2_joinGreatest (0, 0) 9 [(0, .ref r), (1, .int v1), (2, .int v2), (3, .int v3), (4, .int v4)] [] h) (h : Hp) (r : Nat) (v1 : Int32) (v2 : Int32) (v3 : Int32) (v4 : Int32) (hr : ck r = 2) (q : (Int32 × Hp)) (e : sX2_joinGreatest_c9 k9 h r v1 v2 v3 v4 = some q) : V (Gs 4 (pI q)) mX2_joinGreatest (0, 0) 9 [(0, .ref r), (1, .int v1), (2, .int v2), (3, .int v3), (4, .int v4)] [] h := by
  unfold sX2_joinGreatest_c9 at e
  refine V.il dX2_joinGreatest_9 (pc' := 11) rfl (j := 4) rfl ?_
  refine V.alq dX2_joinGreatest_11 (pc' := 12) rfl (j := 0) rfl ?_
  refine V.getf dX2_joinGreatest_12 (pc' := 15) rfl FL_X2_15 hr (by decide) rfl ?_
  refine V.ic_ge dX2_joinGreatest_15 (pc' := 18) rfl (tgt := 91) (by decide) (fun c => ?_) (fun c => ?_)
  · rw [if_pos c] at e
    refine V.ilq dX2_joinGreatest_91 (pc' := 92) rfl (j := 1) rfl ?_
    refine V.if_ne dX2_joinGreatest_92 (pc' := 95) rfl (tgt := 97) (by decide) (fun c => ?_) (fun c => ?_)
    · rw [if_neg c] at e
      refine V.alq dX2_joinGreatest_97 (pc' := 98) rfl (j := 0) rfl ?_
      refine V.ilq dX2_joinGreatest_98 (pc' := 99) rfl (j := 2) rfl ?_
      refine V.ilq dX2_joinGreatest_99 (pc' := 100) rfl (j := 3) rfl ?_
      refine V.ilq dX2_joinGreatest_100 (pc' := 101) rfl (j := 1) rfl ?_
      obtain ⟨q1, eq1, e⟩ := bd_s e
      refine V.callVv dX2_joinGreatest_101 (pc' := 104) rfl CV_X2_117 (as := [.int v2, .int v3, .int v1]) (kX2_add h r v2 v3 v1 q1 eq1) (Gs_rm (by decide)) hr (by decide) rfl (Nat.le_of_ble_eq_true rfl) rfl ?_
      refine V.iconst dX2_joinGreatest_104 (pc' := 105) rfl (v := 1) (by decide) ?_
      exact V.zret dX2_joinGreatest_105 rfl (Or.inr rfl) (fnI e)
    · rw [if_pos c] at e
      refine V.iconst dX2_joinGreatest_95 (pc' := 96) rfl (v := 0) (by decide) ?_
      exact V.zret dX2_joinGreatest_96 rfl (Or.inl rfl) (fnI e)
  · rw [if_neg c] at e
    refine V.iconst dX2_joinGreatest_18 (pc' := 19) rfl (v := 0) (by decide) ?_
    refine V.is dX2_joinGreatest_19 (pc' := 21) rfl (by decide) rfl (L' := [(5, .int (0 : Int32)), (0, .ref r), (1, .int v1), (2, .int v2), (3, .int v3), (4, .int v4)]) rfl ?_
    refine V.pk [1, 2, 3, 4, 5, 0] rfl ?_
    exact vX2_joinGreatest_b21 k9 hk9 FU h r v1 v2 v3 v4 (0 : Int32) hr q e
def sX2_joinGreatest_b9 : Nat → Hp → Nat → Int32 → Int32 → Int32 → Int32 → Option (Int32 × Hp)
  | 0 => fun _ _ _ _ _ _ => none
  | n + 1 => sX2_joinGreatest_c9 (sX2_joinGreatest_b9 n)
theorem vX2_joinGreatest_b9 : ∀ (n : Nat) (h : Hp) (r : Nat) (v1 : Int32) (v2 : Int32) (v3 : Int32) (v4 : Int32) (hr : ck r = 2) (q : (Int32 × Hp)), sX2_joinGreatest_b9 n h r v1 v2 v3 v4 = some q → V (Gs 4 (pI q)) mX2_joinGreatest (0, 0) 9 [(0, .ref r), (1, .int v1), (2, .int v2), (3, .int v3), (4, .int v4)] [] h
  | 0 => fun _ _ _ _ _ _ _ _ e => by cases e
  | n + 1 => fun h r v1 v2 v3 v4 hr q e => vX2_joinGreatest_c9 (sX2_joinGreatest_b9 n) (vX2_joinGreatest_b9 n) h r v1 v2 v3 v4 hr q e
def sX2_joinGreatest (h : Hp) (r : Nat) : Option (Int32 × Hp) :=
  gd (isC r 2) (sX2_joinGreatest_b9 FU h r (0 : Int32) (-1 : Int32) (-1 : Int32) (0 : Int32))
set_option maxRecDepth 10000 in
theorem kX2_joinGreatest (h : Hp) (r : Nat) (q : (Int32 × Hp)) (e : sX2_joinGreatest h r = some q) : K 4 mX2_joinGreatest [.ref r] h (pI q) := by
  unfold sX2_joinGreatest at e
  obtain ⟨hr, e⟩ := gd_s e
  have hr := isC_t hr
  refine K.ofV (by decide) rfl (Nat.le_of_ble_eq_true rfl) ?_
  show V (Gs 4 (pI q)) mX2_joinGreatest (0, 0) 0 [(0, .ref r)] [] h
  refine V.iconst dX2_joinGreatest_0 (pc' := 1) rfl (v := 0) (by decide) ?_
  refine V.isq dX2_joinGreatest_1 (pc' := 2) rfl (by decide) rfl (L' := [(1, .int (0 : Int32)), (0, .ref r)]) rfl ?_
  refine V.iconst dX2_joinGreatest_2 (pc' := 3) rfl (v := -1) (by decide) ?_
  refine V.isq dX2_joinGreatest_3 (pc' := 4) rfl (by decide) rfl (L' := [(2, .int (-1 : Int32)), (1, .int (0 : Int32)), (0, .ref r)]) rfl ?_
  refine V.iconst dX2_joinGreatest_4 (pc' := 5) rfl (v := -1) (by decide) ?_
  refine V.isq dX2_joinGreatest_5 (pc' := 6) rfl (by decide) rfl (L' := [(3, .int (-1 : Int32)), (2, .int (-1 : Int32)), (1, .int (0 : Int32)), (0, .ref r)]) rfl ?_
  refine V.iconst dX2_joinGreatest_6 (pc' := 7) rfl (v := 0) (by decide) ?_
  refine V.is dX2_joinGreatest_7 (pc' := 9) rfl (by decide) rfl (L' := [(4, .int (0 : Int32)), (3, .int (-1 : Int32)), (2, .int (-1 : Int32)), (1, .int (0 : Int32)), (0, .ref r)]) rfl ?_
  refine V.pk [4, 3, 2, 1, 0] rfl ?_
  exact vX2_joinGreatest_b9 FU h r (0 : Int32) (-1 : Int32) (-1 : Int32) (0 : Int32) hr q e
