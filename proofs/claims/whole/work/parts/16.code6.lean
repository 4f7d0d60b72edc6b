-- X2_firstTooNarrow (level 4)
theorem dX2_firstTooNarrow_0 : decode cX2_firstTooNarrow 0 = .ok (.iconst 0, 1) := by decide +kernel
theorem dX2_firstTooNarrow_1 : decode cX2_firstTooNarrow 1 = .ok (.istore_n 1, 1) := by decide +kernel
theorem dX2_firstTooNarrow_2 : decode cX2_firstTooNarrow 2 = .ok (.iconst 0, 1) := by decide +kernel
theorem dX2_firstTooNarrow_3 : decode cX2_firstTooNarrow 3 = .ok (.istore_n 2, 1) := by decide +kernel
theorem dX2_firstTooNarrow_4 : decode cX2_firstTooNarrow 4 = .ok (.iload_n 2, 1) := by decide +kernel
theorem dX2_firstTooNarrow_5 : decode cX2_firstTooNarrow 5 = .ok (.aload_n 0, 1) := by decide +kernel
theorem dX2_firstTooNarrow_6 : decode cX2_firstTooNarrow 6 = .ok (.getfield 53, 3) := by decide +kernel
theorem dX2_firstTooNarrow_9 : decode cX2_firstTooNarrow 9 = .ok (.if_icmp .ge 108, 3) := by decide +kernel
theorem dX2_firstTooNarrow_12 : decode cX2_firstTooNarrow 12 = .ok (.aload_n 0, 1) := by decide +kernel
theorem dX2_firstTooNarrow_13 : decode cX2_firstTooNarrow 13 = .ok (.getfield 50, 3) := by decide +kernel
theorem dX2_firstTooNarrow_16 : decode cX2_firstTooNarrow 16 = .ok (.iload_n 2, 1) := by decide +kernel
theorem dX2_firstTooNarrow_17 : decode cX2_firstTooNarrow 17 = .ok (.iaload, 1) := by decide +kernel
theorem dX2_firstTooNarrow_18 : decode cX2_firstTooNarrow 18 = .ok (.ifCond .ne 6, 3) := by decide +kernel
theorem dX2_firstTooNarrow_21 : decode cX2_firstTooNarrow 21 = .ok (.goto 90, 3) := by decide +kernel
theorem dX2_firstTooNarrow_24 : decode cX2_firstTooNarrow 24 = .ok (.aload_n 0, 1) := by decide +kernel
theorem dX2_firstTooNarrow_25 : decode cX2_firstTooNarrow 25 = .ok (.getfield 41, 3) := by decide +kernel
theorem dX2_firstTooNarrow_28 : decode cX2_firstTooNarrow 28 = .ok (.iload_n 2, 1) := by decide +kernel
theorem dX2_firstTooNarrow_29 : decode cX2_firstTooNarrow 29 = .ok (.iaload, 1) := by decide +kernel
theorem dX2_firstTooNarrow_30 : decode cX2_firstTooNarrow 30 = .ok (.istore_n 3, 1) := by decide +kernel
theorem dX2_firstTooNarrow_31 : decode cX2_firstTooNarrow 31 = .ok (.aload_n 0, 1) := by decide +kernel
theorem dX2_firstTooNarrow_32 : decode cX2_firstTooNarrow 32 = .ok (.getfield 44, 3) := by decide +kernel
theorem dX2_firstTooNarrow_35 : decode cX2_firstTooNarrow 35 = .ok (.iload_n 2, 1) := by decide +kernel
theorem dX2_firstTooNarrow_36 : decode cX2_firstTooNarrow 36 = .ok (.iaload, 1) := by decide +kernel
theorem dX2_firstTooNarrow_37 : decode cX2_firstTooNarrow 37 = .ok (.istore 4, 2) := by decide +kernel
theorem dX2_firstTooNarrow_39 : decode cX2_firstTooNarrow 39 = .ok (.aload_n 0, 1) := by decide +kernel
theorem dX2_firstTooNarrow_40 : decode cX2_firstTooNarrow 40 = .ok (.aload_n 0, 1) := by decide +kernel
theorem dX2_firstTooNarrow_41 : decode cX2_firstTooNarrow 41 = .ok (.getfield 50, 3) := by decide +kernel
theorem dX2_firstTooNarrow_44 : decode cX2_firstTooNarrow 44 = .ok (.iload_n 2, 1) := by decide +kernel
theorem dX2_firstTooNarrow_45 : decode cX2_firstTooNarrow 45 = .ok (.iload_n 3, 1) := by decide +kernel
theorem dX2_firstTooNarrow_46 : decode cX2_firstTooNarrow 46 = .ok (.invokevirtual 121, 3) := by decide +kernel
theorem dX2_firstTooNarrow_49 : decode cX2_firstTooNarrow 49 = .ok (.istore 5, 2) := by decide +kernel
theorem dX2_firstTooNarrow_51 : decode cX2_firstTooNarrow 51 = .ok (.aload_n 0, 1) := by decide +kernel
theorem dX2_firstTooNarrow_52 : decode cX2_firstTooNarrow 52 = .ok (.aload_n 0, 1) := by decide +kernel
theorem dX2_firstTooNarrow_53 : decode cX2_firstTooNarrow 53 = .ok (.getfield 50, 3) := by decide +kernel
theorem dX2_firstTooNarrow_56 : decode cX2_firstTooNarrow 56 = .ok (.iload_n 2, 1) := by decide +kernel
theorem dX2_firstTooNarrow_57 : decode cX2_firstTooNarrow 57 = .ok (.iload 4, 2) := by decide +kernel
theorem dX2_firstTooNarrow_59 : decode cX2_firstTooNarrow 59 = .ok (.invokevirtual 121, 3) := by decide +kernel
theorem dX2_firstTooNarrow_62 : decode cX2_firstTooNarrow 62 = .ok (.istore 6, 2) := by decide +kernel
theorem dX2_firstTooNarrow_64 : decode cX2_firstTooNarrow 64 = .ok (.aload_n 0, 1) := by decide +kernel
theorem dX2_firstTooNarrow_65 : decode cX2_firstTooNarrow 65 = .ok (.iload_n 3, 1) := by decide +kernel
theorem dX2_firstTooNarrow_66 : decode cX2_firstTooNarrow 66 = .ok (.iload 4, 2) := by decide +kernel
theorem dX2_firstTooNarrow_68 : decode cX2_firstTooNarrow 68 = .ok (.iload 5, 2) := by decide +kernel
theorem dX2_firstTooNarrow_70 : decode cX2_firstTooNarrow 70 = .ok (.iload 6, 2) := by decide +kernel
theorem dX2_firstTooNarrow_72 : decode cX2_firstTooNarrow 72 = .ok (.invokevirtual 129, 3) := by decide +kernel
theorem dX2_firstTooNarrow_75 : decode cX2_firstTooNarrow 75 = .ok (.ifCond .eq 31, 3) := by decide +kernel
theorem dX2_firstTooNarrow_78 : decode cX2_firstTooNarrow 78 = .ok (.aload_n 0, 1) := by decide +kernel
theorem dX2_firstTooNarrow_79 : decode cX2_firstTooNarrow 79 = .ok (.iload_n 3, 1) := by decide +kernel
theorem dX2_firstTooNarrow_80 : decode cX2_firstTooNarrow 80 = .ok (.iload 4, 2) := by decide +kernel
theorem dX2_firstTooNarrow_82 : decode cX2_firstTooNarrow 82 = .ok (.iload 5, 2) := by decide +kernel
theorem dX2_firstTooNarrow_84 : decode cX2_firstTooNarrow 84 = .ok (.aload_n 0, 1) := by decide +kernel
theorem dX2_firstTooNarrow_85 : decode cX2_firstTooNarrow 85 = .ok (.getfield 50, 3) := by decide +kernel
theorem dX2_firstTooNarrow_88 : decode cX2_firstTooNarrow 88 = .ok (.iload_n 2, 1) := by decide +kernel
theorem dX2_firstTooNarrow_89 : decode cX2_firstTooNarrow 89 = .ok (.iaload, 1) := by decide +kernel
theorem dX2_firstTooNarrow_90 : decode cX2_firstTooNarrow 90 = .ok (.iadd, 1) := by decide +kernel
theorem dX2_firstTooNarrow_91 : decode cX2_firstTooNarrow 91 = .ok (.iload 6, 2) := by decide +kernel
theorem dX2_firstTooNarrow_93 : decode cX2_firstTooNarrow 93 = .ok (.aload_n 0, 1) := by decide +kernel
theorem dX2_firstTooNarrow_94 : decode cX2_firstTooNarrow 94 = .ok (.getfield 50, 3) := by decide +kernel
theorem dX2_firstTooNarrow_97 : decode cX2_firstTooNarrow 97 = .ok (.iload_n 2, 1) := by decide +kernel
theorem dX2_firstTooNarrow_98 : decode cX2_firstTooNarrow 98 = .ok (.iaload, 1) := by decide +kernel
theorem dX2_firstTooNarrow_99 : decode cX2_firstTooNarrow 99 = .ok (.iadd, 1) := by decide +kernel
theorem dX2_firstTooNarrow_100 : decode cX2_firstTooNarrow 100 = .ok (.invokevirtual 129, 3) := by decide +kernel
theorem dX2_firstTooNarrow_103 : decode cX2_firstTooNarrow 103 = .ok (.ifCond .ne 5, 3) := by decide +kernel
theorem dX2_firstTooNarrow_106 : decode cX2_firstTooNarrow 106 = .ok (.iload_n 1, 1) := by decide +kernel
theorem dX2_firstTooNarrow_107 : decode cX2_firstTooNarrow 107 = .ok (.ireturn, 1) := by decide +kernel
theorem dX2_firstTooNarrow_108 : decode cX2_firstTooNarrow 108 = .ok (.iinc 1 1, 3) := by decide +kernel
theorem dX2_firstTooNarrow_111 : decode cX2_firstTooNarrow 111 = .ok (.iinc 2 1, 3) := by decide +kernel
theorem dX2_firstTooNarrow_114 : decode cX2_firstTooNarrow 114 = .ok (.goto (-110), 3) := by decide +kernel
theorem dX2_firstTooNarrow_117 : decode cX2_firstTooNarrow 117 = .ok (.iconst (-1), 1) := by decide +kernel
theorem dX2_firstTooNarrow_118 : decode cX2_firstTooNarrow 118 = .ok (.ireturn, 1) := by decide +kernel
def sX2_firstTooNarrow_c106 (h : Hp) (v1 : Int32) : Option (Int32 × Hp) :=
  some (v1, h)
set_option maxRecDepth 10000 in
theorem vX2_firstTooNarrow_c106 (h : Hp) (v1 : Int32) (q : (Int32 × Hp)) (e : sX2_firstTooNarrow_c106 h v1 = some q) : V (Gs 4 (pI q)) mX2_firstTooNarrow (0, 0) 106 [(1, .int v1)] [] h := by
  unfold sX2_firstTooNarrow_c106 at e
  refine V.ilq dX2_firstTooNarrow_106 (pc' := 107) rfl (j := 0) rfl ?_
  exact V.iret dX2_firstTooNarrow_107 rfl (fnI e)
def sX2_firstTooNarrow_c111 (k4 : Hp → Nat → Int32 → Int32 → Option (Int32 × Hp)) (h : Hp) (r : Nat) (v1 : Int32) (v2 : Int32) : Option (Int32 × Hp) :=
  nm (v2 + (1 : Int32)) fun x13 => k4 h r v1 x13
set_option maxRecDepth 10000 in
theorem vX2_firstTooNarrow_c111 (k4 : Hp → Nat → Int32 → Int32 → Option (Int32 × Hp)) (hk4 : ∀ (h : Hp) (r : Nat) (v1 : Int32) (v2 : Int32) (hr : ck r = 2) (q : (Int32 × Hp)), k4 h r v1 v2 = some q → V (Gs 4 (pI q)) mX2_firstTooNarrow (0, 0) 4 [(0, .ref r), (1, .int v1), (2, .int v2)] [] h) (h : Hp) (r : Nat) (v1 : Int32) (v2 : Int32) (hr : ck r = 2) (q : (Int32 × Hp)) (e : sX2_firstTooNarrow_c111 k4 h r v1 v2 = some q) : V (Gs 4 (pI q)) mX2_firstTooNarrow (0, 0) 111 [(0, .ref r), (1, .int v1), (2, .int v2)] [] h := by
  unfold sX2_firstTooNarrow_c111 at e
  obtain ⟨x13, ex13, e⟩ := nm_s e
  refine V.iinc dX2_firstTooNarrow_111 (pc' := 114) rfl (j := 2) rfl (v := 1) (by decide) (by decide) ex13 (L' := [(2, .int x13), (0, .ref r), (1, .int v1)]) rfl ?_
  refine V.goto dX2_firstTooNarrow_114 (pc' := 4) (by decide) ?_
  refine V.pk [1, 2, 0] rfl ?_
  exact hk4 h r v1 x13 hr q e
def sX2_firstTooNarrow_c4 (k4 : Hp → Nat → Int32 → Int32 → Option (Int32 × Hp)) (h : Hp) (r : Nat) (v1 : Int32) (v2 : Int32) : Option (Int32 × Hp) :=
  if (h.1 r 14) ≤ v2 then (some ((-1 : Int32), h)) else (gd (inb v2 24) (if (h.1 (r + 11) v2.toNatClampNeg) = 0 then (sX2_firstTooNarrow_c111 k4 h r v1 v2) else (gd (inb v2 24) (nm ((h.1 (r + 8) v2.toNatClampNeg)) fun x3 => gd (inb v2 24) (nm ((h.1 (r + 9) v2.toNatClampNeg)) fun x5 => (sX2_sumAhead h r (r + 11) v2 x3).bind fun q6 => (sX2_sumAhead q6.2 r (r + 11) v2 x5).bind fun q7 => (sX2_isWide q7.2 r x3 x5 q6.1 q7.1).bind fun q8 => if q8.1 = 0 then (sX2_firstTooNarrow_c106 q8.2 v1) else (gd (inb v2 24) (gd (inb v2 24) ((sX2_isWide q8.2 r x3 x5 (q6.1 + (q8.2.1 (r + 11) v2.toNatClampNeg)) (q7.1 + (q8.2.1 (r + 11) v2.toNatClampNeg))).bind fun q11 => if q11.1 = 0 then (sX2_firstTooNarrow_c106 q11.2 v1) else (nm (v1 + (1 : Int32)) fun x12 => sX2_firstTooNarrow_c111 k4 q11.2 r x12 v2)))))))))
set_option maxRecDepth 10000 in
theorem vX2_firstTooNarrow_c4 (k4 : Hp → Nat → Int32 → Int32 → Option (Int32 × Hp)) (hk4 : ∀ (h : Hp) (r : Nat) (v1 : Int32) (v2 : Int32) (hr : ck r = 2) (q : (Int32 × Hp)), k4 h r v1 v2 = some q → V (Gs 4 (pI q)) mX2_firstTooNarrow (0, 0) 4 [(0, .ref r), (1, .int v1), (2, .int v2)] [] h) (h : Hp) (r : Nat) (v1 : Int32) (v2 : Int32) (hr : ck r = 2) (q : (Int32 × Hp)) (e : sX2_firstTooNarrow_c4 k4 h r v1 v2 = some q) : V (Gs 4 (pI q)) mX2_firstTooNarrow (0, 0) 4 [(0, .ref r), (1, .int v1), (2, .int v2)] [] h := by
  unfold sX2_firstTooNarrow_c4 at e
  refine V.ilq dX2_firstTooNarrow_4 (pc' := 5) rfl (j := 2) rfl ?_
  refine V.alq dX2_firstTooNarrow_5 (pc' := 6) rfl (j := 0) rfl ?_
  refine V.getf dX2_firstTooNarrow_6 (pc' := 9) rfl FL_X2_53 hr (by decide) rfl ?_
  refine V.ic_ge dX2_firstTooNarrow_9 (pc' := 12) rfl (tgt := 117) (by decide) (fun c => ?_) (fun c => ?_)
  · rw [if_pos c] at e
    refine V.iconst dX2_firstTooNarrow_117 (pc' := 118) rfl (v := -1) (by decide) ?_
    exact V.iret dX2_firstTooNarrow_118 rfl (fnI e)
  · rw [if_neg c] at e
    refine V.alq dX2_firstTooNarrow_12 (pc' := 13) rfl (j := 0) rfl ?_
    refine V.getr dX2_firstTooNarrow_13 (pc' := 16) rfl FL_X2_50 hr (by decide) rfl (r' := r + 11) rfl ?_
    refine V.ilq dX2_firstTooNarrow_16 (pc' := 17) rfl (j := 2) rfl ?_
    obtain ⟨c1, e⟩ := gd_s e
    refine V.iald dX2_firstTooNarrow_17 (pc' := 18) rfl (akX2_11 hr).1 (akX2_11 hr).2 (inb_t c1) ?_
    refine V.if_ne dX2_firstTooNarrow_18 (pc' := 21) rfl (tgt := 24) (by decide) (fun c => ?_) (fun c => ?_)
    · rw [if_neg c] at e
      refine V.alq dX2_firstTooNarrow_24 (pc' := 25) rfl (j := 0) rfl ?_
      refine V.getr dX2_firstTooNarrow_25 (pc' := 28) rfl FL_X2_41 hr (by decide) rfl (r' := r + 8) rfl ?_
      refine V.ilq dX2_firstTooNarrow_28 (pc' := 29) rfl (j := 2) rfl ?_
      obtain ⟨c2, e⟩ := gd_s e
      refine V.iald dX2_firstTooNarrow_29 (pc' := 30) rfl (akX2_8 hr).1 (akX2_8 hr).2 (inb_t c2) ?_
      obtain ⟨x3, ex3, e⟩ := nm_s e
      refine V.isq dX2_firstTooNarrow_30 (pc' := 31) rfl (by decide) ex3 (L' := [(3, .int x3), (0, .ref r), (1, .int v1), (2, .int v2)]) rfl ?_
      refine V.alq dX2_firstTooNarrow_31 (pc' := 32) rfl (j := 1) rfl ?_
      refine V.getr dX2_firstTooNarrow_32 (pc' := 35) rfl FL_X2_44 hr (by decide) rfl (r' := r + 9) rfl ?_
      refine V.ilq dX2_firstTooNarrow_35 (pc' := 36) rfl (j := 3) rfl ?_
      obtain ⟨c4, e⟩ := gd_s e
      refine V.iald dX2_firstTooNarrow_36 (pc' := 37) rfl (akX2_9 hr).1 (akX2_9 hr).2 (inb_t c4) ?_
      obtain ⟨x5, ex5, e⟩ := nm_s e
      refine V.is dX2_firstTooNarrow_37 (pc' := 39) rfl (by decide) ex5 (L' := [(4, .int x5), (3, .int x3), (0, .ref r), (1, .int v1), (2, .int v2)]) rfl ?_
      refine V.alq dX2_firstTooNarrow_39 (pc' := 40) rfl (j := 2) rfl ?_
      refine V.alq dX2_firstTooNarrow_40 (pc' := 41) rfl (j := 2) rfl ?_
      refine V.getr dX2_firstTooNarrow_41 (pc' := 44) rfl FL_X2_50 hr (by decide) rfl (r' := r + 11) rfl ?_
      refine V.ilq dX2_firstTooNarrow_44 (pc' := 45) rfl (j := 4) rfl ?_
      refine V.ilq dX2_firstTooNarrow_45 (pc' := 46) rfl (j := 1) rfl ?_
      obtain ⟨q6, eq6, e⟩ := bd_s e
      refine V.callVi dX2_firstTooNarrow_46 (pc' := 49) rfl CV_X2_121 (as := [.ref (r + 11), .int v2, .int x3]) (kX2_sumAhead h r (r + 11) v2 x3 q6 eq6) (Gs_rm (by decide)) hr (by decide) rfl (Nat.le_of_ble_eq_true rfl) rfl ?_
      refine V.is dX2_firstTooNarrow_49 (pc' := 51) rfl (by decide) rfl (L' := [(5, .int q6.1), (4, .int x5), (3, .int x3), (0, .ref r), (1, .int v1), (2, .int v2)]) rfl ?_
      refine V.alq dX2_firstTooNarrow_51 (pc' := 52) rfl (j := 3) rfl ?_
      refine V.alq dX2_firstTooNarrow_52 (pc' := 53) rfl (j := 3) rfl ?_
      refine V.getr dX2_firstTooNarrow_53 (pc' := 56) rfl FL_X2_50 hr (by decide) rfl (r' := r + 11) rfl ?_
      refine V.ilq dX2_firstTooNarrow_56 (pc' := 57) rfl (j := 5) rfl ?_
      refine V.il dX2_firstTooNarrow_57 (pc' := 59) rfl (j := 1) rfl ?_
      obtain ⟨q7, eq7, e⟩ := bd_s e
      refine V.callVi dX2_firstTooNarrow_59 (pc' := 62) rfl CV_X2_121 (as := [.ref (r + 11), .int v2, .int x5]) (kX2_sumAhead q6.2 r (r + 11) v2 x5 q7 eq7) (Gs_rm (by decide)) hr (by decide) rfl (Nat.le_of_ble_eq_true rfl) rfl ?_
      refine V.is dX2_firstTooNarrow_62 (pc' := 64) rfl (by decide) rfl (L' := [(6, .int q7.1), (5, .int q6.1), (4, .int x5), (3, .int x3), (0, .ref r), (1, .int v1), (2, .int v2)]) rfl ?_
      refine V.alq dX2_firstTooNarrow_64 (pc' := 65) rfl (j := 4) rfl ?_
      refine V.ilq dX2_firstTooNarrow_65 (pc' := 66) rfl (j := 3) rfl ?_
      refine V.il dX2_firstTooNarrow_66 (pc' := 68) rfl (j := 2) rfl ?_
      refine V.il dX2_firstTooNarrow_68 (pc' := 70) rfl (j := 1) rfl ?_
      refine V.il dX2_firstTooNarrow_70 (pc' := 72) rfl (j := 0) rfl ?_
      obtain ⟨q8, eq8, e⟩ := bd_s e
      refine V.callVi dX2_firstTooNarrow_72 (pc' := 75) rfl CV_X2_129 (as := [.int x3, .int x5, .int q6.1, .int q7.1]) (kX2_isWide q7.2 r x3 x5 q6.1 q7.1 q8 eq8) (Gs_rm (by decide)) hr (by decide) rfl (Nat.le_of_ble_eq_true rfl) rfl ?_
      refine V.if_eq dX2_firstTooNarrow_75 (pc' := 78) rfl (tgt := 106) (by decide) (fun c => ?_) (fun c => ?_)
      · rw [if_pos c] at e
        refine V.pk [5] rfl ?_
        exact vX2_firstTooNarrow_c106 q8.2 v1 q e
      · rw [if_neg c] at e
        refine V.alq dX2_firstTooNarrow_78 (pc' := 79) rfl (j := 4) rfl ?_
        refine V.ilq dX2_firstTooNarrow_79 (pc' := 80) rfl (j := 3) rfl ?_
        refine V.il dX2_firstTooNarrow_80 (pc' := 82) rfl (j := 2) rfl ?_
        refine V.il dX2_firstTooNarrow_82 (pc' := 84) rfl (j := 1) rfl ?_
        refine V.alq dX2_firstTooNarrow_84 (pc' := 85) rfl (j := 4) rfl ?_
        refine V.getr dX2_firstTooNarrow_85 (pc' := 88) rfl FL_X2_50 hr (by decide) rfl (r' := r + 11) rfl ?_
        refine V.ilq dX2_firstTooNarrow_88 (pc' := 89) rfl (j := 6) rfl ?_
        obtain ⟨c9, e⟩ := gd_s e
        refine V.iald dX2_firstTooNarrow_89 (pc' := 90) rfl (akX2_11 hr).1 (akX2_11 hr).2 (inb_t c9) ?_
        refine V.iadd dX2_firstTooNarrow_90 (pc' := 91) rfl ?_
        refine V.il dX2_firstTooNarrow_91 (pc' := 93) rfl (j := 0) rfl ?_
        refine V.alq dX2_firstTooNarrow_93 (pc' := 94) rfl (j := 4) rfl ?_
        refine V.getr dX2_firstTooNarrow_94 (pc' := 97) rfl FL_X2_50 hr (by decide) rfl (r' := r + 11) rfl ?_
        refine V.ilq dX2_firstTooNarrow_97 (pc' := 98) rfl (j := 6) rfl ?_
        obtain ⟨c10, e⟩ := gd_s e
        refine V.iald dX2_firstTooNarrow_98 (pc' := 99) rfl (akX2_11 hr).1 (akX2_11 hr).2 (inb_t c10) ?_
        refine V.iadd dX2_firstTooNarrow_99 (pc' := 100) rfl ?_
        obtain ⟨q11, eq11, e⟩ := bd_s e
        refine V.callVi dX2_firstTooNarrow_100 (pc' := 103) rfl CV_X2_129 (as := [.int x3, .int x5, .int (q6.1 + (q8.2.1 (r + 11) v2.toNatClampNeg)), .int (q7.1 + (q8.2.1 (r + 11) v2.toNatClampNeg))]) (kX2_isWide q8.2 r x3 x5 (q6.1 + (q8.2.1 (r + 11) v2.toNatClampNeg)) (q7.1 + (q8.2.1 (r + 11) v2.toNatClampNeg)) q11 eq11) (Gs_rm (by decide)) hr (by decide) rfl (Nat.le_of_ble_eq_true rfl) rfl ?_
        refine V.if_ne dX2_firstTooNarrow_103 (pc' := 106) rfl (tgt := 108) (by decide) (fun c => ?_) (fun c => ?_)
        · rw [if_neg c] at e
          obtain ⟨x12, ex12, e⟩ := nm_s e
          refine V.iinc dX2_firstTooNarrow_108 (pc' := 111) rfl (j := 5) rfl (v := 1) (by decide) (by decide) ex12 (L' := [(1, .int x12), (6, .int q7.1), (5, .int q6.1), (4, .int x5), (3, .int x3), (0, .ref r), (2, .int v2)]) rfl ?_
          refine V.pk [5, 0, 6] rfl ?_
          exact vX2_firstTooNarrow_c111 k4 hk4 q11.2 r x12 v2 hr q e
        · rw [if_pos c] at e
          refine V.pk [5] rfl ?_
          exact vX2_firstTooNarrow_c106 q11.2 v1 q e
    · rw [if_pos c] at e
      refine V.goto dX2_firstTooNarrow_21 (pc' := 111) (by decide) ?_
      exact vX2_firstTooNarrow_c111 k4 hk4 h r v1 v2 hr q e
def sX2_firstTooNarrow_b4 : Nat → Hp → Nat → Int32 → Int32 → Option (Int32 × Hp)
  | 0 => fun _ _ _ _ => none
  | n + 1 => sX2_firstTooNarrow_c4 (sX2_firstTooNarrow_b4 n)
theorem vX2_firstTooNarrow_b4 : ∀ (n : Nat) (h : Hp) (r : Nat) (v1 : Int32) (v2 : Int32) (hr : ck r = 2) (q : (Int32 × Hp)), sX2_firstTooNarrow_b4 n h r v1 v2 = some q → V (Gs 4 (pI q)) mX2_firstTooNarrow (0, 0) 4 [(0, .ref r), (1, .int v1), (2, .int v2)] [] h
  | 0 => fun _ _ _ _ _ _ e => by cases e
  | n + 1 => fun h r v1 v2 hr q e => vX2_firstTooNarrow_c4 (sX2_firstTooNarrow_b4 n) (vX2_firstTooNarrow_b4 n) h r v1 v2 hr q e
def sX2_firstTooNarrow (h : Hp) (r : Nat) : Option (Int32 × Hp) :=
  gd (isC r 2) (sX2_firstTooNarrow_b4 FU h r (0 : Int32) (0 : Int32))
set_option maxRecDepth 10000 in
theorem kX2_firstTooNarrow (h : Hp) (r : Nat) (q : (Int32 × Hp)) (e : sX2_firstTooNarrow h r = some q) : K 4 mX2_firstTooNarrow [.ref r] h (pI q) := by
  unfold sX2_firstTooNarrow at e
  obtain ⟨hr, e⟩ := gd_s e
  have hr := isC_t hr
  refine K.ofV (by decide) rfl (Nat.le_of_ble_eq_true rfl) ?_
  show V (Gs 4 (pI q)) mX2_firstTooNarrow (0, 0) 0 [(0, .ref r)] [] h
  refine V.iconst dX2_firstTooNarrow_0 (pc' := 1) rfl (v := 0) (by decide) ?_
  refine V.isq dX2_firstTooNarrow_1 (pc' := 2) rfl (by decide) rfl (L' := [(1, .int (0 : Int32)), (0, .ref r)]) rfl ?_
  refine V.iconst dX2_firstTooNarrow_2 (pc' := 3) rfl (v := 0) (by decide) ?_
  refine V.isq dX2_firstTooNarrow_3 (pc' := 4) rfl (by decide) rfl (L' := [(2, .int (0 : Int32)), (1, .int (0 : Int32)), (0, .ref r)]) rfl ?_
  refine V.pk [2, 1, 0] rfl ?_
  exact vX2_firstTooNarrow_b4 FU h r (0 : Int32) (0 : Int32) hr q e

-- X4_tell___ (level 4)
theorem dX4_tell____0 : decode cX4_tell___ 0 = .ok (.aload_n 0, 1) := by decide +kernel
theorem dX4_tell____1 : decode cX4_tell___ 1 = .ok (.lload_n 1, 1) := by decide +kernel
theorem dX4_tell____2 : decode cX4_tell___ 2 = .ok (.lload_n 3, 1) := by decide +kernel
theorem dX4_tell____3 : decode cX4_tell___ 3 = .ok (.lload 5, 2) := by decide +kernel
theorem dX4_tell____5 : decode cX4_tell___ 5 = .ok (.invokevirtual 36, 3) := by decide +kernel
theorem dX4_tell____8 : decode cX4_tell___ 8 = .ok (.aload_n 0, 1) := by decide +kernel
theorem dX4_tell____9 : decode cX4_tell___ 9 = .ok (.lload 7, 2) := by decide +kernel
theorem dX4_tell____11 : decode cX4_tell___ 11 = .ok (.invokevirtual 23, 3) := by decide +kernel
theorem dX4_tell____14 : decode cX4_tell___ 14 = .ok (.return_, 1) := by decide +kernel
def sX4_tell___ (h : Hp) (a1 : Int64) (a3 : Int64) (a5 : Int64) (a7 : Int64) : Option Hp :=
  (sX4_tell__ h a1 a3 a5).bind fun q1 => (sX4_add q1 a7).bind fun q2 => some q2
set_option maxRecDepth 10000 in
theorem kX4_tell___ (h : Hp) (a1 : Int64) (a3 : Int64) (a5 : Int64) (a7 : Int64) (q : Hp) (e : sX4_tell___ h a1 a3 a5 a7 = some q) : K 4 mX4_tell___ [.ref 4, .long a1, .long a3, .long a5, .long a7] h (pV q) := by
  unfold sX4_tell___ at e
  refine K.ofV (by decide) rfl (Nat.le_of_ble_eq_true rfl) ?_
  show V (Gs 4 (pV q)) mX4_tell___ (0, 0) 0 [(0, .ref 4), (1, .long a1), (3, .long a3), (5, .long a5), (7, .long a7)] [] h
  refine V.alq dX4_tell____0 (pc' := 1) rfl (j := 0) rfl ?_
  refine V.llq dX4_tell____1 (pc' := 2) rfl (j := 1) rfl ?_
  refine V.llq dX4_tell____2 (pc' := 3) rfl (j := 2) rfl ?_
  refine V.ll dX4_tell____3 (pc' := 5) rfl (j := 3) rfl ?_
  obtain ⟨q1, eq1, e⟩ := bd_s e
  refine V.callVv dX4_tell____5 (pc' := 8) rfl CV_X4_36 (as := [.long a1, .long a3, .long a5]) (kX4_tell__ h a1 a3 a5 q1 eq1) (Gs_rm (by decide)) rfl (by decide) rfl (Nat.le_of_ble_eq_true rfl) rfl ?_
  refine V.alq dX4_tell____8 (pc' := 9) rfl (j := 0) rfl ?_
  refine V.ll dX4_tell____9 (pc' := 11) rfl (j := 4) rfl ?_
  obtain ⟨q2, eq2, e⟩ := bd_s e
  refine V.callVv dX4_tell____11 (pc' := 14) rfl CV_X4_23 (as := [.long a7]) (kX4_add q1 a7 q2 eq2) (Gs_rm (by decide)) rfl (by decide) rfl (Nat.le_of_ble_eq_true rfl) rfl ?_
  exact V.vret dX4_tell____14 rfl (fnV e)

-- X5_by (level 4)
theorem dX5_by_0 : decode cX5_by 0 = .ok (.iload_n 1, 1) := by decide +kernel
theorem dX5_by_1 : decode cX5_by 1 = .ok (.invokestatic 99, 3) := by decide +kernel
theorem dX5_by_4 : decode cX5_by 4 = .ok (.ifCond .ne 5, 3) := by decide +kernel
theorem dX5_by_7 : decode cX5_by 7 = .ok (.iconst (-1), 1) := by decide +kernel
theorem dX5_by_8 : decode cX5_by 8 = .ok (.ireturn, 1) := by decide +kernel
theorem dX5_by_9 : decode cX5_by 9 = .ok (.aload_n 0, 1) := by decide +kernel
theorem dX5_by_10 : decode cX5_by 10 = .ok (.getfield 26, 3) := by decide +kernel
theorem dX5_by_13 : decode cX5_by 13 = .ok (.getfield 80, 3) := by decide +kernel
theorem dX5_by_16 : decode cX5_by 16 = .ok (.ifCond .ne 6, 3) := by decide +kernel
theorem dX5_by_19 : decode cX5_by 19 = .ok (.bipush (-2), 2) := by decide +kernel
theorem dX5_by_21 : decode cX5_by 21 = .ok (.ireturn, 1) := by decide +kernel
theorem dX5_by_22 : decode cX5_by 22 = .ok (.aload_n 0, 1) := by decide +kernel
theorem dX5_by_23 : decode cX5_by 23 = .ok (.getfield 40, 3) := by decide +kernel
theorem dX5_by_26 : decode cX5_by 26 = .ok (.aload_n 0, 1) := by decide +kernel
theorem dX5_by_27 : decode cX5_by 27 = .ok (.getfield 26, 3) := by decide +kernel
theorem dX5_by_30 : decode cX5_by 30 = .ok (.iload_n 1, 1) := by decide +kernel
theorem dX5_by_31 : decode cX5_by 31 = .ok (.invokevirtual 204, 3) := by decide +kernel
theorem dX5_by_34 : decode cX5_by 34 = .ok (.aload_n 0, 1) := by decide +kernel
theorem dX5_by_35 : decode cX5_by 35 = .ok (.getfield 19, 3) := by decide +kernel
theorem dX5_by_38 : decode cX5_by 38 = .ok (.aload_n 0, 1) := by decide +kernel
theorem dX5_by_39 : decode cX5_by 39 = .ok (.getfield 40, 3) := by decide +kernel
theorem dX5_by_42 : decode cX5_by 42 = .ok (.invokevirtual 156, 3) := by decide +kernel
theorem dX5_by_45 : decode cX5_by 45 = .ok (.i2l, 1) := by decide +kernel
theorem dX5_by_46 : decode cX5_by 46 = .ok (.sipush 1000, 3) := by decide +kernel
theorem dX5_by_49 : decode cX5_by 49 = .ok (.aload_n 0, 1) := by decide +kernel
theorem dX5_by_50 : decode cX5_by 50 = .ok (.getfield 40, 3) := by decide +kernel
theorem dX5_by_53 : decode cX5_by 53 = .ok (.invokevirtual 172, 3) := by decide +kernel
theorem dX5_by_56 : decode cX5_by 56 = .ok (.iadd, 1) := by decide +kernel
theorem dX5_by_57 : decode cX5_by 57 = .ok (.i2l, 1) := by decide +kernel
theorem dX5_by_58 : decode cX5_by 58 = .ok (.invokevirtual 160, 3) := by decide +kernel
theorem dX5_by_61 : decode cX5_by 61 = .ok (.aload_n 0, 1) := by decide +kernel
theorem dX5_by_62 : decode cX5_by 62 = .ok (.getfield 40, 3) := by decide +kernel
theorem dX5_by_65 : decode cX5_by 65 = .ok (.getfield 163, 3) := by decide +kernel
theorem dX5_by_68 : decode cX5_by 68 = .ok (.ireturn, 1) := by decide +kernel
def sX5_by (h : Hp) (a1 : Int32) : Option (Int32 × Hp) :=
  (sX5_isGap h a1).bind fun q1 => if q1.1 = 0 then (some ((-1 : Int32), q1.2)) else (if (q1.2.1 6 4) = 0 then (some ((-2 : Int32), q1.2)) else ((sX0_work q1.2 21 6 a1).bind fun q2 => (sX0_cool q2 21).bind fun q3 => (sX0_pinchAt q3.2 21).bind fun q4 => (sX4_tell_ q4.2 q3.1.toInt64 (((1000 : Int32) + q4.1).toInt64)).bind fun q5 => some ((q5.1 21 5), q5)))
set_option maxRecDepth 10000 in
theorem kX5_by (h : Hp) (a1 : Int32) (q : (Int32 × Hp)) (e : sX5_by h a1 = some q) : K 4 mX5_by [.ref 1, .int a1] h (pI q) := by
  unfold sX5_by at e
  refine K.ofV (by decide) rfl (Nat.le_of_ble_eq_true rfl) ?_
  show V (Gs 4 (pI q)) mX5_by (0, 0) 0 [(0, .ref 1), (1, .int a1)] [] h
  refine V.ilq dX5_by_0 (pc' := 1) rfl (j := 1) rfl ?_
  obtain ⟨q1, eq1, e⟩ := bd_s e
  refine V.callSi dX5_by_1 (pc' := 4) rfl CS_X5_99 (as := [.int a1]) (kX5_isGap h a1 q1 eq1) (Gs_rm (by decide)) rfl (Nat.le_of_ble_eq_true rfl) rfl ?_
  refine V.if_ne dX5_by_4 (pc' := 7) rfl (tgt := 9) (by decide) (fun c => ?_) (fun c => ?_)
  · rw [if_neg c] at e
    refine V.alq dX5_by_9 (pc' := 10) rfl (j := 0) rfl ?_
    refine V.getr dX5_by_10 (pc' := 13) rfl FL_X5_26 rfl (by decide) rfl (r' := 6) rfl ?_
    refine V.getf dX5_by_13 (pc' := 16) rfl FL_X5_80 rfl (by decide) rfl ?_
    refine V.if_ne dX5_by_16 (pc' := 19) rfl (tgt := 22) (by decide) (fun c => ?_) (fun c => ?_)
    · rw [if_neg c] at e
      refine V.alq dX5_by_22 (pc' := 23) rfl (j := 0) rfl ?_
      refine V.getr dX5_by_23 (pc' := 26) rfl FL_X5_40 rfl (by decide) rfl (r' := 21) rfl ?_
      refine V.alq dX5_by_26 (pc' := 27) rfl (j := 0) rfl ?_
      refine V.getr dX5_by_27 (pc' := 30) rfl FL_X5_26 rfl (by decide) rfl (r' := 6) rfl ?_
      refine V.ilq dX5_by_30 (pc' := 31) rfl (j := 1) rfl ?_
      obtain ⟨q2, eq2, e⟩ := bd_s e
      refine V.callVv dX5_by_31 (pc' := 34) rfl CV_X5_204 (as := [.ref 6, .int a1]) (kX0_work q1.2 21 6 a1 q2 eq2) (Gs_rm (by decide)) rfl (by decide) rfl (Nat.le_of_ble_eq_true rfl) rfl ?_
      refine V.alq dX5_by_34 (pc' := 35) rfl (j := 0) rfl ?_
      refine V.getr dX5_by_35 (pc' := 38) rfl FL_X5_19 rfl (by decide) rfl (r' := 4) rfl ?_
      refine V.alq dX5_by_38 (pc' := 39) rfl (j := 0) rfl ?_
      refine V.getr dX5_by_39 (pc' := 42) rfl FL_X5_40 rfl (by decide) rfl (r' := 21) rfl ?_
      obtain ⟨q3, eq3, e⟩ := bd_s e
      refine V.callVi dX5_by_42 (pc' := 45) rfl CV_X5_156 (as := []) (kX0_cool q2 21 q3 eq3) (Gs_rm (by decide)) rfl (by decide) rfl (Nat.le_of_ble_eq_true rfl) rfl ?_
      refine V.i2l dX5_by_45 (pc' := 46) rfl ?_
      refine V.sipush dX5_by_46 (pc' := 49) rfl (v := 1000) (by decide) ?_
      refine V.alq dX5_by_49 (pc' := 50) rfl (j := 0) rfl ?_
      refine V.getr dX5_by_50 (pc' := 53) rfl FL_X5_40 rfl (by decide) rfl (r' := 21) rfl ?_
      obtain ⟨q4, eq4, e⟩ := bd_s e
      refine V.callVi dX5_by_53 (pc' := 56) rfl CV_X5_172 (as := []) (kX0_pinchAt q3.2 21 q4 eq4) (Gs_rm (by decide)) rfl (by decide) rfl (Nat.le_of_ble_eq_true rfl) rfl ?_
      refine V.iadd dX5_by_56 (pc' := 57) rfl ?_
      refine V.i2l dX5_by_57 (pc' := 58) rfl ?_
      obtain ⟨q5, eq5, e⟩ := bd_s e
      refine V.callVv dX5_by_58 (pc' := 61) rfl CV_X5_160 (as := [.long q3.1.toInt64, .long (((1000 : Int32) + q4.1).toInt64)]) (kX4_tell_ q4.2 q3.1.toInt64 (((1000 : Int32) + q4.1).toInt64) q5 eq5) (Gs_rm (by decide)) rfl (by decide) rfl (Nat.le_of_ble_eq_true rfl) rfl ?_
      refine V.alq dX5_by_61 (pc' := 62) rfl (j := 0) rfl ?_
      refine V.getr dX5_by_62 (pc' := 65) rfl FL_X5_40 rfl (by decide) rfl (r' := 21) rfl ?_
      refine V.getf dX5_by_65 (pc' := 68) rfl FL_X5_163 rfl (by decide) rfl ?_
      exact V.iret dX5_by_68 rfl (fnI e)
    · rw [if_pos c] at e
      refine V.bipush dX5_by_19 (pc' := 21) rfl (v := -2) (by decide) ?_
      exact V.iret dX5_by_21 rfl (fnI e)
  · rw [if_pos c] at e
    refine V.iconst dX5_by_7 (pc' := 8) rfl (v := -1) (by decide) ?_
    exact V.iret dX5_by_8 rfl (fnI e)

-- X5_widest (level 4)
theorem dX5_widest_0 : decode cX5_widest 0 = .ok (.iload_n 1, 1) := by decide +kernel
theorem dX5_widest_1 : decode cX5_widest 1 = .ok (.ifCond .ge 5, 3) := by decide +kernel
theorem dX5_widest_4 : decode cX5_widest 4 = .ok (.iconst (-1), 1) := by decide +kernel
theorem dX5_widest_5 : decode cX5_widest 5 = .ok (.ireturn, 1) := by decide +kernel
theorem dX5_widest_6 : decode cX5_widest 6 = .ok (.iconst (-1), 1) := by decide +kernel
theorem dX5_widest_7 : decode cX5_widest 7 = .ok (.istore_n 2, 1) := by decide +kernel
theorem dX5_widest_8 : decode cX5_widest 8 = .ok (.bipush 61, 2) := by decide +kernel
theorem dX5_widest_10 : decode cX5_widest 10 = .ok (.istore_n 3, 1) := by decide +kernel
theorem dX5_widest_11 : decode cX5_widest 11 = .ok (.iconst 0, 1) := by decide +kernel
theorem dX5_widest_12 : decode cX5_widest 12 = .ok (.istore 4, 2) := by decide +kernel
theorem dX5_widest_14 : decode cX5_widest 14 = .ok (.iconst 0, 1) := by decide +kernel
theorem dX5_widest_15 : decode cX5_widest 15 = .ok (.istore 5, 2) := by decide +kernel
theorem dX5_widest_17 : decode cX5_widest 17 = .ok (.iload 5, 2) := by decide +kernel
theorem dX5_widest_19 : decode cX5_widest 19 = .ok (.bipush 60, 2) := by decide +kernel
theorem dX5_widest_21 : decode cX5_widest 21 = .ok (.if_icmp .gt 65, 3) := by decide +kernel
theorem dX5_widest_24 : decode cX5_widest 24 = .ok (.iload_n 3, 1) := by decide +kernel
theorem dX5_widest_25 : decode cX5_widest 25 = .ok (.iload_n 2, 1) := by decide +kernel
theorem dX5_widest_26 : decode cX5_widest 26 = .ok (.isub, 1) := by decide +kernel
theorem dX5_widest_27 : decode cX5_widest 27 = .ok (.iconst 1, 1) := by decide +kernel
theorem dX5_widest_28 : decode cX5_widest 28 = .ok (.if_icmp .le 58, 3) := by decide +kernel
theorem dX5_widest_31 : decode cX5_widest 31 = .ok (.iload_n 2, 1) := by decide +kernel
theorem dX5_widest_32 : decode cX5_widest 32 = .ok (.iload_n 3, 1) := by decide +kernel
theorem dX5_widest_33 : decode cX5_widest 33 = .ok (.iadd, 1) := by decide +kernel
theorem dX5_widest_34 : decode cX5_widest 34 = .ok (.iconst 2, 1) := by decide +kernel
theorem dX5_widest_35 : decode cX5_widest 35 = .ok (.idiv, 1) := by decide +kernel
theorem dX5_widest_36 : decode cX5_widest 36 = .ok (.istore 6, 2) := by decide +kernel
theorem dX5_widest_38 : decode cX5_widest 38 = .ok (.aload_n 0, 1) := by decide +kernel
theorem dX5_widest_39 : decode cX5_widest 39 = .ok (.getfield 40, 3) := by decide +kernel
theorem dX5_widest_42 : decode cX5_widest 42 = .ok (.aload_n 0, 1) := by decide +kernel
theorem dX5_widest_43 : decode cX5_widest 43 = .ok (.getfield 26, 3) := by decide +kernel
theorem dX5_widest_46 : decode cX5_widest 46 = .ok (.iload 6, 2) := by decide +kernel
theorem dX5_widest_48 : decode cX5_widest 48 = .ok (.invokevirtual 204, 3) := by decide +kernel
theorem dX5_widest_51 : decode cX5_widest 51 = .ok (.aload_n 0, 1) := by decide +kernel
theorem dX5_widest_52 : decode cX5_widest 52 = .ok (.getfield 40, 3) := by decide +kernel
theorem dX5_widest_55 : decode cX5_widest 55 = .ok (.getfield 163, 3) := by decide +kernel
theorem dX5_widest_58 : decode cX5_widest 58 = .ok (.iload_n 1, 1) := by decide +kernel
theorem dX5_widest_59 : decode cX5_widest 59 = .ok (.if_icmp .gt 18, 3) := by decide +kernel
theorem dX5_widest_62 : decode cX5_widest 62 = .ok (.iload 6, 2) := by decide +kernel
theorem dX5_widest_64 : decode cX5_widest 64 = .ok (.istore_n 2, 1) := by decide +kernel
theorem dX5_widest_65 : decode cX5_widest 65 = .ok (.aload_n 0, 1) := by decide +kernel
theorem dX5_widest_66 : decode cX5_widest 66 = .ok (.getfield 40, 3) := by decide +kernel
theorem dX5_widest_69 : decode cX5_widest 69 = .ok (.getfield 163, 3) := by decide +kernel
theorem dX5_widest_72 : decode cX5_widest 72 = .ok (.istore 4, 2) := by decide +kernel
theorem dX5_widest_74 : decode cX5_widest 74 = .ok (.goto 6, 3) := by decide +kernel
theorem dX5_widest_77 : decode cX5_widest 77 = .ok (.iload 6, 2) := by decide +kernel
theorem dX5_widest_79 : decode cX5_widest 79 = .ok (.istore_n 3, 1) := by decide +kernel
theorem dX5_widest_80 : decode cX5_widest 80 = .ok (.iinc 5 1, 3) := by decide +kernel
theorem dX5_widest_83 : decode cX5_widest 83 = .ok (.goto (-66), 3) := by decide +kernel
theorem dX5_widest_86 : decode cX5_widest 86 = .ok (.iload_n 2, 1) := by decide +kernel
theorem dX5_widest_87 : decode cX5_widest 87 = .ok (.iconst (-1), 1) := by decide +kernel
theorem dX5_widest_88 : decode cX5_widest 88 = .ok (.if_icmp .ne 6, 3) := by decide +kernel
theorem dX5_widest_91 : decode cX5_widest 91 = .ok (.bipush (-2), 2) := by decide +kernel
theorem dX5_widest_93 : decode cX5_widest 93 = .ok (.ireturn, 1) := by decide +kernel
theorem dX5_widest_94 : decode cX5_widest 94 = .ok (.aload_n 0, 1) := by decide +kernel
theorem dX5_widest_95 : decode cX5_widest 95 = .ok (.getfield 19, 3) := by decide +kernel
theorem dX5_widest_98 : decode cX5_widest 98 = .ok (.iload 4, 2) := by decide +kernel
theorem dX5_widest_100 : decode cX5_widest 100 = .ok (.i2l, 1) := by decide +kernel
theorem dX5_widest_101 : decode cX5_widest 101 = .ok (.invokevirtual 181, 3) := by decide +kernel
theorem dX5_widest_104 : decode cX5_widest 104 = .ok (.iload_n 2, 1) := by decide +kernel
theorem dX5_widest_105 : decode cX5_widest 105 = .ok (.ireturn, 1) := by decide +kernel
def sX5_widest_c80 (k17 : Hp → Int32 → Int32 → Int32 → Int32 → Int32 → Option (Int32 × Hp)) (h : Hp) (v1 : Int32) (v2 : Int32) (v3 : Int32) (v4 : Int32) (v5 : Int32) : Option (Int32 × Hp) :=
  nm (v5 + (1 : Int32)) fun x4 => k17 h v1 v2 v3 v4 x4
set_option maxRecDepth 10000 in
theorem vX5_widest_c80 (k17 : Hp → Int32 → Int32 → Int32 → Int32 → Int32 → Option (Int32 × Hp)) (hk17 : ∀ (h : Hp) (v1 : Int32) (v2 : Int32) (v3 : Int32) (v4 : Int32) (v5 : Int32) (q : (Int32 × Hp)), k17 h v1 v2 v3 v4 v5 = some q → V (Gs 4 (pI q)) mX5_widest (0, 0) 17 [(0, .ref 1), (1, .int v1), (2, .int v2), (3, .int v3), (4, .int v4), (5, .int v5)] [] h) (h : Hp) (v1 : Int32) (v2 : Int32) (v3 : Int32) (v4 : Int32) (v5 : Int32) (q : (Int32 × Hp)) (e : sX5_widest_c80 k17 h v1 v2 v3 v4 v5 = some q) : V (Gs 4 (pI q)) mX5_widest (0, 0) 80 [(0, .ref 1), (1, .int v1), (2, .int v2), (3, .int v3), (4, .int v4), (5, .int v5)] [] h := by
  unfold sX5_widest_c80 at e
  obtain ⟨x4, ex4, e⟩ := nm_s e
  refine V.iinc dX5_widest_80 (pc' := 83) rfl (j := 5) rfl (v := 1) (by decide) (by decide) ex4 (L' := [(5, .int x4), (0, .ref 1), (1, .int v1), (2, .int v2), (3, .int v3), (4, .int v4)]) rfl ?_
  refine V.goto dX5_widest_83 (pc' := 17) (by decide) ?_
  refine V.pk [1, 2, 3, 4, 5, 0] rfl ?_
  exact hk17 h v1 v2 v3 v4 x4 q e
def sX5_widest_c86 (h : Hp) (v2 : Int32) (v4 : Int32) : Option (Int32 × Hp) :=
  if v2 = (-1 : Int32) then (some ((-2 : Int32), h)) else ((sX4_tell h v4.toInt64).bind fun q5 => some (v2, q5))
set_option maxRecDepth 10000 in
theorem vX5_widest_c86 (h : Hp) (v2 : Int32) (v4 : Int32) (q : (Int32 × Hp)) (e : sX5_widest_c86 h v2 v4 = some q) : V (Gs 4 (pI q)) mX5_widest (0, 0) 86 [(0, .ref 1), (2, .int v2), (4, .int v4)] [] h := by
  unfold sX5_widest_c86 at e
  refine V.ilq dX5_widest_86 (pc' := 87) rfl (j := 1) rfl ?_
  refine V.iconst dX5_widest_87 (pc' := 88) rfl (v := -1) (by decide) ?_
  refine V.ic_ne dX5_widest_88 (pc' := 91) rfl (tgt := 94) (by decide) (fun c => ?_) (fun c => ?_)
  · rw [if_neg c] at e
    refine V.alq dX5_widest_94 (pc' := 95) rfl (j := 0) rfl ?_
    refine V.getr dX5_widest_95 (pc' := 98) rfl FL_X5_19 rfl (by decide) rfl (r' := 4) rfl ?_
    refine V.il dX5_widest_98 (pc' := 100) rfl (j := 2) rfl ?_
    refine V.i2l dX5_widest_100 (pc' := 101) rfl ?_
    obtain ⟨q5, eq5, e⟩ := bd_s e
    refine V.callVv dX5_widest_101 (pc' := 104) rfl CV_X5_181 (as := [.long v4.toInt64]) (kX4_tell h v4.toInt64 q5 eq5) (Gs_rm (by decide)) rfl (by decide) rfl (Nat.le_of_ble_eq_true rfl) rfl ?_
    refine V.ilq dX5_widest_104 (pc' := 105) rfl (j := 1) rfl ?_
    exact V.iret dX5_widest_105 rfl (fnI e)
  · rw [if_pos c] at e
    refine V.bipush dX5_widest_91 (pc' := 93) rfl (v := -2) (by decide) ?_
    exact V.iret dX5_widest_93 rfl (fnI e)
def sX5_widest_c17 (k17 : Hp → Int32 → Int32 → Int32 → Int32 → Int32 → Option (Int32 × Hp)) (h : Hp) (v1 : Int32) (v2 : Int32) (v3 : Int32) (v4 : Int32) (v5 : Int32) : Option (Int32 × Hp) :=
  if (60 : Int32) < v5 then (sX5_widest_c86 h v2 v4) else (if (v3 - v2) ≤ (1 : Int32) then (sX5_widest_c86 h v2 v4) else (nm (((v2 + v3) / (2 : Int32))) fun x1 => (sX0_work h 21 6 x1).bind fun q2 => if v1 < (q2.1 21 5) then (sX5_widest_c80 k17 q2 v1 v2 x1 v4 v5) else (nm ((q2.1 21 5)) fun x3 => sX5_widest_c80 k17 q2 v1 x1 v3 x3 v5)))
set_option maxRecDepth 10000 in
theorem vX5_widest_c17 (k17 : Hp → Int32 → Int32 → Int32 → Int32 → Int32 → Option (Int32 × Hp)) (hk17 : ∀ (h : Hp) (v1 : Int32) (v2 : Int32) (v3 : Int32) (v4 : Int32) (v5 : Int32) (q : (Int32 × Hp)), k17 h v1 v2 v3 v4 v5 = some q → V (Gs 4 (pI q)) mX5_widest (0, 0) 17 [(0, .ref 1), (1, .int v1), (2, .int v2), (3, .int v3), (4, .int v4), (5, .int v5)] [] h) (h : Hp) (v1 : Int32) (v2 : Int32) (v3 : Int32) (v4 : Int32) (v5 : Int32) (q : (Int32 × Hp)) (e : sX5_widest_c17 k17 h v1 v2 v3 v4 v5 = some q) : V (Gs 4 (pI q)) mX5_widest (0, 0) 17 [(0, .ref 1), (1, .int v1), (2, .int v2), (3, .int v3), (4, .int v4), (5, .int v5)] [] h := by
  unfold sX5_widest_c17 at e
  refine V.il dX5_widest_17 (pc' := 19) rfl (j := 5) rfl ?_
  refine V.bipush dX5_widest_19 (pc' := 21) rfl (v := 60) (by decide) ?_
  refine V.ic_gt dX5_widest_21 (pc' := 24) rfl (tgt := 86) (by decide) (fun c => ?_) (fun c => ?_)
  · rw [if_pos c] at e
    refine V.pk [0, 2, 4] rfl ?_
    exact vX5_widest_c86 h v2 v4 q e
  · rw [if_neg c] at e
    refine V.ilq dX5_widest_24 (pc' := 25) rfl (j := 3) rfl ?_
    refine V.ilq dX5_widest_25 (pc' := 26) rfl (j := 2) rfl ?_
    refine V.isub dX5_widest_26 (pc' := 27) rfl ?_
    refine V.iconst dX5_widest_27 (pc' := 28) rfl (v := 1) (by decide) ?_
    refine V.ic_le dX5_widest_28 (pc' := 31) rfl (tgt := 86) (by decide) (fun c => ?_) (fun c => ?_)
    · rw [if_pos c] at e
      refine V.pk [0, 2, 4] rfl ?_
      exact vX5_widest_c86 h v2 v4 q e
    · rw [if_neg c] at e
      refine V.ilq dX5_widest_31 (pc' := 32) rfl (j := 2) rfl ?_
      refine V.ilq dX5_widest_32 (pc' := 33) rfl (j := 3) rfl ?_
      refine V.iadd dX5_widest_33 (pc' := 34) rfl ?_
      refine V.iconst dX5_widest_34 (pc' := 35) rfl (v := 2) (by decide) ?_
      refine V.idiv dX5_widest_35 (pc' := 36) rfl (by decide) ?_
      obtain ⟨x1, ex1, e⟩ := nm_s e
      refine V.is dX5_widest_36 (pc' := 38) rfl (by decide) ex1 (L' := [(6, .int x1), (0, .ref 1), (1, .int v1), (2, .int v2), (3, .int v3), (4, .int v4), (5, .int v5)]) rfl ?_
      refine V.alq dX5_widest_38 (pc' := 39) rfl (j := 1) rfl ?_
      refine V.getr dX5_widest_39 (pc' := 42) rfl FL_X5_40 rfl (by decide) rfl (r' := 21) rfl ?_
      refine V.alq dX5_widest_42 (pc' := 43) rfl (j := 1) rfl ?_
      refine V.getr dX5_widest_43 (pc' := 46) rfl FL_X5_26 rfl (by decide) rfl (r' := 6) rfl ?_
      refine V.il dX5_widest_46 (pc' := 48) rfl (j := 0) rfl ?_
      obtain ⟨q2, eq2, e⟩ := bd_s e
      refine V.callVv dX5_widest_48 (pc' := 51) rfl CV_X5_204 (as := [.ref 6, .int x1]) (kX0_work h 21 6 x1 q2 eq2) (Gs_rm (by decide)) rfl (by decide) rfl (Nat.le_of_ble_eq_true rfl) rfl ?_
      refine V.alq dX5_widest_51 (pc' := 52) rfl (j := 1) rfl ?_
      refine V.getr dX5_widest_52 (pc' := 55) rfl FL_X5_40 rfl (by decide) rfl (r' := 21) rfl ?_
      refine V.getf dX5_widest_55 (pc' := 58) rfl FL_X5_163 rfl (by decide) rfl ?_
      refine V.ilq dX5_widest_58 (pc' := 59) rfl (j := 2) rfl ?_
      refine V.ic_gt dX5_widest_59 (pc' := 62) rfl (tgt := 77) (by decide) (fun c => ?_) (fun c => ?_)
      · rw [if_pos c] at e
        refine V.il dX5_widest_77 (pc' := 79) rfl (j := 0) rfl ?_
        refine V.isq dX5_widest_79 (pc' := 80) rfl (by decide) rfl (L' := [(3, .int x1), (6, .int x1), (0, .ref 1), (1, .int v1), (2, .int v2), (4, .int v4), (5, .int v5)]) rfl ?_
        refine V.pk [2, 3, 4, 0, 5, 6] rfl ?_
        exact vX5_widest_c80 k17 hk17 q2 v1 v2 x1 v4 v5 q e
      · rw [if_neg c] at e
        refine V.il dX5_widest_62 (pc' := 64) rfl (j := 0) rfl ?_
        refine V.isq dX5_widest_64 (pc' := 65) rfl (by decide) rfl (L' := [(2, .int x1), (6, .int x1), (0, .ref 1), (1, .int v1), (3, .int v3), (4, .int v4), (5, .int v5)]) rfl ?_
        refine V.alq dX5_widest_65 (pc' := 66) rfl (j := 2) rfl ?_
        refine V.getr dX5_widest_66 (pc' := 69) rfl FL_X5_40 rfl (by decide) rfl (r' := 21) rfl ?_
        refine V.getf dX5_widest_69 (pc' := 72) rfl FL_X5_163 rfl (by decide) rfl ?_
        obtain ⟨x3, ex3, e⟩ := nm_s e
        refine V.is dX5_widest_72 (pc' := 74) rfl (by decide) ex3 (L' := [(4, .int x3), (2, .int x1), (6, .int x1), (0, .ref 1), (1, .int v1), (3, .int v3), (5, .int v5)]) rfl ?_
        refine V.goto dX5_widest_74 (pc' := 80) (by decide) ?_
        refine V.pk [3, 4, 1, 5, 0, 6] rfl ?_
        exact vX5_widest_c80 k17 hk17 q2 v1 x1 v3 x3 v5 q e
def sX5_widest_b17 : Nat → Hp → Int32 → Int32 → Int32 → Int32 → Int32 → Option (Int32 × Hp)
  | 0 => fun _ _ _ _ _ _ => none
  | n + 1 => sX5_widest_c17 (sX5_widest_b17 n)
theorem vX5_widest_b17 : ∀ (n : Nat) (h : Hp) (v1 : Int32) (v2 : Int32) (v3 : Int32) (v4 : Int32) (v5 : Int32) (q : (Int32 × Hp)), sX5_widest_b17 n h v1 v2 v3 v4 v5 = some q → V (Gs 4 (pI q)) mX5_widest (0, 0) 17 [(0, .ref 1), (1, .int v1), (2, .int v2), (3, .int v3), (4, .int v4), (5, .int v5)] [] h
  | 0 => fun _ _ _ _ _ _ _ e => by cases e
  | n + 1 => fun h v1 v2 v3 v4 v5 q e => vX5_widest_c17 (sX5_widest_b17 n) (vX5_widest_b17 n) h v1 v2 v3 v4 v5 q e
def sX5_widest (h : Hp) (a1 : Int32) : Option (Int32 × Hp) :=
  if 0 ≤ a1 then (sX5_widest_b17 FU h a1 (-1 : Int32) (61 : Int32) (0 : Int32) (0 : Int32)) else (some ((-1 : Int32), h))
set_option maxRecDepth 10000 in
theorem kX5_widest (h : Hp) (a1 : Int32) (q : (Int32 × Hp)) (e : sX5_widest h a1 = some q) : K 4 mX5_widest [.ref 1, .int a1] h (pI q) := by
  unfold sX5_widest at e
  refine K.ofV (by decide) rfl (Nat.le_of_ble_eq_true rfl) ?_
  show V (Gs 4 (pI q)) mX5_widest (0, 0) 0 [(0, .ref 1), (1, .int a1)] [] h
  refine V.ilq dX5_widest_0 (pc' := 1) rfl (j := 1) rfl ?_
  refine V.if_ge dX5_widest_1 (pc' := 4) rfl (tgt := 6) (by decide) (fun c => ?_) (fun c => ?_)
  · rw [if_pos c] at e
    refine V.iconst dX5_widest_6 (pc' := 7) rfl (v := -1) (by decide) ?_
    refine V.isq dX5_widest_7 (pc' := 8) rfl (by decide) rfl (L' := [(2, .int (-1 : Int32)), (0, .ref 1), (1, .int a1)]) rfl ?_
    refine V.bipush dX5_widest_8 (pc' := 10) rfl (v := 61) (by decide) ?_
    refine V.isq dX5_widest_10 (pc' := 11) rfl (by decide) rfl (L' := [(3, .int (61 : Int32)), (2, .int (-1 : Int32)), (0, .ref 1), (1, .int a1)]) rfl ?_
    refine V.iconst dX5_widest_11 (pc' := 12) rfl (v := 0) (by decide) ?_
    refine V.is dX5_widest_12 (pc' := 14) rfl (by decide) rfl (L' := [(4, .int (0 : Int32)), (3, .int (61 : Int32)), (2, .int (-1 : Int32)), (0, .ref 1), (1, .int a1)]) rfl ?_
    refine V.iconst dX5_widest_14 (pc' := 15) rfl (v := 0) (by decide) ?_
    refine V.is dX5_widest_15 (pc' := 17) rfl (by decide) rfl (L' := [(5, .int (0 : Int32)), (4, .int (0 : Int32)), (3, .int (61 : Int32)), (2, .int (-1 : Int32)), (0, .ref 1), (1, .int a1)]) rfl ?_
    refine V.pk [4, 5, 3, 2, 1, 0] rfl ?_
    exact vX5_widest_b17 FU h a1 (-1 : Int32) (61 : Int32) (0 : Int32) (0 : Int32) q e
  · rw [if_neg c] at e
    refine V.iconst dX5_widest_4 (pc' := 5) rfl (v := -1) (by decide) ?_
    exact V.iret dX5_widest_5 rfl (fnI e)

-- X5_dearest (level 4)
theorem dX5_dearest_0 : decode cX5_dearest 0 = .ok (.aload_n 0, 1) := by decide +kernel
theorem dX5_dearest_1 : decode cX5_dearest 1 = .ok (.getfield 26, 3) := by decide +kernel
theorem dX5_dearest_4 : decode cX5_dearest 4 = .ok (.getfield 80, 3) := by decide +kernel
theorem dX5_dearest_7 : decode cX5_dearest 7 = .ok (.ifCond .ne 6, 3) := by decide +kernel
theorem dX5_dearest_10 : decode cX5_dearest 10 = .ok (.bipush (-2), 2) := by decide +kernel
theorem dX5_dearest_12 : decode cX5_dearest 12 = .ok (.ireturn, 1) := by decide +kernel
theorem dX5_dearest_13 : decode cX5_dearest 13 = .ok (.iconst (-1), 1) := by decide +kernel
theorem dX5_dearest_14 : decode cX5_dearest 14 = .ok (.istore_n 1, 1) := by decide +kernel
theorem dX5_dearest_15 : decode cX5_dearest 15 = .ok (.iconst 0, 1) := by decide +kernel
theorem dX5_dearest_16 : decode cX5_dearest 16 = .ok (.istore_n 2, 1) := by decide +kernel
theorem dX5_dearest_17 : decode cX5_dearest 17 = .ok (.iconst 0, 1) := by decide +kernel
theorem dX5_dearest_18 : decode cX5_dearest 18 = .ok (.istore_n 3, 1) := by decide +kernel
theorem dX5_dearest_19 : decode cX5_dearest 19 = .ok (.iload_n 3, 1) := by decide +kernel
theorem dX5_dearest_20 : decode cX5_dearest 20 = .ok (.aload_n 0, 1) := by decide +kernel
theorem dX5_dearest_21 : decode cX5_dearest 21 = .ok (.getfield 26, 3) := by decide +kernel
theorem dX5_dearest_24 : decode cX5_dearest 24 = .ok (.getfield 80, 3) := by decide +kernel
theorem dX5_dearest_27 : decode cX5_dearest 27 = .ok (.if_icmp .ge 69, 3) := by decide +kernel
theorem dX5_dearest_30 : decode cX5_dearest 30 = .ok (.aload_n 0, 1) := by decide +kernel
theorem dX5_dearest_31 : decode cX5_dearest 31 = .ok (.getfield 30, 3) := by decide +kernel
theorem dX5_dearest_34 : decode cX5_dearest 34 = .ok (.aload_n 0, 1) := by decide +kernel
theorem dX5_dearest_35 : decode cX5_dearest 35 = .ok (.getfield 26, 3) := by decide +kernel
theorem dX5_dearest_38 : decode cX5_dearest 38 = .ok (.invokevirtual 73, 3) := by decide +kernel
theorem dX5_dearest_41 : decode cX5_dearest 41 = .ok (.aload_n 0, 1) := by decide +kernel
theorem dX5_dearest_42 : decode cX5_dearest 42 = .ok (.getfield 30, 3) := by decide +kernel
theorem dX5_dearest_45 : decode cX5_dearest 45 = .ok (.iload_n 3, 1) := by decide +kernel
theorem dX5_dearest_46 : decode cX5_dearest 46 = .ok (.invokevirtual 120, 3) := by decide +kernel
theorem dX5_dearest_49 : decode cX5_dearest 49 = .ok (.aload_n 0, 1) := by decide +kernel
theorem dX5_dearest_50 : decode cX5_dearest 50 = .ok (.getfield 40, 3) := by decide +kernel
theorem dX5_dearest_53 : decode cX5_dearest 53 = .ok (.aload_n 0, 1) := by decide +kernel
theorem dX5_dearest_54 : decode cX5_dearest 54 = .ok (.getfield 30, 3) := by decide +kernel
theorem dX5_dearest_57 : decode cX5_dearest 57 = .ok (.aload_n 0, 1) := by decide +kernel
theorem dX5_dearest_58 : decode cX5_dearest 58 = .ok (.getfield 55, 3) := by decide +kernel
theorem dX5_dearest_61 : decode cX5_dearest 61 = .ok (.invokevirtual 204, 3) := by decide +kernel
theorem dX5_dearest_64 : decode cX5_dearest 64 = .ok (.iload_n 1, 1) := by decide +kernel
theorem dX5_dearest_65 : decode cX5_dearest 65 = .ok (.iconst (-1), 1) := by decide +kernel
theorem dX5_dearest_66 : decode cX5_dearest 66 = .ok (.if_icmp .eq 14, 3) := by decide +kernel
theorem dX5_dearest_69 : decode cX5_dearest 69 = .ok (.aload_n 0, 1) := by decide +kernel
theorem dX5_dearest_70 : decode cX5_dearest 70 = .ok (.getfield 40, 3) := by decide +kernel
theorem dX5_dearest_73 : decode cX5_dearest 73 = .ok (.getfield 163, 3) := by decide +kernel
theorem dX5_dearest_76 : decode cX5_dearest 76 = .ok (.iload_n 2, 1) := by decide +kernel
theorem dX5_dearest_77 : decode cX5_dearest 77 = .ok (.if_icmp .ge 13, 3) := by decide +kernel
theorem dX5_dearest_80 : decode cX5_dearest 80 = .ok (.iload_n 3, 1) := by decide +kernel
theorem dX5_dearest_81 : decode cX5_dearest 81 = .ok (.istore_n 1, 1) := by decide +kernel
theorem dX5_dearest_82 : decode cX5_dearest 82 = .ok (.aload_n 0, 1) := by decide +kernel
theorem dX5_dearest_83 : decode cX5_dearest 83 = .ok (.getfield 40, 3) := by decide +kernel
theorem dX5_dearest_86 : decode cX5_dearest 86 = .ok (.getfield 163, 3) := by decide +kernel
theorem dX5_dearest_89 : decode cX5_dearest 89 = .ok (.istore_n 2, 1) := by decide +kernel
theorem dX5_dearest_90 : decode cX5_dearest 90 = .ok (.iinc 3 1, 3) := by decide +kernel
theorem dX5_dearest_93 : decode cX5_dearest 93 = .ok (.goto (-74), 3) := by decide +kernel
theorem dX5_dearest_96 : decode cX5_dearest 96 = .ok (.aload_n 0, 1) := by decide +kernel
theorem dX5_dearest_97 : decode cX5_dearest 97 = .ok (.getfield 19, 3) := by decide +kernel
theorem dX5_dearest_100 : decode cX5_dearest 100 = .ok (.iload_n 2, 1) := by decide +kernel
theorem dX5_dearest_101 : decode cX5_dearest 101 = .ok (.i2l, 1) := by decide +kernel
theorem dX5_dearest_102 : decode cX5_dearest 102 = .ok (.invokevirtual 181, 3) := by decide +kernel
theorem dX5_dearest_105 : decode cX5_dearest 105 = .ok (.iload_n 1, 1) := by decide +kernel
theorem dX5_dearest_106 : decode cX5_dearest 106 = .ok (.ireturn, 1) := by decide +kernel
def sX5_dearest_c90 (k19 : Hp → Int32 → Int32 → Int32 → Option (Int32 × Hp)) (h : Hp) (v1 : Int32) (v2 : Int32) (v3 : Int32) : Option (Int32 × Hp) :=
  nm (v3 + (1 : Int32)) fun x5 => k19 h v1 v2 x5
set_option maxRecDepth 10000 in
theorem vX5_dearest_c90 (k19 : Hp → Int32 → Int32 → Int32 → Option (Int32 × Hp)) (hk19 : ∀ (h : Hp) (v1 : Int32) (v2 : Int32) (v3 : Int32) (q : (Int32 × Hp)), k19 h v1 v2 v3 = some q → V (Gs 4 (pI q)) mX5_dearest (0, 0) 19 [(0, .ref 1), (1, .int v1), (2, .int v2), (3, .int v3)] [] h) (h : Hp) (v1 : Int32) (v2 : Int32) (v3 : Int32) (q : (Int32 × Hp)) (e : sX5_dearest_c90 k19 h v1 v2 v3 = some q) : V (Gs 4 (pI q)) mX5_dearest (0, 0) 90 [(0, .ref 1), (1, .int v1), (2, .int v2), (3, .int v3)] [] h := by
  unfold sX5_dearest_c90 at e
  obtain ⟨x5, ex5, e⟩ := nm_s e
  refine V.iinc dX5_dearest_90 (pc' := 93) rfl (j := 3) rfl (v := 1) (by decide) (by decide) ex5 (L' := [(3, .int x5), (0, .ref 1), (1, .int v1), (2, .int v2)]) rfl ?_
  refine V.goto dX5_dearest_93 (pc' := 19) (by decide) ?_
  refine V.pk [1, 2, 3, 0] rfl ?_
  exact hk19 h v1 v2 x5 q e
def sX5_dearest_c80 (k19 : Hp → Int32 → Int32 → Int32 → Option (Int32 × Hp)) (h : Hp) (v3 : Int32) : Option (Int32 × Hp) :=
  nm ((h.1 21 5)) fun x6 => sX5_dearest_c90 k19 h v3 x6 v3
set_option maxRecDepth 10000 in
theorem vX5_dearest_c80 (k19 : Hp → Int32 → Int32 → Int32 → Option (Int32 × Hp)) (hk19 : ∀ (h : Hp) (v1 : Int32) (v2 : Int32) (v3 : Int32) (q : (Int32 × Hp)), k19 h v1 v2 v3 = some q → V (Gs 4 (pI q)) mX5_dearest (0, 0) 19 [(0, .ref 1), (1, .int v1), (2, .int v2), (3, .int v3)] [] h) (h : Hp) (v3 : Int32) (q : (Int32 × Hp)) (e : sX5_dearest_c80 k19 h v3 = some q) : V (Gs 4 (pI q)) mX5_dearest (0, 0) 80 [(0, .ref 1), (3, .int v3)] [] h := by
  unfold sX5_dearest_c80 at e
  refine V.ilq dX5_dearest_80 (pc' := 81) rfl (j := 1) rfl ?_
  refine V.isq dX5_dearest_81 (pc' := 82) rfl (by decide) rfl (L' := [(1, .int v3), (0, .ref 1), (3, .int v3)]) rfl ?_
  refine V.alq dX5_dearest_82 (pc' := 83) rfl (j := 1) rfl ?_
  refine V.getr dX5_dearest_83 (pc' := 86) rfl FL_X5_40 rfl (by decide) rfl (r' := 21) rfl ?_
  refine V.getf dX5_dearest_86 (pc' := 89) rfl FL_X5_163 rfl (by decide) rfl ?_
  obtain ⟨x6, ex6, e⟩ := nm_s e
  refine V.isq dX5_dearest_89 (pc' := 90) rfl (by decide) ex6 (L' := [(2, .int x6), (1, .int v3), (0, .ref 1), (3, .int v3)]) rfl ?_
  refine V.pk [2, 1, 0, 3] rfl ?_
  exact vX5_dearest_c90 k19 hk19 h v3 x6 v3 q e
def sX5_dearest_c19 (k19 : Hp → Int32 → Int32 → Int32 → Option (Int32 × Hp)) (h : Hp) (v1 : Int32) (v2 : Int32) (v3 : Int32) : Option (Int32 × Hp) :=
  if (h.1 6 4) ≤ v3 then ((sX4_tell h v2.toInt64).bind fun q1 => some (v1, q1)) else ((sX1_copy h 11 6).bind fun q2 => (sX1_remove q2 11 v3).bind fun q3 => (sX0_work q3 21 11 (q3.1 1 8)).bind fun q4 => if v1 = (-1 : Int32) then (sX5_dearest_c80 k19 q4 v3) else (if v2 ≤ (q4.1 21 5) then (sX5_dearest_c90 k19 q4 v1 v2 v3) else (sX5_dearest_c80 k19 q4 v3)))
set_option maxRecDepth 10000 in
theorem vX5_dearest_c19 (k19 : Hp → Int32 → Int32 → Int32 → Option (Int32 × Hp)) (hk19 : ∀ (h : Hp) (v1 : Int32) (v2 : Int32) (v3 : Int32) (q : (Int32 × Hp)), k19 h v1 v2 v3 = some q → V (Gs 4 (pI q)) mX5_dearest (0, 0) 19 [(0, .ref 1), (1, .int v1), (2, .int v2), (3, .int v3)] [] h) (h : Hp) (v1 : Int32) (v2 : Int32) (v3 : Int32) (q : (Int32 × Hp)) (e : sX5_dearest_c19 k19 h v1 v2 v3 = some q) : V (Gs 4 (pI q)) mX5_dearest (0, 0) 19 [(0, .ref 1), (1, .int v1), (2, .int v2), (3, .int v3)] [] h := by
  unfold sX5_dearest_c19 at e
  refine V.ilq dX5_dearest_19 (pc' := 20) rfl (j := 3) rfl ?_
  refine V.alq dX5_dearest_20 (pc' := 21) rfl (j := 0) rfl ?_
  refine V.getr dX5_dearest_21 (pc' := 24) rfl FL_X5_26 rfl (by decide) rfl (r' := 6) rfl ?_
  refine V.getf dX5_dearest_24 (pc' := 27) rfl FL_X5_80 rfl (by decide) rfl ?_
  refine V.ic_ge dX5_dearest_27 (pc' := 30) rfl (tgt := 96) (by decide) (fun c => ?_) (fun c => ?_)
  · rw [if_pos c] at e
    refine V.alq dX5_dearest_96 (pc' := 97) rfl (j := 0) rfl ?_
    refine V.getr dX5_dearest_97 (pc' := 100) rfl FL_X5_19 rfl (by decide) rfl (r' := 4) rfl ?_
    refine V.ilq dX5_dearest_100 (pc' := 101) rfl (j := 2) rfl ?_
    refine V.i2l dX5_dearest_101 (pc' := 102) rfl ?_
    obtain ⟨q1, eq1, e⟩ := bd_s e
    refine V.callVv dX5_dearest_102 (pc' := 105) rfl CV_X5_181 (as := [.long v2.toInt64]) (kX4_tell h v2.toInt64 q1 eq1) (Gs_rm (by decide)) rfl (by decide) rfl (Nat.le_of_ble_eq_true rfl) rfl ?_
    refine V.ilq dX5_dearest_105 (pc' := 106) rfl (j := 1) rfl ?_
    exact V.iret dX5_dearest_106 rfl (fnI e)
  · rw [if_neg c] at e
    refine V.alq dX5_dearest_30 (pc' := 31) rfl (j := 0) rfl ?_
    refine V.getr dX5_dearest_31 (pc' := 34) rfl FL_X5_30 rfl (by decide) rfl (r' := 11) rfl ?_
    refine V.alq dX5_dearest_34 (pc' := 35) rfl (j := 0) rfl ?_
    refine V.getr dX5_dearest_35 (pc' := 38) rfl FL_X5_26 rfl (by decide) rfl (r' := 6) rfl ?_
    obtain ⟨q2, eq2, e⟩ := bd_s e
    refine V.callVv dX5_dearest_38 (pc' := 41) rfl CV_X5_73 (as := [.ref 6]) (kX1_copy h 11 6 q2 eq2) (Gs_rm (by decide)) rfl (by decide) rfl (Nat.le_of_ble_eq_true rfl) rfl ?_
    refine V.alq dX5_dearest_41 (pc' := 42) rfl (j := 0) rfl ?_
    refine V.getr dX5_dearest_42 (pc' := 45) rfl FL_X5_30 rfl (by decide) rfl (r' := 11) rfl ?_
    refine V.ilq dX5_dearest_45 (pc' := 46) rfl (j := 3) rfl ?_
    obtain ⟨q3, eq3, e⟩ := bd_s e
    refine V.callVv dX5_dearest_46 (pc' := 49) rfl CV_X5_120 (as := [.int v3]) (kX1_remove q2 11 v3 q3 eq3) (Gs_rm (by decide)) rfl (by decide) rfl (Nat.le_of_ble_eq_true rfl) rfl ?_
    refine V.alq dX5_dearest_49 (pc' := 50) rfl (j := 0) rfl ?_
    refine V.getr dX5_dearest_50 (pc' := 53) rfl FL_X5_40 rfl (by decide) rfl (r' := 21) rfl ?_
    refine V.alq dX5_dearest_53 (pc' := 54) rfl (j := 0) rfl ?_
    refine V.getr dX5_dearest_54 (pc' := 57) rfl FL_X5_30 rfl (by decide) rfl (r' := 11) rfl ?_
    refine V.alq dX5_dearest_57 (pc' := 58) rfl (j := 0) rfl ?_
    refine V.getf dX5_dearest_58 (pc' := 61) rfl FL_X5_55 rfl (by decide) rfl ?_
    obtain ⟨q4, eq4, e⟩ := bd_s e
    refine V.callVv dX5_dearest_61 (pc' := 64) rfl CV_X5_204 (as := [.ref 11, .int (q3.1 1 8)]) (kX0_work q3 21 11 (q3.1 1 8) q4 eq4) (Gs_rm (by decide)) rfl (by decide) rfl (Nat.le_of_ble_eq_true rfl) rfl ?_
    refine V.ilq dX5_dearest_64 (pc' := 65) rfl (j := 1) rfl ?_
    refine V.iconst dX5_dearest_65 (pc' := 66) rfl (v := -1) (by decide) ?_
    refine V.ic_eq dX5_dearest_66 (pc' := 69) rfl (tgt := 80) (by decide) (fun c => ?_) (fun c => ?_)
    · rw [if_pos c] at e
      refine V.pk [0, 3] rfl ?_
      exact vX5_dearest_c80 k19 hk19 q4 v3 q e
    · rw [if_neg c] at e
      refine V.alq dX5_dearest_69 (pc' := 70) rfl (j := 0) rfl ?_
      refine V.getr dX5_dearest_70 (pc' := 73) rfl FL_X5_40 rfl (by decide) rfl (r' := 21) rfl ?_
      refine V.getf dX5_dearest_73 (pc' := 76) rfl FL_X5_163 rfl (by decide) rfl ?_
      refine V.ilq dX5_dearest_76 (pc' := 77) rfl (j := 2) rfl ?_
      refine V.ic_ge dX5_dearest_77 (pc' := 80) rfl (tgt := 90) (by decide) (fun c => ?_) (fun c => ?_)
      · rw [if_pos c] at e
        exact vX5_dearest_c90 k19 hk19 q4 v1 v2 v3 q e
      · rw [if_neg c] at e
        refine V.pk [0, 3] rfl ?_
        exact vX5_dearest_c80 k19 hk19 q4 v3 q e
def sX5_dearest_b19 : Nat → Hp → Int32 → Int32 → Int32 → Option (Int32 × Hp)
  | 0 => fun _ _ _ _ => none
  | n + 1 => sX5_dearest_c19 (sX5_dearest_b19 n)
theorem vX5_dearest_b19 : ∀ (n : Nat) (h : Hp) (v1 : Int32) (v2 : Int32) (v3 : Int32) (q : (Int32 × Hp)), sX5_dearest_b19 n h v1 v2 v3 = some q → V (Gs 4 (pI q)) mX5_dearest (0, 0) 19 [(0, .ref 1), (1, .int v1), (2, .int v2), (3, .int v3)] [] h
  | 0 => fun _ _ _ _ _ e => by cases e
  | n + 1 => fun h v1 v2 v3 q e => vX5_dearest_c19 (sX5_dearest_b19 n) (vX5_dearest_b19 n) h v1 v2 v3 q e
def sX5_dearest (h : Hp) : Option (Int32 × Hp) :=
  if (h.1 6 4) = 0 then (some ((-2 : Int32), h)) else (sX5_dearest_b19 FU h (-1 : Int32) (0 : Int32) (0 : Int32))
set_option maxRecDepth 10000 in
theorem kX5_dearest (h : Hp) (q : (Int32 × Hp)) (e : sX5_dearest h = some q) : K 4 mX5_dearest [.ref 1] h (pI q) := by
  unfold sX5_dearest at e
  refine K.ofV (by decide) rfl (Nat.le_of_ble_eq_true rfl) ?_
  show V (Gs 4 (pI q)) mX5_dearest (0, 0) 0 [(0, .ref 1)] [] h
  refine V.alq dX5_dearest_0 (pc' := 1) rfl (j := 0) rfl ?_
  refine V.getr dX5_dearest_1 (pc' := 4) rfl FL_X5_26 rfl (by decide) rfl (r' := 6) rfl ?_
  refine V.getf dX5_dearest_4 (pc' := 7) rfl FL_X5_80 rfl (by decide) rfl ?_
  refine V.if_ne dX5_dearest_7 (pc' := 10) rfl (tgt := 13) (by decide) (fun c => ?_) (fun c => ?_)
  · rw [if_neg c] at e
    refine V.iconst dX5_dearest_13 (pc' := 14) rfl (v := -1) (by decide) ?_
    refine V.isq dX5_dearest_14 (pc' := 15) rfl (by decide) rfl (L' := [(1, .int (-1 : Int32)), (0, .ref 1)]) rfl ?_
    refine V.iconst dX5_dearest_15 (pc' := 16) rfl (v := 0) (by decide) ?_
    refine V.isq dX5_dearest_16 (pc' := 17) rfl (by decide) rfl (L' := [(2, .int (0 : Int32)), (1, .int (-1 : Int32)), (0, .ref 1)]) rfl ?_
    refine V.iconst dX5_dearest_17 (pc' := 18) rfl (v := 0) (by decide) ?_
    refine V.isq dX5_dearest_18 (pc' := 19) rfl (by decide) rfl (L' := [(3, .int (0 : Int32)), (2, .int (0 : Int32)), (1, .int (-1 : Int32)), (0, .ref 1)]) rfl ?_
    refine V.pk [3, 2, 1, 0] rfl ?_
    exact vX5_dearest_b19 FU h (-1 : Int32) (0 : Int32) (0 : Int32) q e
  · rw [if_pos c] at e
    refine V.bipush dX5_dearest_10 (pc' := 12) rfl (v := -2) (by decide) ?_
    exact V.iret dX5_dearest_12 rfl (fnI e)

-- X5_arrive (level 4)
theorem dX5_arrive_0 : decode cX5_arrive 0 = .ok (.iload_n 1, 1) := by decide +kernel
theorem dX5_arrive_1 : decode cX5_arrive 1 = .ok (.invokestatic 211, 3) := by decide +kernel
theorem dX5_arrive_4 : decode cX5_arrive 4 = .ok (.ifCond .ne 5, 3) := by decide +kernel
theorem dX5_arrive_7 : decode cX5_arrive 7 = .ok (.iconst (-1), 1) := by decide +kernel
theorem dX5_arrive_8 : decode cX5_arrive 8 = .ok (.ireturn, 1) := by decide +kernel
theorem dX5_arrive_9 : decode cX5_arrive 9 = .ok (.aload_n 0, 1) := by decide +kernel
theorem dX5_arrive_10 : decode cX5_arrive 10 = .ok (.iload_n 1, 1) := by decide +kernel
theorem dX5_arrive_11 : decode cX5_arrive 11 = .ok (.invokevirtual 214, 3) := by decide +kernel
theorem dX5_arrive_14 : decode cX5_arrive 14 = .ok (.astore_n 2, 1) := by decide +kernel
theorem dX5_arrive_15 : decode cX5_arrive 15 = .ok (.aload_n 2, 1) := by decide +kernel
theorem dX5_arrive_16 : decode cX5_arrive 16 = .ok (.iconst 1, 1) := by decide +kernel
theorem dX5_arrive_17 : decode cX5_arrive 17 = .ok (.iconst 0, 1) := by decide +kernel
theorem dX5_arrive_18 : decode cX5_arrive 18 = .ok (.invokevirtual 218, 3) := by decide +kernel
theorem dX5_arrive_21 : decode cX5_arrive 21 = .ok (.istore_n 3, 1) := by decide +kernel
theorem dX5_arrive_22 : decode cX5_arrive 22 = .ok (.aload_n 2, 1) := by decide +kernel
theorem dX5_arrive_23 : decode cX5_arrive 23 = .ok (.iconst 0, 1) := by decide +kernel
theorem dX5_arrive_24 : decode cX5_arrive 24 = .ok (.iconst 0, 1) := by decide +kernel
theorem dX5_arrive_25 : decode cX5_arrive 25 = .ok (.invokevirtual 218, 3) := by decide +kernel
theorem dX5_arrive_28 : decode cX5_arrive 28 = .ok (.istore 4, 2) := by decide +kernel
theorem dX5_arrive_30 : decode cX5_arrive 30 = .ok (.iload_n 1, 1) := by decide +kernel
theorem dX5_arrive_31 : decode cX5_arrive 31 = .ok (.ifCond .ne 17, 3) := by decide +kernel
theorem dX5_arrive_34 : decode cX5_arrive 34 = .ok (.iload_n 3, 1) := by decide +kernel
theorem dX5_arrive_35 : decode cX5_arrive 35 = .ok (.iload 4, 2) := by decide +kernel
theorem dX5_arrive_37 : decode cX5_arrive 37 = .ok (.if_icmp .gt 7, 3) := by decide +kernel
theorem dX5_arrive_40 : decode cX5_arrive 40 = .ok (.iconst 1, 1) := by decide +kernel
theorem dX5_arrive_41 : decode cX5_arrive 41 = .ok (.goto 18, 3) := by decide +kernel
theorem dX5_arrive_44 : decode cX5_arrive 44 = .ok (.iconst 0, 1) := by decide +kernel
theorem dX5_arrive_45 : decode cX5_arrive 45 = .ok (.goto 14, 3) := by decide +kernel
theorem dX5_arrive_48 : decode cX5_arrive 48 = .ok (.iload 4, 2) := by decide +kernel
theorem dX5_arrive_50 : decode cX5_arrive 50 = .ok (.iload_n 3, 1) := by decide +kernel
theorem dX5_arrive_51 : decode cX5_arrive 51 = .ok (.if_icmp .gt 7, 3) := by decide +kernel
theorem dX5_arrive_54 : decode cX5_arrive 54 = .ok (.iconst 1, 1) := by decide +kernel
theorem dX5_arrive_55 : decode cX5_arrive 55 = .ok (.goto 4, 3) := by decide +kernel
theorem dX5_arrive_58 : decode cX5_arrive 58 = .ok (.iconst 0, 1) := by decide +kernel
theorem dX5_arrive_59 : decode cX5_arrive 59 = .ok (.istore 5, 2) := by decide +kernel
theorem dX5_arrive_61 : decode cX5_arrive 61 = .ok (.aload_n 0, 1) := by decide +kernel
theorem dX5_arrive_62 : decode cX5_arrive 62 = .ok (.getfield 19, 3) := by decide +kernel
theorem dX5_arrive_65 : decode cX5_arrive 65 = .ok (.iload 4, 2) := by decide +kernel
theorem dX5_arrive_67 : decode cX5_arrive 67 = .ok (.i2l, 1) := by decide +kernel
theorem dX5_arrive_68 : decode cX5_arrive 68 = .ok (.iload 5, 2) := by decide +kernel
theorem dX5_arrive_70 : decode cX5_arrive 70 = .ok (.ifCond .eq 7, 3) := by decide +kernel
theorem dX5_arrive_73 : decode cX5_arrive 73 = .ok (.lconst 1, 1) := by decide +kernel
theorem dX5_arrive_74 : decode cX5_arrive 74 = .ok (.goto 4, 3) := by decide +kernel
theorem dX5_arrive_77 : decode cX5_arrive 77 = .ok (.lconst 0, 1) := by decide +kernel
theorem dX5_arrive_78 : decode cX5_arrive 78 = .ok (.aload_n 2, 1) := by decide +kernel
theorem dX5_arrive_79 : decode cX5_arrive 79 = .ok (.iload_n 1, 1) := by decide +kernel
theorem dX5_arrive_80 : decode cX5_arrive 80 = .ok (.ifCond .ne 7, 3) := by decide +kernel
theorem dX5_arrive_83 : decode cX5_arrive 83 = .ok (.iconst 1, 1) := by decide +kernel
theorem dX5_arrive_84 : decode cX5_arrive 84 = .ok (.goto 4, 3) := by decide +kernel
theorem dX5_arrive_87 : decode cX5_arrive 87 = .ok (.iconst 0, 1) := by decide +kernel
theorem dX5_arrive_88 : decode cX5_arrive 88 = .ok (.invokevirtual 221, 3) := by decide +kernel
theorem dX5_arrive_91 : decode cX5_arrive 91 = .ok (.ifCond .eq 7, 3) := by decide +kernel
theorem dX5_arrive_94 : decode cX5_arrive 94 = .ok (.lconst 1, 1) := by decide +kernel
theorem dX5_arrive_95 : decode cX5_arrive 95 = .ok (.goto 4, 3) := by decide +kernel
theorem dX5_arrive_98 : decode cX5_arrive 98 = .ok (.lconst 0, 1) := by decide +kernel
theorem dX5_arrive_99 : decode cX5_arrive 99 = .ok (.invokevirtual 225, 3) := by decide +kernel
theorem dX5_arrive_102 : decode cX5_arrive 102 = .ok (.iload_n 3, 1) := by decide +kernel
theorem dX5_arrive_103 : decode cX5_arrive 103 = .ok (.ireturn, 1) := by decide +kernel
def sX5_arrive_c99 (h : Hp) (v3 : Int32) (t0 : Int64) (t1 : Int64) (t2 : Int64) : Option (Int32 × Hp) :=
  (sX4_tell__ h t2 t1 t0).bind fun q7 => some (v3, q7)
set_option maxRecDepth 10000 in
theorem vX5_arrive_c99 (h : Hp) (v3 : Int32) (t0 : Int64) (t1 : Int64) (t2 : Int64) (q : (Int32 × Hp)) (e : sX5_arrive_c99 h v3 t0 t1 t2 = some q) : V (Gs 4 (pI q)) mX5_arrive (0, 0) 99 [(3, .int v3)] [.long t0, .long t1, .long t2, .ref 4] h := by
  unfold sX5_arrive_c99 at e
  obtain ⟨q7, eq7, e⟩ := bd_s e
  refine V.callVv dX5_arrive_99 (pc' := 102) rfl CV_X5_225 (as := [.long t2, .long t1, .long t0]) (kX4_tell__ h t2 t1 t0 q7 eq7) (Gs_rm (by decide)) rfl (by decide) rfl (Nat.le_of_ble_eq_true rfl) rfl ?_
  refine V.ilq dX5_arrive_102 (pc' := 103) rfl (j := 0) rfl ?_
  exact V.iret dX5_arrive_103 rfl (fnI e)
def sX5_arrive_c88 (h : Hp) (v3 : Int32) (t0 : Int32) (w1 : Nat) (t2 : Int64) (t3 : Int64) : Option (Int32 × Hp) :=
  (sX2_allPaired h w1 t0).bind fun q6 => if q6.1 = 0 then (sX5_arrive_c99 q6.2 v3 (0 : Int64) t2 t3) else (sX5_arrive_c99 q6.2 v3 (1 : Int64) t2 t3)
set_option maxRecDepth 10000 in
theorem vX5_arrive_c88 (h : Hp) (v3 : Int32) (t0 : Int32) (w1 : Nat) (t2 : Int64) (t3 : Int64) (hw1 : ck w1 = 2) (q : (Int32 × Hp)) (e : sX5_arrive_c88 h v3 t0 w1 t2 t3 = some q) : V (Gs 4 (pI q)) mX5_arrive (0, 0) 88 [(3, .int v3)] [.int t0, .ref w1, .long t2, .long t3, .ref 4] h := by
  unfold sX5_arrive_c88 at e
  obtain ⟨q6, eq6, e⟩ := bd_s e
  refine V.callVi dX5_arrive_88 (pc' := 91) rfl CV_X5_221 (as := [.int t0]) (kX2_allPaired h w1 t0 q6 eq6) (Gs_rm (by decide)) hw1 (by decide) rfl (Nat.le_of_ble_eq_true rfl) rfl ?_
  refine V.if_eq dX5_arrive_91 (pc' := 94) rfl (tgt := 98) (by decide) (fun c => ?_) (fun c => ?_)
  · rw [if_pos c] at e
    refine V.lconst dX5_arrive_98 (pc' := 99) rfl (v := 0) (by decide) ?_
    exact vX5_arrive_c99 q6.2 v3 (0 : Int64) t2 t3 q e
  · rw [if_neg c] at e
    refine V.lconst dX5_arrive_94 (pc' := 95) rfl (v := 1) (by decide) ?_
    refine V.goto dX5_arrive_95 (pc' := 99) (by decide) ?_
    exact vX5_arrive_c99 q6.2 v3 (1 : Int64) t2 t3 q e
def sX5_arrive_c78 (h : Hp) (v1 : Int32) (v2 : Nat) (v3 : Int32) (t0 : Int64) (t1 : Int64) : Option (Int32 × Hp) :=
  if v1 = 0 then (sX5_arrive_c88 h v3 (1 : Int32) v2 t0 t1) else (sX5_arrive_c88 h v3 (0 : Int32) v2 t0 t1)
set_option maxRecDepth 10000 in
theorem vX5_arrive_c78 (h : Hp) (v1 : Int32) (v2 : Nat) (v3 : Int32) (t0 : Int64) (t1 : Int64) (hv2 : ck v2 = 2) (q : (Int32 × Hp)) (e : sX5_arrive_c78 h v1 v2 v3 t0 t1 = some q) : V (Gs 4 (pI q)) mX5_arrive (0, 0) 78 [(1, .int v1), (2, .ref v2), (3, .int v3)] [.long t0, .long t1, .ref 4] h := by
  unfold sX5_arrive_c78 at e
  refine V.alq dX5_arrive_78 (pc' := 79) rfl (j := 1) rfl ?_
  refine V.ilq dX5_arrive_79 (pc' := 80) rfl (j := 0) rfl ?_
  refine V.if_ne dX5_arrive_80 (pc' := 83) rfl (tgt := 87) (by decide) (fun c => ?_) (fun c => ?_)
  · rw [if_neg c] at e
    refine V.iconst dX5_arrive_87 (pc' := 88) rfl (v := 0) (by decide) ?_
    refine V.pk [2] rfl ?_
    exact vX5_arrive_c88 h v3 (0 : Int32) v2 t0 t1 hv2 q e
  · rw [if_pos c] at e
    refine V.iconst dX5_arrive_83 (pc' := 84) rfl (v := 1) (by decide) ?_
    refine V.goto dX5_arrive_84 (pc' := 88) (by decide) ?_
    refine V.pk [2] rfl ?_
    exact vX5_arrive_c88 h v3 (1 : Int32) v2 t0 t1 hv2 q e
def sX5_arrive_c59 (h : Hp) (v1 : Int32) (v2 : Nat) (v3 : Int32) (v4 : Int32) (t0 : Int32) : Option (Int32 × Hp) :=
  if t0 = 0 then (sX5_arrive_c78 h v1 v2 v3 (0 : Int64) v4.toInt64) else (sX5_arrive_c78 h v1 v2 v3 (1 : Int64) v4.toInt64)
set_option maxRecDepth 10000 in
theorem vX5_arrive_c59 (h : Hp) (v1 : Int32) (v2 : Nat) (v3 : Int32) (v4 : Int32) (t0 : Int32) (hv2 : ck v2 = 2) (q : (Int32 × Hp)) (e : sX5_arrive_c59 h v1 v2 v3 v4 t0 = some q) : V (Gs 4 (pI q)) mX5_arrive (0, 0) 59 [(0, .ref 1), (1, .int v1), (2, .ref v2), (3, .int v3), (4, .int v4)] [.int t0] h := by
  unfold sX5_arrive_c59 at e
  refine V.is dX5_arrive_59 (pc' := 61) rfl (by decide) rfl (L' := [(5, .int t0), (0, .ref 1), (1, .int v1), (2, .ref v2), (3, .int v3), (4, .int v4)]) rfl ?_
  refine V.alq dX5_arrive_61 (pc' := 62) rfl (j := 1) rfl ?_
  refine V.getr dX5_arrive_62 (pc' := 65) rfl FL_X5_19 rfl (by decide) rfl (r' := 4) rfl ?_
  refine V.il dX5_arrive_65 (pc' := 67) rfl (j := 5) rfl ?_
  refine V.i2l dX5_arrive_67 (pc' := 68) rfl ?_
  refine V.il dX5_arrive_68 (pc' := 70) rfl (j := 0) rfl ?_
  refine V.if_eq dX5_arrive_70 (pc' := 73) rfl (tgt := 77) (by decide) (fun c => ?_) (fun c => ?_)
  · rw [if_pos c] at e
    refine V.lconst dX5_arrive_77 (pc' := 78) rfl (v := 0) (by decide) ?_
    refine V.pk [2, 3, 4] rfl ?_
    exact vX5_arrive_c78 h v1 v2 v3 (0 : Int64) v4.toInt64 hv2 q e
  · rw [if_neg c] at e
    refine V.lconst dX5_arrive_73 (pc' := 74) rfl (v := 1) (by decide) ?_
    refine V.goto dX5_arrive_74 (pc' := 78) (by decide) ?_
    refine V.pk [2, 3, 4] rfl ?_
    exact vX5_arrive_c78 h v1 v2 v3 (1 : Int64) v4.toInt64 hv2 q e
def sX5_arrive (h : Hp) (a1 : Int32) : Option (Int32 × Hp) :=
  (sX5_isSide h a1).bind fun q1 => if q1.1 = 0 then (some ((-1 : Int32), q1.2)) else ((sX5_sideOf q1.2 a1).bind fun q2 => gd (isC q2.1 2) ((sX2_arriving q2.2 q2.1 (1 : Int32) (0 : Int32)).bind fun q4 => (sX2_arriving q4.2 q2.1 (0 : Int32) (0 : Int32)).bind fun q5 => if a1 = 0 then (if q5.1 < q4.1 then (sX5_arrive_c59 q5.2 a1 q2.1 q4.1 q5.1 (0 : Int32)) else (sX5_arrive_c59 q5.2 a1 q2.1 q4.1 q5.1 (1 : Int32))) else (if q4.1 < q5.1 then (sX5_arrive_c59 q5.2 a1 q2.1 q4.1 q5.1 (0 : Int32)) else (sX5_arrive_c59 q5.2 a1 q2.1 q4.1 q5.1 (1 : Int32)))))
set_option maxRecDepth 10000 in
theorem kX5_arrive (h : Hp) (a1 : Int32) (q : (Int32 × Hp)) (e : sX5_arrive h a1 = some q) : K 4 mX5_arrive [.ref 1, .int a1] h (pI q) := by
  unfold sX5_arrive at e
  refine K.ofV (by decide) rfl (Nat.le_of_ble_eq_true rfl) ?_
  show V (Gs 4 (pI q)) mX5_arrive (0, 0) 0 [(0, .ref 1), (1, .int a1)] [] h
  refine V.ilq dX5_arrive_0 (pc' := 1) rfl (j := 1) rfl ?_
  obtain ⟨q1, eq1, e⟩ := bd_s e
  refine V.callSi dX5_arrive_1 (pc' := 4) rfl CS_X5_211 (as := [.int a1]) (kX5_isSide h a1 q1 eq1) (Gs_rm (by decide)) rfl (Nat.le_of_ble_eq_true rfl) rfl ?_
  refine V.if_ne dX5_arrive_4 (pc' := 7) rfl (tgt := 9) (by decide) (fun c => ?_) (fun c => ?_)
  · rw [if_neg c] at e
    refine V.alq dX5_arrive_9 (pc' := 10) rfl (j := 0) rfl ?_
    refine V.ilq dX5_arrive_10 (pc' := 11) rfl (j := 1) rfl ?_
    obtain ⟨q2, eq2, e⟩ := bd_s e
    refine V.callVr dX5_arrive_11 (pc' := 14) rfl CV_X5_214 (as := [.int a1]) (kX5_sideOf q1.2 a1 q2 eq2) (Gs_rm (by decide)) rfl (by decide) rfl (Nat.le_of_ble_eq_true rfl) rfl ?_
    obtain ⟨c3, e⟩ := gd_s e
    refine V.asq dX5_arrive_14 (pc' := 15) rfl (by decide) rfl (L' := [(2, .ref q2.1), (0, .ref 1), (1, .int a1)]) rfl ?_
    refine V.alq dX5_arrive_15 (pc' := 16) rfl (j := 0) rfl ?_
    refine V.iconst dX5_arrive_16 (pc' := 17) rfl (v := 1) (by decide) ?_
    refine V.iconst dX5_arrive_17 (pc' := 18) rfl (v := 0) (by decide) ?_
    obtain ⟨q4, eq4, e⟩ := bd_s e
    refine V.callVi dX5_arrive_18 (pc' := 21) rfl CV_X5_218 (as := [.int (1 : Int32), .int (0 : Int32)]) (kX2_arriving q2.2 q2.1 (1 : Int32) (0 : Int32) q4 eq4) (Gs_rm (by decide)) (isC_t c3) (by decide) rfl (Nat.le_of_ble_eq_true rfl) rfl ?_
    refine V.isq dX5_arrive_21 (pc' := 22) rfl (by decide) rfl (L' := [(3, .int q4.1), (2, .ref q2.1), (0, .ref 1), (1, .int a1)]) rfl ?_
    refine V.alq dX5_arrive_22 (pc' := 23) rfl (j := 1) rfl ?_
    refine V.iconst dX5_arrive_23 (pc' := 24) rfl (v := 0) (by decide) ?_
    refine V.iconst dX5_arrive_24 (pc' := 25) rfl (v := 0) (by decide) ?_
    obtain ⟨q5, eq5, e⟩ := bd_s e
    refine V.callVi dX5_arrive_25 (pc' := 28) rfl CV_X5_218 (as := [.int (0 : Int32), .int (0 : Int32)]) (kX2_arriving q4.2 q2.1 (0 : Int32) (0 : Int32) q5 eq5) (Gs_rm (by decide)) (isC_t c3) (by decide) rfl (Nat.le_of_ble_eq_true rfl) rfl ?_
    refine V.is dX5_arrive_28 (pc' := 30) rfl (by decide) rfl (L' := [(4, .int q5.1), (3, .int q4.1), (2, .ref q2.1), (0, .ref 1), (1, .int a1)]) rfl ?_
    refine V.ilq dX5_arrive_30 (pc' := 31) rfl (j := 4) rfl ?_
    refine V.if_ne dX5_arrive_31 (pc' := 34) rfl (tgt := 48) (by decide) (fun c => ?_) (fun c => ?_)
    · rw [if_neg c] at e
      refine V.il dX5_arrive_48 (pc' := 50) rfl (j := 0) rfl ?_
      refine V.ilq dX5_arrive_50 (pc' := 51) rfl (j := 1) rfl ?_
      refine V.ic_gt dX5_arrive_51 (pc' := 54) rfl (tgt := 58) (by decide) (fun c => ?_) (fun c => ?_)
      · rw [if_pos c] at e
        refine V.iconst dX5_arrive_58 (pc' := 59) rfl (v := 0) (by decide) ?_
        refine V.pk [3, 4, 2, 1, 0] rfl ?_
        exact vX5_arrive_c59 q5.2 a1 q2.1 q4.1 q5.1 (0 : Int32) (isC_t c3) q e
      · rw [if_neg c] at e
        refine V.iconst dX5_arrive_54 (pc' := 55) rfl (v := 1) (by decide) ?_
        refine V.goto dX5_arrive_55 (pc' := 59) (by decide) ?_
        refine V.pk [3, 4, 2, 1, 0] rfl ?_
        exact vX5_arrive_c59 q5.2 a1 q2.1 q4.1 q5.1 (1 : Int32) (isC_t c3) q e
    · rw [if_pos c] at e
      refine V.ilq dX5_arrive_34 (pc' := 35) rfl (j := 1) rfl ?_
      refine V.il dX5_arrive_35 (pc' := 37) rfl (j := 0) rfl ?_
      refine V.ic_gt dX5_arrive_37 (pc' := 40) rfl (tgt := 44) (by decide) (fun c => ?_) (fun c => ?_)
      · rw [if_pos c] at e
        refine V.iconst dX5_arrive_44 (pc' := 45) rfl (v := 0) (by decide) ?_
        refine V.goto dX5_arrive_45 (pc' := 59) (by decide) ?_
        refine V.pk [3, 4, 2, 1, 0] rfl ?_
        exact vX5_arrive_c59 q5.2 a1 q2.1 q4.1 q5.1 (0 : Int32) (isC_t c3) q e
      · rw [if_neg c] at e
        refine V.iconst dX5_arrive_40 (pc' := 41) rfl (v := 1) (by decide) ?_
        refine V.goto dX5_arrive_41 (pc' := 59) (by decide) ?_
        refine V.pk [3, 4, 2, 1, 0] rfl ?_
        exact vX5_arrive_c59 q5.2 a1 q2.1 q4.1 q5.1 (1 : Int32) (isC_t c3) q e
  · rw [if_pos c] at e
    refine V.iconst dX5_arrive_7 (pc' := 8) rfl (v := -1) (by decide) ?_
    exact V.iret dX5_arrive_8 rfl (fnI e)

-- X5_joins (level 4)
theorem dX5_joins_0 : decode cX5_joins 0 = .ok (.aload_n 0, 1) := by decide +kernel
theorem dX5_joins_1 : decode cX5_joins 1 = .ok (.iload_n 1, 1) := by decide +kernel
theorem dX5_joins_2 : decode cX5_joins 2 = .ok (.iload_n 2, 1) := by decide +kernel
theorem dX5_joins_3 : decode cX5_joins 3 = .ok (.iload_n 3, 1) := by decide +kernel
theorem dX5_joins_4 : decode cX5_joins 4 = .ok (.invokevirtual 240, 3) := by decide +kernel
theorem dX5_joins_7 : decode cX5_joins 7 = .ok (.ifCond .eq 9, 3) := by decide +kernel
theorem dX5_joins_10 : decode cX5_joins 10 = .ok (.iload 4, 2) := by decide +kernel
theorem dX5_joins_12 : decode cX5_joins 12 = .ok (.iconst 1, 1) := by decide +kernel
theorem dX5_joins_13 : decode cX5_joins 13 = .ok (.if_icmp .ge 5, 3) := by decide +kernel
theorem dX5_joins_16 : decode cX5_joins 16 = .ok (.iconst (-1), 1) := by decide +kernel
theorem dX5_joins_17 : decode cX5_joins 17 = .ok (.ireturn, 1) := by decide +kernel
theorem dX5_joins_18 : decode cX5_joins 18 = .ok (.aload_n 0, 1) := by decide +kernel
theorem dX5_joins_19 : decode cX5_joins 19 = .ok (.iload_n 1, 1) := by decide +kernel
theorem dX5_joins_20 : decode cX5_joins 20 = .ok (.invokevirtual 214, 3) := by decide +kernel
theorem dX5_joins_23 : decode cX5_joins 23 = .ok (.astore 5, 2) := by decide +kernel
theorem dX5_joins_25 : decode cX5_joins 25 = .ok (.aload 5, 2) := by decide +kernel
theorem dX5_joins_27 : decode cX5_joins 27 = .ok (.getfield 243, 3) := by decide +kernel
theorem dX5_joins_30 : decode cX5_joins 30 = .ok (.bipush 24, 2) := by decide +kernel
theorem dX5_joins_32 : decode cX5_joins 32 = .ok (.if_icmp .lt 6, 3) := by decide +kernel
theorem dX5_joins_35 : decode cX5_joins 35 = .ok (.bipush (-2), 2) := by decide +kernel
theorem dX5_joins_37 : decode cX5_joins 37 = .ok (.ireturn, 1) := by decide +kernel
theorem dX5_joins_38 : decode cX5_joins 38 = .ok (.iload 4, 2) := by decide +kernel
theorem dX5_joins_40 : decode cX5_joins 40 = .ok (.aload 5, 2) := by decide +kernel
theorem dX5_joins_42 : decode cX5_joins 42 = .ok (.iload_n 2, 1) := by decide +kernel
theorem dX5_joins_43 : decode cX5_joins 43 = .ok (.invokevirtual 237, 3) := by decide +kernel
theorem dX5_joins_46 : decode cX5_joins 46 = .ok (.if_icmp .gt 14, 3) := by decide +kernel
theorem dX5_joins_49 : decode cX5_joins 49 = .ok (.iload 4, 2) := by decide +kernel
theorem dX5_joins_51 : decode cX5_joins 51 = .ok (.aload 5, 2) := by decide +kernel
theorem dX5_joins_53 : decode cX5_joins 53 = .ok (.iload_n 3, 1) := by decide +kernel
theorem dX5_joins_54 : decode cX5_joins 54 = .ok (.invokevirtual 237, 3) := by decide +kernel
theorem dX5_joins_57 : decode cX5_joins 57 = .ok (.if_icmp .le 6, 3) := by decide +kernel
theorem dX5_joins_60 : decode cX5_joins 60 = .ok (.bipush (-3), 2) := by decide +kernel
theorem dX5_joins_62 : decode cX5_joins 62 = .ok (.ireturn, 1) := by decide +kernel
theorem dX5_joins_63 : decode cX5_joins 63 = .ok (.aload 5, 2) := by decide +kernel
theorem dX5_joins_65 : decode cX5_joins 65 = .ok (.iload_n 2, 1) := by decide +kernel
theorem dX5_joins_66 : decode cX5_joins 66 = .ok (.iload_n 3, 1) := by decide +kernel
theorem dX5_joins_67 : decode cX5_joins 67 = .ok (.aload 5, 2) := by decide +kernel
theorem dX5_joins_69 : decode cX5_joins 69 = .ok (.getfield 244, 3) := by decide +kernel
theorem dX5_joins_72 : decode cX5_joins 72 = .ok (.iload_n 2, 1) := by decide +kernel
theorem dX5_joins_73 : decode cX5_joins 73 = .ok (.iaload, 1) := by decide +kernel
theorem dX5_joins_74 : decode cX5_joins 74 = .ok (.aload 5, 2) := by decide +kernel
theorem dX5_joins_76 : decode cX5_joins 76 = .ok (.getfield 244, 3) := by decide +kernel
theorem dX5_joins_79 : decode cX5_joins 79 = .ok (.iload_n 3, 1) := by decide +kernel
theorem dX5_joins_80 : decode cX5_joins 80 = .ok (.iaload, 1) := by decide +kernel
theorem dX5_joins_81 : decode cX5_joins 81 = .ok (.invokevirtual 247, 3) := by decide +kernel
theorem dX5_joins_84 : decode cX5_joins 84 = .ok (.ifCond .ne 6, 3) := by decide +kernel
theorem dX5_joins_87 : decode cX5_joins 87 = .ok (.bipush (-4), 2) := by decide +kernel
theorem dX5_joins_89 : decode cX5_joins 89 = .ok (.ireturn, 1) := by decide +kernel
theorem dX5_joins_90 : decode cX5_joins 90 = .ok (.aload 5, 2) := by decide +kernel
theorem dX5_joins_92 : decode cX5_joins 92 = .ok (.iload_n 2, 1) := by decide +kernel
theorem dX5_joins_93 : decode cX5_joins 93 = .ok (.iload_n 3, 1) := by decide +kernel
theorem dX5_joins_94 : decode cX5_joins 94 = .ok (.aload 5, 2) := by decide +kernel
theorem dX5_joins_96 : decode cX5_joins 96 = .ok (.getfield 244, 3) := by decide +kernel
theorem dX5_joins_99 : decode cX5_joins 99 = .ok (.iload_n 2, 1) := by decide +kernel
theorem dX5_joins_100 : decode cX5_joins 100 = .ok (.iaload, 1) := by decide +kernel
theorem dX5_joins_101 : decode cX5_joins 101 = .ok (.iload 4, 2) := by decide +kernel
theorem dX5_joins_103 : decode cX5_joins 103 = .ok (.iadd, 1) := by decide +kernel
theorem dX5_joins_104 : decode cX5_joins 104 = .ok (.aload 5, 2) := by decide +kernel
theorem dX5_joins_106 : decode cX5_joins 106 = .ok (.getfield 244, 3) := by decide +kernel
theorem dX5_joins_109 : decode cX5_joins 109 = .ok (.iload_n 3, 1) := by decide +kernel
theorem dX5_joins_110 : decode cX5_joins 110 = .ok (.iaload, 1) := by decide +kernel
theorem dX5_joins_111 : decode cX5_joins 111 = .ok (.iload 4, 2) := by decide +kernel
theorem dX5_joins_113 : decode cX5_joins 113 = .ok (.iadd, 1) := by decide +kernel
theorem dX5_joins_114 : decode cX5_joins 114 = .ok (.invokevirtual 247, 3) := by decide +kernel
theorem dX5_joins_117 : decode cX5_joins 117 = .ok (.ifCond .ne 6, 3) := by decide +kernel
theorem dX5_joins_120 : decode cX5_joins 120 = .ok (.bipush (-5), 2) := by decide +kernel
theorem dX5_joins_122 : decode cX5_joins 122 = .ok (.ireturn, 1) := by decide +kernel
theorem dX5_joins_123 : decode cX5_joins 123 = .ok (.aload 5, 2) := by decide +kernel
theorem dX5_joins_125 : decode cX5_joins 125 = .ok (.iload_n 2, 1) := by decide +kernel
theorem dX5_joins_126 : decode cX5_joins 126 = .ok (.iload_n 3, 1) := by decide +kernel
theorem dX5_joins_127 : decode cX5_joins 127 = .ok (.iload 4, 2) := by decide +kernel
theorem dX5_joins_129 : decode cX5_joins 129 = .ok (.invokevirtual 251, 3) := by decide +kernel
theorem dX5_joins_132 : decode cX5_joins 132 = .ok (.aload_n 0, 1) := by decide +kernel
theorem dX5_joins_133 : decode cX5_joins 133 = .ok (.getfield 19, 3) := by decide +kernel
theorem dX5_joins_136 : decode cX5_joins 136 = .ok (.aload 5, 2) := by decide +kernel
theorem dX5_joins_138 : decode cX5_joins 138 = .ok (.iload_n 2, 1) := by decide +kernel
theorem dX5_joins_139 : decode cX5_joins 139 = .ok (.invokevirtual 237, 3) := by decide +kernel
theorem dX5_joins_142 : decode cX5_joins 142 = .ok (.i2l, 1) := by decide +kernel
theorem dX5_joins_143 : decode cX5_joins 143 = .ok (.aload 5, 2) := by decide +kernel
theorem dX5_joins_145 : decode cX5_joins 145 = .ok (.iload_n 3, 1) := by decide +kernel
theorem dX5_joins_146 : decode cX5_joins 146 = .ok (.invokevirtual 237, 3) := by decide +kernel
theorem dX5_joins_149 : decode cX5_joins 149 = .ok (.i2l, 1) := by decide +kernel
theorem dX5_joins_150 : decode cX5_joins 150 = .ok (.invokevirtual 160, 3) := by decide +kernel
theorem dX5_joins_153 : decode cX5_joins 153 = .ok (.aload 5, 2) := by decide +kernel
theorem dX5_joins_155 : decode cX5_joins 155 = .ok (.getfield 243, 3) := by decide +kernel
theorem dX5_joins_158 : decode cX5_joins 158 = .ok (.iconst 1, 1) := by decide +kernel
theorem dX5_joins_159 : decode cX5_joins 159 = .ok (.isub, 1) := by decide +kernel
theorem dX5_joins_160 : decode cX5_joins 160 = .ok (.ireturn, 1) := by decide +kernel
def sX5_joins_c16 (h : Hp) : Option (Int32 × Hp) :=
  some ((-1 : Int32), h)
set_option maxRecDepth 10000 in
theorem vX5_joins_c16 (h : Hp) (q : (Int32 × Hp)) (e : sX5_joins_c16 h = some q) : V (Gs 4 (pI q)) mX5_joins (0, 0) 16 [] [] h := by
  unfold sX5_joins_c16 at e
  refine V.iconst dX5_joins_16 (pc' := 17) rfl (v := -1) (by decide) ?_
  exact V.iret dX5_joins_17 rfl (fnI e)
def sX5_joins_c60 (h : Hp) : Option (Int32 × Hp) :=
  some ((-3 : Int32), h)
set_option maxRecDepth 10000 in
theorem vX5_joins_c60 (h : Hp) (q : (Int32 × Hp)) (e : sX5_joins_c60 h = some q) : V (Gs 4 (pI q)) mX5_joins (0, 0) 60 [] [] h := by
  unfold sX5_joins_c60 at e
  refine V.bipush dX5_joins_60 (pc' := 62) rfl (v := -3) (by decide) ?_
  exact V.iret dX5_joins_62 rfl (fnI e)
def sX5_joins (h : Hp) (a1 : Int32) (a2 : Int32) (a3 : Int32) (a4 : Int32) : Option (Int32 × Hp) :=
  (sX5_canMeet h a1 a2 a3).bind fun q1 => if q1.1 = 0 then (sX5_joins_c16 q1.2) else (if (1 : Int32) ≤ a4 then ((sX5_sideOf q1.2 a1).bind fun q2 => gd (isC q2.1 2) (if (q2.2.1 q2.1 14) < (24 : Int32) then ((sX2_rest q2.2 q2.1 a2).bind fun q4 => if q4.1 < a4 then (sX5_joins_c60 q4.2) else ((sX2_rest q4.2 q2.1 a3).bind fun q5 => if a4 ≤ q5.1 then (gd (inb a2 10) (gd (inb a3 10) ((sX2_isWide q5.2 q2.1 a2 a3 (q5.2.1 (q2.1 + 7) a2.toNatClampNeg) (q5.2.1 (q2.1 + 7) a3.toNatClampNeg)).bind fun q8 => if q8.1 = 0 then (some ((-4 : Int32), q8.2)) else (gd (inb a2 10) (gd (inb a3 10) ((sX2_isWide q8.2 q2.1 a2 a3 ((q8.2.1 (q2.1 + 7) a2.toNatClampNeg) + a4) ((q8.2.1 (q2.1 + 7) a3.toNatClampNeg) + a4)).bind fun q11 => if q11.1 = 0 then (some ((-5 : Int32), q11.2)) else ((sX2_add q11.2 q2.1 a2 a3 a4).bind fun q12 => (sX2_rest q12 q2.1 a2).bind fun q13 => (sX2_rest q13.2 q2.1 a3).bind fun q14 => (sX4_tell_ q14.2 q13.1.toInt64 q14.1.toInt64).bind fun q15 => some (((q15.1 q2.1 14) - (1 : Int32)), q15)))))))) else (sX5_joins_c60 q5.2))) else (some ((-2 : Int32), q2.2)))) else (sX5_joins_c16 q1.2))
set_option maxRecDepth 10000 in
theorem kX5_joins (h : Hp) (a1 : Int32) (a2 : Int32) (a3 : Int32) (a4 : Int32) (q : (Int32 × Hp)) (e : sX5_joins h a1 a2 a3 a4 = some q) : K 4 mX5_joins [.ref 1, .int a1, .int a2, .int a3, .int a4] h (pI q) := by
  unfold sX5_joins at e
  refine K.ofV (by decide) rfl (Nat.le_of_ble_eq_true rfl) ?_
  show V (Gs 4 (pI q)) mX5_joins (0, 0) 0 [(0, .ref 1), (1, .int a1), (2, .int a2), (3, .int a3), (4, .int a4)] [] h
  refine V.alq dX5_joins_0 (pc' := 1) rfl (j := 0) rfl ?_
  refine V.ilq dX5_joins_1 (pc' := 2) rfl (j := 1) rfl ?_
  refine V.ilq dX5_joins_2 (pc' := 3) rfl (j := 2) rfl ?_
  refine V.ilq dX5_joins_3 (pc' := 4) rfl (j := 3) rfl ?_
  obtain ⟨q1, eq1, e⟩ := bd_s e
  refine V.callVi dX5_joins_4 (pc' := 7) rfl CV_X5_240 (as := [.int a1, .int a2, .int a3]) (kX5_canMeet h a1 a2 a3 q1 eq1) (Gs_rm (by decide)) rfl (by decide) rfl (Nat.le_of_ble_eq_true rfl) rfl ?_
  refine V.if_eq dX5_joins_7 (pc' := 10) rfl (tgt := 16) (by decide) (fun c => ?_) (fun c => ?_)
  · rw [if_pos c] at e
    refine V.pk [] rfl ?_
    exact vX5_joins_c16 q1.2 q e
  · rw [if_neg c] at e
    refine V.il dX5_joins_10 (pc' := 12) rfl (j := 4) rfl ?_
    refine V.iconst dX5_joins_12 (pc' := 13) rfl (v := 1) (by decide) ?_
    refine V.ic_ge dX5_joins_13 (pc' := 16) rfl (tgt := 18) (by decide) (fun c => ?_) (fun c => ?_)
    · rw [if_pos c] at e
      refine V.alq dX5_joins_18 (pc' := 19) rfl (j := 0) rfl ?_
      refine V.ilq dX5_joins_19 (pc' := 20) rfl (j := 1) rfl ?_
      obtain ⟨q2, eq2, e⟩ := bd_s e
      refine V.callVr dX5_joins_20 (pc' := 23) rfl CV_X5_214 (as := [.int a1]) (kX5_sideOf q1.2 a1 q2 eq2) (Gs_rm (by decide)) rfl (by decide) rfl (Nat.le_of_ble_eq_true rfl) rfl ?_
      obtain ⟨c3, e⟩ := gd_s e
      refine V.as dX5_joins_23 (pc' := 25) rfl (by decide) rfl (L' := [(5, .ref q2.1), (0, .ref 1), (1, .int a1), (2, .int a2), (3, .int a3), (4, .int a4)]) rfl ?_
      refine V.al dX5_joins_25 (pc' := 27) rfl (j := 0) rfl ?_
      refine V.getf dX5_joins_27 (pc' := 30) rfl FL_X5_243 (isC_t c3) (by decide) rfl ?_
      refine V.bipush dX5_joins_30 (pc' := 32) rfl (v := 24) (by decide) ?_
      refine V.ic_lt dX5_joins_32 (pc' := 35) rfl (tgt := 38) (by decide) (fun c => ?_) (fun c => ?_)
      · rw [if_pos c] at e
        refine V.il dX5_joins_38 (pc' := 40) rfl (j := 5) rfl ?_
        refine V.al dX5_joins_40 (pc' := 42) rfl (j := 0) rfl ?_
        refine V.ilq dX5_joins_42 (pc' := 43) rfl (j := 3) rfl ?_
        obtain ⟨q4, eq4, e⟩ := bd_s e
        refine V.callVi dX5_joins_43 (pc' := 46) rfl CV_X5_237 (as := [.int a2]) (kX2_rest q2.2 q2.1 a2 q4 eq4) (Gs_rm (by decide)) (isC_t c3) (by decide) rfl (Nat.le_of_ble_eq_true rfl) rfl ?_
        refine V.ic_gt dX5_joins_46 (pc' := 49) rfl (tgt := 60) (by decide) (fun c => ?_) (fun c => ?_)
        · rw [if_pos c] at e
          refine V.pk [] rfl ?_
          exact vX5_joins_c60 q4.2 q e
        · rw [if_neg c] at e
          refine V.il dX5_joins_49 (pc' := 51) rfl (j := 5) rfl ?_
          refine V.al dX5_joins_51 (pc' := 53) rfl (j := 0) rfl ?_
          refine V.ilq dX5_joins_53 (pc' := 54) rfl (j := 4) rfl ?_
          obtain ⟨q5, eq5, e⟩ := bd_s e
          refine V.callVi dX5_joins_54 (pc' := 57) rfl CV_X5_237 (as := [.int a3]) (kX2_rest q4.2 q2.1 a3 q5 eq5) (Gs_rm (by decide)) (isC_t c3) (by decide) rfl (Nat.le_of_ble_eq_true rfl) rfl ?_
          refine V.ic_le dX5_joins_57 (pc' := 60) rfl (tgt := 63) (by decide) (fun c => ?_) (fun c => ?_)
          · rw [if_pos c] at e
            refine V.al dX5_joins_63 (pc' := 65) rfl (j := 0) rfl ?_
            refine V.ilq dX5_joins_65 (pc' := 66) rfl (j := 3) rfl ?_
            refine V.ilq dX5_joins_66 (pc' := 67) rfl (j := 4) rfl ?_
            refine V.al dX5_joins_67 (pc' := 69) rfl (j := 0) rfl ?_
            refine V.getr dX5_joins_69 (pc' := 72) rfl FL_X5_244 (isC_t c3) (by decide) rfl (r' := q2.1 + 7) rfl ?_
            refine V.ilq dX5_joins_72 (pc' := 73) rfl (j := 3) rfl ?_
            obtain ⟨c6, e⟩ := gd_s e
            refine V.iald dX5_joins_73 (pc' := 74) rfl (akX2_7 (isC_t c3)).1 (akX2_7 (isC_t c3)).2 (inb_t c6) ?_
            refine V.al dX5_joins_74 (pc' := 76) rfl (j := 0) rfl ?_
            refine V.getr dX5_joins_76 (pc' := 79) rfl FL_X5_244 (isC_t c3) (by decide) rfl (r' := q2.1 + 7) rfl ?_
            refine V.ilq dX5_joins_79 (pc' := 80) rfl (j := 4) rfl ?_
            obtain ⟨c7, e⟩ := gd_s e
            refine V.iald dX5_joins_80 (pc' := 81) rfl (akX2_7 (isC_t c3)).1 (akX2_7 (isC_t c3)).2 (inb_t c7) ?_
            obtain ⟨q8, eq8, e⟩ := bd_s e
            refine V.callVi dX5_joins_81 (pc' := 84) rfl CV_X5_247 (as := [.int a2, .int a3, .int (q5.2.1 (q2.1 + 7) a2.toNatClampNeg), .int (q5.2.1 (q2.1 + 7) a3.toNatClampNeg)]) (kX2_isWide q5.2 q2.1 a2 a3 (q5.2.1 (q2.1 + 7) a2.toNatClampNeg) (q5.2.1 (q2.1 + 7) a3.toNatClampNeg) q8 eq8) (Gs_rm (by decide)) (isC_t c3) (by decide) rfl (Nat.le_of_ble_eq_true rfl) rfl ?_
            refine V.if_ne dX5_joins_84 (pc' := 87) rfl (tgt := 90) (by decide) (fun c => ?_) (fun c => ?_)
            · rw [if_neg c] at e
              refine V.al dX5_joins_90 (pc' := 92) rfl (j := 0) rfl ?_
              refine V.ilq dX5_joins_92 (pc' := 93) rfl (j := 3) rfl ?_
              refine V.ilq dX5_joins_93 (pc' := 94) rfl (j := 4) rfl ?_
              refine V.al dX5_joins_94 (pc' := 96) rfl (j := 0) rfl ?_
              refine V.getr dX5_joins_96 (pc' := 99) rfl FL_X5_244 (isC_t c3) (by decide) rfl (r' := q2.1 + 7) rfl ?_
              refine V.ilq dX5_joins_99 (pc' := 100) rfl (j := 3) rfl ?_
              obtain ⟨c9, e⟩ := gd_s e
              refine V.iald dX5_joins_100 (pc' := 101) rfl (akX2_7 (isC_t c3)).1 (akX2_7 (isC_t c3)).2 (inb_t c9) ?_
              refine V.il dX5_joins_101 (pc' := 103) rfl (j := 5) rfl ?_
              refine V.iadd dX5_joins_103 (pc' := 104) rfl ?_
              refine V.al dX5_joins_104 (pc' := 106) rfl (j := 0) rfl ?_
              refine V.getr dX5_joins_106 (pc' := 109) rfl FL_X5_244 (isC_t c3) (by decide) rfl (r' := q2.1 + 7) rfl ?_
              refine V.ilq dX5_joins_109 (pc' := 110) rfl (j := 4) rfl ?_
              obtain ⟨c10, e⟩ := gd_s e
              refine V.iald dX5_joins_110 (pc' := 111) rfl (akX2_7 (isC_t c3)).1 (akX2_7 (isC_t c3)).2 (inb_t c10) ?_
              refine V.il dX5_joins_111 (pc' := 113) rfl (j := 5) rfl ?_
              refine V.iadd dX5_joins_113 (pc' := 114) rfl ?_
              obtain ⟨q11, eq11, e⟩ := bd_s e
              refine V.callVi dX5_joins_114 (pc' := 117) rfl CV_X5_247 (as := [.int a2, .int a3, .int ((q8.2.1 (q2.1 + 7) a2.toNatClampNeg) + a4), .int ((q8.2.1 (q2.1 + 7) a3.toNatClampNeg) + a4)]) (kX2_isWide q8.2 q2.1 a2 a3 ((q8.2.1 (q2.1 + 7) a2.toNatClampNeg) + a4) ((q8.2.1 (q2.1 + 7) a3.toNatClampNeg) + a4) q11 eq11) (Gs_rm (by decide)) (isC_t c3) (by decide) rfl (Nat.le_of_ble_eq_true rfl) rfl ?_
              refine V.if_ne dX5_joins_117 (pc' := 120) rfl (tgt := 123) (by decide) (fun c => ?_) (fun c => ?_)
              · rw [if_neg c] at e
                refine V.al dX5_joins_123 (pc' := 125) rfl (j := 0) rfl ?_
                refine V.ilq dX5_joins_125 (pc' := 126) rfl (j := 3) rfl ?_
                refine V.ilq dX5_joins_126 (pc' := 127) rfl (j := 4) rfl ?_
                refine V.il dX5_joins_127 (pc' := 129) rfl (j := 5) rfl ?_
                obtain ⟨q12, eq12, e⟩ := bd_s e
                refine V.callVv dX5_joins_129 (pc' := 132) rfl CV_X5_251 (as := [.int a2, .int a3, .int a4]) (kX2_add q11.2 q2.1 a2 a3 a4 q12 eq12) (Gs_rm (by decide)) (isC_t c3) (by decide) rfl (Nat.le_of_ble_eq_true rfl) rfl ?_
                refine V.alq dX5_joins_132 (pc' := 133) rfl (j := 1) rfl ?_
                refine V.getr dX5_joins_133 (pc' := 136) rfl FL_X5_19 rfl (by decide) rfl (r' := 4) rfl ?_
                refine V.al dX5_joins_136 (pc' := 138) rfl (j := 0) rfl ?_
                refine V.ilq dX5_joins_138 (pc' := 139) rfl (j := 3) rfl ?_
                obtain ⟨q13, eq13, e⟩ := bd_s e
                refine V.callVi dX5_joins_139 (pc' := 142) rfl CV_X5_237 (as := [.int a2]) (kX2_rest q12 q2.1 a2 q13 eq13) (Gs_rm (by decide)) (isC_t c3) (by decide) rfl (Nat.le_of_ble_eq_true rfl) rfl ?_
                refine V.i2l dX5_joins_142 (pc' := 143) rfl ?_
                refine V.al dX5_joins_143 (pc' := 145) rfl (j := 0) rfl ?_
                refine V.ilq dX5_joins_145 (pc' := 146) rfl (j := 4) rfl ?_
                obtain ⟨q14, eq14, e⟩ := bd_s e
                refine V.callVi dX5_joins_146 (pc' := 149) rfl CV_X5_237 (as := [.int a3]) (kX2_rest q13.2 q2.1 a3 q14 eq14) (Gs_rm (by decide)) (isC_t c3) (by decide) rfl (Nat.le_of_ble_eq_true rfl) rfl ?_
                refine V.i2l dX5_joins_149 (pc' := 150) rfl ?_
                obtain ⟨q15, eq15, e⟩ := bd_s e
                refine V.callVv dX5_joins_150 (pc' := 153) rfl CV_X5_160 (as := [.long q13.1.toInt64, .long q14.1.toInt64]) (kX4_tell_ q14.2 q13.1.toInt64 q14.1.toInt64 q15 eq15) (Gs_rm (by decide)) rfl (by decide) rfl (Nat.le_of_ble_eq_true rfl) rfl ?_
                refine V.al dX5_joins_153 (pc' := 155) rfl (j := 0) rfl ?_
                refine V.getf dX5_joins_155 (pc' := 158) rfl FL_X5_243 (isC_t c3) (by decide) rfl ?_
                refine V.iconst dX5_joins_158 (pc' := 159) rfl (v := 1) (by decide) ?_
                refine V.isub dX5_joins_159 (pc' := 160) rfl ?_
                exact V.iret dX5_joins_160 rfl (fnI e)
              · rw [if_pos c] at e
                refine V.bipush dX5_joins_120 (pc' := 122) rfl (v := -5) (by decide) ?_
                exact V.iret dX5_joins_122 rfl (fnI e)
            · rw [if_pos c] at e
              refine V.bipush dX5_joins_87 (pc' := 89) rfl (v := -4) (by decide) ?_
              exact V.iret dX5_joins_89 rfl (fnI e)
          · rw [if_neg c] at e
            refine V.pk [] rfl ?_
            exact vX5_joins_c60 q5.2 q e
      · rw [if_neg c] at e
        refine V.bipush dX5_joins_35 (pc' := 37) rfl (v := -2) (by decide) ?_
        exact V.iret dX5_joins_37 rfl (fnI e)
    · rw [if_neg c] at e
      refine V.pk [] rfl ?_
      exact vX5_joins_c16 q1.2 q e

-- X5_most (level 4)
theorem dX5_most_0 : decode cX5_most 0 = .ok (.aload_n 0, 1) := by decide +kernel
theorem dX5_most_1 : decode cX5_most 1 = .ok (.iload_n 1, 1) := by decide +kernel
theorem dX5_most_2 : decode cX5_most 2 = .ok (.iload_n 2, 1) := by decide +kernel
theorem dX5_most_3 : decode cX5_most 3 = .ok (.iload_n 3, 1) := by decide +kernel
theorem dX5_most_4 : decode cX5_most 4 = .ok (.invokevirtual 240, 3) := by decide +kernel
theorem dX5_most_7 : decode cX5_most 7 = .ok (.ifCond .eq 16, 3) := by decide +kernel
theorem dX5_most_10 : decode cX5_most 10 = .ok (.aload_n 0, 1) := by decide +kernel
theorem dX5_most_11 : decode cX5_most 11 = .ok (.iload_n 1, 1) := by decide +kernel
theorem dX5_most_12 : decode cX5_most 12 = .ok (.invokevirtual 214, 3) := by decide +kernel
theorem dX5_most_15 : decode cX5_most 15 = .ok (.iload_n 2, 1) := by decide +kernel
theorem dX5_most_16 : decode cX5_most 16 = .ok (.iload_n 3, 1) := by decide +kernel
theorem dX5_most_17 : decode cX5_most 17 = .ok (.invokevirtual 253, 3) := by decide +kernel
theorem dX5_most_20 : decode cX5_most 20 = .ok (.goto 4, 3) := by decide +kernel
theorem dX5_most_23 : decode cX5_most 23 = .ok (.iconst (-1), 1) := by decide +kernel
theorem dX5_most_24 : decode cX5_most 24 = .ok (.ireturn, 1) := by decide +kernel
def sX5_most_c24 (h : Hp) (t0 : Int32) : Option (Int32 × Hp) :=
  some (t0, h)
set_option maxRecDepth 10000 in
theorem vX5_most_c24 (h : Hp) (t0 : Int32) (q : (Int32 × Hp)) (e : sX5_most_c24 h t0 = some q) : V (Gs 4 (pI q)) mX5_most (0, 0) 24 [] [.int t0] h := by
  unfold sX5_most_c24 at e
  exact V.iret dX5_most_24 rfl (fnI e)
def sX5_most (h : Hp) (a1 : Int32) (a2 : Int32) (a3 : Int32) : Option (Int32 × Hp) :=
  (sX5_canMeet h a1 a2 a3).bind fun q1 => if q1.1 = 0 then (sX5_most_c24 q1.2 (-1 : Int32)) else ((sX5_sideOf q1.2 a1).bind fun q2 => gd (isC q2.1 2) ((sX2_greatestLoad q2.2 q2.1 a2 a3).bind fun q4 => sX5_most_c24 q4.2 q4.1))
set_option maxRecDepth 10000 in
theorem kX5_most (h : Hp) (a1 : Int32) (a2 : Int32) (a3 : Int32) (q : (Int32 × Hp)) (e : sX5_most h a1 a2 a3 = some q) : K 4 mX5_most [.ref 1, .int a1, .int a2, .int a3] h (pI q) := by
  unfold sX5_most at e
  refine K.ofV (by decide) rfl (Nat.le_of_ble_eq_true rfl) ?_
  show V (Gs 4 (pI q)) mX5_most (0, 0) 0 [(0, .ref 1), (1, .int a1), (2, .int a2), (3, .int a3)] [] h
  refine V.alq dX5_most_0 (pc' := 1) rfl (j := 0) rfl ?_
  refine V.ilq dX5_most_1 (pc' := 2) rfl (j := 1) rfl ?_
  refine V.ilq dX5_most_2 (pc' := 3) rfl (j := 2) rfl ?_
  refine V.ilq dX5_most_3 (pc' := 4) rfl (j := 3) rfl ?_
  obtain ⟨q1, eq1, e⟩ := bd_s e
  refine V.callVi dX5_most_4 (pc' := 7) rfl CV_X5_240 (as := [.int a1, .int a2, .int a3]) (kX5_canMeet h a1 a2 a3 q1 eq1) (Gs_rm (by decide)) rfl (by decide) rfl (Nat.le_of_ble_eq_true rfl) rfl ?_
  refine V.if_eq dX5_most_7 (pc' := 10) rfl (tgt := 23) (by decide) (fun c => ?_) (fun c => ?_)
  · rw [if_pos c] at e
    refine V.iconst dX5_most_23 (pc' := 24) rfl (v := -1) (by decide) ?_
    refine V.pk [] rfl ?_
    exact vX5_most_c24 q1.2 (-1 : Int32) q e
  · rw [if_neg c] at e
    refine V.alq dX5_most_10 (pc' := 11) rfl (j := 0) rfl ?_
    refine V.ilq dX5_most_11 (pc' := 12) rfl (j := 1) rfl ?_
    obtain ⟨q2, eq2, e⟩ := bd_s e
    refine V.callVr dX5_most_12 (pc' := 15) rfl CV_X5_214 (as := [.int a1]) (kX5_sideOf q1.2 a1 q2 eq2) (Gs_rm (by decide)) rfl (by decide) rfl (Nat.le_of_ble_eq_true rfl) rfl ?_
    obtain ⟨c3, e⟩ := gd_s e
    refine V.ilq dX5_most_15 (pc' := 16) rfl (j := 2) rfl ?_
    refine V.ilq dX5_most_16 (pc' := 17) rfl (j := 3) rfl ?_
    obtain ⟨q4, eq4, e⟩ := bd_s e
    refine V.callVi dX5_most_17 (pc' := 20) rfl CV_X5_253 (as := [.int a2, .int a3]) (kX2_greatestLoad q2.2 q2.1 a2 a3 q4 eq4) (Gs_rm (by decide)) (isC_t c3) (by decide) rfl (Nat.le_of_ble_eq_true rfl) rfl ?_
    refine V.goto dX5_most_20 (pc' := 24) (by decide) ?_
    refine V.pk [] rfl ?_
    exact vX5_most_c24 q4.2 q4.1 q e

-- X5_area (level 4)
theorem dX5_area_0 : decode cX5_area 0 = .ok (.aload_n 0, 1) := by decide +kernel
theorem dX5_area_1 : decode cX5_area 1 = .ok (.iload_n 1, 1) := by decide +kernel
theorem dX5_area_2 : decode cX5_area 2 = .ok (.iload_n 2, 1) := by decide +kernel
theorem dX5_area_3 : decode cX5_area 3 = .ok (.invokevirtual 264, 3) := by decide +kernel
theorem dX5_area_6 : decode cX5_area 6 = .ok (.ifCond .eq 15, 3) := by decide +kernel
theorem dX5_area_9 : decode cX5_area 9 = .ok (.aload_n 0, 1) := by decide +kernel
theorem dX5_area_10 : decode cX5_area 10 = .ok (.iload_n 1, 1) := by decide +kernel
theorem dX5_area_11 : decode cX5_area 11 = .ok (.invokevirtual 214, 3) := by decide +kernel
theorem dX5_area_14 : decode cX5_area 14 = .ok (.iload_n 2, 1) := by decide +kernel
theorem dX5_area_15 : decode cX5_area 15 = .ok (.invokevirtual 284, 3) := by decide +kernel
theorem dX5_area_18 : decode cX5_area 18 = .ok (.goto 4, 3) := by decide +kernel
theorem dX5_area_21 : decode cX5_area 21 = .ok (.iconst (-1), 1) := by decide +kernel
theorem dX5_area_22 : decode cX5_area 22 = .ok (.ireturn, 1) := by decide +kernel
def sX5_area_c22 (h : Hp) (t0 : Int32) : Option (Int32 × Hp) :=
  some (t0, h)
set_option maxRecDepth 10000 in
theorem vX5_area_c22 (h : Hp) (t0 : Int32) (q : (Int32 × Hp)) (e : sX5_area_c22 h t0 = some q) : V (Gs 4 (pI q)) mX5_area (0, 0) 22 [] [.int t0] h := by
  unfold sX5_area_c22 at e
  exact V.iret dX5_area_22 rfl (fnI e)
def sX5_area (h : Hp) (a1 : Int32) (a2 : Int32) : Option (Int32 × Hp) :=
  (sX5_hasMatch h a1 a2).bind fun q1 => if q1.1 = 0 then (sX5_area_c22 q1.2 (-1 : Int32)) else ((sX5_sideOf q1.2 a1).bind fun q2 => gd (isC q2.1 2) ((sX2_areaOf q2.2 q2.1 a2).bind fun q4 => sX5_area_c22 q4.2 q4.1))
set_option maxRecDepth 10000 in
theorem kX5_area (h : Hp) (a1 : Int32) (a2 : Int32) (q : (Int32 × Hp)) (e : sX5_area h a1 a2 = some q) : K 4 mX5_area [.ref 1, .int a1, .int a2] h (pI q) := by
  unfold sX5_area at e
  refine K.ofV (by decide) rfl (Nat.le_of_ble_eq_true rfl) ?_
  show V (Gs 4 (pI q)) mX5_area (0, 0) 0 [(0, .ref 1), (1, .int a1), (2, .int a2)] [] h
  refine V.alq dX5_area_0 (pc' := 1) rfl (j := 0) rfl ?_
  refine V.ilq dX5_area_1 (pc' := 2) rfl (j := 1) rfl ?_
  refine V.ilq dX5_area_2 (pc' := 3) rfl (j := 2) rfl ?_
  obtain ⟨q1, eq1, e⟩ := bd_s e
  refine V.callVi dX5_area_3 (pc' := 6) rfl CV_X5_264 (as := [.int a1, .int a2]) (kX5_hasMatch h a1 a2 q1 eq1) (Gs_rm (by decide)) rfl (by decide) rfl (Nat.le_of_ble_eq_true rfl) rfl ?_
  refine V.if_eq dX5_area_6 (pc' := 9) rfl (tgt := 21) (by decide) (fun c => ?_) (fun c => ?_)
  · rw [if_pos c] at e
    refine V.iconst dX5_area_21 (pc' := 22) rfl (v := -1) (by decide) ?_
    refine V.pk [] rfl ?_
    exact vX5_area_c22 q1.2 (-1 : Int32) q e
  · rw [if_neg c] at e
    refine V.alq dX5_area_9 (pc' := 10) rfl (j := 0) rfl ?_
    refine V.ilq dX5_area_10 (pc' := 11) rfl (j := 1) rfl ?_
    obtain ⟨q2, eq2, e⟩ := bd_s e
    refine V.callVr dX5_area_11 (pc' := 14) rfl CV_X5_214 (as := [.int a1]) (kX5_sideOf q1.2 a1 q2 eq2) (Gs_rm (by decide)) rfl (by decide) rfl (Nat.le_of_ble_eq_true rfl) rfl ?_
    obtain ⟨c3, e⟩ := gd_s e
    refine V.ilq dX5_area_14 (pc' := 15) rfl (j := 2) rfl ?_
    obtain ⟨q4, eq4, e⟩ := bd_s e
    refine V.callVi dX5_area_15 (pc' := 18) rfl CV_X5_284 (as := [.int a2]) (kX2_areaOf q2.2 q2.1 a2 q4 eq4) (Gs_rm (by decide)) (isC_t c3) (by decide) rfl (Nat.le_of_ble_eq_true rfl) rfl ?_
    refine V.goto dX5_area_18 (pc' := 22) (by decide) ?_
    refine V.pk [] rfl ?_
    exact vX5_area_c22 q4.2 q4.1 q e

-- X5_total (level 4)
theorem dX5_total_0 : decode cX5_total 0 = .ok (.iconst 0, 1) := by decide +kernel
theorem dX5_total_1 : decode cX5_total 1 = .ok (.istore_n 1, 1) := by decide +kernel
theorem dX5_total_2 : decode cX5_total 2 = .ok (.iconst 0, 1) := by decide +kernel
theorem dX5_total_3 : decode cX5_total 3 = .ok (.istore_n 2, 1) := by decide +kernel
theorem dX5_total_4 : decode cX5_total 4 = .ok (.iconst 0, 1) := by decide +kernel
theorem dX5_total_5 : decode cX5_total 5 = .ok (.istore_n 3, 1) := by decide +kernel
theorem dX5_total_6 : decode cX5_total 6 = .ok (.iconst (-1), 1) := by decide +kernel
theorem dX5_total_7 : decode cX5_total 7 = .ok (.istore 4, 2) := by decide +kernel
theorem dX5_total_9 : decode cX5_total 9 = .ok (.iconst 0, 1) := by decide +kernel
theorem dX5_total_10 : decode cX5_total 10 = .ok (.istore 5, 2) := by decide +kernel
theorem dX5_total_12 : decode cX5_total 12 = .ok (.iload 5, 2) := by decide +kernel
theorem dX5_total_14 : decode cX5_total 14 = .ok (.iconst 2, 1) := by decide +kernel
theorem dX5_total_15 : decode cX5_total 15 = .ok (.if_icmp .ge 80, 3) := by decide +kernel
theorem dX5_total_18 : decode cX5_total 18 = .ok (.aload_n 0, 1) := by decide +kernel
theorem dX5_total_19 : decode cX5_total 19 = .ok (.iload 5, 2) := by decide +kernel
theorem dX5_total_21 : decode cX5_total 21 = .ok (.invokevirtual 214, 3) := by decide +kernel
theorem dX5_total_24 : decode cX5_total 24 = .ok (.astore 6, 2) := by decide +kernel
theorem dX5_total_26 : decode cX5_total 26 = .ok (.iconst 0, 1) := by decide +kernel
theorem dX5_total_27 : decode cX5_total 27 = .ok (.istore 7, 2) := by decide +kernel
theorem dX5_total_29 : decode cX5_total 29 = .ok (.iload 7, 2) := by decide +kernel
theorem dX5_total_31 : decode cX5_total 31 = .ok (.aload 6, 2) := by decide +kernel
theorem dX5_total_33 : decode cX5_total 33 = .ok (.getfield 243, 3) := by decide +kernel
theorem dX5_total_36 : decode cX5_total 36 = .ok (.if_icmp .ge 53, 3) := by decide +kernel
theorem dX5_total_39 : decode cX5_total 39 = .ok (.aload 6, 2) := by decide +kernel
theorem dX5_total_41 : decode cX5_total 41 = .ok (.iload 7, 2) := by decide +kernel
theorem dX5_total_43 : decode cX5_total 43 = .ok (.invokevirtual 284, 3) := by decide +kernel
theorem dX5_total_46 : decode cX5_total 46 = .ok (.istore 8, 2) := by decide +kernel
theorem dX5_total_48 : decode cX5_total 48 = .ok (.iload 8, 2) := by decide +kernel
theorem dX5_total_50 : decode cX5_total 50 = .ok (.ifCond .ge 9, 3) := by decide +kernel
theorem dX5_total_53 : decode cX5_total 53 = .ok (.iinc 2 1, 3) := by decide +kernel
theorem dX5_total_56 : decode cX5_total 56 = .ok (.goto 27, 3) := by decide +kernel
theorem dX5_total_59 : decode cX5_total 59 = .ok (.iload_n 1, 1) := by decide +kernel
theorem dX5_total_60 : decode cX5_total 60 = .ok (.iload 8, 2) := by decide +kernel
theorem dX5_total_62 : decode cX5_total 62 = .ok (.iadd, 1) := by decide +kernel
theorem dX5_total_63 : decode cX5_total 63 = .ok (.istore_n 1, 1) := by decide +kernel
theorem dX5_total_64 : decode cX5_total 64 = .ok (.iload 8, 2) := by decide +kernel
theorem dX5_total_66 : decode cX5_total 66 = .ok (.iload_n 3, 1) := by decide +kernel
theorem dX5_total_67 : decode cX5_total 67 = .ok (.if_icmp .le 16, 3) := by decide +kernel
theorem dX5_total_70 : decode cX5_total 70 = .ok (.iload 8, 2) := by decide +kernel
theorem dX5_total_72 : decode cX5_total 72 = .ok (.istore_n 3, 1) := by decide +kernel
theorem dX5_total_73 : decode cX5_total 73 = .ok (.bipush 100, 2) := by decide +kernel
theorem dX5_total_75 : decode cX5_total 75 = .ok (.iload 5, 2) := by decide +kernel
theorem dX5_total_77 : decode cX5_total 77 = .ok (.imul, 1) := by decide +kernel
theorem dX5_total_78 : decode cX5_total 78 = .ok (.iload 7, 2) := by decide +kernel
theorem dX5_total_80 : decode cX5_total 80 = .ok (.iadd, 1) := by decide +kernel
theorem dX5_total_81 : decode cX5_total 81 = .ok (.istore 4, 2) := by decide +kernel
theorem dX5_total_83 : decode cX5_total 83 = .ok (.iinc 7 1, 3) := by decide +kernel
theorem dX5_total_86 : decode cX5_total 86 = .ok (.goto (-57), 3) := by decide +kernel
theorem dX5_total_89 : decode cX5_total 89 = .ok (.iinc 5 1, 3) := by decide +kernel
theorem dX5_total_92 : decode cX5_total 92 = .ok (.goto (-80), 3) := by decide +kernel
theorem dX5_total_95 : decode cX5_total 95 = .ok (.aload_n 0, 1) := by decide +kernel
theorem dX5_total_96 : decode cX5_total 96 = .ok (.getfield 19, 3) := by decide +kernel
theorem dX5_total_99 : decode cX5_total 99 = .ok (.iload_n 2, 1) := by decide +kernel
theorem dX5_total_100 : decode cX5_total 100 = .ok (.i2l, 1) := by decide +kernel
theorem dX5_total_101 : decode cX5_total 101 = .ok (.iload 4, 2) := by decide +kernel
theorem dX5_total_103 : decode cX5_total 103 = .ok (.i2l, 1) := by decide +kernel
theorem dX5_total_104 : decode cX5_total 104 = .ok (.invokevirtual 160, 3) := by decide +kernel
theorem dX5_total_107 : decode cX5_total 107 = .ok (.iload_n 1, 1) := by decide +kernel
theorem dX5_total_108 : decode cX5_total 108 = .ok (.ireturn, 1) := by decide +kernel
def sX5_total_c83 (k12 : Hp → Int32 → Int32 → Int32 → Int32 → Int32 → Option (Int32 × Hp)) (k29 : Hp → Int32 → Int32 → Int32 → Int32 → Int32 → Nat → Int32 → Option (Int32 × Hp)) (h : Hp) (v1 : Int32) (v2 : Int32) (v3 : Int32) (v4 : Int32) (v5 : Int32) (v6 : Nat) (v7 : Int32) : Option (Int32 × Hp) :=
  nm (v7 + (1 : Int32)) fun x9 => k29 h v1 v2 v3 v4 v5 v6 x9
set_option maxRecDepth 10000 in
theorem vX5_total_c83 (k12 : Hp → Int32 → Int32 → Int32 → Int32 → Int32 → Option (Int32 × Hp)) (hk12 : ∀ (h : Hp) (v1 : Int32) (v2 : Int32) (v3 : Int32) (v4 : Int32) (v5 : Int32) (q : (Int32 × Hp)), k12 h v1 v2 v3 v4 v5 = some q → V (Gs 4 (pI q)) mX5_total (0, 0) 12 [(0, .ref 1), (1, .int v1), (2, .int v2), (3, .int v3), (4, .int v4), (5, .int v5)] [] h) (k29 : Hp → Int32 → Int32 → Int32 → Int32 → Int32 → Nat → Int32 → Option (Int32 × Hp)) (hk29 : ∀ (h : Hp) (v1 : Int32) (v2 : Int32) (v3 : Int32) (v4 : Int32) (v5 : Int32) (v6 : Nat) (v7 : Int32) (hv6 : ck v6 = 2) (q : (Int32 × Hp)), k29 h v1 v2 v3 v4 v5 v6 v7 = some q → V (Gs 4 (pI q)) mX5_total (0, 0) 29 [(0, .ref 1), (1, .int v1), (2, .int v2), (3, .int v3), (4, .int v4), (5, .int v5), (6, .ref v6), (7, .int v7)] [] h) (h : Hp) (v1 : Int32) (v2 : Int32) (v3 : Int32) (v4 : Int32) (v5 : Int32) (v6 : Nat) (v7 : Int32) (hv6 : ck v6 = 2) (q : (Int32 × Hp)) (e : sX5_total_c83 k12 k29 h v1 v2 v3 v4 v5 v6 v7 = some q) : V (Gs 4 (pI q)) mX5_total (0, 0) 83 [(0, .ref 1), (1, .int v1), (2, .int v2), (3, .int v3), (4, .int v4), (5, .int v5), (6, .ref v6), (7, .int v7)] [] h := by
  unfold sX5_total_c83 at e
  obtain ⟨x9, ex9, e⟩ := nm_s e
  refine V.iinc dX5_total_83 (pc' := 86) rfl (j := 7) rfl (v := 1) (by decide) (by decide) ex9 (L' := [(7, .int x9), (0, .ref 1), (1, .int v1), (2, .int v2), (3, .int v3), (4, .int v4), (5, .int v5), (6, .ref v6)]) rfl ?_
  refine V.goto dX5_total_86 (pc' := 29) (by decide) ?_
  refine V.pk [1, 2, 3, 4, 5, 6, 7, 0] rfl ?_
  exact hk29 h v1 v2 v3 v4 v5 v6 x9 hv6 q e
def sX5_total_c29 (k12 : Hp → Int32 → Int32 → Int32 → Int32 → Int32 → Option (Int32 × Hp)) (k29 : Hp → Int32 → Int32 → Int32 → Int32 → Int32 → Nat → Int32 → Option (Int32 × Hp)) (h : Hp) (v1 : Int32) (v2 : Int32) (v3 : Int32) (v4 : Int32) (v5 : Int32) (v6 : Nat) (v7 : Int32) : Option (Int32 × Hp) :=
  if (h.1 v6 14) ≤ v7 then (nm (v5 + (1 : Int32)) fun x4 => k12 h v1 v2 v3 v4 x4) else ((sX2_areaOf h v6 v7).bind fun q5 => if 0 ≤ q5.1 then (nm ((v1 + q5.1)) fun x6 => if q5.1 ≤ v3 then (sX5_total_c83 k12 k29 q5.2 x6 v2 v3 v4 v5 v6 v7) else (nm ((((100 : Int32) * v5) + v7)) fun x7 => sX5_total_c83 k12 k29 q5.2 x6 v2 q5.1 x7 v5 v6 v7)) else (nm (v2 + (1 : Int32)) fun x8 => sX5_total_c83 k12 k29 q5.2 v1 x8 v3 v4 v5 v6 v7))
set_option maxRecDepth 10000 in
theorem vX5_total_c29 (k12 : Hp → Int32 → Int32 → Int32 → Int32 → Int32 → Option (Int32 × Hp)) (hk12 : ∀ (h : Hp) (v1 : Int32) (v2 : Int32) (v3 : Int32) (v4 : Int32) (v5 : Int32) (q : (Int32 × Hp)), k12 h v1 v2 v3 v4 v5 = some q → V (Gs 4 (pI q)) mX5_total (0, 0) 12 [(0, .ref 1), (1, .int v1), (2, .int v2), (3, .int v3), (4, .int v4), (5, .int v5)] [] h) (k29 : Hp → Int32 → Int32 → Int32 → Int32 → Int32 → Nat → Int32 → Option (Int32 × Hp)) (hk29 : ∀ (h : Hp) (v1 : Int32) (v2 : Int32) (v3 : Int32) (v4 : Int32) (v5 : Int32) (v6 : Nat) (v7 : Int32) (hv6 : ck v6 = 2) (q : (Int32 × Hp)), k29 h v1 v2 v3 v4 v5 v6 v7 = some q → V (Gs 4 (pI q)) mX5_total (0, 0) 29 [(0, .ref 1), (1, .int v1), (2, .int v2), (3, .int v3), (4, .int v4), (5, .int v5), (6, .ref v6), (7, .int v7)] [] h) (h : Hp) (v1 : Int32) (v2 : Int32) (v3 : Int32) (v4 : Int32) (v5 : Int32) (v6 : Nat) (v7 : Int32) (hv6 : ck v6 = 2) (q : (Int32 × Hp)) (e : sX5_total_c29 k12 k29 h v1 v2 v3 v4 v5 v6 v7 = some q) : V (Gs 4 (pI q)) mX5_total (0, 0) 29 [(0, .ref 1), (1, .int v1), (2, .int v2), (3, .int v3), (4, .int v4), (5, .int v5), (6, .ref v6), (7, .int v7)] [] h := by
  unfold sX5_total_c29 at e
  refine V.il dX5_total_29 (pc' := 31) rfl (j := 7) rfl ?_
  refine V.al dX5_total_31 (pc' := 33) rfl (j := 6) rfl ?_
  refine V.getf dX5_total_33 (pc' := 36) rfl FL_X5_243 hv6 (by decide) rfl ?_
  refine V.ic_ge dX5_total_36 (pc' := 39) rfl (tgt := 89) (by decide) (fun c => ?_) (fun c => ?_)
  · rw [if_pos c] at e
    obtain ⟨x4, ex4, e⟩ := nm_s e
    refine V.iinc dX5_total_89 (pc' := 92) rfl (j := 5) rfl (v := 1) (by decide) (by decide) ex4 (L' := [(5, .int x4), (0, .ref 1), (1, .int v1), (2, .int v2), (3, .int v3), (4, .int v4), (6, .ref v6), (7, .int v7)]) rfl ?_
    refine V.goto dX5_total_92 (pc' := 12) (by decide) ?_
    refine V.pk [1, 2, 3, 4, 5, 0] rfl ?_
    exact hk12 h v1 v2 v3 v4 x4 q e
  · rw [if_neg c] at e
    refine V.al dX5_total_39 (pc' := 41) rfl (j := 6) rfl ?_
    refine V.il dX5_total_41 (pc' := 43) rfl (j := 7) rfl ?_
    obtain ⟨q5, eq5, e⟩ := bd_s e
    refine V.callVi dX5_total_43 (pc' := 46) rfl CV_X5_284 (as := [.int v7]) (kX2_areaOf h v6 v7 q5 eq5) (Gs_rm (by decide)) hv6 (by decide) rfl (Nat.le_of_ble_eq_true rfl) rfl ?_
    refine V.is dX5_total_46 (pc' := 48) rfl (by decide) rfl (L' := [(8, .int q5.1), (0, .ref 1), (1, .int v1), (2, .int v2), (3, .int v3), (4, .int v4), (5, .int v5), (6, .ref v6), (7, .int v7)]) rfl ?_
    refine V.il dX5_total_48 (pc' := 50) rfl (j := 0) rfl ?_
    refine V.if_ge dX5_total_50 (pc' := 53) rfl (tgt := 59) (by decide) (fun c => ?_) (fun c => ?_)
    · rw [if_pos c] at e
      refine V.ilq dX5_total_59 (pc' := 60) rfl (j := 2) rfl ?_
      refine V.il dX5_total_60 (pc' := 62) rfl (j := 0) rfl ?_
      refine V.iadd dX5_total_62 (pc' := 63) rfl ?_
      obtain ⟨x6, ex6, e⟩ := nm_s e
      refine V.isq dX5_total_63 (pc' := 64) rfl (by decide) ex6 (L' := [(1, .int x6), (8, .int q5.1), (0, .ref 1), (2, .int v2), (3, .int v3), (4, .int v4), (5, .int v5), (6, .ref v6), (7, .int v7)]) rfl ?_
      refine V.il dX5_total_64 (pc' := 66) rfl (j := 1) rfl ?_
      refine V.ilq dX5_total_66 (pc' := 67) rfl (j := 4) rfl ?_
      refine V.ic_le dX5_total_67 (pc' := 70) rfl (tgt := 83) (by decide) (fun c => ?_) (fun c => ?_)
      · rw [if_pos c] at e
        refine V.pk [2, 0, 3, 4, 5, 6, 7, 8] rfl ?_
        exact vX5_total_c83 k12 hk12 k29 hk29 q5.2 x6 v2 v3 v4 v5 v6 v7 hv6 q e
      · rw [if_neg c] at e
        refine V.il dX5_total_70 (pc' := 72) rfl (j := 1) rfl ?_
        refine V.isq dX5_total_72 (pc' := 73) rfl (by decide) rfl (L' := [(3, .int q5.1), (1, .int x6), (8, .int q5.1), (0, .ref 1), (2, .int v2), (4, .int v4), (5, .int v5), (6, .ref v6), (7, .int v7)]) rfl ?_
        refine V.bipush dX5_total_73 (pc' := 75) rfl (v := 100) (by decide) ?_
        refine V.il dX5_total_75 (pc' := 77) rfl (j := 6) rfl ?_
        refine V.imul dX5_total_77 (pc' := 78) rfl ?_
        refine V.il dX5_total_78 (pc' := 80) rfl (j := 8) rfl ?_
        refine V.iadd dX5_total_80 (pc' := 81) rfl ?_
        obtain ⟨x7, ex7, e⟩ := nm_s e
        refine V.is dX5_total_81 (pc' := 83) rfl (by decide) ex7 (L' := [(4, .int x7), (3, .int q5.1), (1, .int x6), (8, .int q5.1), (0, .ref 1), (2, .int v2), (5, .int v5), (6, .ref v6), (7, .int v7)]) rfl ?_
        refine V.pk [4, 2, 5, 1, 0, 6, 7, 8] rfl ?_
        exact vX5_total_c83 k12 hk12 k29 hk29 q5.2 x6 v2 q5.1 x7 v5 v6 v7 hv6 q e
    · rw [if_neg c] at e
      obtain ⟨x8, ex8, e⟩ := nm_s e
      refine V.iinc dX5_total_53 (pc' := 56) rfl (j := 3) rfl (v := 1) (by decide) (by decide) ex8 (L' := [(2, .int x8), (8, .int q5.1), (0, .ref 1), (1, .int v1), (3, .int v3), (4, .int v4), (5, .int v5), (6, .ref v6), (7, .int v7)]) rfl ?_
      refine V.goto dX5_total_56 (pc' := 83) (by decide) ?_
      refine V.pk [2, 3, 0, 4, 5, 6, 7, 8] rfl ?_
      exact vX5_total_c83 k12 hk12 k29 hk29 q5.2 v1 x8 v3 v4 v5 v6 v7 hv6 q e
def sX5_total_b29 (k12 : Hp → Int32 → Int32 → Int32 → Int32 → Int32 → Option (Int32 × Hp)) : Nat → Hp → Int32 → Int32 → Int32 → Int32 → Int32 → Nat → Int32 → Option (Int32 × Hp)
  | 0 => fun _ _ _ _ _ _ _ _ => none
  | n + 1 => sX5_total_c29 k12 (sX5_total_b29 k12 n)
theorem vX5_total_b29 (k12 : Hp → Int32 → Int32 → Int32 → Int32 → Int32 → Option (Int32 × Hp)) (hk12 : ∀ (h : Hp) (v1 : Int32) (v2 : Int32) (v3 : Int32) (v4 : Int32) (v5 : Int32) (q : (Int32 × Hp)), k12 h v1 v2 v3 v4 v5 = some q → V (Gs 4 (pI q)) mX5_total (0, 0) 12 [(0, .ref 1), (1, .int v1), (2, .int v2), (3, .int v3), (4, .int v4), (5, .int v5)] [] h) : ∀ (n : Nat) (h : Hp) (v1 : Int32) (v2 : Int32) (v3 : Int32) (v4 : Int32) (v5 : Int32) (v6 : Nat) (v7 : Int32) (hv6 : ck v6 = 2) (q : (Int32 × Hp)), sX5_total_b29 k12 n h v1 v2 v3 v4 v5 v6 v7 = some q → V (Gs 4 (pI q)) mX5_total (0, 0) 29 [(0, .ref 1), (1, .int v1), (2, .int v2), (3, .int v3), (4, .int v4), (5, .int v5), (6, .ref v6), (7, .int v7)] [] h
  | 0 => fun _ _ _ _ _ _ _ _ _ _ e => by cases e
  | n + 1 => fun h v1 v2 v3 v4 v5 v6 v7 hv6 q e => vX5_total_c29 k12 hk12 (sX5_total_b29 k12 n) (vX5_total_b29 k12 hk12 n) h v1 v2 v3 v4 v5 v6 v7 hv6 q e
def sX5_total_c12 (k12 : Hp → Int32 → Int32 → Int32 → Int32 → Int32 → Option (Int32 × Hp)) (h : Hp) (v1 : Int32) (v2 : Int32) (v3 : Int32) (v4 : Int32) (v5 : Int32) : Option (Int32 × Hp) :=
  if (2 : Int32) ≤ v5 then ((sX4_tell_ h v2.toInt64 v4.toInt64).bind fun q1 => some (v1, q1)) else ((sX5_sideOf h v5).bind fun q2 => gd (isC q2.1 2) (sX5_total_b29 k12 FU q2.2 v1 v2 v3 v4 v5 q2.1 (0 : Int32)))
set_option maxRecDepth 10000 in
theorem vX5_total_c12 (k12 : Hp → Int32 → Int32 → Int32 → Int32 → Int32 → Option (Int32 × Hp)) (hk12 : ∀ (h : Hp) (v1 : Int32) (v2 : Int32) (v3 : Int32) (v4 : Int32) (v5 : Int32) (q : (Int32 × Hp)), k12 h v1 v2 v3 v4 v5 = some q → V (Gs 4 (pI q)) mX5_total (0, 0) 12 [(0, .ref 1), (1, .int v1), (2, .int v2), (3, .int v3), (4, .int v4), (5, .int v5)] [] h) (h : Hp) (v1 : Int32) (v2 : Int32) (v3 : Int32) (v4 : Int32) (v5 : Int32) (q : (Int32 × Hp)) (e : sX5_total_c12 k12 h v1 v2 v3 v4 v5 = some q) : V (Gs 4 (pI q)) mX5_total (0, 0) 12 [(0, .ref 1), (1, .int v1), (2, .int v2), (3, .int v3), (4, .int v4), (5, .int v5)] [] h := by
  unfold sX5_total_c12 at e
  refine V.il dX5_total_12 (pc' := 14) rfl (j := 5) rfl ?_
  refine V.iconst dX5_total_14 (pc' := 15) rfl (v := 2) (by decide) ?_
  refine V.ic_ge dX5_total_15 (pc' := 18) rfl (tgt := 95) (by decide) (fun c => ?_) (fun c => ?_)
  · rw [if_pos c] at e
    refine V.alq dX5_total_95 (pc' := 96) rfl (j := 0) rfl ?_
    refine V.getr dX5_total_96 (pc' := 99) rfl FL_X5_19 rfl (by decide) rfl (r' := 4) rfl ?_
    refine V.ilq dX5_total_99 (pc' := 100) rfl (j := 2) rfl ?_
    refine V.i2l dX5_total_100 (pc' := 101) rfl ?_
    refine V.il dX5_total_101 (pc' := 103) rfl (j := 4) rfl ?_
    refine V.i2l dX5_total_103 (pc' := 104) rfl ?_
    obtain ⟨q1, eq1, e⟩ := bd_s e
    refine V.callVv dX5_total_104 (pc' := 107) rfl CV_X5_160 (as := [.long v2.toInt64, .long v4.toInt64]) (kX4_tell_ h v2.toInt64 v4.toInt64 q1 eq1) (Gs_rm (by decide)) rfl (by decide) rfl (Nat.le_of_ble_eq_true rfl) rfl ?_
    refine V.ilq dX5_total_107 (pc' := 108) rfl (j := 1) rfl ?_
    exact V.iret dX5_total_108 rfl (fnI e)
  · rw [if_neg c] at e
    refine V.alq dX5_total_18 (pc' := 19) rfl (j := 0) rfl ?_
    refine V.il dX5_total_19 (pc' := 21) rfl (j := 5) rfl ?_
    obtain ⟨q2, eq2, e⟩ := bd_s e
    refine V.callVr dX5_total_21 (pc' := 24) rfl CV_X5_214 (as := [.int v5]) (kX5_sideOf h v5 q2 eq2) (Gs_rm (by decide)) rfl (by decide) rfl (Nat.le_of_ble_eq_true rfl) rfl ?_
    obtain ⟨c3, e⟩ := gd_s e
    refine V.as dX5_total_24 (pc' := 26) rfl (by decide) rfl (L' := [(6, .ref q2.1), (0, .ref 1), (1, .int v1), (2, .int v2), (3, .int v3), (4, .int v4), (5, .int v5)]) rfl ?_
    refine V.iconst dX5_total_26 (pc' := 27) rfl (v := 0) (by decide) ?_
    refine V.is dX5_total_27 (pc' := 29) rfl (by decide) rfl (L' := [(7, .int (0 : Int32)), (6, .ref q2.1), (0, .ref 1), (1, .int v1), (2, .int v2), (3, .int v3), (4, .int v4), (5, .int v5)]) rfl ?_
    refine V.pk [2, 3, 4, 5, 6, 7, 1, 0] rfl ?_
    exact vX5_total_b29 k12 hk12 FU q2.2 v1 v2 v3 v4 v5 q2.1 (0 : Int32) (isC_t c3) q e
def sX5_total_b12 : Nat → Hp → Int32 → Int32 → Int32 → Int32 → Int32 → Option (Int32 × Hp)
  | 0 => fun _ _ _ _ _ _ => none
  | n + 1 => sX5_total_c12 (sX5_total_b12 n)
theorem vX5_total_b12 : ∀ (n : Nat) (h : Hp) (v1 : Int32) (v2 : Int32) (v3 : Int32) (v4 : Int32) (v5 : Int32) (q : (Int32 × Hp)), sX5_total_b12 n h v1 v2 v3 v4 v5 = some q → V (Gs 4 (pI q)) mX5_total (0, 0) 12 [(0, .ref 1), (1, .int v1), (2, .int v2), (3, .int v3), (4, .int v4), (5, .int v5)] [] h
  | 0 => fun _ _ _ _ _ _ _ e => by cases e
  | n + 1 => fun h v1 v2 v3 v4 v5 q e => vX5_total_c12 (sX5_total_b12 n) (vX5_total_b12 n) h v1 v2 v3 v4 v5 q e
def sX5_total (h : Hp) : Option (Int32 × Hp) :=
  sX5_total_b12 FU h (0 : Int32) (0 : Int32) (0 : Int32) (-1 : Int32) (0 : Int32)
set_option maxRecDepth 10000 in
theorem kX5_total (h : Hp) (q : (Int32 × Hp)) (e : sX5_total h = some q) : K 4 mX5_total [.ref 1] h (pI q) := by
  unfold sX5_total at e
  refine K.ofV (by decide) rfl (Nat.le_of_ble_eq_true rfl) ?_
  show V (Gs 4 (pI q)) mX5_total (0, 0) 0 [(0, .ref 1)] [] h
  refine V.iconst dX5_total_0 (pc' := 1) rfl (v := 0) (by decide) ?_
  refine V.isq dX5_total_1 (pc' := 2) rfl (by decide) rfl (L' := [(1, .int (0 : Int32)), (0, .ref 1)]) rfl ?_
  refine V.iconst dX5_total_2 (pc' := 3) rfl (v := 0) (by decide) ?_
  refine V.isq dX5_total_3 (pc' := 4) rfl (by decide) rfl (L' := [(2, .int (0 : Int32)), (1, .int (0 : Int32)), (0, .ref 1)]) rfl ?_
  refine V.iconst dX5_total_4 (pc' := 5) rfl (v := 0) (by decide) ?_
  refine V.isq dX5_total_5 (pc' := 6) rfl (by decide) rfl (L' := [(3, .int (0 : Int32)), (2, .int (0 : Int32)), (1, .int (0 : Int32)), (0, .ref 1)]) rfl ?_
  refine V.iconst dX5_total_6 (pc' := 7) rfl (v := -1) (by decide) ?_
  refine V.is dX5_total_7 (pc' := 9) rfl (by decide) rfl (L' := [(4, .int (-1 : Int32)), (3, .int (0 : Int32)), (2, .int (0 : Int32)), (1, .int (0 : Int32)), (0, .ref 1)]) rfl ?_
  refine V.iconst dX5_total_9 (pc' := 10) rfl (v := 0) (by decide) ?_
  refine V.is dX5_total_10 (pc' := 12) rfl (by decide) rfl (L' := [(5, .int (0 : Int32)), (4, .int (-1 : Int32)), (3, .int (0 : Int32)), (2, .int (0 : Int32)), (1, .int (0 : Int32)), (0, .ref 1)]) rfl ?_
  refine V.pk [5, 4, 3, 2, 1, 0] rfl ?_
  exact vX5_total_b12 FU h (0 : Int32) (0 : Int32) (0 : Int32) (-1 : Int32) (0 : Int32) q e

-- X5_loops (level 4)
theorem dX5_loops_0 : decode cX5_loops 0 = .ok (.iload_n 1, 1) := by decide +kernel
theorem dX5_loops_1 : decode cX5_loops 1 = .ok (.invokestatic 211, 3) := by decide +kernel
theorem dX5_loops_4 : decode cX5_loops 4 = .ok (.ifCond .ne 5, 3) := by decide +kernel
theorem dX5_loops_7 : decode cX5_loops 7 = .ok (.iconst (-1), 1) := by decide +kernel
theorem dX5_loops_8 : decode cX5_loops 8 = .ok (.ireturn, 1) := by decide +kernel
theorem dX5_loops_9 : decode cX5_loops 9 = .ok (.aload_n 0, 1) := by decide +kernel
theorem dX5_loops_10 : decode cX5_loops 10 = .ok (.iload_n 1, 1) := by decide +kernel
theorem dX5_loops_11 : decode cX5_loops 11 = .ok (.invokevirtual 214, 3) := by decide +kernel
theorem dX5_loops_14 : decode cX5_loops 14 = .ok (.astore_n 2, 1) := by decide +kernel
theorem dX5_loops_15 : decode cX5_loops 15 = .ok (.aload_n 2, 1) := by decide +kernel
theorem dX5_loops_16 : decode cX5_loops 16 = .ok (.invokevirtual 298, 3) := by decide +kernel
theorem dX5_loops_19 : decode cX5_loops 19 = .ok (.istore_n 3, 1) := by decide +kernel
theorem dX5_loops_20 : decode cX5_loops 20 = .ok (.iload_n 3, 1) := by decide +kernel
theorem dX5_loops_21 : decode cX5_loops 21 = .ok (.aload_n 2, 1) := by decide +kernel
theorem dX5_loops_22 : decode cX5_loops 22 = .ok (.invokevirtual 301, 3) := by decide +kernel
theorem dX5_loops_25 : decode cX5_loops 25 = .ok (.isub, 1) := by decide +kernel
theorem dX5_loops_26 : decode cX5_loops 26 = .ok (.istore 4, 2) := by decide +kernel
theorem dX5_loops_28 : decode cX5_loops 28 = .ok (.aload_n 0, 1) := by decide +kernel
theorem dX5_loops_29 : decode cX5_loops 29 = .ok (.getfield 19, 3) := by decide +kernel
theorem dX5_loops_32 : decode cX5_loops 32 = .ok (.aload_n 2, 1) := by decide +kernel
theorem dX5_loops_33 : decode cX5_loops 33 = .ok (.getfield 243, 3) := by decide +kernel
theorem dX5_loops_36 : decode cX5_loops 36 = .ok (.i2l, 1) := by decide +kernel
theorem dX5_loops_37 : decode cX5_loops 37 = .ok (.iload_n 3, 1) := by decide +kernel
theorem dX5_loops_38 : decode cX5_loops 38 = .ok (.i2l, 1) := by decide +kernel
theorem dX5_loops_39 : decode cX5_loops 39 = .ok (.iload 4, 2) := by decide +kernel
theorem dX5_loops_41 : decode cX5_loops 41 = .ok (.i2l, 1) := by decide +kernel
theorem dX5_loops_42 : decode cX5_loops 42 = .ok (.invokevirtual 225, 3) := by decide +kernel
theorem dX5_loops_45 : decode cX5_loops 45 = .ok (.aload_n 2, 1) := by decide +kernel
theorem dX5_loops_46 : decode cX5_loops 46 = .ok (.getfield 243, 3) := by decide +kernel
theorem dX5_loops_49 : decode cX5_loops 49 = .ok (.iload_n 3, 1) := by decide +kernel
theorem dX5_loops_50 : decode cX5_loops 50 = .ok (.isub, 1) := by decide +kernel
theorem dX5_loops_51 : decode cX5_loops 51 = .ok (.iload 4, 2) := by decide +kernel
theorem dX5_loops_53 : decode cX5_loops 53 = .ok (.iadd, 1) := by decide +kernel
theorem dX5_loops_54 : decode cX5_loops 54 = .ok (.ireturn, 1) := by decide +kernel
def sX5_loops (h : Hp) (a1 : Int32) : Option (Int32 × Hp) :=
  (sX5_isSide h a1).bind fun q1 => if q1.1 = 0 then (some ((-1 : Int32), q1.2)) else ((sX5_sideOf q1.2 a1).bind fun q2 => gd (isC q2.1 2) ((sX2_joinedStreams q2.2 q2.1).bind fun q4 => (sX2_mergers q4.2 q2.1).bind fun q5 => nm ((q4.1 - q5.1)) fun x6 => (sX4_tell__ q5.2 ((q5.2.1 q2.1 14).toInt64) q4.1.toInt64 x6.toInt64).bind fun q7 => some ((((q7.1 q2.1 14) - q4.1) + x6), q7)))
set_option maxRecDepth 10000 in
theorem kX5_loops (h : Hp) (a1 : Int32) (q : (Int32 × Hp)) (e : sX5_loops h a1 = some q) : K 4 mX5_loops [.ref 1, .int a1] h (pI q) := by
  unfold sX5_loops at e
  refine K.ofV (by decide) rfl (Nat.le_of_ble_eq_true rfl) ?_
  show V (Gs 4 (pI q)) mX5_loops (0, 0) 0 [(0, .ref 1), (1, .int a1)] [] h
  refine V.ilq dX5_loops_0 (pc' := 1) rfl (j := 1) rfl ?_
  obtain ⟨q1, eq1, e⟩ := bd_s e
  refine V.callSi dX5_loops_1 (pc' := 4) rfl CS_X5_211 (as := [.int a1]) (kX5_isSide h a1 q1 eq1) (Gs_rm (by decide)) rfl (Nat.le_of_ble_eq_true rfl) rfl ?_
  refine V.if_ne dX5_loops_4 (pc' := 7) rfl (tgt := 9) (by decide) (fun c => ?_) (fun c => ?_)
  · rw [if_neg c] at e
    refine V.alq dX5_loops_9 (pc' := 10) rfl (j := 0) rfl ?_
    refine V.ilq dX5_loops_10 (pc' := 11) rfl (j := 1) rfl ?_
    obtain ⟨q2, eq2, e⟩ := bd_s e
    refine V.callVr dX5_loops_11 (pc' := 14) rfl CV_X5_214 (as := [.int a1]) (kX5_sideOf q1.2 a1 q2 eq2) (Gs_rm (by decide)) rfl (by decide) rfl (Nat.le_of_ble_eq_true rfl) rfl ?_
    obtain ⟨c3, e⟩ := gd_s e
    refine V.asq dX5_loops_14 (pc' := 15) rfl (by decide) rfl (L' := [(2, .ref q2.1), (0, .ref 1), (1, .int a1)]) rfl ?_
    refine V.alq dX5_loops_15 (pc' := 16) rfl (j := 0) rfl ?_
    obtain ⟨q4, eq4, e⟩ := bd_s e
    refine V.callVi dX5_loops_16 (pc' := 19) rfl CV_X5_298 (as := []) (kX2_joinedStreams q2.2 q2.1 q4 eq4) (Gs_rm (by decide)) (isC_t c3) (by decide) rfl (Nat.le_of_ble_eq_true rfl) rfl ?_
    refine V.isq dX5_loops_19 (pc' := 20) rfl (by decide) rfl (L' := [(3, .int q4.1), (2, .ref q2.1), (0, .ref 1), (1, .int a1)]) rfl ?_
    refine V.ilq dX5_loops_20 (pc' := 21) rfl (j := 0) rfl ?_
    refine V.alq dX5_loops_21 (pc' := 22) rfl (j := 1) rfl ?_
    obtain ⟨q5, eq5, e⟩ := bd_s e
    refine V.callVi dX5_loops_22 (pc' := 25) rfl CV_X5_301 (as := []) (kX2_mergers q4.2 q2.1 q5 eq5) (Gs_rm (by decide)) (isC_t c3) (by decide) rfl (Nat.le_of_ble_eq_true rfl) rfl ?_
    refine V.isub dX5_loops_25 (pc' := 26) rfl ?_
    obtain ⟨x6, ex6, e⟩ := nm_s e
    refine V.is dX5_loops_26 (pc' := 28) rfl (by decide) ex6 (L' := [(4, .int x6), (3, .int q4.1), (2, .ref q2.1), (0, .ref 1), (1, .int a1)]) rfl ?_
    refine V.alq dX5_loops_28 (pc' := 29) rfl (j := 3) rfl ?_
    refine V.getr dX5_loops_29 (pc' := 32) rfl FL_X5_19 rfl (by decide) rfl (r' := 4) rfl ?_
    refine V.alq dX5_loops_32 (pc' := 33) rfl (j := 2) rfl ?_
    refine V.getf dX5_loops_33 (pc' := 36) rfl FL_X5_243 (isC_t c3) (by decide) rfl ?_
    refine V.i2l dX5_loops_36 (pc' := 37) rfl ?_
    refine V.ilq dX5_loops_37 (pc' := 38) rfl (j := 1) rfl ?_
    refine V.i2l dX5_loops_38 (pc' := 39) rfl ?_
    refine V.il dX5_loops_39 (pc' := 41) rfl (j := 0) rfl ?_
    refine V.i2l dX5_loops_41 (pc' := 42) rfl ?_
    obtain ⟨q7, eq7, e⟩ := bd_s e
    refine V.callVv dX5_loops_42 (pc' := 45) rfl CV_X5_225 (as := [.long ((q5.2.1 q2.1 14).toInt64), .long q4.1.toInt64, .long x6.toInt64]) (kX4_tell__ q5.2 ((q5.2.1 q2.1 14).toInt64) q4.1.toInt64 x6.toInt64 q7 eq7) (Gs_rm (by decide)) rfl (by decide) rfl (Nat.le_of_ble_eq_true rfl) rfl ?_
    refine V.alq dX5_loops_45 (pc' := 46) rfl (j := 2) rfl ?_
    refine V.getf dX5_loops_46 (pc' := 49) rfl FL_X5_243 (isC_t c3) (by decide) rfl ?_
    refine V.ilq dX5_loops_49 (pc' := 50) rfl (j := 1) rfl ?_
    refine V.isub dX5_loops_50 (pc' := 51) rfl ?_
    refine V.il dX5_loops_51 (pc' := 53) rfl (j := 0) rfl ?_
    refine V.iadd dX5_loops_53 (pc' := 54) rfl ?_
    exact V.iret dX5_loops_54 rfl (fnI e)
  · rw [if_pos c] at e
    refine V.iconst dX5_loops_7 (pc' := 8) rfl (v := -1) (by decide) ?_
    exact V.iret dX5_loops_8 rfl (fnI e)

-- X5_settle (level 4)
theorem dX5_settle_0 : decode cX5_settle 0 = .ok (.aload_n 0, 1) := by decide +kernel
theorem dX5_settle_1 : decode cX5_settle 1 = .ok (.getfield 36, 3) := by decide +kernel
theorem dX5_settle_4 : decode cX5_settle 4 = .ok (.aload_n 0, 1) := by decide +kernel
theorem dX5_settle_5 : decode cX5_settle 5 = .ok (.getfield 26, 3) := by decide +kernel
theorem dX5_settle_8 : decode cX5_settle 8 = .ok (.aload_n 0, 1) := by decide +kernel
theorem dX5_settle_9 : decode cX5_settle 9 = .ok (.getfield 55, 3) := by decide +kernel
theorem dX5_settle_12 : decode cX5_settle 12 = .ok (.invokevirtual 204, 3) := by decide +kernel
theorem dX5_settle_15 : decode cX5_settle 15 = .ok (.aload_n 0, 1) := by decide +kernel
theorem dX5_settle_16 : decode cX5_settle 16 = .ok (.getfield 48, 3) := by decide +kernel
theorem dX5_settle_19 : decode cX5_settle 19 = .ok (.aload_n 0, 1) := by decide +kernel
theorem dX5_settle_20 : decode cX5_settle 20 = .ok (.getfield 26, 3) := by decide +kernel
theorem dX5_settle_23 : decode cX5_settle 23 = .ok (.aload_n 0, 1) := by decide +kernel
theorem dX5_settle_24 : decode cX5_settle 24 = .ok (.getfield 36, 3) := by decide +kernel
theorem dX5_settle_27 : decode cX5_settle 27 = .ok (.invokevirtual 172, 3) := by decide +kernel
theorem dX5_settle_30 : decode cX5_settle 30 = .ok (.aload_n 0, 1) := by decide +kernel
theorem dX5_settle_31 : decode cX5_settle 31 = .ok (.getfield 55, 3) := by decide +kernel
theorem dX5_settle_34 : decode cX5_settle 34 = .ok (.invokevirtual 330, 3) := by decide +kernel
theorem dX5_settle_37 : decode cX5_settle 37 = .ok (.aload_n 0, 1) := by decide +kernel
theorem dX5_settle_38 : decode cX5_settle 38 = .ok (.getfield 52, 3) := by decide +kernel
theorem dX5_settle_41 : decode cX5_settle 41 = .ok (.aload_n 0, 1) := by decide +kernel
theorem dX5_settle_42 : decode cX5_settle 42 = .ok (.getfield 26, 3) := by decide +kernel
theorem dX5_settle_45 : decode cX5_settle 45 = .ok (.aload_n 0, 1) := by decide +kernel
theorem dX5_settle_46 : decode cX5_settle 46 = .ok (.getfield 36, 3) := by decide +kernel
theorem dX5_settle_49 : decode cX5_settle 49 = .ok (.invokevirtual 172, 3) := by decide +kernel
theorem dX5_settle_52 : decode cX5_settle 52 = .ok (.aload_n 0, 1) := by decide +kernel
theorem dX5_settle_53 : decode cX5_settle 53 = .ok (.getfield 55, 3) := by decide +kernel
theorem dX5_settle_56 : decode cX5_settle 56 = .ok (.invokevirtual 330, 3) := by decide +kernel
theorem dX5_settle_59 : decode cX5_settle 59 = .ok (.return_, 1) := by decide +kernel
def sX5_settle (h : Hp) : Option Hp :=
  (sX0_work h 16 6 (h.1 1 8)).bind fun q1 => (sX0_pinchAt q1 16).bind fun q2 => (sX2_lay q2.2 26 6 q2.1 (q2.2.1 1 8)).bind fun q3 => (sX0_pinchAt q3 16).bind fun q4 => (sX2_lay q4.2 40 6 q4.1 (q4.2.1 1 8)).bind fun q5 => some q5
set_option maxRecDepth 10000 in
theorem kX5_settle (h : Hp) (q : Hp) (e : sX5_settle h = some q) : K 4 mX5_settle [.ref 1] h (pV q) := by
  unfold sX5_settle at e
  refine K.ofV (by decide) rfl (Nat.le_of_ble_eq_true rfl) ?_
  show V (Gs 4 (pV q)) mX5_settle (0, 0) 0 [(0, .ref 1)] [] h
  refine V.alq dX5_settle_0 (pc' := 1) rfl (j := 0) rfl ?_
  refine V.getr dX5_settle_1 (pc' := 4) rfl FL_X5_36 rfl (by decide) rfl (r' := 16) rfl ?_
  refine V.alq dX5_settle_4 (pc' := 5) rfl (j := 0) rfl ?_
  refine V.getr dX5_settle_5 (pc' := 8) rfl FL_X5_26 rfl (by decide) rfl (r' := 6) rfl ?_
  refine V.alq dX5_settle_8 (pc' := 9) rfl (j := 0) rfl ?_
  refine V.getf dX5_settle_9 (pc' := 12) rfl FL_X5_55 rfl (by decide) rfl ?_
  obtain ⟨q1, eq1, e⟩ := bd_s e
  refine V.callVv dX5_settle_12 (pc' := 15) rfl CV_X5_204 (as := [.ref 6, .int (h.1 1 8)]) (kX0_work h 16 6 (h.1 1 8) q1 eq1) (Gs_rm (by decide)) rfl (by decide) rfl (Nat.le_of_ble_eq_true rfl) rfl ?_
  refine V.alq dX5_settle_15 (pc' := 16) rfl (j := 0) rfl ?_
  refine V.getr dX5_settle_16 (pc' := 19) rfl FL_X5_48 rfl (by decide) rfl (r' := 26) rfl ?_
  refine V.alq dX5_settle_19 (pc' := 20) rfl (j := 0) rfl ?_
  refine V.getr dX5_settle_20 (pc' := 23) rfl FL_X5_26 rfl (by decide) rfl (r' := 6) rfl ?_
  refine V.alq dX5_settle_23 (pc' := 24) rfl (j := 0) rfl ?_
  refine V.getr dX5_settle_24 (pc' := 27) rfl FL_X5_36 rfl (by decide) rfl (r' := 16) rfl ?_
  obtain ⟨q2, eq2, e⟩ := bd_s e
  refine V.callVi dX5_settle_27 (pc' := 30) rfl CV_X5_172 (as := []) (kX0_pinchAt q1 16 q2 eq2) (Gs_rm (by decide)) rfl (by decide) rfl (Nat.le_of_ble_eq_true rfl) rfl ?_
  refine V.alq dX5_settle_30 (pc' := 31) rfl (j := 0) rfl ?_
  refine V.getf dX5_settle_31 (pc' := 34) rfl FL_X5_55 rfl (by decide) rfl ?_
  obtain ⟨q3, eq3, e⟩ := bd_s e
  refine V.callVv dX5_settle_34 (pc' := 37) rfl CV_X5_330 (as := [.ref 6, .int q2.1, .int (q2.2.1 1 8)]) (kX2_lay q2.2 26 6 q2.1 (q2.2.1 1 8) q3 eq3) (Gs_rm (by decide)) rfl (by decide) rfl (Nat.le_of_ble_eq_true rfl) rfl ?_
  refine V.alq dX5_settle_37 (pc' := 38) rfl (j := 0) rfl ?_
  refine V.getr dX5_settle_38 (pc' := 41) rfl FL_X5_52 rfl (by decide) rfl (r' := 40) rfl ?_
  refine V.alq dX5_settle_41 (pc' := 42) rfl (j := 0) rfl ?_
  refine V.getr dX5_settle_42 (pc' := 45) rfl FL_X5_26 rfl (by decide) rfl (r' := 6) rfl ?_
  refine V.alq dX5_settle_45 (pc' := 46) rfl (j := 0) rfl ?_
  refine V.getr dX5_settle_46 (pc' := 49) rfl FL_X5_36 rfl (by decide) rfl (r' := 16) rfl ?_
  obtain ⟨q4, eq4, e⟩ := bd_s e
  refine V.callVi dX5_settle_49 (pc' := 52) rfl CV_X5_172 (as := []) (kX0_pinchAt q3 16 q4 eq4) (Gs_rm (by decide)) rfl (by decide) rfl (Nat.le_of_ble_eq_true rfl) rfl ?_
  refine V.alq dX5_settle_52 (pc' := 53) rfl (j := 0) rfl ?_
  refine V.getf dX5_settle_53 (pc' := 56) rfl FL_X5_55 rfl (by decide) rfl ?_
  obtain ⟨q5, eq5, e⟩ := bd_s e
  refine V.callVv dX5_settle_56 (pc' := 59) rfl CV_X5_330 (as := [.ref 6, .int q4.1, .int (q4.2.1 1 8)]) (kX2_lay q4.2 40 6 q4.1 (q4.2.1 1 8) q5 eq5) (Gs_rm (by decide)) rfl (by decide) rfl (Nat.le_of_ble_eq_true rfl) rfl ?_
  exact V.vret dX5_settle_59 rfl (fnV e)

-- X5_fuelOfOther (level 4)
theorem dX5_fuelOfOther_0 : decode cX5_fuelOfOther 0 = .ok (.aload_n 0, 1) := by decide +kernel
theorem dX5_fuelOfOther_1 : decode cX5_fuelOfOther 1 = .ok (.getfield 40, 3) := by decide +kernel
theorem dX5_fuelOfOther_4 : decode cX5_fuelOfOther 4 = .ok (.aload_n 0, 1) := by decide +kernel
theorem dX5_fuelOfOther_5 : decode cX5_fuelOfOther 5 = .ok (.getfield 30, 3) := by decide +kernel
theorem dX5_fuelOfOther_8 : decode cX5_fuelOfOther 8 = .ok (.aload_n 0, 1) := by decide +kernel
theorem dX5_fuelOfOther_9 : decode cX5_fuelOfOther 9 = .ok (.getfield 55, 3) := by decide +kernel
theorem dX5_fuelOfOther_12 : decode cX5_fuelOfOther 12 = .ok (.invokevirtual 204, 3) := by decide +kernel
theorem dX5_fuelOfOther_15 : decode cX5_fuelOfOther 15 = .ok (.aload_n 0, 1) := by decide +kernel
theorem dX5_fuelOfOther_16 : decode cX5_fuelOfOther 16 = .ok (.getfield 19, 3) := by decide +kernel
theorem dX5_fuelOfOther_19 : decode cX5_fuelOfOther 19 = .ok (.aload_n 0, 1) := by decide +kernel
theorem dX5_fuelOfOther_20 : decode cX5_fuelOfOther 20 = .ok (.getfield 40, 3) := by decide +kernel
theorem dX5_fuelOfOther_23 : decode cX5_fuelOfOther 23 = .ok (.invokevirtual 156, 3) := by decide +kernel
theorem dX5_fuelOfOther_26 : decode cX5_fuelOfOther 26 = .ok (.i2l, 1) := by decide +kernel
theorem dX5_fuelOfOther_27 : decode cX5_fuelOfOther 27 = .ok (.aload_n 0, 1) := by decide +kernel
theorem dX5_fuelOfOther_28 : decode cX5_fuelOfOther 28 = .ok (.getfield 40, 3) := by decide +kernel
theorem dX5_fuelOfOther_31 : decode cX5_fuelOfOther 31 = .ok (.getfield 163, 3) := by decide +kernel
theorem dX5_fuelOfOther_34 : decode cX5_fuelOfOther 34 = .ok (.aload_n 0, 1) := by decide +kernel
theorem dX5_fuelOfOther_35 : decode cX5_fuelOfOther 35 = .ok (.getfield 36, 3) := by decide +kernel
theorem dX5_fuelOfOther_38 : decode cX5_fuelOfOther 38 = .ok (.getfield 163, 3) := by decide +kernel
theorem dX5_fuelOfOther_41 : decode cX5_fuelOfOther 41 = .ok (.isub, 1) := by decide +kernel
theorem dX5_fuelOfOther_42 : decode cX5_fuelOfOther 42 = .ok (.i2l, 1) := by decide +kernel
theorem dX5_fuelOfOther_43 : decode cX5_fuelOfOther 43 = .ok (.invokevirtual 160, 3) := by decide +kernel
theorem dX5_fuelOfOther_46 : decode cX5_fuelOfOther 46 = .ok (.aload_n 0, 1) := by decide +kernel
theorem dX5_fuelOfOther_47 : decode cX5_fuelOfOther 47 = .ok (.getfield 40, 3) := by decide +kernel
theorem dX5_fuelOfOther_50 : decode cX5_fuelOfOther 50 = .ok (.getfield 163, 3) := by decide +kernel
theorem dX5_fuelOfOther_53 : decode cX5_fuelOfOther 53 = .ok (.ireturn, 1) := by decide +kernel
def sX5_fuelOfOther (h : Hp) : Option (Int32 × Hp) :=
  (sX0_work h 21 11 (h.1 1 8)).bind fun q1 => (sX0_cool q1 21).bind fun q2 => (sX4_tell_ q2.2 q2.1.toInt64 (((q2.2.1 21 5) - (q2.2.1 16 5)).toInt64)).bind fun q3 => some ((q3.1 21 5), q3)
set_option maxRecDepth 10000 in
theorem kX5_fuelOfOther (h : Hp) (q : (Int32 × Hp)) (e : sX5_fuelOfOther h = some q) : K 4 mX5_fuelOfOther [.ref 1] h (pI q) := by
  unfold sX5_fuelOfOther at e
  refine K.ofV (by decide) rfl (Nat.le_of_ble_eq_true rfl) ?_
  show V (Gs 4 (pI q)) mX5_fuelOfOther (0, 0) 0 [(0, .ref 1)] [] h
  refine V.alq dX5_fuelOfOther_0 (pc' := 1) rfl (j := 0) rfl ?_
  refine V.getr dX5_fuelOfOther_1 (pc' := 4) rfl FL_X5_40 rfl (by decide) rfl (r' := 21) rfl ?_
  refine V.alq dX5_fuelOfOther_4 (pc' := 5) rfl (j := 0) rfl ?_
  refine V.getr dX5_fuelOfOther_5 (pc' := 8) rfl FL_X5_30 rfl (by decide) rfl (r' := 11) rfl ?_
  refine V.alq dX5_fuelOfOther_8 (pc' := 9) rfl (j := 0) rfl ?_
  refine V.getf dX5_fuelOfOther_9 (pc' := 12) rfl FL_X5_55 rfl (by decide) rfl ?_
  obtain ⟨q1, eq1, e⟩ := bd_s e
  refine V.callVv dX5_fuelOfOther_12 (pc' := 15) rfl CV_X5_204 (as := [.ref 11, .int (h.1 1 8)]) (kX0_work h 21 11 (h.1 1 8) q1 eq1) (Gs_rm (by decide)) rfl (by decide) rfl (Nat.le_of_ble_eq_true rfl) rfl ?_
  refine V.alq dX5_fuelOfOther_15 (pc' := 16) rfl (j := 0) rfl ?_
  refine V.getr dX5_fuelOfOther_16 (pc' := 19) rfl FL_X5_19 rfl (by decide) rfl (r' := 4) rfl ?_
  refine V.alq dX5_fuelOfOther_19 (pc' := 20) rfl (j := 0) rfl ?_
  refine V.getr dX5_fuelOfOther_20 (pc' := 23) rfl FL_X5_40 rfl (by decide) rfl (r' := 21) rfl ?_
  obtain ⟨q2, eq2, e⟩ := bd_s e
  refine V.callVi dX5_fuelOfOther_23 (pc' := 26) rfl CV_X5_156 (as := []) (kX0_cool q1 21 q2 eq2) (Gs_rm (by decide)) rfl (by decide) rfl (Nat.le_of_ble_eq_true rfl) rfl ?_
  refine V.i2l dX5_fuelOfOther_26 (pc' := 27) rfl ?_
  refine V.alq dX5_fuelOfOther_27 (pc' := 28) rfl (j := 0) rfl ?_
  refine V.getr dX5_fuelOfOther_28 (pc' := 31) rfl FL_X5_40 rfl (by decide) rfl (r' := 21) rfl ?_
  refine V.getf dX5_fuelOfOther_31 (pc' := 34) rfl FL_X5_163 rfl (by decide) rfl ?_
  refine V.alq dX5_fuelOfOther_34 (pc' := 35) rfl (j := 0) rfl ?_
  refine V.getr dX5_fuelOfOther_35 (pc' := 38) rfl FL_X5_36 rfl (by decide) rfl (r' := 16) rfl ?_
  refine V.getf dX5_fuelOfOther_38 (pc' := 41) rfl FL_X5_163 rfl (by decide) rfl ?_
  refine V.isub dX5_fuelOfOther_41 (pc' := 42) rfl ?_
  refine V.i2l dX5_fuelOfOther_42 (pc' := 43) rfl ?_
  obtain ⟨q3, eq3, e⟩ := bd_s e
  refine V.callVv dX5_fuelOfOther_43 (pc' := 46) rfl CV_X5_160 (as := [.long q2.1.toInt64, .long (((q2.2.1 21 5) - (q2.2.1 16 5)).toInt64)]) (kX4_tell_ q2.2 q2.1.toInt64 (((q2.2.1 21 5) - (q2.2.1 16 5)).toInt64) q3 eq3) (Gs_rm (by decide)) rfl (by decide) rfl (Nat.le_of_ble_eq_true rfl) rfl ?_
  refine V.alq dX5_fuelOfOther_46 (pc' := 47) rfl (j := 0) rfl ?_
  refine V.getr dX5_fuelOfOther_47 (pc' := 50) rfl FL_X5_40 rfl (by decide) rfl (r' := 21) rfl ?_
  refine V.getf dX5_fuelOfOther_50 (pc' := 53) rfl FL_X5_163 rfl (by decide) rfl ?_
  exact V.iret dX5_fuelOfOther_53 rfl (fnI e)

-- X6_streams (level 4)
theorem dX6_streams_0 : decode cX6_streams 0 = .ok (.aload_n 0, 1) := by decide +kernel
theorem dX6_streams_1 : decode cX6_streams 1 = .ok (.iconst 0, 1) := by decide +kernel
theorem dX6_streams_2 : decode cX6_streams 2 = .ok (.putfield 1, 3) := by decide +kernel
theorem dX6_streams_5 : decode cX6_streams 5 = .ok (.aload_n 0, 1) := by decide +kernel
theorem dX6_streams_6 : decode cX6_streams 6 = .ok (.aload_n 0, 1) := by decide +kernel
theorem dX6_streams_7 : decode cX6_streams 7 = .ok (.getfield 22, 3) := by decide +kernel
theorem dX6_streams_10 : decode cX6_streams 10 = .ok (.putfield 36, 3) := by decide +kernel
theorem dX6_streams_13 : decode cX6_streams 13 = .ok (.aload_n 0, 1) := by decide +kernel
theorem dX6_streams_14 : decode cX6_streams 14 = .ok (.iconst 0, 1) := by decide +kernel
theorem dX6_streams_15 : decode cX6_streams 15 = .ok (.putfield 22, 3) := by decide +kernel
theorem dX6_streams_18 : decode cX6_streams 18 = .ok (.aload_n 0, 1) := by decide +kernel
theorem dX6_streams_19 : decode cX6_streams 19 = .ok (.iconst 0, 1) := by decide +kernel
theorem dX6_streams_20 : decode cX6_streams 20 = .ok (.putfield 33, 3) := by decide +kernel
theorem dX6_streams_23 : decode cX6_streams 23 = .ok (.iconst 0, 1) := by decide +kernel
theorem dX6_streams_24 : decode cX6_streams 24 = .ok (.istore_n 1, 1) := by decide +kernel
theorem dX6_streams_25 : decode cX6_streams 25 = .ok (.aload_n 0, 1) := by decide +kernel
theorem dX6_streams_26 : decode cX6_streams 26 = .ok (.getfield 33, 3) := by decide +kernel
theorem dX6_streams_29 : decode cX6_streams 29 = .ok (.aload_n 0, 1) := by decide +kernel
theorem dX6_streams_30 : decode cX6_streams 30 = .ok (.getfield 36, 3) := by decide +kernel
theorem dX6_streams_33 : decode cX6_streams 33 = .ok (.if_icmp .ge 53, 3) := by decide +kernel
theorem dX6_streams_36 : decode cX6_streams 36 = .ok (.iload_n 1, 1) := by decide +kernel
theorem dX6_streams_37 : decode cX6_streams 37 = .ok (.ifCond .eq 18, 3) := by decide +kernel
theorem dX6_streams_40 : decode cX6_streams 40 = .ok (.iload_n 1, 1) := by decide +kernel
theorem dX6_streams_41 : decode cX6_streams 41 = .ok (.bipush 10, 2) := by decide +kernel
theorem dX6_streams_43 : decode cX6_streams 43 = .ok (.if_icmp .ge 16, 3) := by decide +kernel
theorem dX6_streams_46 : decode cX6_streams 46 = .ok (.aload_n 0, 1) := by decide +kernel
theorem dX6_streams_47 : decode cX6_streams 47 = .ok (.bipush 44, 2) := by decide +kernel
theorem dX6_streams_49 : decode cX6_streams 49 = .ok (.invokevirtual 114, 3) := by decide +kernel
theorem dX6_streams_52 : decode cX6_streams 52 = .ok (.ifCond .eq 7, 3) := by decide +kernel
theorem dX6_streams_55 : decode cX6_streams 55 = .ok (.iconst 1, 1) := by decide +kernel
theorem dX6_streams_56 : decode cX6_streams 56 = .ok (.goto 4, 3) := by decide +kernel
theorem dX6_streams_59 : decode cX6_streams 59 = .ok (.iconst 0, 1) := by decide +kernel
theorem dX6_streams_60 : decode cX6_streams 60 = .ok (.istore_n 2, 1) := by decide +kernel
theorem dX6_streams_61 : decode cX6_streams 61 = .ok (.iload_n 2, 1) := by decide +kernel
theorem dX6_streams_62 : decode cX6_streams 62 = .ok (.ifCond .eq 11, 3) := by decide +kernel
theorem dX6_streams_65 : decode cX6_streams 65 = .ok (.aload_n 0, 1) := by decide +kernel
theorem dX6_streams_66 : decode cX6_streams 66 = .ok (.iload_n 1, 1) := by decide +kernel
theorem dX6_streams_67 : decode cX6_streams 67 = .ok (.invokevirtual 128, 3) := by decide +kernel
theorem dX6_streams_70 : decode cX6_streams 70 = .ok (.ifCond .ne 10, 3) := by decide +kernel
theorem dX6_streams_73 : decode cX6_streams 73 = .ok (.iconst (-1), 1) := by decide +kernel
theorem dX6_streams_74 : decode cX6_streams 74 = .ok (.aload_n 0, 1) := by decide +kernel
theorem dX6_streams_75 : decode cX6_streams 75 = .ok (.getfield 33, 3) := by decide +kernel
theorem dX6_streams_78 : decode cX6_streams 78 = .ok (.isub, 1) := by decide +kernel
theorem dX6_streams_79 : decode cX6_streams 79 = .ok (.ireturn, 1) := by decide +kernel
theorem dX6_streams_80 : decode cX6_streams 80 = .ok (.iinc 1 1, 3) := by decide +kernel
theorem dX6_streams_83 : decode cX6_streams 83 = .ok (.goto (-58), 3) := by decide +kernel
theorem dX6_streams_86 : decode cX6_streams 86 = .ok (.aload_n 0, 1) := by decide +kernel
theorem dX6_streams_87 : decode cX6_streams 87 = .ok (.iload_n 1, 1) := by decide +kernel
theorem dX6_streams_88 : decode cX6_streams 88 = .ok (.putfield 131, 3) := by decide +kernel
theorem dX6_streams_91 : decode cX6_streams 91 = .ok (.iconst 0, 1) := by decide +kernel
theorem dX6_streams_92 : decode cX6_streams 92 = .ok (.istore_n 2, 1) := by decide +kernel
theorem dX6_streams_93 : decode cX6_streams 93 = .ok (.iload_n 2, 1) := by decide +kernel
theorem dX6_streams_94 : decode cX6_streams 94 = .ok (.iload_n 1, 1) := by decide +kernel
theorem dX6_streams_95 : decode cX6_streams 95 = .ok (.if_icmp .ge 45, 3) := by decide +kernel
theorem dX6_streams_98 : decode cX6_streams 98 = .ok (.aload_n 0, 1) := by decide +kernel
theorem dX6_streams_99 : decode cX6_streams 99 = .ok (.getfield 57, 3) := by decide +kernel
theorem dX6_streams_102 : decode cX6_streams 102 = .ok (.iload_n 2, 1) := by decide +kernel
theorem dX6_streams_103 : decode cX6_streams 103 = .ok (.aload_n 0, 1) := by decide +kernel
theorem dX6_streams_104 : decode cX6_streams 104 = .ok (.getfield 69, 3) := by decide +kernel
theorem dX6_streams_107 : decode cX6_streams 107 = .ok (.iload_n 2, 1) := by decide +kernel
theorem dX6_streams_108 : decode cX6_streams 108 = .ok (.iaload, 1) := by decide +kernel
theorem dX6_streams_109 : decode cX6_streams 109 = .ok (.iastore, 1) := by decide +kernel
theorem dX6_streams_110 : decode cX6_streams 110 = .ok (.aload_n 0, 1) := by decide +kernel
theorem dX6_streams_111 : decode cX6_streams 111 = .ok (.getfield 60, 3) := by decide +kernel
theorem dX6_streams_114 : decode cX6_streams 114 = .ok (.iload_n 2, 1) := by decide +kernel
theorem dX6_streams_115 : decode cX6_streams 115 = .ok (.aload_n 0, 1) := by decide +kernel
theorem dX6_streams_116 : decode cX6_streams 116 = .ok (.getfield 72, 3) := by decide +kernel
theorem dX6_streams_119 : decode cX6_streams 119 = .ok (.iload_n 2, 1) := by decide +kernel
theorem dX6_streams_120 : decode cX6_streams 120 = .ok (.iaload, 1) := by decide +kernel
theorem dX6_streams_121 : decode cX6_streams 121 = .ok (.iastore, 1) := by decide +kernel
theorem dX6_streams_122 : decode cX6_streams 122 = .ok (.aload_n 0, 1) := by decide +kernel
theorem dX6_streams_123 : decode cX6_streams 123 = .ok (.getfield 63, 3) := by decide +kernel
theorem dX6_streams_126 : decode cX6_streams 126 = .ok (.iload_n 2, 1) := by decide +kernel
theorem dX6_streams_127 : decode cX6_streams 127 = .ok (.aload_n 0, 1) := by decide +kernel
theorem dX6_streams_128 : decode cX6_streams 128 = .ok (.getfield 75, 3) := by decide +kernel
theorem dX6_streams_131 : decode cX6_streams 131 = .ok (.iload_n 2, 1) := by decide +kernel
theorem dX6_streams_132 : decode cX6_streams 132 = .ok (.iaload, 1) := by decide +kernel
theorem dX6_streams_133 : decode cX6_streams 133 = .ok (.iastore, 1) := by decide +kernel
theorem dX6_streams_134 : decode cX6_streams 134 = .ok (.iinc 2 1, 3) := by decide +kernel
theorem dX6_streams_137 : decode cX6_streams 137 = .ok (.goto (-44), 3) := by decide +kernel
theorem dX6_streams_140 : decode cX6_streams 140 = .ok (.aload_n 0, 1) := by decide +kernel
theorem dX6_streams_141 : decode cX6_streams 141 = .ok (.invokevirtual 134, 3) := by decide +kernel
theorem dX6_streams_144 : decode cX6_streams 144 = .ok (.iload_n 1, 1) := by decide +kernel
theorem dX6_streams_145 : decode cX6_streams 145 = .ok (.ireturn, 1) := by decide +kernel
def sX6_streams_c73 (h : Hp) : Option (Int32 × Hp) :=
  some (((-1 : Int32) - (h.1 54 5)), h)
set_option maxRecDepth 10000 in
theorem vX6_streams_c73 (h : Hp) (q : (Int32 × Hp)) (e : sX6_streams_c73 h = some q) : V (Gs 4 (pI q)) mX6_streams (0, 0) 73 [(0, .ref 54)] [] h := by
  unfold sX6_streams_c73 at e
  refine V.iconst dX6_streams_73 (pc' := 74) rfl (v := -1) (by decide) ?_
  refine V.alq dX6_streams_74 (pc' := 75) rfl (j := 0) rfl ?_
  refine V.getf dX6_streams_75 (pc' := 78) rfl FL_X6_33 rfl (by decide) rfl ?_
  refine V.isub dX6_streams_78 (pc' := 79) rfl ?_
  exact V.iret dX6_streams_79 rfl (fnI e)
def sX6_streams_c60 (k25 : Hp → Int32 → Option (Int32 × Hp)) (h : Hp) (v1 : Int32) (t0 : Int32) : Option (Int32 × Hp) :=
  if t0 = 0 then (sX6_streams_c73 h) else ((sX6_readsStream h v1).bind fun q7 => if q7.1 = 0 then (sX6_streams_c73 q7.2) else (nm (v1 + (1 : Int32)) fun x8 => k25 q7.2 x8))
set_option maxRecDepth 10000 in
theorem vX6_streams_c60 (k25 : Hp → Int32 → Option (Int32 × Hp)) (hk25 : ∀ (h : Hp) (v1 : Int32) (q : (Int32 × Hp)), k25 h v1 = some q → V (Gs 4 (pI q)) mX6_streams (0, 0) 25 [(0, .ref 54), (1, .int v1)] [] h) (h : Hp) (v1 : Int32) (t0 : Int32) (q : (Int32 × Hp)) (e : sX6_streams_c60 k25 h v1 t0 = some q) : V (Gs 4 (pI q)) mX6_streams (0, 0) 60 [(0, .ref 54), (1, .int v1)] [.int t0] h := by
  unfold sX6_streams_c60 at e
  refine V.isq dX6_streams_60 (pc' := 61) rfl (by decide) rfl (L' := [(2, .int t0), (0, .ref 54), (1, .int v1)]) rfl ?_
  refine V.ilq dX6_streams_61 (pc' := 62) rfl (j := 0) rfl ?_
  refine V.if_eq dX6_streams_62 (pc' := 65) rfl (tgt := 73) (by decide) (fun c => ?_) (fun c => ?_)
  · rw [if_pos c] at e
    refine V.pk [1] rfl ?_
    exact vX6_streams_c73 h q e
  · rw [if_neg c] at e
    refine V.alq dX6_streams_65 (pc' := 66) rfl (j := 1) rfl ?_
    refine V.ilq dX6_streams_66 (pc' := 67) rfl (j := 2) rfl ?_
    obtain ⟨q7, eq7, e⟩ := bd_s e
    refine V.callVi dX6_streams_67 (pc' := 70) rfl CV_X6_128 (as := [.int v1]) (kX6_readsStream h v1 q7 eq7) (Gs_rm (by decide)) rfl (by decide) rfl (Nat.le_of_ble_eq_true rfl) rfl ?_
    refine V.if_ne dX6_streams_70 (pc' := 73) rfl (tgt := 80) (by decide) (fun c => ?_) (fun c => ?_)
    · rw [if_neg c] at e
      obtain ⟨x8, ex8, e⟩ := nm_s e
      refine V.iinc dX6_streams_80 (pc' := 83) rfl (j := 2) rfl (v := 1) (by decide) (by decide) ex8 (L' := [(1, .int x8), (2, .int t0), (0, .ref 54)]) rfl ?_
      refine V.goto dX6_streams_83 (pc' := 25) (by decide) ?_
      refine V.pk [2, 0] rfl ?_
      exact hk25 q7.2 x8 q e
    · rw [if_pos c] at e
      refine V.pk [1] rfl ?_
      exact vX6_streams_c73 q7.2 q e
def sX6_streams_c55 (k25 : Hp → Int32 → Option (Int32 × Hp)) (h : Hp) (v1 : Int32) : Option (Int32 × Hp) :=
  sX6_streams_c60 k25 h v1 (1 : Int32)
set_option maxRecDepth 10000 in
theorem vX6_streams_c55 (k25 : Hp → Int32 → Option (Int32 × Hp)) (hk25 : ∀ (h : Hp) (v1 : Int32) (q : (Int32 × Hp)), k25 h v1 = some q → V (Gs 4 (pI q)) mX6_streams (0, 0) 25 [(0, .ref 54), (1, .int v1)] [] h) (h : Hp) (v1 : Int32) (q : (Int32 × Hp)) (e : sX6_streams_c55 k25 h v1 = some q) : V (Gs 4 (pI q)) mX6_streams (0, 0) 55 [(0, .ref 54), (1, .int v1)] [] h := by
  unfold sX6_streams_c55 at e
  refine V.iconst dX6_streams_55 (pc' := 56) rfl (v := 1) (by decide) ?_
  refine V.goto dX6_streams_56 (pc' := 60) (by decide) ?_
  exact vX6_streams_c60 k25 hk25 h v1 (1 : Int32) q e
def sX6_streams_c59 (k25 : Hp → Int32 → Option (Int32 × Hp)) (h : Hp) (v1 : Int32) : Option (Int32 × Hp) :=
  sX6_streams_c60 k25 h v1 (0 : Int32)
set_option maxRecDepth 10000 in
theorem vX6_streams_c59 (k25 : Hp → Int32 → Option (Int32 × Hp)) (hk25 : ∀ (h : Hp) (v1 : Int32) (q : (Int32 × Hp)), k25 h v1 = some q → V (Gs 4 (pI q)) mX6_streams (0, 0) 25 [(0, .ref 54), (1, .int v1)] [] h) (h : Hp) (v1 : Int32) (q : (Int32 × Hp)) (e : sX6_streams_c59 k25 h v1 = some q) : V (Gs 4 (pI q)) mX6_streams (0, 0) 59 [(0, .ref 54), (1, .int v1)] [] h := by
  unfold sX6_streams_c59 at e
  refine V.iconst dX6_streams_59 (pc' := 60) rfl (v := 0) (by decide) ?_
  exact vX6_streams_c60 k25 hk25 h v1 (0 : Int32) q e
def sX6_streams_c93 (k93 : Hp → Int32 → Int32 → Option (Int32 × Hp)) (h : Hp) (v1 : Int32) (v2 : Int32) : Option (Int32 × Hp) :=
  if v1 ≤ v2 then ((sX6_allGo h).bind fun q9 => some (v1, q9)) else (gd (inb v2 10) (gd (inb v2 10) (nm (u1 h 57 v2.toNatClampNeg (h.1 60 v2.toNatClampNeg)) fun h12 => gd (inb v2 10) (gd (inb v2 10) (nm (u1 h12 58 v2.toNatClampNeg (h12.1 61 v2.toNatClampNeg)) fun h15 => gd (inb v2 10) (gd (inb v2 10) (nm (u1 h15 59 v2.toNatClampNeg (h15.1 62 v2.toNatClampNeg)) fun h18 => nm (v2 + (1 : Int32)) fun x19 => k93 h18 v1 x19)))))))
set_option maxRecDepth 10000 in
theorem vX6_streams_c93 (k93 : Hp → Int32 → Int32 → Option (Int32 × Hp)) (hk93 : ∀ (h : Hp) (v1 : Int32) (v2 : Int32) (q : (Int32 × Hp)), k93 h v1 v2 = some q → V (Gs 4 (pI q)) mX6_streams (0, 0) 93 [(0, .ref 54), (1, .int v1), (2, .int v2)] [] h) (h : Hp) (v1 : Int32) (v2 : Int32) (q : (Int32 × Hp)) (e : sX6_streams_c93 k93 h v1 v2 = some q) : V (Gs 4 (pI q)) mX6_streams (0, 0) 93 [(0, .ref 54), (1, .int v1), (2, .int v2)] [] h := by
  unfold sX6_streams_c93 at e
  refine V.ilq dX6_streams_93 (pc' := 94) rfl (j := 2) rfl ?_
  refine V.ilq dX6_streams_94 (pc' := 95) rfl (j := 1) rfl ?_
  refine V.ic_ge dX6_streams_95 (pc' := 98) rfl (tgt := 140) (by decide) (fun c => ?_) (fun c => ?_)
  · rw [if_pos c] at e
    refine V.alq dX6_streams_140 (pc' := 141) rfl (j := 0) rfl ?_
    obtain ⟨q9, eq9, e⟩ := bd_s e
    refine V.callVv dX6_streams_141 (pc' := 144) rfl CV_X6_134 (as := []) (kX6_allGo h q9 eq9) (Gs_rm (by decide)) rfl (by decide) rfl (Nat.le_of_ble_eq_true rfl) rfl ?_
    refine V.ilq dX6_streams_144 (pc' := 145) rfl (j := 1) rfl ?_
    exact V.iret dX6_streams_145 rfl (fnI e)
  · rw [if_neg c] at e
    refine V.alq dX6_streams_98 (pc' := 99) rfl (j := 0) rfl ?_
    refine V.getr dX6_streams_99 (pc' := 102) rfl FL_X6_57 rfl (by decide) rfl (r' := 57) rfl ?_
    refine V.ilq dX6_streams_102 (pc' := 103) rfl (j := 2) rfl ?_
    refine V.alq dX6_streams_103 (pc' := 104) rfl (j := 0) rfl ?_
    refine V.getr dX6_streams_104 (pc' := 107) rfl FL_X6_69 rfl (by decide) rfl (r' := 60) rfl ?_
    refine V.ilq dX6_streams_107 (pc' := 108) rfl (j := 2) rfl ?_
    obtain ⟨c10, e⟩ := gd_s e
    refine V.iald dX6_streams_108 (pc' := 109) rfl rfl rfl (inb_t c10) ?_
    obtain ⟨c11, e⟩ := gd_s e
    obtain ⟨h12, eh12, e⟩ := nm_s e
    refine V.iast dX6_streams_109 (pc' := 110) rfl rfl rfl (inb_t c11) eh12 ?_
    refine V.alq dX6_streams_110 (pc' := 111) rfl (j := 0) rfl ?_
    refine V.getr dX6_streams_111 (pc' := 114) rfl FL_X6_60 rfl (by decide) rfl (r' := 58) rfl ?_
    refine V.ilq dX6_streams_114 (pc' := 115) rfl (j := 2) rfl ?_
    refine V.alq dX6_streams_115 (pc' := 116) rfl (j := 0) rfl ?_
    refine V.getr dX6_streams_116 (pc' := 119) rfl FL_X6_72 rfl (by decide) rfl (r' := 61) rfl ?_
    refine V.ilq dX6_streams_119 (pc' := 120) rfl (j := 2) rfl ?_
    obtain ⟨c13, e⟩ := gd_s e
    refine V.iald dX6_streams_120 (pc' := 121) rfl rfl rfl (inb_t c13) ?_
    obtain ⟨c14, e⟩ := gd_s e
    obtain ⟨h15, eh15, e⟩ := nm_s e
    refine V.iast dX6_streams_121 (pc' := 122) rfl rfl rfl (inb_t c14) eh15 ?_
    refine V.alq dX6_streams_122 (pc' := 123) rfl (j := 0) rfl ?_
    refine V.getr dX6_streams_123 (pc' := 126) rfl FL_X6_63 rfl (by decide) rfl (r' := 59) rfl ?_
    refine V.ilq dX6_streams_126 (pc' := 127) rfl (j := 2) rfl ?_
    refine V.alq dX6_streams_127 (pc' := 128) rfl (j := 0) rfl ?_
    refine V.getr dX6_streams_128 (pc' := 131) rfl FL_X6_75 rfl (by decide) rfl (r' := 62) rfl ?_
    refine V.ilq dX6_streams_131 (pc' := 132) rfl (j := 2) rfl ?_
    obtain ⟨c16, e⟩ := gd_s e
    refine V.iald dX6_streams_132 (pc' := 133) rfl rfl rfl (inb_t c16) ?_
    obtain ⟨c17, e⟩ := gd_s e
    obtain ⟨h18, eh18, e⟩ := nm_s e
    refine V.iast dX6_streams_133 (pc' := 134) rfl rfl rfl (inb_t c17) eh18 ?_
    obtain ⟨x19, ex19, e⟩ := nm_s e
    refine V.iinc dX6_streams_134 (pc' := 137) rfl (j := 2) rfl (v := 1) (by decide) (by decide) ex19 (L' := [(2, .int x19), (0, .ref 54), (1, .int v1)]) rfl ?_
    refine V.goto dX6_streams_137 (pc' := 93) (by decide) ?_
    refine V.pk [1, 2, 0] rfl ?_
    exact hk93 h18 v1 x19 q e
def sX6_streams_b93 : Nat → Hp → Int32 → Int32 → Option (Int32 × Hp)
  | 0 => fun _ _ _ => none
  | n + 1 => sX6_streams_c93 (sX6_streams_b93 n)
theorem vX6_streams_b93 : ∀ (n : Nat) (h : Hp) (v1 : Int32) (v2 : Int32) (q : (Int32 × Hp)), sX6_streams_b93 n h v1 v2 = some q → V (Gs 4 (pI q)) mX6_streams (0, 0) 93 [(0, .ref 54), (1, .int v1), (2, .int v2)] [] h
  | 0 => fun _ _ _ _ e => by cases e
  | n + 1 => fun h v1 v2 q e => vX6_streams_c93 (sX6_streams_b93 n) (vX6_streams_b93 n) h v1 v2 q e
def sX6_streams_c25 (k25 : Hp → Int32 → Option (Int32 × Hp)) (h : Hp) (v1 : Int32) : Option (Int32 × Hp) :=
  if (h.1 54 6) ≤ (h.1 54 5) then (nm (u1 h 54 7 v1) fun h5 => sX6_streams_b93 FU h5 v1 (0 : Int32)) else (if v1 = 0 then (sX6_streams_c55 k25 h v1) else (if (10 : Int32) ≤ v1 then (sX6_streams_c59 k25 h v1) else ((sX6_takes h (44 : Int32)).bind fun q6 => if q6.1 = 0 then (sX6_streams_c59 k25 q6.2 v1) else (sX6_streams_c55 k25 q6.2 v1))))
set_option maxRecDepth 10000 in
theorem vX6_streams_c25 (k25 : Hp → Int32 → Option (Int32 × Hp)) (hk25 : ∀ (h : Hp) (v1 : Int32) (q : (Int32 × Hp)), k25 h v1 = some q → V (Gs 4 (pI q)) mX6_streams (0, 0) 25 [(0, .ref 54), (1, .int v1)] [] h) (h : Hp) (v1 : Int32) (q : (Int32 × Hp)) (e : sX6_streams_c25 k25 h v1 = some q) : V (Gs 4 (pI q)) mX6_streams (0, 0) 25 [(0, .ref 54), (1, .int v1)] [] h := by
  unfold sX6_streams_c25 at e
  refine V.alq dX6_streams_25 (pc' := 26) rfl (j := 0) rfl ?_
  refine V.getf dX6_streams_26 (pc' := 29) rfl FL_X6_33 rfl (by decide) rfl ?_
  refine V.alq dX6_streams_29 (pc' := 30) rfl (j := 0) rfl ?_
  refine V.getf dX6_streams_30 (pc' := 33) rfl FL_X6_36 rfl (by decide) rfl ?_
  refine V.ic_ge dX6_streams_33 (pc' := 36) rfl (tgt := 86) (by decide) (fun c => ?_) (fun c => ?_)
  · rw [if_pos c] at e
    refine V.alq dX6_streams_86 (pc' := 87) rfl (j := 0) rfl ?_
    refine V.ilq dX6_streams_87 (pc' := 88) rfl (j := 1) rfl ?_
    obtain ⟨h5, eh5, e⟩ := nm_s e
    refine V.putf dX6_streams_88 (pc' := 91) rfl FP_X6_131 rfl (by decide) rfl eh5 ?_
    refine V.iconst dX6_streams_91 (pc' := 92) rfl (v := 0) (by decide) ?_
    refine V.isq dX6_streams_92 (pc' := 93) rfl (by decide) rfl (L' := [(2, .int (0 : Int32)), (0, .ref 54), (1, .int v1)]) rfl ?_
    refine V.pk [1, 2, 0] rfl ?_
    exact vX6_streams_b93 FU h5 v1 (0 : Int32) q e
  · rw [if_neg c] at e
    refine V.ilq dX6_streams_36 (pc' := 37) rfl (j := 1) rfl ?_
    refine V.if_eq dX6_streams_37 (pc' := 40) rfl (tgt := 55) (by decide) (fun c => ?_) (fun c => ?_)
    · rw [if_pos c] at e
      exact vX6_streams_c55 k25 hk25 h v1 q e
    · rw [if_neg c] at e
      refine V.ilq dX6_streams_40 (pc' := 41) rfl (j := 1) rfl ?_
      refine V.bipush dX6_streams_41 (pc' := 43) rfl (v := 10) (by decide) ?_
      refine V.ic_ge dX6_streams_43 (pc' := 46) rfl (tgt := 59) (by decide) (fun c => ?_) (fun c => ?_)
      · rw [if_pos c] at e
        exact vX6_streams_c59 k25 hk25 h v1 q e
      · rw [if_neg c] at e
        refine V.alq dX6_streams_46 (pc' := 47) rfl (j := 0) rfl ?_
        refine V.bipush dX6_streams_47 (pc' := 49) rfl (v := 44) (by decide) ?_
        obtain ⟨q6, eq6, e⟩ := bd_s e
        refine V.callVi dX6_streams_49 (pc' := 52) rfl CV_X6_114 (as := [.int (44 : Int32)]) (kX6_takes h (44 : Int32) q6 eq6) (Gs_rm (by decide)) rfl (by decide) rfl (Nat.le_of_ble_eq_true rfl) rfl ?_
        refine V.if_eq dX6_streams_52 (pc' := 55) rfl (tgt := 59) (by decide) (fun c => ?_) (fun c => ?_)
        · rw [if_pos c] at e
          exact vX6_streams_c59 k25 hk25 q6.2 v1 q e
        · rw [if_neg c] at e
          exact vX6_streams_c55 k25 hk25 q6.2 v1 q e
def sX6_streams_b25 : Nat → Hp → Int32 → Option (Int32 × Hp)
  | 0 => fun _ _ => none
  | n + 1 => sX6_streams_c25 (sX6_streams_b25 n)
theorem vX6_streams_b25 : ∀ (n : Nat) (h : Hp) (v1 : Int32) (q : (Int32 × Hp)), sX6_streams_b25 n h v1 = some q → V (Gs 4 (pI q)) mX6_streams (0, 0) 25 [(0, .ref 54), (1, .int v1)] [] h
  | 0 => fun _ _ _ e => by cases e
  | n + 1 => fun h v1 q e => vX6_streams_c25 (sX6_streams_b25 n) (vX6_streams_b25 n) h v1 q e
def sX6_streams (h : Hp) : Option (Int32 × Hp) :=
  nm (u1 h 54 0 (0 : Int32)) fun h1 => nm (u1 h1 54 6 (h1.1 54 4)) fun h2 => nm (u1 h2 54 4 (0 : Int32)) fun h3 => nm (u1 h3 54 5 (0 : Int32)) fun h4 => sX6_streams_b25 FU h4 (0 : Int32)
set_option maxRecDepth 10000 in
theorem kX6_streams (h : Hp) (q : (Int32 × Hp)) (e : sX6_streams h = some q) : K 4 mX6_streams [.ref 54] h (pI q) := by
  unfold sX6_streams at e
  refine K.ofV (by decide) rfl (Nat.le_of_ble_eq_true rfl) ?_
  show V (Gs 4 (pI q)) mX6_streams (0, 0) 0 [(0, .ref 54)] [] h
  refine V.alq dX6_streams_0 (pc' := 1) rfl (j := 0) rfl ?_
  refine V.iconst dX6_streams_1 (pc' := 2) rfl (v := 0) (by decide) ?_
  obtain ⟨h1, eh1, e⟩ := nm_s e
  refine V.putf dX6_streams_2 (pc' := 5) rfl FP_X6_1 rfl (by decide) rfl eh1 ?_
  refine V.alq dX6_streams_5 (pc' := 6) rfl (j := 0) rfl ?_
  refine V.alq dX6_streams_6 (pc' := 7) rfl (j := 0) rfl ?_
  refine V.getf dX6_streams_7 (pc' := 10) rfl FL_X6_22 rfl (by decide) rfl ?_
  obtain ⟨h2, eh2, e⟩ := nm_s e
  refine V.putf dX6_streams_10 (pc' := 13) rfl FP_X6_36 rfl (by decide) rfl eh2 ?_
  refine V.alq dX6_streams_13 (pc' := 14) rfl (j := 0) rfl ?_
  refine V.iconst dX6_streams_14 (pc' := 15) rfl (v := 0) (by decide) ?_
  obtain ⟨h3, eh3, e⟩ := nm_s e
  refine V.putf dX6_streams_15 (pc' := 18) rfl FP_X6_22 rfl (by decide) rfl eh3 ?_
  refine V.alq dX6_streams_18 (pc' := 19) rfl (j := 0) rfl ?_
  refine V.iconst dX6_streams_19 (pc' := 20) rfl (v := 0) (by decide) ?_
  obtain ⟨h4, eh4, e⟩ := nm_s e
  refine V.putf dX6_streams_20 (pc' := 23) rfl FP_X6_33 rfl (by decide) rfl eh4 ?_
  refine V.iconst dX6_streams_23 (pc' := 24) rfl (v := 0) (by decide) ?_
  refine V.isq dX6_streams_24 (pc' := 25) rfl (by decide) rfl (L' := [(1, .int (0 : Int32)), (0, .ref 54)]) rfl ?_
  refine V.pk [1, 0] rfl ?_
  exact vX6_streams_b25 FU h4 (0 : Int32) q e

-- X6_works (level 4)
theorem dX6_works_0 : decode cX6_works 0 = .ok (.aload_n 0, 1) := by decide +kernel
theorem dX6_works_1 : decode cX6_works 1 = .ok (.iconst 0, 1) := by decide +kernel
theorem dX6_works_2 : decode cX6_works 2 = .ok (.putfield 187, 3) := by decide +kernel
theorem dX6_works_5 : decode cX6_works 5 = .ok (.iconst 0, 1) := by decide +kernel
theorem dX6_works_6 : decode cX6_works 6 = .ok (.istore_n 1, 1) := by decide +kernel
theorem dX6_works_7 : decode cX6_works 7 = .ok (.iload_n 1, 1) := by decide +kernel
theorem dX6_works_8 : decode cX6_works 8 = .ok (.aload_n 0, 1) := by decide +kernel
theorem dX6_works_9 : decode cX6_works 9 = .ok (.getfield 131, 3) := by decide +kernel
theorem dX6_works_12 : decode cX6_works 12 = .ok (.if_icmp .ge 41, 3) := by decide +kernel
theorem dX6_works_15 : decode cX6_works 15 = .ok (.aload_n 0, 1) := by decide +kernel
theorem dX6_works_16 : decode cX6_works 16 = .ok (.aload_n 0, 1) := by decide +kernel
theorem dX6_works_17 : decode cX6_works 17 = .ok (.getfield 57, 3) := by decide +kernel
theorem dX6_works_20 : decode cX6_works 20 = .ok (.iload_n 1, 1) := by decide +kernel
theorem dX6_works_21 : decode cX6_works 21 = .ok (.iaload, 1) := by decide +kernel
theorem dX6_works_22 : decode cX6_works 22 = .ok (.aload_n 0, 1) := by decide +kernel
theorem dX6_works_23 : decode cX6_works 23 = .ok (.iload_n 1, 1) := by decide +kernel
theorem dX6_works_24 : decode cX6_works 24 = .ok (.invokevirtual 190, 3) := by decide +kernel
theorem dX6_works_27 : decode cX6_works 27 = .ok (.isub, 1) := by decide +kernel
theorem dX6_works_28 : decode cX6_works 28 = .ok (.invokevirtual 197, 3) := by decide +kernel
theorem dX6_works_31 : decode cX6_works 31 = .ok (.aload_n 0, 1) := by decide +kernel
theorem dX6_works_32 : decode cX6_works 32 = .ok (.aload_n 0, 1) := by decide +kernel
theorem dX6_works_33 : decode cX6_works 33 = .ok (.getfield 60, 3) := by decide +kernel
theorem dX6_works_36 : decode cX6_works 36 = .ok (.iload_n 1, 1) := by decide +kernel
theorem dX6_works_37 : decode cX6_works 37 = .ok (.iaload, 1) := by decide +kernel
theorem dX6_works_38 : decode cX6_works 38 = .ok (.aload_n 0, 1) := by decide +kernel
theorem dX6_works_39 : decode cX6_works 39 = .ok (.iload_n 1, 1) := by decide +kernel
theorem dX6_works_40 : decode cX6_works 40 = .ok (.invokevirtual 190, 3) := by decide +kernel
theorem dX6_works_43 : decode cX6_works 43 = .ok (.isub, 1) := by decide +kernel
theorem dX6_works_44 : decode cX6_works 44 = .ok (.invokevirtual 197, 3) := by decide +kernel
theorem dX6_works_47 : decode cX6_works 47 = .ok (.iinc 1 1, 3) := by decide +kernel
theorem dX6_works_50 : decode cX6_works 50 = .ok (.goto (-43), 3) := by decide +kernel
theorem dX6_works_53 : decode cX6_works 53 = .ok (.iconst 0, 1) := by decide +kernel
theorem dX6_works_54 : decode cX6_works 54 = .ok (.istore_n 1, 1) := by decide +kernel
theorem dX6_works_55 : decode cX6_works 55 = .ok (.aload_n 0, 1) := by decide +kernel
theorem dX6_works_56 : decode cX6_works 56 = .ok (.iconst 0, 1) := by decide +kernel
theorem dX6_works_57 : decode cX6_works 57 = .ok (.putfield 200, 3) := by decide +kernel
theorem dX6_works_60 : decode cX6_works 60 = .ok (.iconst 0, 1) := by decide +kernel
theorem dX6_works_61 : decode cX6_works 61 = .ok (.istore_n 2, 1) := by decide +kernel
theorem dX6_works_62 : decode cX6_works 62 = .ok (.iload_n 2, 1) := by decide +kernel
theorem dX6_works_63 : decode cX6_works 63 = .ok (.aload_n 0, 1) := by decide +kernel
theorem dX6_works_64 : decode cX6_works 64 = .ok (.getfield 187, 3) := by decide +kernel
theorem dX6_works_67 : decode cX6_works 67 = .ok (.if_icmp .ge 37, 3) := by decide +kernel
theorem dX6_works_70 : decode cX6_works 70 = .ok (.aload_n 0, 1) := by decide +kernel
theorem dX6_works_71 : decode cX6_works 71 = .ok (.getfield 81, 3) := by decide +kernel
theorem dX6_works_74 : decode cX6_works 74 = .ok (.iload_n 2, 1) := by decide +kernel
theorem dX6_works_75 : decode cX6_works 75 = .ok (.iload_n 1, 1) := by decide +kernel
theorem dX6_works_76 : decode cX6_works 76 = .ok (.iastore, 1) := by decide +kernel
theorem dX6_works_77 : decode cX6_works 77 = .ok (.aload_n 0, 1) := by decide +kernel
theorem dX6_works_78 : decode cX6_works 78 = .ok (.aload_n 0, 1) := by decide +kernel
theorem dX6_works_79 : decode cX6_works 79 = .ok (.getfield 200, 3) := by decide +kernel
theorem dX6_works_82 : decode cX6_works 82 = .ok (.iload_n 1, 1) := by decide +kernel
theorem dX6_works_83 : decode cX6_works 83 = .ok (.ineg, 1) := by decide +kernel
theorem dX6_works_84 : decode cX6_works 84 = .ok (.invokestatic 173, 3) := by decide +kernel
theorem dX6_works_87 : decode cX6_works 87 = .ok (.putfield 200, 3) := by decide +kernel
theorem dX6_works_90 : decode cX6_works 90 = .ok (.iload_n 1, 1) := by decide +kernel
theorem dX6_works_91 : decode cX6_works 91 = .ok (.aload_n 0, 1) := by decide +kernel
theorem dX6_works_92 : decode cX6_works 92 = .ok (.iload_n 2, 1) := by decide +kernel
theorem dX6_works_93 : decode cX6_works 93 = .ok (.invokevirtual 203, 3) := by decide +kernel
theorem dX6_works_96 : decode cX6_works 96 = .ok (.iadd, 1) := by decide +kernel
theorem dX6_works_97 : decode cX6_works 97 = .ok (.istore_n 1, 1) := by decide +kernel
theorem dX6_works_98 : decode cX6_works 98 = .ok (.iinc 2 1, 3) := by decide +kernel
theorem dX6_works_101 : decode cX6_works 101 = .ok (.goto (-39), 3) := by decide +kernel
theorem dX6_works_104 : decode cX6_works 104 = .ok (.iconst 0, 1) := by decide +kernel
theorem dX6_works_105 : decode cX6_works 105 = .ok (.istore_n 2, 1) := by decide +kernel
theorem dX6_works_106 : decode cX6_works 106 = .ok (.iload_n 2, 1) := by decide +kernel
theorem dX6_works_107 : decode cX6_works 107 = .ok (.aload_n 0, 1) := by decide +kernel
theorem dX6_works_108 : decode cX6_works 108 = .ok (.getfield 187, 3) := by decide +kernel
theorem dX6_works_111 : decode cX6_works 111 = .ok (.if_icmp .ge 22, 3) := by decide +kernel
theorem dX6_works_114 : decode cX6_works 114 = .ok (.aload_n 0, 1) := by decide +kernel
theorem dX6_works_115 : decode cX6_works 115 = .ok (.getfield 81, 3) := by decide +kernel
theorem dX6_works_118 : decode cX6_works 118 = .ok (.iload_n 2, 1) := by decide +kernel
theorem dX6_works_119 : decode cX6_works 119 = .ok (.dup2, 1) := by decide +kernel
theorem dX6_works_120 : decode cX6_works 120 = .ok (.iaload, 1) := by decide +kernel
theorem dX6_works_121 : decode cX6_works 121 = .ok (.aload_n 0, 1) := by decide +kernel
theorem dX6_works_122 : decode cX6_works 122 = .ok (.getfield 200, 3) := by decide +kernel
theorem dX6_works_125 : decode cX6_works 125 = .ok (.iadd, 1) := by decide +kernel
theorem dX6_works_126 : decode cX6_works 126 = .ok (.iastore, 1) := by decide +kernel
theorem dX6_works_127 : decode cX6_works 127 = .ok (.iinc 2 1, 3) := by decide +kernel
theorem dX6_works_130 : decode cX6_works 130 = .ok (.goto (-24), 3) := by decide +kernel
theorem dX6_works_133 : decode cX6_works 133 = .ok (.aload_n 0, 1) := by decide +kernel
theorem dX6_works_134 : decode cX6_works 134 = .ok (.aload_n 0, 1) := by decide +kernel
theorem dX6_works_135 : decode cX6_works 135 = .ok (.getfield 187, 3) := by decide +kernel
theorem dX6_works_138 : decode cX6_works 138 = .ok (.ifCond .ne 7, 3) := by decide +kernel
theorem dX6_works_141 : decode cX6_works 141 = .ok (.iconst 0, 1) := by decide +kernel
theorem dX6_works_142 : decode cX6_works 142 = .ok (.goto 14, 3) := by decide +kernel
theorem dX6_works_145 : decode cX6_works 145 = .ok (.aload_n 0, 1) := by decide +kernel
theorem dX6_works_146 : decode cX6_works 146 = .ok (.getfield 81, 3) := by decide +kernel
theorem dX6_works_149 : decode cX6_works 149 = .ok (.aload_n 0, 1) := by decide +kernel
theorem dX6_works_150 : decode cX6_works 150 = .ok (.getfield 187, 3) := by decide +kernel
theorem dX6_works_153 : decode cX6_works 153 = .ok (.iconst 1, 1) := by decide +kernel
theorem dX6_works_154 : decode cX6_works 154 = .ok (.isub, 1) := by decide +kernel
theorem dX6_works_155 : decode cX6_works 155 = .ok (.iaload, 1) := by decide +kernel
theorem dX6_works_156 : decode cX6_works 156 = .ok (.putfield 206, 3) := by decide +kernel
theorem dX6_works_159 : decode cX6_works 159 = .ok (.return_, 1) := by decide +kernel
def sX6_works_c156 (h : Hp) (t0 : Int32) : Option Hp :=
  nm (u1 h 54 19 t0) fun h21 => some h21
set_option maxRecDepth 10000 in
theorem vX6_works_c156 (h : Hp) (t0 : Int32) (q : Hp) (e : sX6_works_c156 h t0 = some q) : V (Gs 4 (pV q)) mX6_works (0, 0) 156 [] [.int t0, .ref 54] h := by
  unfold sX6_works_c156 at e
  obtain ⟨h21, eh21, e⟩ := nm_s e
  refine V.putf dX6_works_156 (pc' := 159) rfl FP_X6_206 rfl (by decide) rfl eh21 ?_
  exact V.vret dX6_works_159 rfl (fnV e)
def sX6_works_c106 (k106 : Hp → Int32 → Option Hp) (h : Hp) (v2 : Int32) : Option Hp :=
  if (h.1 54 17) ≤ v2 then (if (h.1 54 17) = 0 then (sX6_works_c156 h (0 : Int32)) else (gd (inb ((h.1 54 17) - (1 : Int32)) 20) (sX6_works_c156 h (h.1 64 ((h.1 54 17) - (1 : Int32)).toNatClampNeg)))) else (gd (inb v2 20) (gd (inb v2 20) (nm (u1 h 64 v2.toNatClampNeg ((h.1 64 v2.toNatClampNeg) + (h.1 54 18))) fun h19 => nm (v2 + (1 : Int32)) fun x20 => k106 h19 x20)))
set_option maxRecDepth 10000 in
theorem vX6_works_c106 (k106 : Hp → Int32 → Option Hp) (hk106 : ∀ (h : Hp) (v2 : Int32) (q : Hp), k106 h v2 = some q → V (Gs 4 (pV q)) mX6_works (0, 0) 106 [(0, .ref 54), (2, .int v2)] [] h) (h : Hp) (v2 : Int32) (q : Hp) (e : sX6_works_c106 k106 h v2 = some q) : V (Gs 4 (pV q)) mX6_works (0, 0) 106 [(0, .ref 54), (2, .int v2)] [] h := by
  unfold sX6_works_c106 at e
  refine V.ilq dX6_works_106 (pc' := 107) rfl (j := 1) rfl ?_
  refine V.alq dX6_works_107 (pc' := 108) rfl (j := 0) rfl ?_
  refine V.getf dX6_works_108 (pc' := 111) rfl FL_X6_187 rfl (by decide) rfl ?_
  refine V.ic_ge dX6_works_111 (pc' := 114) rfl (tgt := 133) (by decide) (fun c => ?_) (fun c => ?_)
  · rw [if_pos c] at e
    refine V.alq dX6_works_133 (pc' := 134) rfl (j := 0) rfl ?_
    refine V.alq dX6_works_134 (pc' := 135) rfl (j := 0) rfl ?_
    refine V.getf dX6_works_135 (pc' := 138) rfl FL_X6_187 rfl (by decide) rfl ?_
    refine V.if_ne dX6_works_138 (pc' := 141) rfl (tgt := 145) (by decide) (fun c => ?_) (fun c => ?_)
    · rw [if_neg c] at e
      refine V.alq dX6_works_145 (pc' := 146) rfl (j := 0) rfl ?_
      refine V.getr dX6_works_146 (pc' := 149) rfl FL_X6_81 rfl (by decide) rfl (r' := 64) rfl ?_
      refine V.alq dX6_works_149 (pc' := 150) rfl (j := 0) rfl ?_
      refine V.getf dX6_works_150 (pc' := 153) rfl FL_X6_187 rfl (by decide) rfl ?_
      refine V.iconst dX6_works_153 (pc' := 154) rfl (v := 1) (by decide) ?_
      refine V.isub dX6_works_154 (pc' := 155) rfl ?_
      obtain ⟨c16, e⟩ := gd_s e
      refine V.iald dX6_works_155 (pc' := 156) rfl rfl rfl (inb_t c16) ?_
      refine V.pk [] rfl ?_
      exact vX6_works_c156 h (h.1 64 ((h.1 54 17) - (1 : Int32)).toNatClampNeg) q e
    · rw [if_pos c] at e
      refine V.iconst dX6_works_141 (pc' := 142) rfl (v := 0) (by decide) ?_
      refine V.goto dX6_works_142 (pc' := 156) (by decide) ?_
      refine V.pk [] rfl ?_
      exact vX6_works_c156 h (0 : Int32) q e
  · rw [if_neg c] at e
    refine V.alq dX6_works_114 (pc' := 115) rfl (j := 0) rfl ?_
    refine V.getr dX6_works_115 (pc' := 118) rfl FL_X6_81 rfl (by decide) rfl (r' := 64) rfl ?_
    refine V.ilq dX6_works_118 (pc' := 119) rfl (j := 1) rfl ?_
    refine V.dup2 dX6_works_119 (pc' := 120) rfl rfl rfl ?_
    obtain ⟨c17, e⟩ := gd_s e
    refine V.iald dX6_works_120 (pc' := 121) rfl rfl rfl (inb_t c17) ?_
    refine V.alq dX6_works_121 (pc' := 122) rfl (j := 0) rfl ?_
    refine V.getf dX6_works_122 (pc' := 125) rfl FL_X6_200 rfl (by decide) rfl ?_
    refine V.iadd dX6_works_125 (pc' := 126) rfl ?_
    obtain ⟨c18, e⟩ := gd_s e
    obtain ⟨h19, eh19, e⟩ := nm_s e
    refine V.iast dX6_works_126 (pc' := 127) rfl rfl rfl (inb_t c18) eh19 ?_
    obtain ⟨x20, ex20, e⟩ := nm_s e
    refine V.iinc dX6_works_127 (pc' := 130) rfl (j := 1) rfl (v := 1) (by decide) (by decide) ex20 (L' := [(2, .int x20), (0, .ref 54)]) rfl ?_
    refine V.goto dX6_works_130 (pc' := 106) (by decide) ?_
    refine V.pk [1, 0] rfl ?_
    exact hk106 h19 x20 q e
def sX6_works_b106 : Nat → Hp → Int32 → Option Hp
  | 0 => fun _ _ => none
  | n + 1 => sX6_works_c106 (sX6_works_b106 n)
theorem vX6_works_b106 : ∀ (n : Nat) (h : Hp) (v2 : Int32) (q : Hp), sX6_works_b106 n h v2 = some q → V (Gs 4 (pV q)) mX6_works (0, 0) 106 [(0, .ref 54), (2, .int v2)] [] h
  | 0 => fun _ _ _ e => by cases e
  | n + 1 => fun h v2 q e => vX6_works_c106 (sX6_works_b106 n) (vX6_works_b106 n) h v2 q e
def sX6_works_c62 (k62 : Hp → Int32 → Int32 → Option Hp) (h : Hp) (v1 : Int32) (v2 : Int32) : Option Hp :=
  if (h.1 54 17) ≤ v2 then (sX6_works_b106 FU h (0 : Int32)) else (gd (inb v2 20) (nm (u1 h 64 v2.toNatClampNeg v1) fun h11 => nm (u1 h11 54 18 (imax (h11.1 54 18) (-v1))) fun h12 => (sX6_surplus h12 v2).bind fun q13 => nm ((v1 + q13.1)) fun x14 => nm (v2 + (1 : Int32)) fun x15 => k62 q13.2 x14 x15))
set_option maxRecDepth 10000 in
theorem vX6_works_c62 (k62 : Hp → Int32 → Int32 → Option Hp) (hk62 : ∀ (h : Hp) (v1 : Int32) (v2 : Int32) (q : Hp), k62 h v1 v2 = some q → V (Gs 4 (pV q)) mX6_works (0, 0) 62 [(0, .ref 54), (1, .int v1), (2, .int v2)] [] h) (h : Hp) (v1 : Int32) (v2 : Int32) (q : Hp) (e : sX6_works_c62 k62 h v1 v2 = some q) : V (Gs 4 (pV q)) mX6_works (0, 0) 62 [(0, .ref 54), (1, .int v1), (2, .int v2)] [] h := by
  unfold sX6_works_c62 at e
  refine V.ilq dX6_works_62 (pc' := 63) rfl (j := 2) rfl ?_
  refine V.alq dX6_works_63 (pc' := 64) rfl (j := 0) rfl ?_
  refine V.getf dX6_works_64 (pc' := 67) rfl FL_X6_187 rfl (by decide) rfl ?_
  refine V.ic_ge dX6_works_67 (pc' := 70) rfl (tgt := 104) (by decide) (fun c => ?_) (fun c => ?_)
  · rw [if_pos c] at e
    refine V.iconst dX6_works_104 (pc' := 105) rfl (v := 0) (by decide) ?_
    refine V.isq dX6_works_105 (pc' := 106) rfl (by decide) rfl (L' := [(2, .int (0 : Int32)), (0, .ref 54), (1, .int v1)]) rfl ?_
    refine V.pk [1, 0] rfl ?_
    exact vX6_works_b106 FU h (0 : Int32) q e
  · rw [if_neg c] at e
    refine V.alq dX6_works_70 (pc' := 71) rfl (j := 0) rfl ?_
    refine V.getr dX6_works_71 (pc' := 74) rfl FL_X6_81 rfl (by decide) rfl (r' := 64) rfl ?_
    refine V.ilq dX6_works_74 (pc' := 75) rfl (j := 2) rfl ?_
    refine V.ilq dX6_works_75 (pc' := 76) rfl (j := 1) rfl ?_
    obtain ⟨c10, e⟩ := gd_s e
    obtain ⟨h11, eh11, e⟩ := nm_s e
    refine V.iast dX6_works_76 (pc' := 77) rfl rfl rfl (inb_t c10) eh11 ?_
    refine V.alq dX6_works_77 (pc' := 78) rfl (j := 0) rfl ?_
    refine V.alq dX6_works_78 (pc' := 79) rfl (j := 0) rfl ?_
    refine V.getf dX6_works_79 (pc' := 82) rfl FL_X6_200 rfl (by decide) rfl ?_
    refine V.ilq dX6_works_82 (pc' := 83) rfl (j := 1) rfl ?_
    refine V.ineg dX6_works_83 (pc' := 84) rfl ?_
    refine V.mmax dX6_works_84 (pc' := 87) rfl (Gs_rm (by decide)) ML_X6_173 MS_imax MI_Math MC_imax (Nat.le_of_ble_eq_true rfl) ?_
    obtain ⟨h12, eh12, e⟩ := nm_s e
    refine V.putf dX6_works_87 (pc' := 90) rfl FP_X6_200 rfl (by decide) rfl eh12 ?_
    refine V.ilq dX6_works_90 (pc' := 91) rfl (j := 1) rfl ?_
    refine V.alq dX6_works_91 (pc' := 92) rfl (j := 0) rfl ?_
    refine V.ilq dX6_works_92 (pc' := 93) rfl (j := 2) rfl ?_
    obtain ⟨q13, eq13, e⟩ := bd_s e
    refine V.callVi dX6_works_93 (pc' := 96) rfl CV_X6_203 (as := [.int v2]) (kX6_surplus h12 v2 q13 eq13) (Gs_rm (by decide)) rfl (by decide) rfl (Nat.le_of_ble_eq_true rfl) rfl ?_
    refine V.iadd dX6_works_96 (pc' := 97) rfl ?_
    obtain ⟨x14, ex14, e⟩ := nm_s e
    refine V.isq dX6_works_97 (pc' := 98) rfl (by decide) ex14 (L' := [(1, .int x14), (0, .ref 54), (2, .int v2)]) rfl ?_
    obtain ⟨x15, ex15, e⟩ := nm_s e
    refine V.iinc dX6_works_98 (pc' := 101) rfl (j := 2) rfl (v := 1) (by decide) (by decide) ex15 (L' := [(2, .int x15), (1, .int x14), (0, .ref 54)]) rfl ?_
    refine V.goto dX6_works_101 (pc' := 62) (by decide) ?_
    refine V.pk [2, 1, 0] rfl ?_
    exact hk62 q13.2 x14 x15 q e
def sX6_works_b62 : Nat → Hp → Int32 → Int32 → Option Hp
  | 0 => fun _ _ _ => none
  | n + 1 => sX6_works_c62 (sX6_works_b62 n)
theorem vX6_works_b62 : ∀ (n : Nat) (h : Hp) (v1 : Int32) (v2 : Int32) (q : Hp), sX6_works_b62 n h v1 v2 = some q → V (Gs 4 (pV q)) mX6_works (0, 0) 62 [(0, .ref 54), (1, .int v1), (2, .int v2)] [] h
  | 0 => fun _ _ _ _ e => by cases e
  | n + 1 => fun h v1 v2 q e => vX6_works_c62 (sX6_works_b62 n) (vX6_works_b62 n) h v1 v2 q e
def sX6_works_c7 (k7 : Hp → Int32 → Option Hp) (h : Hp) (v1 : Int32) : Option Hp :=
  if (h.1 54 7) ≤ v1 then (nm (u1 h 54 18 (0 : Int32)) fun h2 => sX6_works_b62 FU h2 (0 : Int32) (0 : Int32)) else (gd (inb v1 10) ((sX6_shift h v1).bind fun q4 => (sX6_addsBorder q4.2 ((h.1 57 v1.toNatClampNeg) - q4.1)).bind fun q5 => gd (inb v1 10) ((sX6_shift q5 v1).bind fun q7 => (sX6_addsBorder q7.2 ((q5.1 58 v1.toNatClampNeg) - q7.1)).bind fun q8 => nm (v1 + (1 : Int32)) fun x9 => k7 q8 x9)))
set_option maxRecDepth 10000 in
theorem vX6_works_c7 (k7 : Hp → Int32 → Option Hp) (hk7 : ∀ (h : Hp) (v1 : Int32) (q : Hp), k7 h v1 = some q → V (Gs 4 (pV q)) mX6_works (0, 0) 7 [(0, .ref 54), (1, .int v1)] [] h) (h : Hp) (v1 : Int32) (q : Hp) (e : sX6_works_c7 k7 h v1 = some q) : V (Gs 4 (pV q)) mX6_works (0, 0) 7 [(0, .ref 54), (1, .int v1)] [] h := by
  unfold sX6_works_c7 at e
  refine V.ilq dX6_works_7 (pc' := 8) rfl (j := 1) rfl ?_
  refine V.alq dX6_works_8 (pc' := 9) rfl (j := 0) rfl ?_
  refine V.getf dX6_works_9 (pc' := 12) rfl FL_X6_131 rfl (by decide) rfl ?_
  refine V.ic_ge dX6_works_12 (pc' := 15) rfl (tgt := 53) (by decide) (fun c => ?_) (fun c => ?_)
  · rw [if_pos c] at e
    refine V.iconst dX6_works_53 (pc' := 54) rfl (v := 0) (by decide) ?_
    refine V.isq dX6_works_54 (pc' := 55) rfl (by decide) rfl (L' := [(1, .int (0 : Int32)), (0, .ref 54)]) rfl ?_
    refine V.alq dX6_works_55 (pc' := 56) rfl (j := 1) rfl ?_
    refine V.iconst dX6_works_56 (pc' := 57) rfl (v := 0) (by decide) ?_
    obtain ⟨h2, eh2, e⟩ := nm_s e
    refine V.putf dX6_works_57 (pc' := 60) rfl FP_X6_200 rfl (by decide) rfl eh2 ?_
    refine V.iconst dX6_works_60 (pc' := 61) rfl (v := 0) (by decide) ?_
    refine V.isq dX6_works_61 (pc' := 62) rfl (by decide) rfl (L' := [(2, .int (0 : Int32)), (1, .int (0 : Int32)), (0, .ref 54)]) rfl ?_
    refine V.pk [2, 1, 0] rfl ?_
    exact vX6_works_b62 FU h2 (0 : Int32) (0 : Int32) q e
  · rw [if_neg c] at e
    refine V.alq dX6_works_15 (pc' := 16) rfl (j := 0) rfl ?_
    refine V.alq dX6_works_16 (pc' := 17) rfl (j := 0) rfl ?_
    refine V.getr dX6_works_17 (pc' := 20) rfl FL_X6_57 rfl (by decide) rfl (r' := 57) rfl ?_
    refine V.ilq dX6_works_20 (pc' := 21) rfl (j := 1) rfl ?_
    obtain ⟨c3, e⟩ := gd_s e
    refine V.iald dX6_works_21 (pc' := 22) rfl rfl rfl (inb_t c3) ?_
    refine V.alq dX6_works_22 (pc' := 23) rfl (j := 0) rfl ?_
    refine V.ilq dX6_works_23 (pc' := 24) rfl (j := 1) rfl ?_
    obtain ⟨q4, eq4, e⟩ := bd_s e
    refine V.callVi dX6_works_24 (pc' := 27) rfl CV_X6_190 (as := [.int v1]) (kX6_shift h v1 q4 eq4) (Gs_rm (by decide)) rfl (by decide) rfl (Nat.le_of_ble_eq_true rfl) rfl ?_
    refine V.isub dX6_works_27 (pc' := 28) rfl ?_
    obtain ⟨q5, eq5, e⟩ := bd_s e
    refine V.callVv dX6_works_28 (pc' := 31) rfl CV_X6_197 (as := [.int ((h.1 57 v1.toNatClampNeg) - q4.1)]) (kX6_addsBorder q4.2 ((h.1 57 v1.toNatClampNeg) - q4.1) q5 eq5) (Gs_rm (by decide)) rfl (by decide) rfl (Nat.le_of_ble_eq_true rfl) rfl ?_
    refine V.alq dX6_works_31 (pc' := 32) rfl (j := 0) rfl ?_
    refine V.alq dX6_works_32 (pc' := 33) rfl (j := 0) rfl ?_
    refine V.getr dX6_works_33 (pc' := 36) rfl FL_X6_60 rfl (by decide) rfl (r' := 58) rfl ?_
    refine V.ilq dX6_works_36 (pc' := 37) rfl (j := 1) rfl ?_
    obtain ⟨c6, e⟩ := gd_s e
    refine V.iald dX6_works_37 (pc' := 38) rfl rfl rfl (inb_t c6) ?_
    refine V.alq dX6_works_38 (pc' := 39) rfl (j := 0) rfl ?_
    refine V.ilq dX6_works_39 (pc' := 40) rfl (j := 1) rfl ?_
    obtain ⟨q7, eq7, e⟩ := bd_s e
    refine V.callVi dX6_works_40 (pc' := 43) rfl CV_X6_190 (as := [.int v1]) (kX6_shift q5 v1 q7 eq7) (Gs_rm (by decide)) rfl (by decide) rfl (Nat.le_of_ble_eq_true rfl) rfl ?_
    refine V.isub dX6_works_43 (pc' := 44) rfl ?_
    obtain ⟨q8, eq8, e⟩ := bd_s e
    refine V.callVv dX6_works_44 (pc' := 47) rfl CV_X6_197 (as := [.int ((q5.1 58 v1.toNatClampNeg) - q7.1)]) (kX6_addsBorder q7.2 ((q5.1 58 v1.toNatClampNeg) - q7.1) q8 eq8) (Gs_rm (by decide)) rfl (by decide) rfl (Nat.le_of_ble_eq_true rfl) rfl ?_
    obtain ⟨x9, ex9, e⟩ := nm_s e
    refine V.iinc dX6_works_47 (pc' := 50) rfl (j := 1) rfl (v := 1) (by decide) (by decide) ex9 (L' := [(1, .int x9), (0, .ref 54)]) rfl ?_
    refine V.goto dX6_works_50 (pc' := 7) (by decide) ?_
    refine V.pk [1, 0] rfl ?_
    exact hk7 q8 x9 q e
def sX6_works_b7 : Nat → Hp → Int32 → Option Hp
  | 0 => fun _ _ => none
  | n + 1 => sX6_works_c7 (sX6_works_b7 n)
theorem vX6_works_b7 : ∀ (n : Nat) (h : Hp) (v1 : Int32) (q : Hp), sX6_works_b7 n h v1 = some q → V (Gs 4 (pV q)) mX6_works (0, 0) 7 [(0, .ref 54), (1, .int v1)] [] h
  | 0 => fun _ _ _ e => by cases e
  | n + 1 => fun h v1 q e => vX6_works_c7 (sX6_works_b7 n) (vX6_works_b7 n) h v1 q e
def sX6_works (h : Hp) : Option Hp :=
  nm (u1 h 54 17 (0 : Int32)) fun h1 => sX6_works_b7 FU h1 (0 : Int32)
set_option maxRecDepth 10000 in
theorem kX6_works (h : Hp) (q : Hp) (e : sX6_works h = some q) : K 4 mX6_works [.ref 54] h (pV q) := by
  unfold sX6_works at e
  refine K.ofV (by decide) rfl (Nat.le_of_ble_eq_true rfl) ?_
  show V (Gs 4 (pV q)) mX6_works (0, 0) 0 [(0, .ref 54)] [] h
  refine V.alq dX6_works_0 (pc' := 1) rfl (j := 0) rfl ?_
  refine V.iconst dX6_works_1 (pc' := 2) rfl (v := 0) (by decide) ?_
  obtain ⟨h1, eh1, e⟩ := nm_s e
  refine V.putf dX6_works_2 (pc' := 5) rfl FP_X6_187 rfl (by decide) rfl eh1 ?_
  refine V.iconst dX6_works_5 (pc' := 6) rfl (v := 0) (by decide) ?_
  refine V.isq dX6_works_6 (pc' := 7) rfl (by decide) rfl (L' := [(1, .int (0 : Int32)), (0, .ref 54)]) rfl ?_
  refine V.pk [1, 0] rfl ?_
  exact vX6_works_b7 FU h1 (0 : Int32) q e

-- X6_heat (level 4)
theorem dX6_heat_0 : decode cX6_heat 0 = .ok (.iload_n 1, 1) := by decide +kernel
theorem dX6_heat_1 : decode cX6_heat 1 = .ok (.ifCond .ne 19, 3) := by decide +kernel
theorem dX6_heat_4 : decode cX6_heat 4 = .ok (.aload_n 0, 1) := by decide +kernel
theorem dX6_heat_5 : decode cX6_heat 5 = .ok (.iload_n 1, 1) := by decide +kernel
theorem dX6_heat_6 : decode cX6_heat 6 = .ok (.iload_n 2, 1) := by decide +kernel
theorem dX6_heat_7 : decode cX6_heat 7 = .ok (.invokevirtual 244, 3) := by decide +kernel
theorem dX6_heat_10 : decode cX6_heat 10 = .ok (.aload_n 0, 1) := by decide +kernel
theorem dX6_heat_11 : decode cX6_heat 11 = .ok (.iload_n 1, 1) := by decide +kernel
theorem dX6_heat_12 : decode cX6_heat 12 = .ok (.iload_n 2, 1) := by decide +kernel
theorem dX6_heat_13 : decode cX6_heat 13 = .ok (.invokevirtual 247, 3) := by decide +kernel
theorem dX6_heat_16 : decode cX6_heat 16 = .ok (.isub, 1) := by decide +kernel
theorem dX6_heat_17 : decode cX6_heat 17 = .ok (.goto 16, 3) := by decide +kernel
theorem dX6_heat_20 : decode cX6_heat 20 = .ok (.aload_n 0, 1) := by decide +kernel
theorem dX6_heat_21 : decode cX6_heat 21 = .ok (.iload_n 1, 1) := by decide +kernel
theorem dX6_heat_22 : decode cX6_heat 22 = .ok (.iload_n 2, 1) := by decide +kernel
theorem dX6_heat_23 : decode cX6_heat 23 = .ok (.invokevirtual 247, 3) := by decide +kernel
theorem dX6_heat_26 : decode cX6_heat 26 = .ok (.aload_n 0, 1) := by decide +kernel
theorem dX6_heat_27 : decode cX6_heat 27 = .ok (.iload_n 1, 1) := by decide +kernel
theorem dX6_heat_28 : decode cX6_heat 28 = .ok (.iload_n 2, 1) := by decide +kernel
theorem dX6_heat_29 : decode cX6_heat 29 = .ok (.invokevirtual 244, 3) := by decide +kernel
theorem dX6_heat_32 : decode cX6_heat 32 = .ok (.isub, 1) := by decide +kernel
theorem dX6_heat_33 : decode cX6_heat 33 = .ok (.istore_n 3, 1) := by decide +kernel
theorem dX6_heat_34 : decode cX6_heat 34 = .ok (.aload_n 0, 1) := by decide +kernel
theorem dX6_heat_35 : decode cX6_heat 35 = .ok (.getfield 63, 3) := by decide +kernel
theorem dX6_heat_38 : decode cX6_heat 38 = .ok (.iload_n 2, 1) := by decide +kernel
theorem dX6_heat_39 : decode cX6_heat 39 = .ok (.iaload, 1) := by decide +kernel
theorem dX6_heat_40 : decode cX6_heat 40 = .ok (.iconst 0, 1) := by decide +kernel
theorem dX6_heat_41 : decode cX6_heat 41 = .ok (.iload_n 3, 1) := by decide +kernel
theorem dX6_heat_42 : decode cX6_heat 42 = .ok (.invokestatic 173, 3) := by decide +kernel
theorem dX6_heat_45 : decode cX6_heat 45 = .ok (.imul, 1) := by decide +kernel
theorem dX6_heat_46 : decode cX6_heat 46 = .ok (.ireturn, 1) := by decide +kernel
def sX6_heat_c33 (h : Hp) (v2 : Int32) (t0 : Int32) : Option (Int32 × Hp) :=
  gd (inb v2 10) (some (((h.1 59 v2.toNatClampNeg) * (imax (0 : Int32) t0)), h))
set_option maxRecDepth 10000 in
theorem vX6_heat_c33 (h : Hp) (v2 : Int32) (t0 : Int32) (q : (Int32 × Hp)) (e : sX6_heat_c33 h v2 t0 = some q) : V (Gs 4 (pI q)) mX6_heat (0, 0) 33 [(0, .ref 54), (2, .int v2)] [.int t0] h := by
  unfold sX6_heat_c33 at e
  refine V.isq dX6_heat_33 (pc' := 34) rfl (by decide) rfl (L' := [(3, .int t0), (0, .ref 54), (2, .int v2)]) rfl ?_
  refine V.alq dX6_heat_34 (pc' := 35) rfl (j := 1) rfl ?_
  refine V.getr dX6_heat_35 (pc' := 38) rfl FL_X6_63 rfl (by decide) rfl (r' := 59) rfl ?_
  refine V.ilq dX6_heat_38 (pc' := 39) rfl (j := 2) rfl ?_
  obtain ⟨c5, e⟩ := gd_s e
  refine V.iald dX6_heat_39 (pc' := 40) rfl rfl rfl (inb_t c5) ?_
  refine V.iconst dX6_heat_40 (pc' := 41) rfl (v := 0) (by decide) ?_
  refine V.ilq dX6_heat_41 (pc' := 42) rfl (j := 0) rfl ?_
  refine V.mmax dX6_heat_42 (pc' := 45) rfl (Gs_rm (by decide)) ML_X6_173 MS_imax MI_Math MC_imax (Nat.le_of_ble_eq_true rfl) ?_
  refine V.imul dX6_heat_45 (pc' := 46) rfl ?_
  exact V.iret dX6_heat_46 rfl (fnI e)
def sX6_heat (h : Hp) (a1 : Int32) (a2 : Int32) : Option (Int32 × Hp) :=
  if a1 = 0 then ((sX6_far h a1 a2).bind fun q3 => (sX6_near q3.2 a1 a2).bind fun q4 => sX6_heat_c33 q4.2 a2 (q3.1 - q4.1)) else ((sX6_near h a1 a2).bind fun q1 => (sX6_far q1.2 a1 a2).bind fun q2 => sX6_heat_c33 q2.2 a2 (q1.1 - q2.1))
set_option maxRecDepth 10000 in
theorem kX6_heat (h : Hp) (a1 : Int32) (a2 : Int32) (q : (Int32 × Hp)) (e : sX6_heat h a1 a2 = some q) : K 4 mX6_heat [.ref 54, .int a1, .int a2] h (pI q) := by
  unfold sX6_heat at e
  refine K.ofV (by decide) rfl (Nat.le_of_ble_eq_true rfl) ?_
  show V (Gs 4 (pI q)) mX6_heat (0, 0) 0 [(0, .ref 54), (1, .int a1), (2, .int a2)] [] h
  refine V.ilq dX6_heat_0 (pc' := 1) rfl (j := 1) rfl ?_
  refine V.if_ne dX6_heat_1 (pc' := 4) rfl (tgt := 20) (by decide) (fun c => ?_) (fun c => ?_)
  · rw [if_neg c] at e
    refine V.alq dX6_heat_20 (pc' := 21) rfl (j := 0) rfl ?_
    refine V.ilq dX6_heat_21 (pc' := 22) rfl (j := 1) rfl ?_
    refine V.ilq dX6_heat_22 (pc' := 23) rfl (j := 2) rfl ?_
    obtain ⟨q1, eq1, e⟩ := bd_s e
    refine V.callVi dX6_heat_23 (pc' := 26) rfl CV_X6_247 (as := [.int a1, .int a2]) (kX6_near h a1 a2 q1 eq1) (Gs_rm (by decide)) rfl (by decide) rfl (Nat.le_of_ble_eq_true rfl) rfl ?_
    refine V.alq dX6_heat_26 (pc' := 27) rfl (j := 0) rfl ?_
    refine V.ilq dX6_heat_27 (pc' := 28) rfl (j := 1) rfl ?_
    refine V.ilq dX6_heat_28 (pc' := 29) rfl (j := 2) rfl ?_
    obtain ⟨q2, eq2, e⟩ := bd_s e
    refine V.callVi dX6_heat_29 (pc' := 32) rfl CV_X6_244 (as := [.int a1, .int a2]) (kX6_far q1.2 a1 a2 q2 eq2) (Gs_rm (by decide)) rfl (by decide) rfl (Nat.le_of_ble_eq_true rfl) rfl ?_
    refine V.isub dX6_heat_32 (pc' := 33) rfl ?_
    refine V.pk [0, 2] rfl ?_
    exact vX6_heat_c33 q2.2 a2 (q1.1 - q2.1) q e
  · rw [if_pos c] at e
    refine V.alq dX6_heat_4 (pc' := 5) rfl (j := 0) rfl ?_
    refine V.ilq dX6_heat_5 (pc' := 6) rfl (j := 1) rfl ?_
    refine V.ilq dX6_heat_6 (pc' := 7) rfl (j := 2) rfl ?_
    obtain ⟨q3, eq3, e⟩ := bd_s e
    refine V.callVi dX6_heat_7 (pc' := 10) rfl CV_X6_244 (as := [.int a1, .int a2]) (kX6_far h a1 a2 q3 eq3) (Gs_rm (by decide)) rfl (by decide) rfl (Nat.le_of_ble_eq_true rfl) rfl ?_
    refine V.alq dX6_heat_10 (pc' := 11) rfl (j := 0) rfl ?_
    refine V.ilq dX6_heat_11 (pc' := 12) rfl (j := 1) rfl ?_
    refine V.ilq dX6_heat_12 (pc' := 13) rfl (j := 2) rfl ?_
    obtain ⟨q4, eq4, e⟩ := bd_s e
    refine V.callVi dX6_heat_13 (pc' := 16) rfl CV_X6_247 (as := [.int a1, .int a2]) (kX6_near q3.2 a1 a2 q4 eq4) (Gs_rm (by decide)) rfl (by decide) rfl (Nat.le_of_ble_eq_true rfl) rfl ?_
    refine V.isub dX6_heat_16 (pc' := 17) rfl ?_
    refine V.goto dX6_heat_17 (pc' := 33) (by decide) ?_
    refine V.pk [0, 2] rfl ?_
    exact vX6_heat_c33 q4.2 a2 (q3.1 - q4.1) q e

-- X6_width (level 4)
theorem dX6_width_0 : decode cX6_width 0 = .ok (.iload_n 1, 1) := by decide +kernel
theorem dX6_width_1 : decode cX6_width 1 = .ok (.ifCond .ne 7, 3) := by decide +kernel
theorem dX6_width_4 : decode cX6_width 4 = .ok (.iconst 1, 1) := by decide +kernel
theorem dX6_width_5 : decode cX6_width 5 = .ok (.goto 4, 3) := by decide +kernel
theorem dX6_width_8 : decode cX6_width 8 = .ok (.iconst (-1), 1) := by decide +kernel
theorem dX6_width_9 : decode cX6_width 9 = .ok (.istore 6, 2) := by decide +kernel
theorem dX6_width_11 : decode cX6_width 11 = .ok (.aload_n 0, 1) := by decide +kernel
theorem dX6_width_12 : decode cX6_width 12 = .ok (.iload_n 1, 1) := by decide +kernel
theorem dX6_width_13 : decode cX6_width 13 = .ok (.iload_n 2, 1) := by decide +kernel
theorem dX6_width_14 : decode cX6_width 14 = .ok (.invokevirtual 247, 3) := by decide +kernel
theorem dX6_width_17 : decode cX6_width 17 = .ok (.i2l, 1) := by decide +kernel
theorem dX6_width_18 : decode cX6_width 18 = .ok (.aload_n 0, 1) := by decide +kernel
theorem dX6_width_19 : decode cX6_width 19 = .ok (.getfield 63, 3) := by decide +kernel
theorem dX6_width_22 : decode cX6_width 22 = .ok (.iload_n 2, 1) := by decide +kernel
theorem dX6_width_23 : decode cX6_width 23 = .ok (.iaload, 1) := by decide +kernel
theorem dX6_width_24 : decode cX6_width 24 = .ok (.i2l, 1) := by decide +kernel
theorem dX6_width_25 : decode cX6_width 25 = .ok (.lmul, 1) := by decide +kernel
theorem dX6_width_26 : decode cX6_width 26 = .ok (.iload 6, 2) := by decide +kernel
theorem dX6_width_28 : decode cX6_width 28 = .ok (.iload 4, 2) := by decide +kernel
theorem dX6_width_30 : decode cX6_width 30 = .ok (.imul, 1) := by decide +kernel
theorem dX6_width_31 : decode cX6_width 31 = .ok (.i2l, 1) := by decide +kernel
theorem dX6_width_32 : decode cX6_width 32 = .ok (.ladd, 1) := by decide +kernel
theorem dX6_width_33 : decode cX6_width 33 = .ok (.lstore 7, 2) := by decide +kernel
theorem dX6_width_35 : decode cX6_width 35 = .ok (.aload_n 0, 1) := by decide +kernel
theorem dX6_width_36 : decode cX6_width 36 = .ok (.iload_n 1, 1) := by decide +kernel
theorem dX6_width_37 : decode cX6_width 37 = .ok (.iload_n 3, 1) := by decide +kernel
theorem dX6_width_38 : decode cX6_width 38 = .ok (.invokevirtual 247, 3) := by decide +kernel
theorem dX6_width_41 : decode cX6_width 41 = .ok (.i2l, 1) := by decide +kernel
theorem dX6_width_42 : decode cX6_width 42 = .ok (.aload_n 0, 1) := by decide +kernel
theorem dX6_width_43 : decode cX6_width 43 = .ok (.getfield 63, 3) := by decide +kernel
theorem dX6_width_46 : decode cX6_width 46 = .ok (.iload_n 3, 1) := by decide +kernel
theorem dX6_width_47 : decode cX6_width 47 = .ok (.iaload, 1) := by decide +kernel
theorem dX6_width_48 : decode cX6_width 48 = .ok (.i2l, 1) := by decide +kernel
theorem dX6_width_49 : decode cX6_width 49 = .ok (.lmul, 1) := by decide +kernel
theorem dX6_width_50 : decode cX6_width 50 = .ok (.iload 6, 2) := by decide +kernel
theorem dX6_width_52 : decode cX6_width 52 = .ok (.iload 5, 2) := by decide +kernel
theorem dX6_width_54 : decode cX6_width 54 = .ok (.imul, 1) := by decide +kernel
theorem dX6_width_55 : decode cX6_width 55 = .ok (.i2l, 1) := by decide +kernel
theorem dX6_width_56 : decode cX6_width 56 = .ok (.ladd, 1) := by decide +kernel
theorem dX6_width_57 : decode cX6_width 57 = .ok (.lstore 9, 2) := by decide +kernel
theorem dX6_width_59 : decode cX6_width 59 = .ok (.lload 7, 2) := by decide +kernel
theorem dX6_width_61 : decode cX6_width 61 = .ok (.aload_n 0, 1) := by decide +kernel
theorem dX6_width_62 : decode cX6_width 62 = .ok (.getfield 63, 3) := by decide +kernel
theorem dX6_width_65 : decode cX6_width 65 = .ok (.iload_n 3, 1) := by decide +kernel
theorem dX6_width_66 : decode cX6_width 66 = .ok (.iaload, 1) := by decide +kernel
theorem dX6_width_67 : decode cX6_width 67 = .ok (.i2l, 1) := by decide +kernel
theorem dX6_width_68 : decode cX6_width 68 = .ok (.lmul, 1) := by decide +kernel
theorem dX6_width_69 : decode cX6_width 69 = .ok (.lload 9, 2) := by decide +kernel
theorem dX6_width_71 : decode cX6_width 71 = .ok (.aload_n 0, 1) := by decide +kernel
theorem dX6_width_72 : decode cX6_width 72 = .ok (.getfield 63, 3) := by decide +kernel
theorem dX6_width_75 : decode cX6_width 75 = .ok (.iload_n 2, 1) := by decide +kernel
theorem dX6_width_76 : decode cX6_width 76 = .ok (.iaload, 1) := by decide +kernel
theorem dX6_width_77 : decode cX6_width 77 = .ok (.i2l, 1) := by decide +kernel
theorem dX6_width_78 : decode cX6_width 78 = .ok (.lmul, 1) := by decide +kernel
theorem dX6_width_79 : decode cX6_width 79 = .ok (.lsub, 1) := by decide +kernel
theorem dX6_width_80 : decode cX6_width 80 = .ok (.lreturn, 1) := by decide +kernel
def sX6_width_c9 (h : Hp) (v1 : Int32) (v2 : Int32) (v3 : Int32) (v4 : Int32) (v5 : Int32) (t0 : Int32) : Option (Int64 × Hp) :=
  (sX6_near h v1 v2).bind fun q1 => gd (inb v2 10) (nm (((q1.1.toInt64 * (q1.2.1 59 v2.toNatClampNeg).toInt64) + (t0 * v4).toInt64)) fun x3 => (sX6_near q1.2 v1 v3).bind fun q4 => gd (inb v3 10) (nm (((q4.1.toInt64 * (q4.2.1 59 v3.toNatClampNeg).toInt64) + (t0 * v5).toInt64)) fun x6 => gd (inb v3 10) (gd (inb v2 10) (some (((x3 * (q4.2.1 59 v3.toNatClampNeg).toInt64) - (x6 * (q4.2.1 59 v2.toNatClampNeg).toInt64)), q4.2)))))
set_option maxRecDepth 10000 in
theorem vX6_width_c9 (h : Hp) (v1 : Int32) (v2 : Int32) (v3 : Int32) (v4 : Int32) (v5 : Int32) (t0 : Int32) (q : (Int64 × Hp)) (e : sX6_width_c9 h v1 v2 v3 v4 v5 t0 = some q) : V (Gs 4 (pL q)) mX6_width (0, 0) 9 [(0, .ref 54), (1, .int v1), (2, .int v2), (3, .int v3), (4, .int v4), (5, .int v5)] [.int t0] h := by
  unfold sX6_width_c9 at e
  refine V.is dX6_width_9 (pc' := 11) rfl (by decide) rfl (L' := [(6, .int t0), (0, .ref 54), (1, .int v1), (2, .int v2), (3, .int v3), (4, .int v4), (5, .int v5)]) rfl ?_
  refine V.alq dX6_width_11 (pc' := 12) rfl (j := 1) rfl ?_
  refine V.ilq dX6_width_12 (pc' := 13) rfl (j := 2) rfl ?_
  refine V.ilq dX6_width_13 (pc' := 14) rfl (j := 3) rfl ?_
  obtain ⟨q1, eq1, e⟩ := bd_s e
  refine V.callVi dX6_width_14 (pc' := 17) rfl CV_X6_247 (as := [.int v1, .int v2]) (kX6_near h v1 v2 q1 eq1) (Gs_rm (by decide)) rfl (by decide) rfl (Nat.le_of_ble_eq_true rfl) rfl ?_
  refine V.i2l dX6_width_17 (pc' := 18) rfl ?_
  refine V.alq dX6_width_18 (pc' := 19) rfl (j := 1) rfl ?_
  refine V.getr dX6_width_19 (pc' := 22) rfl FL_X6_63 rfl (by decide) rfl (r' := 59) rfl ?_
  refine V.ilq dX6_width_22 (pc' := 23) rfl (j := 3) rfl ?_
  obtain ⟨c2, e⟩ := gd_s e
  refine V.iald dX6_width_23 (pc' := 24) rfl rfl rfl (inb_t c2) ?_
  refine V.i2l dX6_width_24 (pc' := 25) rfl ?_
  refine V.lmul dX6_width_25 (pc' := 26) rfl ?_
  refine V.il dX6_width_26 (pc' := 28) rfl (j := 0) rfl ?_
  refine V.il dX6_width_28 (pc' := 30) rfl (j := 5) rfl ?_
  refine V.imul dX6_width_30 (pc' := 31) rfl ?_
  refine V.i2l dX6_width_31 (pc' := 32) rfl ?_
  refine V.ladd dX6_width_32 (pc' := 33) rfl ?_
  obtain ⟨x3, ex3, e⟩ := nm_s e
  refine V.ls dX6_width_33 (pc' := 35) rfl (by decide) ex3 (L' := [(7, .long x3), (6, .int t0), (0, .ref 54), (1, .int v1), (2, .int v2), (3, .int v3), (4, .int v4), (5, .int v5)]) rfl ?_
  refine V.alq dX6_width_35 (pc' := 36) rfl (j := 2) rfl ?_
  refine V.ilq dX6_width_36 (pc' := 37) rfl (j := 3) rfl ?_
  refine V.ilq dX6_width_37 (pc' := 38) rfl (j := 5) rfl ?_
  obtain ⟨q4, eq4, e⟩ := bd_s e
  refine V.callVi dX6_width_38 (pc' := 41) rfl CV_X6_247 (as := [.int v1, .int v3]) (kX6_near q1.2 v1 v3 q4 eq4) (Gs_rm (by decide)) rfl (by decide) rfl (Nat.le_of_ble_eq_true rfl) rfl ?_
  refine V.i2l dX6_width_41 (pc' := 42) rfl ?_
  refine V.alq dX6_width_42 (pc' := 43) rfl (j := 2) rfl ?_
  refine V.getr dX6_width_43 (pc' := 46) rfl FL_X6_63 rfl (by decide) rfl (r' := 59) rfl ?_
  refine V.ilq dX6_width_46 (pc' := 47) rfl (j := 5) rfl ?_
  obtain ⟨c5, e⟩ := gd_s e
  refine V.iald dX6_width_47 (pc' := 48) rfl rfl rfl (inb_t c5) ?_
  refine V.i2l dX6_width_48 (pc' := 49) rfl ?_
  refine V.lmul dX6_width_49 (pc' := 50) rfl ?_
  refine V.il dX6_width_50 (pc' := 52) rfl (j := 1) rfl ?_
  refine V.il dX6_width_52 (pc' := 54) rfl (j := 7) rfl ?_
  refine V.imul dX6_width_54 (pc' := 55) rfl ?_
  refine V.i2l dX6_width_55 (pc' := 56) rfl ?_
  refine V.ladd dX6_width_56 (pc' := 57) rfl ?_
  obtain ⟨x6, ex6, e⟩ := nm_s e
  refine V.ls dX6_width_57 (pc' := 59) rfl (by decide) ex6 (L' := [(9, .long x6), (7, .long x3), (6, .int t0), (0, .ref 54), (1, .int v1), (2, .int v2), (3, .int v3), (4, .int v4), (5, .int v5)]) rfl ?_
  refine V.ll dX6_width_59 (pc' := 61) rfl (j := 1) rfl ?_
  refine V.alq dX6_width_61 (pc' := 62) rfl (j := 3) rfl ?_
  refine V.getr dX6_width_62 (pc' := 65) rfl FL_X6_63 rfl (by decide) rfl (r' := 59) rfl ?_
  refine V.ilq dX6_width_65 (pc' := 66) rfl (j := 6) rfl ?_
  obtain ⟨c7, e⟩ := gd_s e
  refine V.iald dX6_width_66 (pc' := 67) rfl rfl rfl (inb_t c7) ?_
  refine V.i2l dX6_width_67 (pc' := 68) rfl ?_
  refine V.lmul dX6_width_68 (pc' := 69) rfl ?_
  refine V.ll dX6_width_69 (pc' := 71) rfl (j := 0) rfl ?_
  refine V.alq dX6_width_71 (pc' := 72) rfl (j := 3) rfl ?_
  refine V.getr dX6_width_72 (pc' := 75) rfl FL_X6_63 rfl (by decide) rfl (r' := 59) rfl ?_
  refine V.ilq dX6_width_75 (pc' := 76) rfl (j := 5) rfl ?_
  obtain ⟨c8, e⟩ := gd_s e
  refine V.iald dX6_width_76 (pc' := 77) rfl rfl rfl (inb_t c8) ?_
  refine V.i2l dX6_width_77 (pc' := 78) rfl ?_
  refine V.lmul dX6_width_78 (pc' := 79) rfl ?_
  refine V.lsub dX6_width_79 (pc' := 80) rfl ?_
  exact V.lret dX6_width_80 rfl (fnL e)
def sX6_width (h : Hp) (a1 : Int32) (a2 : Int32) (a3 : Int32) (a4 : Int32) (a5 : Int32) : Option (Int64 × Hp) :=
  if a1 = 0 then (sX6_width_c9 h a1 a2 a3 a4 a5 (1 : Int32)) else (sX6_width_c9 h a1 a2 a3 a4 a5 (-1 : Int32))
set_option maxRecDepth 10000 in
theorem kX6_width (h : Hp) (a1 : Int32) (a2 : Int32) (a3 : Int32) (a4 : Int32) (a5 : Int32) (q : (Int64 × Hp)) (e : sX6_width h a1 a2 a3 a4 a5 = some q) : K 4 mX6_width [.ref 54, .int a1, .int a2, .int a3, .int a4, .int a5] h (pL q) := by
  unfold sX6_width at e
  refine K.ofV (by decide) rfl (Nat.le_of_ble_eq_true rfl) ?_
  show V (Gs 4 (pL q)) mX6_width (0, 0) 0 [(0, .ref 54), (1, .int a1), (2, .int a2), (3, .int a3), (4, .int a4), (5, .int a5)] [] h
  refine V.ilq dX6_width_0 (pc' := 1) rfl (j := 1) rfl ?_
  refine V.if_ne dX6_width_1 (pc' := 4) rfl (tgt := 8) (by decide) (fun c => ?_) (fun c => ?_)
  · rw [if_neg c] at e
    refine V.iconst dX6_width_8 (pc' := 9) rfl (v := -1) (by decide) ?_
    exact vX6_width_c9 h a1 a2 a3 a4 a5 (-1 : Int32) q e
  · rw [if_pos c] at e
    refine V.iconst dX6_width_4 (pc' := 5) rfl (v := 1) (by decide) ?_
    refine V.goto dX6_width_5 (pc' := 9) (by decide) ?_
    exact vX6_width_c9 h a1 a2 a3 a4 a5 (1 : Int32) q e

-- X5_streams (level 5)
theorem dX5_streams_0 : decode cX5_streams 0 = .ok (.aload_n 0, 1) := by decide +kernel
theorem dX5_streams_1 : decode cX5_streams 1 = .ok (.getfield 12, 3) := by decide +kernel
theorem dX5_streams_4 : decode cX5_streams 4 = .ok (.aload_n 0, 1) := by decide +kernel
theorem dX5_streams_5 : decode cX5_streams 5 = .ok (.getfield 30, 3) := by decide +kernel
theorem dX5_streams_8 : decode cX5_streams 8 = .ok (.invokevirtual 69, 3) := by decide +kernel
theorem dX5_streams_11 : decode cX5_streams 11 = .ok (.istore_n 1, 1) := by decide +kernel
theorem dX5_streams_12 : decode cX5_streams 12 = .ok (.aload_n 0, 1) := by decide +kernel
theorem dX5_streams_13 : decode cX5_streams 13 = .ok (.getfield 12, 3) := by decide +kernel
theorem dX5_streams_16 : decode cX5_streams 16 = .ok (.iconst 0, 1) := by decide +kernel
theorem dX5_streams_17 : decode cX5_streams 17 = .ok (.invokevirtual 66, 3) := by decide +kernel
theorem dX5_streams_20 : decode cX5_streams 20 = .ok (.pop, 1) := by decide +kernel
theorem dX5_streams_21 : decode cX5_streams 21 = .ok (.iload_n 1, 1) := by decide +kernel
theorem dX5_streams_22 : decode cX5_streams 22 = .ok (.iconst (-1), 1) := by decide +kernel
theorem dX5_streams_23 : decode cX5_streams 23 = .ok (.if_icmp .eq 7, 3) := by decide +kernel
theorem dX5_streams_26 : decode cX5_streams 26 = .ok (.iconst (-1), 1) := by decide +kernel
theorem dX5_streams_27 : decode cX5_streams 27 = .ok (.iload_n 1, 1) := by decide +kernel
theorem dX5_streams_28 : decode cX5_streams 28 = .ok (.isub, 1) := by decide +kernel
theorem dX5_streams_29 : decode cX5_streams 29 = .ok (.ireturn, 1) := by decide +kernel
theorem dX5_streams_30 : decode cX5_streams 30 = .ok (.aload_n 0, 1) := by decide +kernel
theorem dX5_streams_31 : decode cX5_streams 31 = .ok (.getfield 26, 3) := by decide +kernel
theorem dX5_streams_34 : decode cX5_streams 34 = .ok (.aload_n 0, 1) := by decide +kernel
theorem dX5_streams_35 : decode cX5_streams 35 = .ok (.getfield 30, 3) := by decide +kernel
theorem dX5_streams_38 : decode cX5_streams 38 = .ok (.invokevirtual 73, 3) := by decide +kernel
theorem dX5_streams_41 : decode cX5_streams 41 = .ok (.aload_n 0, 1) := by decide +kernel
theorem dX5_streams_42 : decode cX5_streams 42 = .ok (.invokevirtual 77, 3) := by decide +kernel
theorem dX5_streams_45 : decode cX5_streams 45 = .ok (.aload_n 0, 1) := by decide +kernel
theorem dX5_streams_46 : decode cX5_streams 46 = .ok (.getfield 26, 3) := by decide +kernel
theorem dX5_streams_49 : decode cX5_streams 49 = .ok (.getfield 80, 3) := by decide +kernel
theorem dX5_streams_52 : decode cX5_streams 52 = .ok (.ireturn, 1) := by decide +kernel
def sX5_streams (h : Hp) : Option (Int32 × Hp) :=
  (sX3_readInto h 11).bind fun q1 => (sX3_cut q1.2 (0 : Int32)).bind fun q2 => if q1.1 = (-1 : Int32) then ((sX1_copy q2.2 6 11).bind fun q3 => (sX5_settle q3).bind fun q4 => some ((q4.1 6 4), q4)) else (some (((-1 : Int32) - q1.1), q2.2))
set_option maxRecDepth 10000 in
theorem kX5_streams (h : Hp) (q : (Int32 × Hp)) (e : sX5_streams h = some q) : K 5 mX5_streams [.ref 1] h (pI q) := by
  unfold sX5_streams at e
  refine K.ofV (by decide) rfl (Nat.le_of_ble_eq_true rfl) ?_
  show V (Gs 5 (pI q)) mX5_streams (0, 0) 0 [(0, .ref 1)] [] h
  refine V.alq dX5_streams_0 (pc' := 1) rfl (j := 0) rfl ?_
  refine V.getr dX5_streams_1 (pc' := 4) rfl FL_X5_12 rfl (by decide) rfl (r' := 2) rfl ?_
  refine V.alq dX5_streams_4 (pc' := 5) rfl (j := 0) rfl ?_
  refine V.getr dX5_streams_5 (pc' := 8) rfl FL_X5_30 rfl (by decide) rfl (r' := 11) rfl ?_
  obtain ⟨q1, eq1, e⟩ := bd_s e
  refine V.callVi dX5_streams_8 (pc' := 11) rfl CV_X5_69 (as := [.ref 11]) (kX3_readInto h 11 q1 eq1) (Gs_rm (by decide)) rfl (by decide) rfl (Nat.le_of_ble_eq_true rfl) rfl ?_
  refine V.isq dX5_streams_11 (pc' := 12) rfl (by decide) rfl (L' := [(1, .int q1.1), (0, .ref 1)]) rfl ?_
  refine V.alq dX5_streams_12 (pc' := 13) rfl (j := 1) rfl ?_
  refine V.getr dX5_streams_13 (pc' := 16) rfl FL_X5_12 rfl (by decide) rfl (r' := 2) rfl ?_
  refine V.iconst dX5_streams_16 (pc' := 17) rfl (v := 0) (by decide) ?_
  obtain ⟨q2, eq2, e⟩ := bd_s e
  refine V.callVi dX5_streams_17 (pc' := 20) rfl CV_X5_66 (as := [.int (0 : Int32)]) (kX3_cut q1.2 (0 : Int32) q2 eq2) (Gs_rm (by decide)) rfl (by decide) rfl (Nat.le_of_ble_eq_true rfl) rfl ?_
  refine V.pop dX5_streams_20 (pc' := 21) rfl rfl ?_
  refine V.ilq dX5_streams_21 (pc' := 22) rfl (j := 0) rfl ?_
  refine V.iconst dX5_streams_22 (pc' := 23) rfl (v := -1) (by decide) ?_
  refine V.ic_eq dX5_streams_23 (pc' := 26) rfl (tgt := 30) (by decide) (fun c => ?_) (fun c => ?_)
  · rw [if_pos c] at e
    refine V.alq dX5_streams_30 (pc' := 31) rfl (j := 1) rfl ?_
    refine V.getr dX5_streams_31 (pc' := 34) rfl FL_X5_26 rfl (by decide) rfl (r' := 6) rfl ?_
    refine V.alq dX5_streams_34 (pc' := 35) rfl (j := 1) rfl ?_
    refine V.getr dX5_streams_35 (pc' := 38) rfl FL_X5_30 rfl (by decide) rfl (r' := 11) rfl ?_
    obtain ⟨q3, eq3, e⟩ := bd_s e
    refine V.callVv dX5_streams_38 (pc' := 41) rfl CV_X5_73 (as := [.ref 11]) (kX1_copy q2.2 6 11 q3 eq3) (Gs_rm (by decide)) rfl (by decide) rfl (Nat.le_of_ble_eq_true rfl) rfl ?_
    refine V.alq dX5_streams_41 (pc' := 42) rfl (j := 1) rfl ?_
    obtain ⟨q4, eq4, e⟩ := bd_s e
    refine V.callVv dX5_streams_42 (pc' := 45) rfl CV_X5_77 (as := []) (kX5_settle q3 q4 eq4) (Gs_rm (by decide)) rfl (by decide) rfl (Nat.le_of_ble_eq_true rfl) rfl ?_
    refine V.alq dX5_streams_45 (pc' := 46) rfl (j := 1) rfl ?_
    refine V.getr dX5_streams_46 (pc' := 49) rfl FL_X5_26 rfl (by decide) rfl (r' := 6) rfl ?_
    refine V.getf dX5_streams_49 (pc' := 52) rfl FL_X5_80 rfl (by decide) rfl ?_
    exact V.iret dX5_streams_52 rfl (fnI e)
  · rw [if_neg c] at e
    refine V.iconst dX5_streams_26 (pc' := 27) rfl (v := -1) (by decide) ?_
    refine V.ilq dX5_streams_27 (pc' := 28) rfl (j := 0) rfl ?_
    refine V.isub dX5_streams_28 (pc' := 29) rfl ?_
    exact V.iret dX5_streams_29 rfl (fnI e)

-- X5_sets (level 5)
theorem dX5_sets_0 : decode cX5_sets 0 = .ok (.aload_n 0, 1) := by decide +kernel
theorem dX5_sets_1 : decode cX5_sets 1 = .ok (.getfield 26, 3) := by decide +kernel
theorem dX5_sets_4 : decode cX5_sets 4 = .ok (.iload_n 1, 1) := by decide +kernel
theorem dX5_sets_5 : decode cX5_sets 5 = .ok (.invokevirtual 81, 3) := by decide +kernel
theorem dX5_sets_8 : decode cX5_sets 8 = .ok (.ifCond .eq 11, 3) := by decide +kernel
theorem dX5_sets_11 : decode cX5_sets 11 = .ok (.iload_n 2, 1) := by decide +kernel
theorem dX5_sets_12 : decode cX5_sets 12 = .ok (.iload_n 3, 1) := by decide +kernel
theorem dX5_sets_13 : decode cX5_sets 13 = .ok (.invokestatic 84, 3) := by decide +kernel
theorem dX5_sets_16 : decode cX5_sets 16 = .ok (.ifCond .ne 5, 3) := by decide +kernel
theorem dX5_sets_19 : decode cX5_sets 19 = .ok (.iconst (-1), 1) := by decide +kernel
theorem dX5_sets_20 : decode cX5_sets 20 = .ok (.ireturn, 1) := by decide +kernel
theorem dX5_sets_21 : decode cX5_sets 21 = .ok (.aload_n 0, 1) := by decide +kernel
theorem dX5_sets_22 : decode cX5_sets 22 = .ok (.getfield 26, 3) := by decide +kernel
theorem dX5_sets_25 : decode cX5_sets 25 = .ok (.iload_n 1, 1) := by decide +kernel
theorem dX5_sets_26 : decode cX5_sets 26 = .ok (.iload_n 2, 1) := by decide +kernel
theorem dX5_sets_27 : decode cX5_sets 27 = .ok (.invokevirtual 88, 3) := by decide +kernel
theorem dX5_sets_30 : decode cX5_sets 30 = .ok (.istore 4, 2) := by decide +kernel
theorem dX5_sets_32 : decode cX5_sets 32 = .ok (.iload 4, 2) := by decide +kernel
theorem dX5_sets_34 : decode cX5_sets 34 = .ok (.iload_n 3, 1) := by decide +kernel
theorem dX5_sets_35 : decode cX5_sets 35 = .ok (.if_icmp .ne 6, 3) := by decide +kernel
theorem dX5_sets_38 : decode cX5_sets 38 = .ok (.bipush (-2), 2) := by decide +kernel
theorem dX5_sets_40 : decode cX5_sets 40 = .ok (.ireturn, 1) := by decide +kernel
theorem dX5_sets_41 : decode cX5_sets 41 = .ok (.aload_n 0, 1) := by decide +kernel
theorem dX5_sets_42 : decode cX5_sets 42 = .ok (.getfield 26, 3) := by decide +kernel
theorem dX5_sets_45 : decode cX5_sets 45 = .ok (.iload_n 1, 1) := by decide +kernel
theorem dX5_sets_46 : decode cX5_sets 46 = .ok (.iload_n 2, 1) := by decide +kernel
theorem dX5_sets_47 : decode cX5_sets 47 = .ok (.iload_n 3, 1) := by decide +kernel
theorem dX5_sets_48 : decode cX5_sets 48 = .ok (.invokevirtual 92, 3) := by decide +kernel
theorem dX5_sets_51 : decode cX5_sets 51 = .ok (.ifCond .eq 6, 3) := by decide +kernel
theorem dX5_sets_54 : decode cX5_sets 54 = .ok (.bipush (-3), 2) := by decide +kernel
theorem dX5_sets_56 : decode cX5_sets 56 = .ok (.ireturn, 1) := by decide +kernel
theorem dX5_sets_57 : decode cX5_sets 57 = .ok (.aload_n 0, 1) := by decide +kernel
theorem dX5_sets_58 : decode cX5_sets 58 = .ok (.getfield 26, 3) := by decide +kernel
theorem dX5_sets_61 : decode cX5_sets 61 = .ok (.iload_n 1, 1) := by decide +kernel
theorem dX5_sets_62 : decode cX5_sets 62 = .ok (.iload_n 2, 1) := by decide +kernel
theorem dX5_sets_63 : decode cX5_sets 63 = .ok (.iload_n 3, 1) := by decide +kernel
theorem dX5_sets_64 : decode cX5_sets 64 = .ok (.invokevirtual 96, 3) := by decide +kernel
theorem dX5_sets_67 : decode cX5_sets 67 = .ok (.aload_n 0, 1) := by decide +kernel
theorem dX5_sets_68 : decode cX5_sets 68 = .ok (.invokevirtual 77, 3) := by decide +kernel
theorem dX5_sets_71 : decode cX5_sets 71 = .ok (.iload 4, 2) := by decide +kernel
theorem dX5_sets_73 : decode cX5_sets 73 = .ok (.ireturn, 1) := by decide +kernel
def sX5_sets_c19 (h : Hp) : Option (Int32 × Hp) :=
  some ((-1 : Int32), h)
set_option maxRecDepth 10000 in
theorem vX5_sets_c19 (h : Hp) (q : (Int32 × Hp)) (e : sX5_sets_c19 h = some q) : V (Gs 5 (pI q)) mX5_sets (0, 0) 19 [] [] h := by
  unfold sX5_sets_c19 at e
  refine V.iconst dX5_sets_19 (pc' := 20) rfl (v := -1) (by decide) ?_
  exact V.iret dX5_sets_20 rfl (fnI e)
def sX5_sets (h : Hp) (a1 : Int32) (a2 : Int32) (a3 : Int32) : Option (Int32 × Hp) :=
  (sX1_has h 6 a1).bind fun q1 => if q1.1 = 0 then (sX5_sets_c19 q1.2) else ((sX5_isValue q1.2 a2 a3).bind fun q2 => if q2.1 = 0 then (sX5_sets_c19 q2.2) else ((sX1_value q2.2 6 a1 a2).bind fun q3 => if q3.1 = a3 then (some ((-2 : Int32), q3.2)) else ((sX1_turns q3.2 6 a1 a2 a3).bind fun q4 => if q4.1 = 0 then ((sX1_put q4.2 6 a1 a2 a3).bind fun q5 => (sX5_settle q5).bind fun q6 => some (q3.1, q6)) else (some ((-3 : Int32), q4.2)))))
set_option maxRecDepth 10000 in
theorem kX5_sets (h : Hp) (a1 : Int32) (a2 : Int32) (a3 : Int32) (q : (Int32 × Hp)) (e : sX5_sets h a1 a2 a3 = some q) : K 5 mX5_sets [.ref 1, .int a1, .int a2, .int a3] h (pI q) := by
  unfold sX5_sets at e
  refine K.ofV (by decide) rfl (Nat.le_of_ble_eq_true rfl) ?_
  show V (Gs 5 (pI q)) mX5_sets (0, 0) 0 [(0, .ref 1), (1, .int a1), (2, .int a2), (3, .int a3)] [] h
  refine V.alq dX5_sets_0 (pc' := 1) rfl (j := 0) rfl ?_
  refine V.getr dX5_sets_1 (pc' := 4) rfl FL_X5_26 rfl (by decide) rfl (r' := 6) rfl ?_
  refine V.ilq dX5_sets_4 (pc' := 5) rfl (j := 1) rfl ?_
  obtain ⟨q1, eq1, e⟩ := bd_s e
  refine V.callVi dX5_sets_5 (pc' := 8) rfl CV_X5_81 (as := [.int a1]) (kX1_has h 6 a1 q1 eq1) (Gs_rm (by decide)) rfl (by decide) rfl (Nat.le_of_ble_eq_true rfl) rfl ?_
  refine V.if_eq dX5_sets_8 (pc' := 11) rfl (tgt := 19) (by decide) (fun c => ?_) (fun c => ?_)
  · rw [if_pos c] at e
    refine V.pk [] rfl ?_
    exact vX5_sets_c19 q1.2 q e
  · rw [if_neg c] at e
    refine V.ilq dX5_sets_11 (pc' := 12) rfl (j := 2) rfl ?_
    refine V.ilq dX5_sets_12 (pc' := 13) rfl (j := 3) rfl ?_
    obtain ⟨q2, eq2, e⟩ := bd_s e
    refine V.callSi dX5_sets_13 (pc' := 16) rfl CS_X5_84 (as := [.int a2, .int a3]) (kX5_isValue q1.2 a2 a3 q2 eq2) (Gs_rm (by decide)) rfl (Nat.le_of_ble_eq_true rfl) rfl ?_
    refine V.if_ne dX5_sets_16 (pc' := 19) rfl (tgt := 21) (by decide) (fun c => ?_) (fun c => ?_)
    · rw [if_neg c] at e
      refine V.alq dX5_sets_21 (pc' := 22) rfl (j := 0) rfl ?_
      refine V.getr dX5_sets_22 (pc' := 25) rfl FL_X5_26 rfl (by decide) rfl (r' := 6) rfl ?_
      refine V.ilq dX5_sets_25 (pc' := 26) rfl (j := 1) rfl ?_
      refine V.ilq dX5_sets_26 (pc' := 27) rfl (j := 2) rfl ?_
      obtain ⟨q3, eq3, e⟩ := bd_s e
      refine V.callVi dX5_sets_27 (pc' := 30) rfl CV_X5_88 (as := [.int a1, .int a2]) (kX1_value q2.2 6 a1 a2 q3 eq3) (Gs_rm (by decide)) rfl (by decide) rfl (Nat.le_of_ble_eq_true rfl) rfl ?_
      refine V.is dX5_sets_30 (pc' := 32) rfl (by decide) rfl (L' := [(4, .int q3.1), (0, .ref 1), (1, .int a1), (2, .int a2), (3, .int a3)]) rfl ?_
      refine V.il dX5_sets_32 (pc' := 34) rfl (j := 0) rfl ?_
      refine V.ilq dX5_sets_34 (pc' := 35) rfl (j := 4) rfl ?_
      refine V.ic_ne dX5_sets_35 (pc' := 38) rfl (tgt := 41) (by decide) (fun c => ?_) (fun c => ?_)
      · rw [if_neg c] at e
        refine V.alq dX5_sets_41 (pc' := 42) rfl (j := 1) rfl ?_
        refine V.getr dX5_sets_42 (pc' := 45) rfl FL_X5_26 rfl (by decide) rfl (r' := 6) rfl ?_
        refine V.ilq dX5_sets_45 (pc' := 46) rfl (j := 2) rfl ?_
        refine V.ilq dX5_sets_46 (pc' := 47) rfl (j := 3) rfl ?_
        refine V.ilq dX5_sets_47 (pc' := 48) rfl (j := 4) rfl ?_
        obtain ⟨q4, eq4, e⟩ := bd_s e
        refine V.callVi dX5_sets_48 (pc' := 51) rfl CV_X5_92 (as := [.int a1, .int a2, .int a3]) (kX1_turns q3.2 6 a1 a2 a3 q4 eq4) (Gs_rm (by decide)) rfl (by decide) rfl (Nat.le_of_ble_eq_true rfl) rfl ?_
        refine V.if_eq dX5_sets_51 (pc' := 54) rfl (tgt := 57) (by decide) (fun c => ?_) (fun c => ?_)
        · rw [if_pos c] at e
          refine V.alq dX5_sets_57 (pc' := 58) rfl (j := 1) rfl ?_
          refine V.getr dX5_sets_58 (pc' := 61) rfl FL_X5_26 rfl (by decide) rfl (r' := 6) rfl ?_
          refine V.ilq dX5_sets_61 (pc' := 62) rfl (j := 2) rfl ?_
          refine V.ilq dX5_sets_62 (pc' := 63) rfl (j := 3) rfl ?_
          refine V.ilq dX5_sets_63 (pc' := 64) rfl (j := 4) rfl ?_
          obtain ⟨q5, eq5, e⟩ := bd_s e
          refine V.callVv dX5_sets_64 (pc' := 67) rfl CV_X5_96 (as := [.int a1, .int a2, .int a3]) (kX1_put q4.2 6 a1 a2 a3 q5 eq5) (Gs_rm (by decide)) rfl (by decide) rfl (Nat.le_of_ble_eq_true rfl) rfl ?_
          refine V.alq dX5_sets_67 (pc' := 68) rfl (j := 1) rfl ?_
          obtain ⟨q6, eq6, e⟩ := bd_s e
          refine V.callVv dX5_sets_68 (pc' := 71) rfl CV_X5_77 (as := []) (kX5_settle q5 q6 eq6) (Gs_rm (by decide)) rfl (by decide) rfl (Nat.le_of_ble_eq_true rfl) rfl ?_
          refine V.il dX5_sets_71 (pc' := 73) rfl (j := 0) rfl ?_
          exact V.iret dX5_sets_73 rfl (fnI e)
        · rw [if_neg c] at e
          refine V.bipush dX5_sets_54 (pc' := 56) rfl (v := -3) (by decide) ?_
          exact V.iret dX5_sets_56 rfl (fnI e)
      · rw [if_pos c] at e
        refine V.bipush dX5_sets_38 (pc' := 40) rfl (v := -2) (by decide) ?_
        exact V.iret dX5_sets_40 rfl (fnI e)
    · rw [if_pos c] at e
      refine V.pk [] rfl ?_
      exact vX5_sets_c19 q2.2 q e

-- X5_gap (level 5)
theorem dX5_gap_0 : decode cX5_gap 0 = .ok (.iload_n 1, 1) := by decide +kernel
theorem dX5_gap_1 : decode cX5_gap 1 = .ok (.invokestatic 99, 3) := by decide +kernel
theorem dX5_gap_4 : decode cX5_gap 4 = .ok (.ifCond .ne 5, 3) := by decide +kernel
theorem dX5_gap_7 : decode cX5_gap 7 = .ok (.iconst (-1), 1) := by decide +kernel
theorem dX5_gap_8 : decode cX5_gap 8 = .ok (.ireturn, 1) := by decide +kernel
theorem dX5_gap_9 : decode cX5_gap 9 = .ok (.aload_n 0, 1) := by decide +kernel
theorem dX5_gap_10 : decode cX5_gap 10 = .ok (.getfield 55, 3) := by decide +kernel
theorem dX5_gap_13 : decode cX5_gap 13 = .ok (.istore_n 2, 1) := by decide +kernel
theorem dX5_gap_14 : decode cX5_gap 14 = .ok (.iload_n 2, 1) := by decide +kernel
theorem dX5_gap_15 : decode cX5_gap 15 = .ok (.iload_n 1, 1) := by decide +kernel
theorem dX5_gap_16 : decode cX5_gap 16 = .ok (.if_icmp .ne 6, 3) := by decide +kernel
theorem dX5_gap_19 : decode cX5_gap 19 = .ok (.bipush (-2), 2) := by decide +kernel
theorem dX5_gap_21 : decode cX5_gap 21 = .ok (.ireturn, 1) := by decide +kernel
theorem dX5_gap_22 : decode cX5_gap 22 = .ok (.aload_n 0, 1) := by decide +kernel
theorem dX5_gap_23 : decode cX5_gap 23 = .ok (.iload_n 1, 1) := by decide +kernel
theorem dX5_gap_24 : decode cX5_gap 24 = .ok (.putfield 55, 3) := by decide +kernel
theorem dX5_gap_27 : decode cX5_gap 27 = .ok (.aload_n 0, 1) := by decide +kernel
theorem dX5_gap_28 : decode cX5_gap 28 = .ok (.invokevirtual 77, 3) := by decide +kernel
theorem dX5_gap_31 : decode cX5_gap 31 = .ok (.iload_n 2, 1) := by decide +kernel
theorem dX5_gap_32 : decode cX5_gap 32 = .ok (.ireturn, 1) := by decide +kernel
def sX5_gap (h : Hp) (a1 : Int32) : Option (Int32 × Hp) :=
  (sX5_isGap h a1).bind fun q1 => if q1.1 = 0 then (some ((-1 : Int32), q1.2)) else (nm ((q1.2.1 1 8)) fun x2 => if x2 = a1 then (some ((-2 : Int32), q1.2)) else (nm (u1 q1.2 1 8 a1) fun h3 => (sX5_settle h3).bind fun q4 => some (x2, q4)))
set_option maxRecDepth 10000 in
theorem kX5_gap (h : Hp) (a1 : Int32) (q : (Int32 × Hp)) (e : sX5_gap h a1 = some q) : K 5 mX5_gap [.ref 1, .int a1] h (pI q) := by
  unfold sX5_gap at e
  refine K.ofV (by decide) rfl (Nat.le_of_ble_eq_true rfl) ?_
  show V (Gs 5 (pI q)) mX5_gap (0, 0) 0 [(0, .ref 1), (1, .int a1)] [] h
  refine V.ilq dX5_gap_0 (pc' := 1) rfl (j := 1) rfl ?_
  obtain ⟨q1, eq1, e⟩ := bd_s e
  refine V.callSi dX5_gap_1 (pc' := 4) rfl CS_X5_99 (as := [.int a1]) (kX5_isGap h a1 q1 eq1) (Gs_rm (by decide)) rfl (Nat.le_of_ble_eq_true rfl) rfl ?_
  refine V.if_ne dX5_gap_4 (pc' := 7) rfl (tgt := 9) (by decide) (fun c => ?_) (fun c => ?_)
  · rw [if_neg c] at e
    refine V.alq dX5_gap_9 (pc' := 10) rfl (j := 0) rfl ?_
    refine V.getf dX5_gap_10 (pc' := 13) rfl FL_X5_55 rfl (by decide) rfl ?_
    obtain ⟨x2, ex2, e⟩ := nm_s e
    refine V.isq dX5_gap_13 (pc' := 14) rfl (by decide) ex2 (L' := [(2, .int x2), (0, .ref 1), (1, .int a1)]) rfl ?_
    refine V.ilq dX5_gap_14 (pc' := 15) rfl (j := 0) rfl ?_
    refine V.ilq dX5_gap_15 (pc' := 16) rfl (j := 2) rfl ?_
    refine V.ic_ne dX5_gap_16 (pc' := 19) rfl (tgt := 22) (by decide) (fun c => ?_) (fun c => ?_)
    · rw [if_neg c] at e
      refine V.alq dX5_gap_22 (pc' := 23) rfl (j := 1) rfl ?_
      refine V.ilq dX5_gap_23 (pc' := 24) rfl (j := 2) rfl ?_
      obtain ⟨h3, eh3, e⟩ := nm_s e
      refine V.putf dX5_gap_24 (pc' := 27) rfl FP_X5_55 rfl (by decide) rfl eh3 ?_
      refine V.alq dX5_gap_27 (pc' := 28) rfl (j := 1) rfl ?_
      obtain ⟨q4, eq4, e⟩ := bd_s e
      refine V.callVv dX5_gap_28 (pc' := 31) rfl CV_X5_77 (as := []) (kX5_settle h3 q4 eq4) (Gs_rm (by decide)) rfl (by decide) rfl (Nat.le_of_ble_eq_true rfl) rfl ?_
      refine V.ilq dX5_gap_31 (pc' := 32) rfl (j := 0) rfl ?_
      exact V.iret dX5_gap_32 rfl (fnI e)
    · rw [if_pos c] at e
      refine V.bipush dX5_gap_19 (pc' := 21) rfl (v := -2) (by decide) ?_
      exact V.iret dX5_gap_21 rfl (fnI e)
  · rw [if_pos c] at e
    refine V.iconst dX5_gap_7 (pc' := 8) rfl (v := -1) (by decide) ?_
    exact V.iret dX5_gap_8 rfl (fnI e)

-- X5_splits (level 5)
theorem dX5_splits_0 : decode cX5_splits 0 = .ok (.aload_n 0, 1) := by decide +kernel
theorem dX5_splits_1 : decode cX5_splits 1 = .ok (.getfield 26, 3) := by decide +kernel
theorem dX5_splits_4 : decode cX5_splits 4 = .ok (.iload_n 1, 1) := by decide +kernel
theorem dX5_splits_5 : decode cX5_splits 5 = .ok (.invokevirtual 81, 3) := by decide +kernel
theorem dX5_splits_8 : decode cX5_splits 8 = .ok (.ifCond .eq 21, 3) := by decide +kernel
theorem dX5_splits_11 : decode cX5_splits 11 = .ok (.iload_n 2, 1) := by decide +kernel
theorem dX5_splits_12 : decode cX5_splits 12 = .ok (.iconst 1, 1) := by decide +kernel
theorem dX5_splits_13 : decode cX5_splits 13 = .ok (.if_icmp .lt 16, 3) := by decide +kernel
theorem dX5_splits_16 : decode cX5_splits 16 = .ok (.iload_n 2, 1) := by decide +kernel
theorem dX5_splits_17 : decode cX5_splits 17 = .ok (.aload_n 0, 1) := by decide +kernel
theorem dX5_splits_18 : decode cX5_splits 18 = .ok (.getfield 26, 3) := by decide +kernel
theorem dX5_splits_21 : decode cX5_splits 21 = .ok (.getfield 102, 3) := by decide +kernel
theorem dX5_splits_24 : decode cX5_splits 24 = .ok (.iload_n 1, 1) := by decide +kernel
theorem dX5_splits_25 : decode cX5_splits 25 = .ok (.iaload, 1) := by decide +kernel
theorem dX5_splits_26 : decode cX5_splits 26 = .ok (.if_icmp .lt 5, 3) := by decide +kernel
theorem dX5_splits_29 : decode cX5_splits 29 = .ok (.iconst (-1), 1) := by decide +kernel
theorem dX5_splits_30 : decode cX5_splits 30 = .ok (.ireturn, 1) := by decide +kernel
theorem dX5_splits_31 : decode cX5_splits 31 = .ok (.aload_n 0, 1) := by decide +kernel
theorem dX5_splits_32 : decode cX5_splits 32 = .ok (.getfield 26, 3) := by decide +kernel
theorem dX5_splits_35 : decode cX5_splits 35 = .ok (.getfield 80, 3) := by decide +kernel
theorem dX5_splits_38 : decode cX5_splits 38 = .ok (.bipush 10, 2) := by decide +kernel
theorem dX5_splits_40 : decode cX5_splits 40 = .ok (.if_icmp .lt 6, 3) := by decide +kernel
theorem dX5_splits_43 : decode cX5_splits 43 = .ok (.bipush (-2), 2) := by decide +kernel
theorem dX5_splits_45 : decode cX5_splits 45 = .ok (.ireturn, 1) := by decide +kernel
theorem dX5_splits_46 : decode cX5_splits 46 = .ok (.aload_n 0, 1) := by decide +kernel
theorem dX5_splits_47 : decode cX5_splits 47 = .ok (.getfield 26, 3) := by decide +kernel
theorem dX5_splits_50 : decode cX5_splits 50 = .ok (.iload_n 1, 1) := by decide +kernel
theorem dX5_splits_51 : decode cX5_splits 51 = .ok (.iconst 2, 1) := by decide +kernel
theorem dX5_splits_52 : decode cX5_splits 52 = .ok (.aload_n 0, 1) := by decide +kernel
theorem dX5_splits_53 : decode cX5_splits 53 = .ok (.getfield 26, 3) := by decide +kernel
theorem dX5_splits_56 : decode cX5_splits 56 = .ok (.getfield 102, 3) := by decide +kernel
theorem dX5_splits_59 : decode cX5_splits 59 = .ok (.iload_n 1, 1) := by decide +kernel
theorem dX5_splits_60 : decode cX5_splits 60 = .ok (.iaload, 1) := by decide +kernel
theorem dX5_splits_61 : decode cX5_splits 61 = .ok (.iload_n 2, 1) := by decide +kernel
theorem dX5_splits_62 : decode cX5_splits 62 = .ok (.isub, 1) := by decide +kernel
theorem dX5_splits_63 : decode cX5_splits 63 = .ok (.invokevirtual 96, 3) := by decide +kernel
theorem dX5_splits_66 : decode cX5_splits 66 = .ok (.aload_n 0, 1) := by decide +kernel
theorem dX5_splits_67 : decode cX5_splits 67 = .ok (.getfield 26, 3) := by decide +kernel
theorem dX5_splits_70 : decode cX5_splits 70 = .ok (.aload_n 0, 1) := by decide +kernel
theorem dX5_splits_71 : decode cX5_splits 71 = .ok (.getfield 26, 3) := by decide +kernel
theorem dX5_splits_74 : decode cX5_splits 74 = .ok (.getfield 106, 3) := by decide +kernel
theorem dX5_splits_77 : decode cX5_splits 77 = .ok (.iload_n 1, 1) := by decide +kernel
theorem dX5_splits_78 : decode cX5_splits 78 = .ok (.baload, 1) := by decide +kernel
theorem dX5_splits_79 : decode cX5_splits 79 = .ok (.aload_n 0, 1) := by decide +kernel
theorem dX5_splits_80 : decode cX5_splits 80 = .ok (.getfield 26, 3) := by decide +kernel
theorem dX5_splits_83 : decode cX5_splits 83 = .ok (.getfield 110, 3) := by decide +kernel
theorem dX5_splits_86 : decode cX5_splits 86 = .ok (.iload_n 1, 1) := by decide +kernel
theorem dX5_splits_87 : decode cX5_splits 87 = .ok (.iaload, 1) := by decide +kernel
theorem dX5_splits_88 : decode cX5_splits 88 = .ok (.aload_n 0, 1) := by decide +kernel
theorem dX5_splits_89 : decode cX5_splits 89 = .ok (.getfield 26, 3) := by decide +kernel
theorem dX5_splits_92 : decode cX5_splits 92 = .ok (.getfield 113, 3) := by decide +kernel
theorem dX5_splits_95 : decode cX5_splits 95 = .ok (.iload_n 1, 1) := by decide +kernel
theorem dX5_splits_96 : decode cX5_splits 96 = .ok (.iaload, 1) := by decide +kernel
theorem dX5_splits_97 : decode cX5_splits 97 = .ok (.iload_n 2, 1) := by decide +kernel
theorem dX5_splits_98 : decode cX5_splits 98 = .ok (.invokevirtual 116, 3) := by decide +kernel
theorem dX5_splits_101 : decode cX5_splits 101 = .ok (.aload_n 0, 1) := by decide +kernel
theorem dX5_splits_102 : decode cX5_splits 102 = .ok (.invokevirtual 77, 3) := by decide +kernel
theorem dX5_splits_105 : decode cX5_splits 105 = .ok (.aload_n 0, 1) := by decide +kernel
theorem dX5_splits_106 : decode cX5_splits 106 = .ok (.getfield 26, 3) := by decide +kernel
theorem dX5_splits_109 : decode cX5_splits 109 = .ok (.getfield 80, 3) := by decide +kernel
theorem dX5_splits_112 : decode cX5_splits 112 = .ok (.iconst 1, 1) := by decide +kernel
theorem dX5_splits_113 : decode cX5_splits 113 = .ok (.isub, 1) := by decide +kernel
theorem dX5_splits_114 : decode cX5_splits 114 = .ok (.ireturn, 1) := by decide +kernel
def sX5_splits_c29 (h : Hp) : Option (Int32 × Hp) :=
  some ((-1 : Int32), h)
set_option maxRecDepth 10000 in
theorem vX5_splits_c29 (h : Hp) (q : (Int32 × Hp)) (e : sX5_splits_c29 h = some q) : V (Gs 5 (pI q)) mX5_splits (0, 0) 29 [] [] h := by
  unfold sX5_splits_c29 at e
  refine V.iconst dX5_splits_29 (pc' := 30) rfl (v := -1) (by decide) ?_
  exact V.iret dX5_splits_30 rfl (fnI e)
def sX5_splits (h : Hp) (a1 : Int32) (a2 : Int32) : Option (Int32 × Hp) :=
  (sX1_has h 6 a1).bind fun q1 => if q1.1 = 0 then (sX5_splits_c29 q1.2) else (if a2 < (1 : Int32) then (sX5_splits_c29 q1.2) else (gd (inb a1 10) (if a2 < (q1.2.1 10 a1.toNatClampNeg) then (if (q1.2.1 6 4) < (10 : Int32) then (gd (inb a1 10) ((sX1_put q1.2 6 a1 (2 : Int32) ((q1.2.1 10 a1.toNatClampNeg) - a2)).bind fun q4 => gd (inb a1 10) (gd (inb a1 10) (gd (inb a1 10) ((sX1_add q4 6 (q4.1 7 a1.toNatClampNeg) (q4.1 8 a1.toNatClampNeg) (q4.1 9 a1.toNatClampNeg) a2).bind fun q8 => (sX5_settle q8).bind fun q9 => some (((q9.1 6 4) - (1 : Int32)), q9)))))) else (some ((-2 : Int32), q1.2))) else (sX5_splits_c29 q1.2))))
set_option maxRecDepth 10000 in
theorem kX5_splits (h : Hp) (a1 : Int32) (a2 : Int32) (q : (Int32 × Hp)) (e : sX5_splits h a1 a2 = some q) : K 5 mX5_splits [.ref 1, .int a1, .int a2] h (pI q) := by
  unfold sX5_splits at e
  refine K.ofV (by decide) rfl (Nat.le_of_ble_eq_true rfl) ?_
  show V (Gs 5 (pI q)) mX5_splits (0, 0) 0 [(0, .ref 1), (1, .int a1), (2, .int a2)] [] h
  refine V.alq dX5_splits_0 (pc' := 1) rfl (j := 0) rfl ?_
  refine V.getr dX5_splits_1 (pc' := 4) rfl FL_X5_26 rfl (by decide) rfl (r' := 6) rfl ?_
  refine V.ilq dX5_splits_4 (pc' := 5) rfl (j := 1) rfl ?_
  obtain ⟨q1, eq1, e⟩ := bd_s e
  refine V.callVi dX5_splits_5 (pc' := 8) rfl CV_X5_81 (as := [.int a1]) (kX1_has h 6 a1 q1 eq1) (Gs_rm (by decide)) rfl (by decide) rfl (Nat.le_of_ble_eq_true rfl) rfl ?_
  refine V.if_eq dX5_splits_8 (pc' := 11) rfl (tgt := 29) (by decide) (fun c => ?_) (fun c => ?_)
  · rw [if_pos c] at e
    refine V.pk [] rfl ?_
    exact vX5_splits_c29 q1.2 q e
  · rw [if_neg c] at e
    refine V.ilq dX5_splits_11 (pc' := 12) rfl (j := 2) rfl ?_
    refine V.iconst dX5_splits_12 (pc' := 13) rfl (v := 1) (by decide) ?_
    refine V.ic_lt dX5_splits_13 (pc' := 16) rfl (tgt := 29) (by decide) (fun c => ?_) (fun c => ?_)
    · rw [if_pos c] at e
      refine V.pk [] rfl ?_
      exact vX5_splits_c29 q1.2 q e
    · rw [if_neg c] at e
      refine V.ilq dX5_splits_16 (pc' := 17) rfl (j := 2) rfl ?_
      refine V.alq dX5_splits_17 (pc' := 18) rfl (j := 0) rfl ?_
      refine V.getr dX5_splits_18 (pc' := 21) rfl FL_X5_26 rfl (by decide) rfl (r' := 6) rfl ?_
      refine V.getr dX5_splits_21 (pc' := 24) rfl FL_X5_102 rfl (by decide) rfl (r' := 10) rfl ?_
      refine V.ilq dX5_splits_24 (pc' := 25) rfl (j := 1) rfl ?_
      obtain ⟨c2, e⟩ := gd_s e
      refine V.iald dX5_splits_25 (pc' := 26) rfl rfl rfl (inb_t c2) ?_
      refine V.ic_lt dX5_splits_26 (pc' := 29) rfl (tgt := 31) (by decide) (fun c => ?_) (fun c => ?_)
      · rw [if_pos c] at e
        refine V.alq dX5_splits_31 (pc' := 32) rfl (j := 0) rfl ?_
        refine V.getr dX5_splits_32 (pc' := 35) rfl FL_X5_26 rfl (by decide) rfl (r' := 6) rfl ?_
        refine V.getf dX5_splits_35 (pc' := 38) rfl FL_X5_80 rfl (by decide) rfl ?_
        refine V.bipush dX5_splits_38 (pc' := 40) rfl (v := 10) (by decide) ?_
        refine V.ic_lt dX5_splits_40 (pc' := 43) rfl (tgt := 46) (by decide) (fun c => ?_) (fun c => ?_)
        · rw [if_pos c] at e
          refine V.alq dX5_splits_46 (pc' := 47) rfl (j := 0) rfl ?_
          refine V.getr dX5_splits_47 (pc' := 50) rfl FL_X5_26 rfl (by decide) rfl (r' := 6) rfl ?_
          refine V.ilq dX5_splits_50 (pc' := 51) rfl (j := 1) rfl ?_
          refine V.iconst dX5_splits_51 (pc' := 52) rfl (v := 2) (by decide) ?_
          refine V.alq dX5_splits_52 (pc' := 53) rfl (j := 0) rfl ?_
          refine V.getr dX5_splits_53 (pc' := 56) rfl FL_X5_26 rfl (by decide) rfl (r' := 6) rfl ?_
          refine V.getr dX5_splits_56 (pc' := 59) rfl FL_X5_102 rfl (by decide) rfl (r' := 10) rfl ?_
          refine V.ilq dX5_splits_59 (pc' := 60) rfl (j := 1) rfl ?_
          obtain ⟨c3, e⟩ := gd_s e
          refine V.iald dX5_splits_60 (pc' := 61) rfl rfl rfl (inb_t c3) ?_
          refine V.ilq dX5_splits_61 (pc' := 62) rfl (j := 2) rfl ?_
          refine V.isub dX5_splits_62 (pc' := 63) rfl ?_
          obtain ⟨q4, eq4, e⟩ := bd_s e
          refine V.callVv dX5_splits_63 (pc' := 66) rfl CV_X5_96 (as := [.int a1, .int (2 : Int32), .int ((q1.2.1 10 a1.toNatClampNeg) - a2)]) (kX1_put q1.2 6 a1 (2 : Int32) ((q1.2.1 10 a1.toNatClampNeg) - a2) q4 eq4) (Gs_rm (by decide)) rfl (by decide) rfl (Nat.le_of_ble_eq_true rfl) rfl ?_
          refine V.alq dX5_splits_66 (pc' := 67) rfl (j := 0) rfl ?_
          refine V.getr dX5_splits_67 (pc' := 70) rfl FL_X5_26 rfl (by decide) rfl (r' := 6) rfl ?_
          refine V.alq dX5_splits_70 (pc' := 71) rfl (j := 0) rfl ?_
          refine V.getr dX5_splits_71 (pc' := 74) rfl FL_X5_26 rfl (by decide) rfl (r' := 6) rfl ?_
          refine V.getr dX5_splits_74 (pc' := 77) rfl FL_X5_106 rfl (by decide) rfl (r' := 7) rfl ?_
          refine V.ilq dX5_splits_77 (pc' := 78) rfl (j := 1) rfl ?_
          obtain ⟨c5, e⟩ := gd_s e
          refine V.zald dX5_splits_78 (pc' := 79) rfl rfl rfl (inb_t c5) ?_
          refine V.alq dX5_splits_79 (pc' := 80) rfl (j := 0) rfl ?_
          refine V.getr dX5_splits_80 (pc' := 83) rfl FL_X5_26 rfl (by decide) rfl (r' := 6) rfl ?_
          refine V.getr dX5_splits_83 (pc' := 86) rfl FL_X5_110 rfl (by decide) rfl (r' := 8) rfl ?_
          refine V.ilq dX5_splits_86 (pc' := 87) rfl (j := 1) rfl ?_
          obtain ⟨c6, e⟩ := gd_s e
          refine V.iald dX5_splits_87 (pc' := 88) rfl rfl rfl (inb_t c6) ?_
          refine V.alq dX5_splits_88 (pc' := 89) rfl (j := 0) rfl ?_
          refine V.getr dX5_splits_89 (pc' := 92) rfl FL_X5_26 rfl (by decide) rfl (r' := 6) rfl ?_
          refine V.getr dX5_splits_92 (pc' := 95) rfl FL_X5_113 rfl (by decide) rfl (r' := 9) rfl ?_
          refine V.ilq dX5_splits_95 (pc' := 96) rfl (j := 1) rfl ?_
          obtain ⟨c7, e⟩ := gd_s e
          refine V.iald dX5_splits_96 (pc' := 97) rfl rfl rfl (inb_t c7) ?_
          refine V.ilq dX5_splits_97 (pc' := 98) rfl (j := 2) rfl ?_
          obtain ⟨q8, eq8, e⟩ := bd_s e
          refine V.callVv dX5_splits_98 (pc' := 101) rfl CV_X5_116 (as := [.int (q4.1 7 a1.toNatClampNeg), .int (q4.1 8 a1.toNatClampNeg), .int (q4.1 9 a1.toNatClampNeg), .int a2]) (kX1_add q4 6 (q4.1 7 a1.toNatClampNeg) (q4.1 8 a1.toNatClampNeg) (q4.1 9 a1.toNatClampNeg) a2 q8 eq8) (Gs_rm (by decide)) rfl (by decide) rfl (Nat.le_of_ble_eq_true rfl) rfl ?_
          refine V.alq dX5_splits_101 (pc' := 102) rfl (j := 0) rfl ?_
          obtain ⟨q9, eq9, e⟩ := bd_s e
          refine V.callVv dX5_splits_102 (pc' := 105) rfl CV_X5_77 (as := []) (kX5_settle q8 q9 eq9) (Gs_rm (by decide)) rfl (by decide) rfl (Nat.le_of_ble_eq_true rfl) rfl ?_
          refine V.alq dX5_splits_105 (pc' := 106) rfl (j := 0) rfl ?_
          refine V.getr dX5_splits_106 (pc' := 109) rfl FL_X5_26 rfl (by decide) rfl (r' := 6) rfl ?_
          refine V.getf dX5_splits_109 (pc' := 112) rfl FL_X5_80 rfl (by decide) rfl ?_
          refine V.iconst dX5_splits_112 (pc' := 113) rfl (v := 1) (by decide) ?_
          refine V.isub dX5_splits_113 (pc' := 114) rfl ?_
          exact V.iret dX5_splits_114 rfl (fnI e)
        · rw [if_neg c] at e
          refine V.bipush dX5_splits_43 (pc' := 45) rfl (v := -2) (by decide) ?_
          exact V.iret dX5_splits_45 rfl (fnI e)
      · rw [if_neg c] at e
        refine V.pk [] rfl ?_
        exact vX5_splits_c29 q1.2 q e
