-- X0_placeBorder (level 0)
theorem dX0_placeBorder_0 : decode cX0_placeBorder 0 = .ok (.iconst 0, 1) := by decide +kernel
theorem dX0_placeBorder_1 : decode cX0_placeBorder 1 = .ok (.istore_n 2, 1) := by decide +kernel
theorem dX0_placeBorder_2 : decode cX0_placeBorder 2 = .ok (.iload_n 2, 1) := by decide +kernel
theorem dX0_placeBorder_3 : decode cX0_placeBorder 3 = .ok (.aload_n 0, 1) := by decide +kernel
theorem dX0_placeBorder_4 : decode cX0_placeBorder 4 = .ok (.getfield 24, 3) := by decide +kernel
theorem dX0_placeBorder_7 : decode cX0_placeBorder 7 = .ok (.if_icmp .ge 19, 3) := by decide +kernel
theorem dX0_placeBorder_10 : decode cX0_placeBorder 10 = .ok (.aload_n 0, 1) := by decide +kernel
theorem dX0_placeBorder_11 : decode cX0_placeBorder 11 = .ok (.getfield 9, 3) := by decide +kernel
theorem dX0_placeBorder_14 : decode cX0_placeBorder 14 = .ok (.iload_n 2, 1) := by decide +kernel
theorem dX0_placeBorder_15 : decode cX0_placeBorder 15 = .ok (.iaload, 1) := by decide +kernel
theorem dX0_placeBorder_16 : decode cX0_placeBorder 16 = .ok (.iload_n 1, 1) := by decide +kernel
theorem dX0_placeBorder_17 : decode cX0_placeBorder 17 = .ok (.if_icmp .le 9, 3) := by decide +kernel
theorem dX0_placeBorder_20 : decode cX0_placeBorder 20 = .ok (.iinc 2 1, 3) := by decide +kernel
theorem dX0_placeBorder_23 : decode cX0_placeBorder 23 = .ok (.goto (-21), 3) := by decide +kernel
theorem dX0_placeBorder_26 : decode cX0_placeBorder 26 = .ok (.aload_n 0, 1) := by decide +kernel
theorem dX0_placeBorder_27 : decode cX0_placeBorder 27 = .ok (.getfield 24, 3) := by decide +kernel
theorem dX0_placeBorder_30 : decode cX0_placeBorder 30 = .ok (.bipush 20, 2) := by decide +kernel
theorem dX0_placeBorder_32 : decode cX0_placeBorder 32 = .ok (.if_icmp .ge 21, 3) := by decide +kernel
theorem dX0_placeBorder_35 : decode cX0_placeBorder 35 = .ok (.iload_n 2, 1) := by decide +kernel
theorem dX0_placeBorder_36 : decode cX0_placeBorder 36 = .ok (.aload_n 0, 1) := by decide +kernel
theorem dX0_placeBorder_37 : decode cX0_placeBorder 37 = .ok (.getfield 24, 3) := by decide +kernel
theorem dX0_placeBorder_40 : decode cX0_placeBorder 40 = .ok (.if_icmp .ge 14, 3) := by decide +kernel
theorem dX0_placeBorder_43 : decode cX0_placeBorder 43 = .ok (.aload_n 0, 1) := by decide +kernel
theorem dX0_placeBorder_44 : decode cX0_placeBorder 44 = .ok (.getfield 9, 3) := by decide +kernel
theorem dX0_placeBorder_47 : decode cX0_placeBorder 47 = .ok (.iload_n 2, 1) := by decide +kernel
theorem dX0_placeBorder_48 : decode cX0_placeBorder 48 = .ok (.iaload, 1) := by decide +kernel
theorem dX0_placeBorder_49 : decode cX0_placeBorder 49 = .ok (.iload_n 1, 1) := by decide +kernel
theorem dX0_placeBorder_50 : decode cX0_placeBorder 50 = .ok (.if_icmp .ne 4, 3) := by decide +kernel
theorem dX0_placeBorder_53 : decode cX0_placeBorder 53 = .ok (.return_, 1) := by decide +kernel
theorem dX0_placeBorder_54 : decode cX0_placeBorder 54 = .ok (.aload_n 0, 1) := by decide +kernel
theorem dX0_placeBorder_55 : decode cX0_placeBorder 55 = .ok (.getfield 24, 3) := by decide +kernel
theorem dX0_placeBorder_58 : decode cX0_placeBorder 58 = .ok (.istore_n 3, 1) := by decide +kernel
theorem dX0_placeBorder_59 : decode cX0_placeBorder 59 = .ok (.iload_n 3, 1) := by decide +kernel
theorem dX0_placeBorder_60 : decode cX0_placeBorder 60 = .ok (.iload_n 2, 1) := by decide +kernel
theorem dX0_placeBorder_61 : decode cX0_placeBorder 61 = .ok (.if_icmp .le 23, 3) := by decide +kernel
theorem dX0_placeBorder_64 : decode cX0_placeBorder 64 = .ok (.aload_n 0, 1) := by decide +kernel
theorem dX0_placeBorder_65 : decode cX0_placeBorder 65 = .ok (.getfield 9, 3) := by decide +kernel
theorem dX0_placeBorder_68 : decode cX0_placeBorder 68 = .ok (.iload_n 3, 1) := by decide +kernel
theorem dX0_placeBorder_69 : decode cX0_placeBorder 69 = .ok (.aload_n 0, 1) := by decide +kernel
theorem dX0_placeBorder_70 : decode cX0_placeBorder 70 = .ok (.getfield 9, 3) := by decide +kernel
theorem dX0_placeBorder_73 : decode cX0_placeBorder 73 = .ok (.iload_n 3, 1) := by decide +kernel
theorem dX0_placeBorder_74 : decode cX0_placeBorder 74 = .ok (.iconst 1, 1) := by decide +kernel
theorem dX0_placeBorder_75 : decode cX0_placeBorder 75 = .ok (.isub, 1) := by decide +kernel
theorem dX0_placeBorder_76 : decode cX0_placeBorder 76 = .ok (.iaload, 1) := by decide +kernel
theorem dX0_placeBorder_77 : decode cX0_placeBorder 77 = .ok (.iastore, 1) := by decide +kernel
theorem dX0_placeBorder_78 : decode cX0_placeBorder 78 = .ok (.iinc 3 (-1), 3) := by decide +kernel
theorem dX0_placeBorder_81 : decode cX0_placeBorder 81 = .ok (.goto (-22), 3) := by decide +kernel
theorem dX0_placeBorder_84 : decode cX0_placeBorder 84 = .ok (.aload_n 0, 1) := by decide +kernel
theorem dX0_placeBorder_85 : decode cX0_placeBorder 85 = .ok (.getfield 9, 3) := by decide +kernel
theorem dX0_placeBorder_88 : decode cX0_placeBorder 88 = .ok (.iload_n 2, 1) := by decide +kernel
theorem dX0_placeBorder_89 : decode cX0_placeBorder 89 = .ok (.iload_n 1, 1) := by decide +kernel
theorem dX0_placeBorder_90 : decode cX0_placeBorder 90 = .ok (.iastore, 1) := by decide +kernel
theorem dX0_placeBorder_91 : decode cX0_placeBorder 91 = .ok (.aload_n 0, 1) := by decide +kernel
theorem dX0_placeBorder_92 : decode cX0_placeBorder 92 = .ok (.dup, 1) := by decide +kernel
theorem dX0_placeBorder_93 : decode cX0_placeBorder 93 = .ok (.getfield 24, 3) := by decide +kernel
theorem dX0_placeBorder_96 : decode cX0_placeBorder 96 = .ok (.iconst 1, 1) := by decide +kernel
theorem dX0_placeBorder_97 : decode cX0_placeBorder 97 = .ok (.iadd, 1) := by decide +kernel
theorem dX0_placeBorder_98 : decode cX0_placeBorder 98 = .ok (.putfield 24, 3) := by decide +kernel
theorem dX0_placeBorder_101 : decode cX0_placeBorder 101 = .ok (.return_, 1) := by decide +kernel
def sX0_placeBorder_c53 (h : Hp) : Option Hp :=
  some h
set_option maxRecDepth 10000 in
theorem vX0_placeBorder_c53 (h : Hp) (q : Hp) (e : sX0_placeBorder_c53 h = some q) : V (Gs 0 (pV q)) mX0_placeBorder (0, 0) 53 [] [] h := by
  unfold sX0_placeBorder_c53 at e
  exact V.vret dX0_placeBorder_53 rfl (fnV e)
def sX0_placeBorder_c59 (k59 : Hp → Nat → Int32 → Int32 → Int32 → Option Hp) (h : Hp) (r : Nat) (v1 : Int32) (v2 : Int32) (v3 : Int32) : Option Hp :=
  if v3 ≤ v2 then (gd (inb v2 20) (nm (u1 h (r + 1) v2.toNatClampNeg v1) fun h6 => nm (u1 h6 r 4 ((h6.1 r 4) + (1 : Int32))) fun h7 => some h7)) else (gd (inb (v3 - (1 : Int32)) 20) (gd (inb v3 20) (nm (u1 h (r + 1) v3.toNatClampNeg (h.1 (r + 1) (v3 - (1 : Int32)).toNatClampNeg)) fun h10 => nm (v3 + (-1 : Int32)) fun x11 => k59 h10 r v1 v2 x11)))
set_option maxRecDepth 10000 in
theorem vX0_placeBorder_c59 (k59 : Hp → Nat → Int32 → Int32 → Int32 → Option Hp) (hk59 : ∀ (h : Hp) (r : Nat) (v1 : Int32) (v2 : Int32) (v3 : Int32) (hr : ck r = 0) (q : Hp), k59 h r v1 v2 v3 = some q → V (Gs 0 (pV q)) mX0_placeBorder (0, 0) 59 [(0, .ref r), (1, .int v1), (2, .int v2), (3, .int v3)] [] h) (h : Hp) (r : Nat) (v1 : Int32) (v2 : Int32) (v3 : Int32) (hr : ck r = 0) (q : Hp) (e : sX0_placeBorder_c59 k59 h r v1 v2 v3 = some q) : V (Gs 0 (pV q)) mX0_placeBorder (0, 0) 59 [(0, .ref r), (1, .int v1), (2, .int v2), (3, .int v3)] [] h := by
  unfold sX0_placeBorder_c59 at e
  refine V.ilq dX0_placeBorder_59 (pc' := 60) rfl (j := 3) rfl ?_
  refine V.ilq dX0_placeBorder_60 (pc' := 61) rfl (j := 2) rfl ?_
  refine V.ic_le dX0_placeBorder_61 (pc' := 64) rfl (tgt := 84) (by decide) (fun c => ?_) (fun c => ?_)
  · rw [if_pos c] at e
    refine V.alq dX0_placeBorder_84 (pc' := 85) rfl (j := 0) rfl ?_
    refine V.getr dX0_placeBorder_85 (pc' := 88) rfl FL_X0_9 hr (by decide) rfl (r' := r + 1) rfl ?_
    refine V.ilq dX0_placeBorder_88 (pc' := 89) rfl (j := 2) rfl ?_
    refine V.ilq dX0_placeBorder_89 (pc' := 90) rfl (j := 1) rfl ?_
    obtain ⟨c5, e⟩ := gd_s e
    obtain ⟨h6, eh6, e⟩ := nm_s e
    refine V.iast dX0_placeBorder_90 (pc' := 91) rfl (akX0_1 hr).1 (akX0_1 hr).2 (inb_t c5) eh6 ?_
    refine V.alq dX0_placeBorder_91 (pc' := 92) rfl (j := 0) rfl ?_
    refine V.dup dX0_placeBorder_92 (pc' := 93) rfl rfl ?_
    refine V.getf dX0_placeBorder_93 (pc' := 96) rfl FL_X0_24 hr (by decide) rfl ?_
    refine V.iconst dX0_placeBorder_96 (pc' := 97) rfl (v := 1) (by decide) ?_
    refine V.iadd dX0_placeBorder_97 (pc' := 98) rfl ?_
    obtain ⟨h7, eh7, e⟩ := nm_s e
    refine V.putf dX0_placeBorder_98 (pc' := 101) rfl FP_X0_24 hr (by decide) rfl eh7 ?_
    exact V.vret dX0_placeBorder_101 rfl (fnV e)
  · rw [if_neg c] at e
    refine V.alq dX0_placeBorder_64 (pc' := 65) rfl (j := 0) rfl ?_
    refine V.getr dX0_placeBorder_65 (pc' := 68) rfl FL_X0_9 hr (by decide) rfl (r' := r + 1) rfl ?_
    refine V.ilq dX0_placeBorder_68 (pc' := 69) rfl (j := 3) rfl ?_
    refine V.alq dX0_placeBorder_69 (pc' := 70) rfl (j := 0) rfl ?_
    refine V.getr dX0_placeBorder_70 (pc' := 73) rfl FL_X0_9 hr (by decide) rfl (r' := r + 1) rfl ?_
    refine V.ilq dX0_placeBorder_73 (pc' := 74) rfl (j := 3) rfl ?_
    refine V.iconst dX0_placeBorder_74 (pc' := 75) rfl (v := 1) (by decide) ?_
    refine V.isub dX0_placeBorder_75 (pc' := 76) rfl ?_
    obtain ⟨c8, e⟩ := gd_s e
    refine V.iald dX0_placeBorder_76 (pc' := 77) rfl (akX0_1 hr).1 (akX0_1 hr).2 (inb_t c8) ?_
    obtain ⟨c9, e⟩ := gd_s e
    obtain ⟨h10, eh10, e⟩ := nm_s e
    refine V.iast dX0_placeBorder_77 (pc' := 78) rfl (akX0_1 hr).1 (akX0_1 hr).2 (inb_t c9) eh10 ?_
    obtain ⟨x11, ex11, e⟩ := nm_s e
    refine V.iinc dX0_placeBorder_78 (pc' := 81) rfl (j := 3) rfl (v := -1) (by decide) (by decide) ex11 (L' := [(3, .int x11), (0, .ref r), (1, .int v1), (2, .int v2)]) rfl ?_
    refine V.goto dX0_placeBorder_81 (pc' := 59) (by decide) ?_
    refine V.pk [1, 2, 3, 0] rfl ?_
    exact hk59 h10 r v1 v2 x11 hr q e
def sX0_placeBorder_b59 : Nat → Hp → Nat → Int32 → Int32 → Int32 → Option Hp
  | 0 => fun _ _ _ _ _ => none
  | n + 1 => sX0_placeBorder_c59 (sX0_placeBorder_b59 n)
theorem vX0_placeBorder_b59 : ∀ (n : Nat) (h : Hp) (r : Nat) (v1 : Int32) (v2 : Int32) (v3 : Int32) (hr : ck r = 0) (q : Hp), sX0_placeBorder_b59 n h r v1 v2 v3 = some q → V (Gs 0 (pV q)) mX0_placeBorder (0, 0) 59 [(0, .ref r), (1, .int v1), (2, .int v2), (3, .int v3)] [] h
  | 0 => fun _ _ _ _ _ _ _ e => by cases e
  | n + 1 => fun h r v1 v2 v3 hr q e => vX0_placeBorder_c59 (sX0_placeBorder_b59 n) (vX0_placeBorder_b59 n) h r v1 v2 v3 hr q e
def sX0_placeBorder_c54 (h : Hp) (r : Nat) (v1 : Int32) (v2 : Int32) : Option Hp :=
  nm ((h.1 r 4)) fun x4 => sX0_placeBorder_b59 FU h r v1 v2 x4
set_option maxRecDepth 10000 in
theorem vX0_placeBorder_c54 (h : Hp) (r : Nat) (v1 : Int32) (v2 : Int32) (hr : ck r = 0) (q : Hp) (e : sX0_placeBorder_c54 h r v1 v2 = some q) : V (Gs 0 (pV q)) mX0_placeBorder (0, 0) 54 [(0, .ref r), (1, .int v1), (2, .int v2)] [] h := by
  unfold sX0_placeBorder_c54 at e
  refine V.alq dX0_placeBorder_54 (pc' := 55) rfl (j := 0) rfl ?_
  refine V.getf dX0_placeBorder_55 (pc' := 58) rfl FL_X0_24 hr (by decide) rfl ?_
  obtain ⟨x4, ex4, e⟩ := nm_s e
  refine V.isq dX0_placeBorder_58 (pc' := 59) rfl (by decide) ex4 (L' := [(3, .int x4), (0, .ref r), (1, .int v1), (2, .int v2)]) rfl ?_
  refine V.pk [1, 2, 3, 0] rfl ?_
  exact vX0_placeBorder_b59 FU h r v1 v2 x4 hr q e
def sX0_placeBorder_c26 (h : Hp) (r : Nat) (v1 : Int32) (v2 : Int32) : Option Hp :=
  if (20 : Int32) ≤ (h.1 r 4) then (sX0_placeBorder_c53 h) else (if (h.1 r 4) ≤ v2 then (sX0_placeBorder_c54 h r v1 v2) else (gd (inb v2 20) (if (h.1 (r + 1) v2.toNatClampNeg) = v1 then (sX0_placeBorder_c53 h) else (sX0_placeBorder_c54 h r v1 v2))))
set_option maxRecDepth 10000 in
theorem vX0_placeBorder_c26 (h : Hp) (r : Nat) (v1 : Int32) (v2 : Int32) (hr : ck r = 0) (q : Hp) (e : sX0_placeBorder_c26 h r v1 v2 = some q) : V (Gs 0 (pV q)) mX0_placeBorder (0, 0) 26 [(0, .ref r), (1, .int v1), (2, .int v2)] [] h := by
  unfold sX0_placeBorder_c26 at e
  refine V.alq dX0_placeBorder_26 (pc' := 27) rfl (j := 0) rfl ?_
  refine V.getf dX0_placeBorder_27 (pc' := 30) rfl FL_X0_24 hr (by decide) rfl ?_
  refine V.bipush dX0_placeBorder_30 (pc' := 32) rfl (v := 20) (by decide) ?_
  refine V.ic_ge dX0_placeBorder_32 (pc' := 35) rfl (tgt := 53) (by decide) (fun c => ?_) (fun c => ?_)
  · rw [if_pos c] at e
    refine V.pk [] rfl ?_
    exact vX0_placeBorder_c53 h q e
  · rw [if_neg c] at e
    refine V.ilq dX0_placeBorder_35 (pc' := 36) rfl (j := 2) rfl ?_
    refine V.alq dX0_placeBorder_36 (pc' := 37) rfl (j := 0) rfl ?_
    refine V.getf dX0_placeBorder_37 (pc' := 40) rfl FL_X0_24 hr (by decide) rfl ?_
    refine V.ic_ge dX0_placeBorder_40 (pc' := 43) rfl (tgt := 54) (by decide) (fun c => ?_) (fun c => ?_)
    · rw [if_pos c] at e
      exact vX0_placeBorder_c54 h r v1 v2 hr q e
    · rw [if_neg c] at e
      refine V.alq dX0_placeBorder_43 (pc' := 44) rfl (j := 0) rfl ?_
      refine V.getr dX0_placeBorder_44 (pc' := 47) rfl FL_X0_9 hr (by decide) rfl (r' := r + 1) rfl ?_
      refine V.ilq dX0_placeBorder_47 (pc' := 48) rfl (j := 2) rfl ?_
      obtain ⟨c3, e⟩ := gd_s e
      refine V.iald dX0_placeBorder_48 (pc' := 49) rfl (akX0_1 hr).1 (akX0_1 hr).2 (inb_t c3) ?_
      refine V.ilq dX0_placeBorder_49 (pc' := 50) rfl (j := 1) rfl ?_
      refine V.ic_ne dX0_placeBorder_50 (pc' := 53) rfl (tgt := 54) (by decide) (fun c => ?_) (fun c => ?_)
      · rw [if_neg c] at e
        exact vX0_placeBorder_c54 h r v1 v2 hr q e
      · rw [if_pos c] at e
        refine V.pk [] rfl ?_
        exact vX0_placeBorder_c53 h q e
def sX0_placeBorder_c2 (k2 : Hp → Nat → Int32 → Int32 → Option Hp) (h : Hp) (r : Nat) (v1 : Int32) (v2 : Int32) : Option Hp :=
  if (h.1 r 4) ≤ v2 then (sX0_placeBorder_c26 h r v1 v2) else (gd (inb v2 20) (if (h.1 (r + 1) v2.toNatClampNeg) ≤ v1 then (sX0_placeBorder_c26 h r v1 v2) else (nm (v2 + (1 : Int32)) fun x2 => k2 h r v1 x2)))
set_option maxRecDepth 10000 in
theorem vX0_placeBorder_c2 (k2 : Hp → Nat → Int32 → Int32 → Option Hp) (hk2 : ∀ (h : Hp) (r : Nat) (v1 : Int32) (v2 : Int32) (hr : ck r = 0) (q : Hp), k2 h r v1 v2 = some q → V (Gs 0 (pV q)) mX0_placeBorder (0, 0) 2 [(0, .ref r), (1, .int v1), (2, .int v2)] [] h) (h : Hp) (r : Nat) (v1 : Int32) (v2 : Int32) (hr : ck r = 0) (q : Hp) (e : sX0_placeBorder_c2 k2 h r v1 v2 = some q) : V (Gs 0 (pV q)) mX0_placeBorder (0, 0) 2 [(0, .ref r), (1, .int v1), (2, .int v2)] [] h := by
  unfold sX0_placeBorder_c2 at e
  refine V.ilq dX0_placeBorder_2 (pc' := 3) rfl (j := 2) rfl ?_
  refine V.alq dX0_placeBorder_3 (pc' := 4) rfl (j := 0) rfl ?_
  refine V.getf dX0_placeBorder_4 (pc' := 7) rfl FL_X0_24 hr (by decide) rfl ?_
  refine V.ic_ge dX0_placeBorder_7 (pc' := 10) rfl (tgt := 26) (by decide) (fun c => ?_) (fun c => ?_)
  · rw [if_pos c] at e
    exact vX0_placeBorder_c26 h r v1 v2 hr q e
  · rw [if_neg c] at e
    refine V.alq dX0_placeBorder_10 (pc' := 11) rfl (j := 0) rfl ?_
    refine V.getr dX0_placeBorder_11 (pc' := 14) rfl FL_X0_9 hr (by decide) rfl (r' := r + 1) rfl ?_
    refine V.ilq dX0_placeBorder_14 (pc' := 15) rfl (j := 2) rfl ?_
    obtain ⟨c1, e⟩ := gd_s e
    refine V.iald dX0_placeBorder_15 (pc' := 16) rfl (akX0_1 hr).1 (akX0_1 hr).2 (inb_t c1) ?_
    refine V.ilq dX0_placeBorder_16 (pc' := 17) rfl (j := 1) rfl ?_
    refine V.ic_le dX0_placeBorder_17 (pc' := 20) rfl (tgt := 26) (by decide) (fun c => ?_) (fun c => ?_)
    · rw [if_pos c] at e
      exact vX0_placeBorder_c26 h r v1 v2 hr q e
    · rw [if_neg c] at e
      obtain ⟨x2, ex2, e⟩ := nm_s e
      refine V.iinc dX0_placeBorder_20 (pc' := 23) rfl (j := 2) rfl (v := 1) (by decide) (by decide) ex2 (L' := [(2, .int x2), (0, .ref r), (1, .int v1)]) rfl ?_
      refine V.goto dX0_placeBorder_23 (pc' := 2) (by decide) ?_
      refine V.pk [1, 2, 0] rfl ?_
      exact hk2 h r v1 x2 hr q e
def sX0_placeBorder_b2 : Nat → Hp → Nat → Int32 → Int32 → Option Hp
  | 0 => fun _ _ _ _ => none
  | n + 1 => sX0_placeBorder_c2 (sX0_placeBorder_b2 n)
theorem vX0_placeBorder_b2 : ∀ (n : Nat) (h : Hp) (r : Nat) (v1 : Int32) (v2 : Int32) (hr : ck r = 0) (q : Hp), sX0_placeBorder_b2 n h r v1 v2 = some q → V (Gs 0 (pV q)) mX0_placeBorder (0, 0) 2 [(0, .ref r), (1, .int v1), (2, .int v2)] [] h
  | 0 => fun _ _ _ _ _ _ e => by cases e
  | n + 1 => fun h r v1 v2 hr q e => vX0_placeBorder_c2 (sX0_placeBorder_b2 n) (vX0_placeBorder_b2 n) h r v1 v2 hr q e
def sX0_placeBorder (h : Hp) (r : Nat) (a1 : Int32) : Option Hp :=
  gd (isC r 0) (sX0_placeBorder_b2 FU h r a1 (0 : Int32))
set_option maxRecDepth 10000 in
theorem kX0_placeBorder (h : Hp) (r : Nat) (a1 : Int32) (q : Hp) (e : sX0_placeBorder h r a1 = some q) : K 0 mX0_placeBorder [.ref r, .int a1] h (pV q) := by
  unfold sX0_placeBorder at e
  obtain ⟨hr, e⟩ := gd_s e
  have hr := isC_t hr
  refine K.ofV (by decide) rfl (Nat.le_of_ble_eq_true rfl) ?_
  show V (Gs 0 (pV q)) mX0_placeBorder (0, 0) 0 [(0, .ref r), (1, .int a1)] [] h
  refine V.iconst dX0_placeBorder_0 (pc' := 1) rfl (v := 0) (by decide) ?_
  refine V.isq dX0_placeBorder_1 (pc' := 2) rfl (by decide) rfl (L' := [(2, .int (0 : Int32)), (0, .ref r), (1, .int a1)]) rfl ?_
  refine V.pk [1, 2, 0] rfl ?_
  exact vX0_placeBorder_b2 FU h r a1 (0 : Int32) hr q e

-- X0_surplusOf (level 0)
theorem dX0_surplusOf_0 : decode cX0_surplusOf 0 = .ok (.iload_n 1, 1) := by decide +kernel
theorem dX0_surplusOf_1 : decode cX0_surplusOf 1 = .ok (.aload_n 0, 1) := by decide +kernel
theorem dX0_surplusOf_2 : decode cX0_surplusOf 2 = .ok (.getfield 24, 3) := by decide +kernel
theorem dX0_surplusOf_5 : decode cX0_surplusOf 5 = .ok (.iconst 1, 1) := by decide +kernel
theorem dX0_surplusOf_6 : decode cX0_surplusOf 6 = .ok (.isub, 1) := by decide +kernel
theorem dX0_surplusOf_7 : decode cX0_surplusOf 7 = .ok (.if_icmp .ge 35, 3) := by decide +kernel
theorem dX0_surplusOf_10 : decode cX0_surplusOf 10 = .ok (.aload_n 0, 1) := by decide +kernel
theorem dX0_surplusOf_11 : decode cX0_surplusOf 11 = .ok (.getfield 9, 3) := by decide +kernel
theorem dX0_surplusOf_14 : decode cX0_surplusOf 14 = .ok (.iload_n 1, 1) := by decide +kernel
theorem dX0_surplusOf_15 : decode cX0_surplusOf 15 = .ok (.iaload, 1) := by decide +kernel
theorem dX0_surplusOf_16 : decode cX0_surplusOf 16 = .ok (.aload_n 0, 1) := by decide +kernel
theorem dX0_surplusOf_17 : decode cX0_surplusOf 17 = .ok (.getfield 9, 3) := by decide +kernel
theorem dX0_surplusOf_20 : decode cX0_surplusOf 20 = .ok (.iload_n 1, 1) := by decide +kernel
theorem dX0_surplusOf_21 : decode cX0_surplusOf 21 = .ok (.iconst 1, 1) := by decide +kernel
theorem dX0_surplusOf_22 : decode cX0_surplusOf 22 = .ok (.iadd, 1) := by decide +kernel
theorem dX0_surplusOf_23 : decode cX0_surplusOf 23 = .ok (.iaload, 1) := by decide +kernel
theorem dX0_surplusOf_24 : decode cX0_surplusOf 24 = .ok (.isub, 1) := by decide +kernel
theorem dX0_surplusOf_25 : decode cX0_surplusOf 25 = .ok (.aload_n 0, 1) := by decide +kernel
theorem dX0_surplusOf_26 : decode cX0_surplusOf 26 = .ok (.getfield 18, 3) := by decide +kernel
theorem dX0_surplusOf_29 : decode cX0_surplusOf 29 = .ok (.iload_n 1, 1) := by decide +kernel
theorem dX0_surplusOf_30 : decode cX0_surplusOf 30 = .ok (.iaload, 1) := by decide +kernel
theorem dX0_surplusOf_31 : decode cX0_surplusOf 31 = .ok (.aload_n 0, 1) := by decide +kernel
theorem dX0_surplusOf_32 : decode cX0_surplusOf 32 = .ok (.getfield 21, 3) := by decide +kernel
theorem dX0_surplusOf_35 : decode cX0_surplusOf 35 = .ok (.iload_n 1, 1) := by decide +kernel
theorem dX0_surplusOf_36 : decode cX0_surplusOf 36 = .ok (.iaload, 1) := by decide +kernel
theorem dX0_surplusOf_37 : decode cX0_surplusOf 37 = .ok (.isub, 1) := by decide +kernel
theorem dX0_surplusOf_38 : decode cX0_surplusOf 38 = .ok (.imul, 1) := by decide +kernel
theorem dX0_surplusOf_39 : decode cX0_surplusOf 39 = .ok (.goto 4, 3) := by decide +kernel
theorem dX0_surplusOf_42 : decode cX0_surplusOf 42 = .ok (.iconst 0, 1) := by decide +kernel
theorem dX0_surplusOf_43 : decode cX0_surplusOf 43 = .ok (.ireturn, 1) := by decide +kernel
def sX0_surplusOf_c43 (h : Hp) (t0 : Int32) : Option (Int32 × Hp) :=
  some (t0, h)
set_option maxRecDepth 10000 in
theorem vX0_surplusOf_c43 (h : Hp) (t0 : Int32) (q : (Int32 × Hp)) (e : sX0_surplusOf_c43 h t0 = some q) : V (Gs 0 (pI q)) mX0_surplusOf (0, 0) 43 [] [.int t0] h := by
  unfold sX0_surplusOf_c43 at e
  exact V.iret dX0_surplusOf_43 rfl (fnI e)
def sX0_surplusOf (h : Hp) (r : Nat) (a1 : Int32) : Option (Int32 × Hp) :=
  gd (isC r 0) (if ((h.1 r 4) - (1 : Int32)) ≤ a1 then (sX0_surplusOf_c43 h (0 : Int32)) else (gd (inb a1 20) (gd (inb (a1 + (1 : Int32)) 20) (gd (inb a1 20) (gd (inb a1 20) (sX0_surplusOf_c43 h (((h.1 (r + 1) a1.toNatClampNeg) - (h.1 (r + 1) (a1 + (1 : Int32)).toNatClampNeg)) * ((h.1 (r + 3) a1.toNatClampNeg) - (h.1 (r + 4) a1.toNatClampNeg)))))))))
set_option maxRecDepth 10000 in
theorem kX0_surplusOf (h : Hp) (r : Nat) (a1 : Int32) (q : (Int32 × Hp)) (e : sX0_surplusOf h r a1 = some q) : K 0 mX0_surplusOf [.ref r, .int a1] h (pI q) := by
  unfold sX0_surplusOf at e
  obtain ⟨hr, e⟩ := gd_s e
  have hr := isC_t hr
  refine K.ofV (by decide) rfl (Nat.le_of_ble_eq_true rfl) ?_
  show V (Gs 0 (pI q)) mX0_surplusOf (0, 0) 0 [(0, .ref r), (1, .int a1)] [] h
  refine V.ilq dX0_surplusOf_0 (pc' := 1) rfl (j := 1) rfl ?_
  refine V.alq dX0_surplusOf_1 (pc' := 2) rfl (j := 0) rfl ?_
  refine V.getf dX0_surplusOf_2 (pc' := 5) rfl FL_X0_24 hr (by decide) rfl ?_
  refine V.iconst dX0_surplusOf_5 (pc' := 6) rfl (v := 1) (by decide) ?_
  refine V.isub dX0_surplusOf_6 (pc' := 7) rfl ?_
  refine V.ic_ge dX0_surplusOf_7 (pc' := 10) rfl (tgt := 42) (by decide) (fun c => ?_) (fun c => ?_)
  · rw [if_pos c] at e
    refine V.iconst dX0_surplusOf_42 (pc' := 43) rfl (v := 0) (by decide) ?_
    refine V.pk [] rfl ?_
    exact vX0_surplusOf_c43 h (0 : Int32) q e
  · rw [if_neg c] at e
    refine V.alq dX0_surplusOf_10 (pc' := 11) rfl (j := 0) rfl ?_
    refine V.getr dX0_surplusOf_11 (pc' := 14) rfl FL_X0_9 hr (by decide) rfl (r' := r + 1) rfl ?_
    refine V.ilq dX0_surplusOf_14 (pc' := 15) rfl (j := 1) rfl ?_
    obtain ⟨c1, e⟩ := gd_s e
    refine V.iald dX0_surplusOf_15 (pc' := 16) rfl (akX0_1 hr).1 (akX0_1 hr).2 (inb_t c1) ?_
    refine V.alq dX0_surplusOf_16 (pc' := 17) rfl (j := 0) rfl ?_
    refine V.getr dX0_surplusOf_17 (pc' := 20) rfl FL_X0_9 hr (by decide) rfl (r' := r + 1) rfl ?_
    refine V.ilq dX0_surplusOf_20 (pc' := 21) rfl (j := 1) rfl ?_
    refine V.iconst dX0_surplusOf_21 (pc' := 22) rfl (v := 1) (by decide) ?_
    refine V.iadd dX0_surplusOf_22 (pc' := 23) rfl ?_
    obtain ⟨c2, e⟩ := gd_s e
    refine V.iald dX0_surplusOf_23 (pc' := 24) rfl (akX0_1 hr).1 (akX0_1 hr).2 (inb_t c2) ?_
    refine V.isub dX0_surplusOf_24 (pc' := 25) rfl ?_
    refine V.alq dX0_surplusOf_25 (pc' := 26) rfl (j := 0) rfl ?_
    refine V.getr dX0_surplusOf_26 (pc' := 29) rfl FL_X0_18 hr (by decide) rfl (r' := r + 3) rfl ?_
    refine V.ilq dX0_surplusOf_29 (pc' := 30) rfl (j := 1) rfl ?_
    obtain ⟨c3, e⟩ := gd_s e
    refine V.iald dX0_surplusOf_30 (pc' := 31) rfl (akX0_3 hr).1 (akX0_3 hr).2 (inb_t c3) ?_
    refine V.alq dX0_surplusOf_31 (pc' := 32) rfl (j := 0) rfl ?_
    refine V.getr dX0_surplusOf_32 (pc' := 35) rfl FL_X0_21 hr (by decide) rfl (r' := r + 4) rfl ?_
    refine V.ilq dX0_surplusOf_35 (pc' := 36) rfl (j := 1) rfl ?_
    obtain ⟨c4, e⟩ := gd_s e
    refine V.iald dX0_surplusOf_36 (pc' := 37) rfl (akX0_4 hr).1 (akX0_4 hr).2 (inb_t c4) ?_
    refine V.isub dX0_surplusOf_37 (pc' := 38) rfl ?_
    refine V.imul dX0_surplusOf_38 (pc' := 39) rfl ?_
    refine V.goto dX0_surplusOf_39 (pc' := 43) (by decide) ?_
    refine V.pk [] rfl ?_
    exact vX0_surplusOf_c43 h (((h.1 (r + 1) a1.toNatClampNeg) - (h.1 (r + 1) (a1 + (1 : Int32)).toNatClampNeg)) * ((h.1 (r + 3) a1.toNatClampNeg) - (h.1 (r + 4) a1.toNatClampNeg))) q e

-- X0_cool (level 0)
theorem dX0_cool_0 : decode cX0_cool 0 = .ok (.aload_n 0, 1) := by decide +kernel
theorem dX0_cool_1 : decode cX0_cool 1 = .ok (.getfield 24, 3) := by decide +kernel
theorem dX0_cool_4 : decode cX0_cool 4 = .ok (.ifCond .ne 7, 3) := by decide +kernel
theorem dX0_cool_7 : decode cX0_cool 7 = .ok (.iconst 0, 1) := by decide +kernel
theorem dX0_cool_8 : decode cX0_cool 8 = .ok (.goto 14, 3) := by decide +kernel
theorem dX0_cool_11 : decode cX0_cool 11 = .ok (.aload_n 0, 1) := by decide +kernel
theorem dX0_cool_12 : decode cX0_cool 12 = .ok (.getfield 15, 3) := by decide +kernel
theorem dX0_cool_15 : decode cX0_cool 15 = .ok (.aload_n 0, 1) := by decide +kernel
theorem dX0_cool_16 : decode cX0_cool 16 = .ok (.getfield 24, 3) := by decide +kernel
theorem dX0_cool_19 : decode cX0_cool 19 = .ok (.iconst 1, 1) := by decide +kernel
theorem dX0_cool_20 : decode cX0_cool 20 = .ok (.isub, 1) := by decide +kernel
theorem dX0_cool_21 : decode cX0_cool 21 = .ok (.iaload, 1) := by decide +kernel
theorem dX0_cool_22 : decode cX0_cool 22 = .ok (.ireturn, 1) := by decide +kernel
def sX0_cool_c22 (h : Hp) (t0 : Int32) : Option (Int32 × Hp) :=
  some (t0, h)
set_option maxRecDepth 10000 in
theorem vX0_cool_c22 (h : Hp) (t0 : Int32) (q : (Int32 × Hp)) (e : sX0_cool_c22 h t0 = some q) : V (Gs 0 (pI q)) mX0_cool (0, 0) 22 [] [.int t0] h := by
  unfold sX0_cool_c22 at e
  exact V.iret dX0_cool_22 rfl (fnI e)
def sX0_cool (h : Hp) (r : Nat) : Option (Int32 × Hp) :=
  gd (isC r 0) (if (h.1 r 4) = 0 then (sX0_cool_c22 h (0 : Int32)) else (gd (inb ((h.1 r 4) - (1 : Int32)) 20) (sX0_cool_c22 h (h.1 (r + 2) ((h.1 r 4) - (1 : Int32)).toNatClampNeg))))
set_option maxRecDepth 10000 in
theorem kX0_cool (h : Hp) (r : Nat) (q : (Int32 × Hp)) (e : sX0_cool h r = some q) : K 0 mX0_cool [.ref r] h (pI q) := by
  unfold sX0_cool at e
  obtain ⟨hr, e⟩ := gd_s e
  have hr := isC_t hr
  refine K.ofV (by decide) rfl (Nat.le_of_ble_eq_true rfl) ?_
  show V (Gs 0 (pI q)) mX0_cool (0, 0) 0 [(0, .ref r)] [] h
  refine V.alq dX0_cool_0 (pc' := 1) rfl (j := 0) rfl ?_
  refine V.getf dX0_cool_1 (pc' := 4) rfl FL_X0_24 hr (by decide) rfl ?_
  refine V.if_ne dX0_cool_4 (pc' := 7) rfl (tgt := 11) (by decide) (fun c => ?_) (fun c => ?_)
  · rw [if_neg c] at e
    refine V.alq dX0_cool_11 (pc' := 12) rfl (j := 0) rfl ?_
    refine V.getr dX0_cool_12 (pc' := 15) rfl FL_X0_15 hr (by decide) rfl (r' := r + 2) rfl ?_
    refine V.alq dX0_cool_15 (pc' := 16) rfl (j := 0) rfl ?_
    refine V.getf dX0_cool_16 (pc' := 19) rfl FL_X0_24 hr (by decide) rfl ?_
    refine V.iconst dX0_cool_19 (pc' := 20) rfl (v := 1) (by decide) ?_
    refine V.isub dX0_cool_20 (pc' := 21) rfl ?_
    obtain ⟨c1, e⟩ := gd_s e
    refine V.iald dX0_cool_21 (pc' := 22) rfl (akX0_2 hr).1 (akX0_2 hr).2 (inb_t c1) ?_
    refine V.pk [] rfl ?_
    exact vX0_cool_c22 h (h.1 (r + 2) ((h.1 r 4) - (1 : Int32)).toNatClampNeg) q e
  · rw [if_pos c] at e
    refine V.iconst dX0_cool_7 (pc' := 8) rfl (v := 0) (by decide) ?_
    refine V.goto dX0_cool_8 (pc' := 22) (by decide) ?_
    refine V.pk [] rfl ?_
    exact vX0_cool_c22 h (0 : Int32) q e

-- X0_pinchAt (level 0)
theorem dX0_pinchAt_0 : decode cX0_pinchAt 0 = .ok (.iconst 0, 1) := by decide +kernel
theorem dX0_pinchAt_1 : decode cX0_pinchAt 1 = .ok (.istore_n 1, 1) := by decide +kernel
theorem dX0_pinchAt_2 : decode cX0_pinchAt 2 = .ok (.iload_n 1, 1) := by decide +kernel
theorem dX0_pinchAt_3 : decode cX0_pinchAt 3 = .ok (.aload_n 0, 1) := by decide +kernel
theorem dX0_pinchAt_4 : decode cX0_pinchAt 4 = .ok (.getfield 24, 3) := by decide +kernel
theorem dX0_pinchAt_7 : decode cX0_pinchAt 7 = .ok (.if_icmp .ge 25, 3) := by decide +kernel
theorem dX0_pinchAt_10 : decode cX0_pinchAt 10 = .ok (.aload_n 0, 1) := by decide +kernel
theorem dX0_pinchAt_11 : decode cX0_pinchAt 11 = .ok (.getfield 15, 3) := by decide +kernel
theorem dX0_pinchAt_14 : decode cX0_pinchAt 14 = .ok (.iload_n 1, 1) := by decide +kernel
theorem dX0_pinchAt_15 : decode cX0_pinchAt 15 = .ok (.iaload, 1) := by decide +kernel
theorem dX0_pinchAt_16 : decode cX0_pinchAt 16 = .ok (.ifCond .ne 10, 3) := by decide +kernel
theorem dX0_pinchAt_19 : decode cX0_pinchAt 19 = .ok (.aload_n 0, 1) := by decide +kernel
theorem dX0_pinchAt_20 : decode cX0_pinchAt 20 = .ok (.getfield 9, 3) := by decide +kernel
theorem dX0_pinchAt_23 : decode cX0_pinchAt 23 = .ok (.iload_n 1, 1) := by decide +kernel
theorem dX0_pinchAt_24 : decode cX0_pinchAt 24 = .ok (.iaload, 1) := by decide +kernel
theorem dX0_pinchAt_25 : decode cX0_pinchAt 25 = .ok (.ireturn, 1) := by decide +kernel
theorem dX0_pinchAt_26 : decode cX0_pinchAt 26 = .ok (.iinc 1 1, 3) := by decide +kernel
theorem dX0_pinchAt_29 : decode cX0_pinchAt 29 = .ok (.goto (-27), 3) := by decide +kernel
theorem dX0_pinchAt_32 : decode cX0_pinchAt 32 = .ok (.iconst 0, 1) := by decide +kernel
theorem dX0_pinchAt_33 : decode cX0_pinchAt 33 = .ok (.ireturn, 1) := by decide +kernel
def sX0_pinchAt_c2 (k2 : Hp → Nat → Int32 → Option (Int32 × Hp)) (h : Hp) (r : Nat) (v1 : Int32) : Option (Int32 × Hp) :=
  if (h.1 r 4) ≤ v1 then (some ((0 : Int32), h)) else (gd (inb v1 20) (if (h.1 (r + 2) v1.toNatClampNeg) = 0 then (gd (inb v1 20) (some ((h.1 (r + 1) v1.toNatClampNeg), h))) else (nm (v1 + (1 : Int32)) fun x2 => k2 h r x2)))
set_option maxRecDepth 10000 in
theorem vX0_pinchAt_c2 (k2 : Hp → Nat → Int32 → Option (Int32 × Hp)) (hk2 : ∀ (h : Hp) (r : Nat) (v1 : Int32) (hr : ck r = 0) (q : (Int32 × Hp)), k2 h r v1 = some q → V (Gs 0 (pI q)) mX0_pinchAt (0, 0) 2 [(0, .ref r), (1, .int v1)] [] h) (h : Hp) (r : Nat) (v1 : Int32) (hr : ck r = 0) (q : (Int32 × Hp)) (e : sX0_pinchAt_c2 k2 h r v1 = some q) : V (Gs 0 (pI q)) mX0_pinchAt (0, 0) 2 [(0, .ref r), (1, .int v1)] [] h := by
  unfold sX0_pinchAt_c2 at e
  refine V.ilq dX0_pinchAt_2 (pc' := 3) rfl (j := 1) rfl ?_
  refine V.alq dX0_pinchAt_3 (pc' := 4) rfl (j := 0) rfl ?_
  refine V.getf dX0_pinchAt_4 (pc' := 7) rfl FL_X0_24 hr (by decide) rfl ?_
  refine V.ic_ge dX0_pinchAt_7 (pc' := 10) rfl (tgt := 32) (by decide) (fun c => ?_) (fun c => ?_)
  · rw [if_pos c] at e
    refine V.iconst dX0_pinchAt_32 (pc' := 33) rfl (v := 0) (by decide) ?_
    exact V.iret dX0_pinchAt_33 rfl (fnI e)
  · rw [if_neg c] at e
    refine V.alq dX0_pinchAt_10 (pc' := 11) rfl (j := 0) rfl ?_
    refine V.getr dX0_pinchAt_11 (pc' := 14) rfl FL_X0_15 hr (by decide) rfl (r' := r + 2) rfl ?_
    refine V.ilq dX0_pinchAt_14 (pc' := 15) rfl (j := 1) rfl ?_
    obtain ⟨c1, e⟩ := gd_s e
    refine V.iald dX0_pinchAt_15 (pc' := 16) rfl (akX0_2 hr).1 (akX0_2 hr).2 (inb_t c1) ?_
    refine V.if_ne dX0_pinchAt_16 (pc' := 19) rfl (tgt := 26) (by decide) (fun c => ?_) (fun c => ?_)
    · rw [if_neg c] at e
      obtain ⟨x2, ex2, e⟩ := nm_s e
      refine V.iinc dX0_pinchAt_26 (pc' := 29) rfl (j := 1) rfl (v := 1) (by decide) (by decide) ex2 (L' := [(1, .int x2), (0, .ref r)]) rfl ?_
      refine V.goto dX0_pinchAt_29 (pc' := 2) (by decide) ?_
      refine V.pk [1, 0] rfl ?_
      exact hk2 h r x2 hr q e
    · rw [if_pos c] at e
      refine V.alq dX0_pinchAt_19 (pc' := 20) rfl (j := 0) rfl ?_
      refine V.getr dX0_pinchAt_20 (pc' := 23) rfl FL_X0_9 hr (by decide) rfl (r' := r + 1) rfl ?_
      refine V.ilq dX0_pinchAt_23 (pc' := 24) rfl (j := 1) rfl ?_
      obtain ⟨c3, e⟩ := gd_s e
      refine V.iald dX0_pinchAt_24 (pc' := 25) rfl (akX0_1 hr).1 (akX0_1 hr).2 (inb_t c3) ?_
      exact V.iret dX0_pinchAt_25 rfl (fnI e)
def sX0_pinchAt_b2 : Nat → Hp → Nat → Int32 → Option (Int32 × Hp)
  | 0 => fun _ _ _ => none
  | n + 1 => sX0_pinchAt_c2 (sX0_pinchAt_b2 n)
theorem vX0_pinchAt_b2 : ∀ (n : Nat) (h : Hp) (r : Nat) (v1 : Int32) (hr : ck r = 0) (q : (Int32 × Hp)), sX0_pinchAt_b2 n h r v1 = some q → V (Gs 0 (pI q)) mX0_pinchAt (0, 0) 2 [(0, .ref r), (1, .int v1)] [] h
  | 0 => fun _ _ _ _ _ e => by cases e
  | n + 1 => fun h r v1 hr q e => vX0_pinchAt_c2 (sX0_pinchAt_b2 n) (vX0_pinchAt_b2 n) h r v1 hr q e
def sX0_pinchAt (h : Hp) (r : Nat) : Option (Int32 × Hp) :=
  gd (isC r 0) (sX0_pinchAt_b2 FU h r (0 : Int32))
set_option maxRecDepth 10000 in
theorem kX0_pinchAt (h : Hp) (r : Nat) (q : (Int32 × Hp)) (e : sX0_pinchAt h r = some q) : K 0 mX0_pinchAt [.ref r] h (pI q) := by
  unfold sX0_pinchAt at e
  obtain ⟨hr, e⟩ := gd_s e
  have hr := isC_t hr
  refine K.ofV (by decide) rfl (Nat.le_of_ble_eq_true rfl) ?_
  show V (Gs 0 (pI q)) mX0_pinchAt (0, 0) 0 [(0, .ref r)] [] h
  refine V.iconst dX0_pinchAt_0 (pc' := 1) rfl (v := 0) (by decide) ?_
  refine V.isq dX0_pinchAt_1 (pc' := 2) rfl (by decide) rfl (L' := [(1, .int (0 : Int32)), (0, .ref r)]) rfl ?_
  refine V.pk [1, 0] rfl ?_
  exact vX0_pinchAt_b2 FU h r (0 : Int32) hr q e

-- X0_spans (level 0)
theorem dX0_spans_0 : decode cX0_spans 0 = .ok (.aload_n 0, 1) := by decide +kernel
theorem dX0_spans_1 : decode cX0_spans 1 = .ok (.getfield 24, 3) := by decide +kernel
theorem dX0_spans_4 : decode cX0_spans 4 = .ok (.ifCond .le 32, 3) := by decide +kernel
theorem dX0_spans_7 : decode cX0_spans 7 = .ok (.iload_n 1, 1) := by decide +kernel
theorem dX0_spans_8 : decode cX0_spans 8 = .ok (.aload_n 0, 1) := by decide +kernel
theorem dX0_spans_9 : decode cX0_spans 9 = .ok (.getfield 9, 3) := by decide +kernel
theorem dX0_spans_12 : decode cX0_spans 12 = .ok (.iconst 0, 1) := by decide +kernel
theorem dX0_spans_13 : decode cX0_spans 13 = .ok (.iaload, 1) := by decide +kernel
theorem dX0_spans_14 : decode cX0_spans 14 = .ok (.if_icmp .gt 22, 3) := by decide +kernel
theorem dX0_spans_17 : decode cX0_spans 17 = .ok (.iload_n 1, 1) := by decide +kernel
theorem dX0_spans_18 : decode cX0_spans 18 = .ok (.aload_n 0, 1) := by decide +kernel
theorem dX0_spans_19 : decode cX0_spans 19 = .ok (.getfield 9, 3) := by decide +kernel
theorem dX0_spans_22 : decode cX0_spans 22 = .ok (.aload_n 0, 1) := by decide +kernel
theorem dX0_spans_23 : decode cX0_spans 23 = .ok (.getfield 24, 3) := by decide +kernel
theorem dX0_spans_26 : decode cX0_spans 26 = .ok (.iconst 1, 1) := by decide +kernel
theorem dX0_spans_27 : decode cX0_spans 27 = .ok (.isub, 1) := by decide +kernel
theorem dX0_spans_28 : decode cX0_spans 28 = .ok (.iaload, 1) := by decide +kernel
theorem dX0_spans_29 : decode cX0_spans 29 = .ok (.if_icmp .lt 7, 3) := by decide +kernel
theorem dX0_spans_32 : decode cX0_spans 32 = .ok (.iconst 1, 1) := by decide +kernel
theorem dX0_spans_33 : decode cX0_spans 33 = .ok (.goto 4, 3) := by decide +kernel
theorem dX0_spans_36 : decode cX0_spans 36 = .ok (.iconst 0, 1) := by decide +kernel
theorem dX0_spans_37 : decode cX0_spans 37 = .ok (.ireturn, 1) := by decide +kernel
def sX0_spans_c37 (h : Hp) (t0 : Int32) : Option (Int32 × Hp) :=
  gd (zb t0) (some (t0, h))
set_option maxRecDepth 10000 in
theorem vX0_spans_c37 (h : Hp) (t0 : Int32) (q : (Int32 × Hp)) (e : sX0_spans_c37 h t0 = some q) : V (Gs 0 (pI q)) mX0_spans (0, 0) 37 [] [.int t0] h := by
  unfold sX0_spans_c37 at e
  obtain ⟨c2, e⟩ := gd_s e
  exact V.zret dX0_spans_37 rfl (zb_t c2) (fnI e)
def sX0_spans_c36 (h : Hp) : Option (Int32 × Hp) :=
  sX0_spans_c37 h (0 : Int32)
set_option maxRecDepth 10000 in
theorem vX0_spans_c36 (h : Hp) (q : (Int32 × Hp)) (e : sX0_spans_c36 h = some q) : V (Gs 0 (pI q)) mX0_spans (0, 0) 36 [] [] h := by
  unfold sX0_spans_c36 at e
  refine V.iconst dX0_spans_36 (pc' := 37) rfl (v := 0) (by decide) ?_
  exact vX0_spans_c37 h (0 : Int32) q e
def sX0_spans (h : Hp) (r : Nat) (a1 : Int32) : Option (Int32 × Hp) :=
  gd (isC r 0) (if (h.1 r 4) ≤ 0 then (sX0_spans_c36 h) else (if (h.1 (r + 1) (0 : Int32).toNatClampNeg) < a1 then (sX0_spans_c36 h) else (gd (inb ((h.1 r 4) - (1 : Int32)) 20) (if a1 < (h.1 (r + 1) ((h.1 r 4) - (1 : Int32)).toNatClampNeg) then (sX0_spans_c36 h) else (sX0_spans_c37 h (1 : Int32))))))
set_option maxRecDepth 10000 in
theorem kX0_spans (h : Hp) (r : Nat) (a1 : Int32) (q : (Int32 × Hp)) (e : sX0_spans h r a1 = some q) : K 0 mX0_spans [.ref r, .int a1] h (pI q) := by
  unfold sX0_spans at e
  obtain ⟨hr, e⟩ := gd_s e
  have hr := isC_t hr
  refine K.ofV (by decide) rfl (Nat.le_of_ble_eq_true rfl) ?_
  show V (Gs 0 (pI q)) mX0_spans (0, 0) 0 [(0, .ref r), (1, .int a1)] [] h
  refine V.alq dX0_spans_0 (pc' := 1) rfl (j := 0) rfl ?_
  refine V.getf dX0_spans_1 (pc' := 4) rfl FL_X0_24 hr (by decide) rfl ?_
  refine V.if_le dX0_spans_4 (pc' := 7) rfl (tgt := 36) (by decide) (fun c => ?_) (fun c => ?_)
  · rw [if_pos c] at e
    refine V.pk [] rfl ?_
    exact vX0_spans_c36 h q e
  · rw [if_neg c] at e
    refine V.ilq dX0_spans_7 (pc' := 8) rfl (j := 1) rfl ?_
    refine V.alq dX0_spans_8 (pc' := 9) rfl (j := 0) rfl ?_
    refine V.getr dX0_spans_9 (pc' := 12) rfl FL_X0_9 hr (by decide) rfl (r' := r + 1) rfl ?_
    refine V.iconst dX0_spans_12 (pc' := 13) rfl (v := 0) (by decide) ?_
    refine V.iald dX0_spans_13 (pc' := 14) rfl (akX0_1 hr).1 (akX0_1 hr).2 (inb_t (by decide)) ?_
    refine V.ic_gt dX0_spans_14 (pc' := 17) rfl (tgt := 36) (by decide) (fun c => ?_) (fun c => ?_)
    · rw [if_pos c] at e
      refine V.pk [] rfl ?_
      exact vX0_spans_c36 h q e
    · rw [if_neg c] at e
      refine V.ilq dX0_spans_17 (pc' := 18) rfl (j := 1) rfl ?_
      refine V.alq dX0_spans_18 (pc' := 19) rfl (j := 0) rfl ?_
      refine V.getr dX0_spans_19 (pc' := 22) rfl FL_X0_9 hr (by decide) rfl (r' := r + 1) rfl ?_
      refine V.alq dX0_spans_22 (pc' := 23) rfl (j := 0) rfl ?_
      refine V.getf dX0_spans_23 (pc' := 26) rfl FL_X0_24 hr (by decide) rfl ?_
      refine V.iconst dX0_spans_26 (pc' := 27) rfl (v := 1) (by decide) ?_
      refine V.isub dX0_spans_27 (pc' := 28) rfl ?_
      obtain ⟨c1, e⟩ := gd_s e
      refine V.iald dX0_spans_28 (pc' := 29) rfl (akX0_1 hr).1 (akX0_1 hr).2 (inb_t c1) ?_
      refine V.ic_lt dX0_spans_29 (pc' := 32) rfl (tgt := 36) (by decide) (fun c => ?_) (fun c => ?_)
      · rw [if_pos c] at e
        refine V.pk [] rfl ?_
        exact vX0_spans_c36 h q e
      · rw [if_neg c] at e
        refine V.iconst dX0_spans_32 (pc' := 33) rfl (v := 1) (by decide) ?_
        refine V.goto dX0_spans_33 (pc' := 37) (by decide) ?_
        refine V.pk [] rfl ?_
        exact vX0_spans_c37 h (1 : Int32) q e

-- X0_carryAt (level 0)
theorem dX0_carryAt_0 : decode cX0_carryAt 0 = .ok (.iconst 0, 1) := by decide +kernel
theorem dX0_carryAt_1 : decode cX0_carryAt 1 = .ok (.istore_n 2, 1) := by decide +kernel
theorem dX0_carryAt_2 : decode cX0_carryAt 2 = .ok (.iload_n 2, 1) := by decide +kernel
theorem dX0_carryAt_3 : decode cX0_carryAt 3 = .ok (.aload_n 0, 1) := by decide +kernel
theorem dX0_carryAt_4 : decode cX0_carryAt 4 = .ok (.getfield 24, 3) := by decide +kernel
theorem dX0_carryAt_7 : decode cX0_carryAt 7 = .ok (.iconst 1, 1) := by decide +kernel
theorem dX0_carryAt_8 : decode cX0_carryAt 8 = .ok (.isub, 1) := by decide +kernel
theorem dX0_carryAt_9 : decode cX0_carryAt 9 = .ok (.if_icmp .ge 21, 3) := by decide +kernel
theorem dX0_carryAt_12 : decode cX0_carryAt 12 = .ok (.aload_n 0, 1) := by decide +kernel
theorem dX0_carryAt_13 : decode cX0_carryAt 13 = .ok (.getfield 9, 3) := by decide +kernel
theorem dX0_carryAt_16 : decode cX0_carryAt 16 = .ok (.iload_n 2, 1) := by decide +kernel
theorem dX0_carryAt_17 : decode cX0_carryAt 17 = .ok (.iconst 1, 1) := by decide +kernel
theorem dX0_carryAt_18 : decode cX0_carryAt 18 = .ok (.iadd, 1) := by decide +kernel
theorem dX0_carryAt_19 : decode cX0_carryAt 19 = .ok (.iaload, 1) := by decide +kernel
theorem dX0_carryAt_20 : decode cX0_carryAt 20 = .ok (.iload_n 1, 1) := by decide +kernel
theorem dX0_carryAt_21 : decode cX0_carryAt 21 = .ok (.if_icmp .lt 9, 3) := by decide +kernel
theorem dX0_carryAt_24 : decode cX0_carryAt 24 = .ok (.iinc 2 1, 3) := by decide +kernel
theorem dX0_carryAt_27 : decode cX0_carryAt 27 = .ok (.goto (-25), 3) := by decide +kernel
theorem dX0_carryAt_30 : decode cX0_carryAt 30 = .ok (.aload_n 0, 1) := by decide +kernel
theorem dX0_carryAt_31 : decode cX0_carryAt 31 = .ok (.getfield 15, 3) := by decide +kernel
theorem dX0_carryAt_34 : decode cX0_carryAt 34 = .ok (.iload_n 2, 1) := by decide +kernel
theorem dX0_carryAt_35 : decode cX0_carryAt 35 = .ok (.iaload, 1) := by decide +kernel
theorem dX0_carryAt_36 : decode cX0_carryAt 36 = .ok (.aload_n 0, 1) := by decide +kernel
theorem dX0_carryAt_37 : decode cX0_carryAt 37 = .ok (.getfield 9, 3) := by decide +kernel
theorem dX0_carryAt_40 : decode cX0_carryAt 40 = .ok (.iload_n 2, 1) := by decide +kernel
theorem dX0_carryAt_41 : decode cX0_carryAt 41 = .ok (.iaload, 1) := by decide +kernel
theorem dX0_carryAt_42 : decode cX0_carryAt 42 = .ok (.iload_n 1, 1) := by decide +kernel
theorem dX0_carryAt_43 : decode cX0_carryAt 43 = .ok (.isub, 1) := by decide +kernel
theorem dX0_carryAt_44 : decode cX0_carryAt 44 = .ok (.aload_n 0, 1) := by decide +kernel
theorem dX0_carryAt_45 : decode cX0_carryAt 45 = .ok (.getfield 18, 3) := by decide +kernel
theorem dX0_carryAt_48 : decode cX0_carryAt 48 = .ok (.iload_n 2, 1) := by decide +kernel
theorem dX0_carryAt_49 : decode cX0_carryAt 49 = .ok (.iaload, 1) := by decide +kernel
theorem dX0_carryAt_50 : decode cX0_carryAt 50 = .ok (.aload_n 0, 1) := by decide +kernel
theorem dX0_carryAt_51 : decode cX0_carryAt 51 = .ok (.getfield 21, 3) := by decide +kernel
theorem dX0_carryAt_54 : decode cX0_carryAt 54 = .ok (.iload_n 2, 1) := by decide +kernel
theorem dX0_carryAt_55 : decode cX0_carryAt 55 = .ok (.iaload, 1) := by decide +kernel
theorem dX0_carryAt_56 : decode cX0_carryAt 56 = .ok (.isub, 1) := by decide +kernel
theorem dX0_carryAt_57 : decode cX0_carryAt 57 = .ok (.imul, 1) := by decide +kernel
theorem dX0_carryAt_58 : decode cX0_carryAt 58 = .ok (.iadd, 1) := by decide +kernel
theorem dX0_carryAt_59 : decode cX0_carryAt 59 = .ok (.ireturn, 1) := by decide +kernel
def sX0_carryAt_c30 (h : Hp) (r : Nat) (v1 : Int32) (v2 : Int32) : Option (Int32 × Hp) :=
  gd (inb v2 20) (gd (inb v2 20) (gd (inb v2 20) (gd (inb v2 20) (some (((h.1 (r + 2) v2.toNatClampNeg) + (((h.1 (r + 1) v2.toNatClampNeg) - v1) * ((h.1 (r + 3) v2.toNatClampNeg) - (h.1 (r + 4) v2.toNatClampNeg)))), h)))))
set_option maxRecDepth 10000 in
theorem vX0_carryAt_c30 (h : Hp) (r : Nat) (v1 : Int32) (v2 : Int32) (hr : ck r = 0) (q : (Int32 × Hp)) (e : sX0_carryAt_c30 h r v1 v2 = some q) : V (Gs 0 (pI q)) mX0_carryAt (0, 0) 30 [(0, .ref r), (1, .int v1), (2, .int v2)] [] h := by
  unfold sX0_carryAt_c30 at e
  refine V.alq dX0_carryAt_30 (pc' := 31) rfl (j := 0) rfl ?_
  refine V.getr dX0_carryAt_31 (pc' := 34) rfl FL_X0_15 hr (by decide) rfl (r' := r + 2) rfl ?_
  refine V.ilq dX0_carryAt_34 (pc' := 35) rfl (j := 2) rfl ?_
  obtain ⟨c3, e⟩ := gd_s e
  refine V.iald dX0_carryAt_35 (pc' := 36) rfl (akX0_2 hr).1 (akX0_2 hr).2 (inb_t c3) ?_
  refine V.alq dX0_carryAt_36 (pc' := 37) rfl (j := 0) rfl ?_
  refine V.getr dX0_carryAt_37 (pc' := 40) rfl FL_X0_9 hr (by decide) rfl (r' := r + 1) rfl ?_
  refine V.ilq dX0_carryAt_40 (pc' := 41) rfl (j := 2) rfl ?_
  obtain ⟨c4, e⟩ := gd_s e
  refine V.iald dX0_carryAt_41 (pc' := 42) rfl (akX0_1 hr).1 (akX0_1 hr).2 (inb_t c4) ?_
  refine V.ilq dX0_carryAt_42 (pc' := 43) rfl (j := 1) rfl ?_
  refine V.isub dX0_carryAt_43 (pc' := 44) rfl ?_
  refine V.alq dX0_carryAt_44 (pc' := 45) rfl (j := 0) rfl ?_
  refine V.getr dX0_carryAt_45 (pc' := 48) rfl FL_X0_18 hr (by decide) rfl (r' := r + 3) rfl ?_
  refine V.ilq dX0_carryAt_48 (pc' := 49) rfl (j := 2) rfl ?_
  obtain ⟨c5, e⟩ := gd_s e
  refine V.iald dX0_carryAt_49 (pc' := 50) rfl (akX0_3 hr).1 (akX0_3 hr).2 (inb_t c5) ?_
  refine V.alq dX0_carryAt_50 (pc' := 51) rfl (j := 0) rfl ?_
  refine V.getr dX0_carryAt_51 (pc' := 54) rfl FL_X0_21 hr (by decide) rfl (r' := r + 4) rfl ?_
  refine V.ilq dX0_carryAt_54 (pc' := 55) rfl (j := 2) rfl ?_
  obtain ⟨c6, e⟩ := gd_s e
  refine V.iald dX0_carryAt_55 (pc' := 56) rfl (akX0_4 hr).1 (akX0_4 hr).2 (inb_t c6) ?_
  refine V.isub dX0_carryAt_56 (pc' := 57) rfl ?_
  refine V.imul dX0_carryAt_57 (pc' := 58) rfl ?_
  refine V.iadd dX0_carryAt_58 (pc' := 59) rfl ?_
  exact V.iret dX0_carryAt_59 rfl (fnI e)
def sX0_carryAt_c2 (k2 : Hp → Nat → Int32 → Int32 → Option (Int32 × Hp)) (h : Hp) (r : Nat) (v1 : Int32) (v2 : Int32) : Option (Int32 × Hp) :=
  if ((h.1 r 4) - (1 : Int32)) ≤ v2 then (sX0_carryAt_c30 h r v1 v2) else (gd (inb (v2 + (1 : Int32)) 20) (if (h.1 (r + 1) (v2 + (1 : Int32)).toNatClampNeg) < v1 then (sX0_carryAt_c30 h r v1 v2) else (nm (v2 + (1 : Int32)) fun x2 => k2 h r v1 x2)))
set_option maxRecDepth 10000 in
theorem vX0_carryAt_c2 (k2 : Hp → Nat → Int32 → Int32 → Option (Int32 × Hp)) (hk2 : ∀ (h : Hp) (r : Nat) (v1 : Int32) (v2 : Int32) (hr : ck r = 0) (q : (Int32 × Hp)), k2 h r v1 v2 = some q → V (Gs 0 (pI q)) mX0_carryAt (0, 0) 2 [(0, .ref r), (1, .int v1), (2, .int v2)] [] h) (h : Hp) (r : Nat) (v1 : Int32) (v2 : Int32) (hr : ck r = 0) (q : (Int32 × Hp)) (e : sX0_carryAt_c2 k2 h r v1 v2 = some q) : V (Gs 0 (pI q)) mX0_carryAt (0, 0) 2 [(0, .ref r), (1, .int v1), (2, .int v2)] [] h := by
  unfold sX0_carryAt_c2 at e
  refine V.ilq dX0_carryAt_2 (pc' := 3) rfl (j := 2) rfl ?_
  refine V.alq dX0_carryAt_3 (pc' := 4) rfl (j := 0) rfl ?_
  refine V.getf dX0_carryAt_4 (pc' := 7) rfl FL_X0_24 hr (by decide) rfl ?_
  refine V.iconst dX0_carryAt_7 (pc' := 8) rfl (v := 1) (by decide) ?_
  refine V.isub dX0_carryAt_8 (pc' := 9) rfl ?_
  refine V.ic_ge dX0_carryAt_9 (pc' := 12) rfl (tgt := 30) (by decide) (fun c => ?_) (fun c => ?_)
  · rw [if_pos c] at e
    exact vX0_carryAt_c30 h r v1 v2 hr q e
  · rw [if_neg c] at e
    refine V.alq dX0_carryAt_12 (pc' := 13) rfl (j := 0) rfl ?_
    refine V.getr dX0_carryAt_13 (pc' := 16) rfl FL_X0_9 hr (by decide) rfl (r' := r + 1) rfl ?_
    refine V.ilq dX0_carryAt_16 (pc' := 17) rfl (j := 2) rfl ?_
    refine V.iconst dX0_carryAt_17 (pc' := 18) rfl (v := 1) (by decide) ?_
    refine V.iadd dX0_carryAt_18 (pc' := 19) rfl ?_
    obtain ⟨c1, e⟩ := gd_s e
    refine V.iald dX0_carryAt_19 (pc' := 20) rfl (akX0_1 hr).1 (akX0_1 hr).2 (inb_t c1) ?_
    refine V.ilq dX0_carryAt_20 (pc' := 21) rfl (j := 1) rfl ?_
    refine V.ic_lt dX0_carryAt_21 (pc' := 24) rfl (tgt := 30) (by decide) (fun c => ?_) (fun c => ?_)
    · rw [if_pos c] at e
      exact vX0_carryAt_c30 h r v1 v2 hr q e
    · rw [if_neg c] at e
      obtain ⟨x2, ex2, e⟩ := nm_s e
      refine V.iinc dX0_carryAt_24 (pc' := 27) rfl (j := 2) rfl (v := 1) (by decide) (by decide) ex2 (L' := [(2, .int x2), (0, .ref r), (1, .int v1)]) rfl ?_
      refine V.goto dX0_carryAt_27 (pc' := 2) (by decide) ?_
      refine V.pk [1, 2, 0] rfl ?_
      exact hk2 h r v1 x2 hr q e
def sX0_carryAt_b2 : Nat → Hp → Nat → Int32 → Int32 → Option (Int32 × Hp)
  | 0 => fun _ _ _ _ => none
  | n + 1 => sX0_carryAt_c2 (sX0_carryAt_b2 n)
theorem vX0_carryAt_b2 : ∀ (n : Nat) (h : Hp) (r : Nat) (v1 : Int32) (v2 : Int32) (hr : ck r = 0) (q : (Int32 × Hp)), sX0_carryAt_b2 n h r v1 v2 = some q → V (Gs 0 (pI q)) mX0_carryAt (0, 0) 2 [(0, .ref r), (1, .int v1), (2, .int v2)] [] h
  | 0 => fun _ _ _ _ _ _ e => by cases e
  | n + 1 => fun h r v1 v2 hr q e => vX0_carryAt_c2 (sX0_carryAt_b2 n) (vX0_carryAt_b2 n) h r v1 v2 hr q e
def sX0_carryAt (h : Hp) (r : Nat) (a1 : Int32) : Option (Int32 × Hp) :=
  gd (isC r 0) (sX0_carryAt_b2 FU h r a1 (0 : Int32))
set_option maxRecDepth 10000 in
theorem kX0_carryAt (h : Hp) (r : Nat) (a1 : Int32) (q : (Int32 × Hp)) (e : sX0_carryAt h r a1 = some q) : K 0 mX0_carryAt [.ref r, .int a1] h (pI q) := by
  unfold sX0_carryAt at e
  obtain ⟨hr, e⟩ := gd_s e
  have hr := isC_t hr
  refine K.ofV (by decide) rfl (Nat.le_of_ble_eq_true rfl) ?_
  show V (Gs 0 (pI q)) mX0_carryAt (0, 0) 0 [(0, .ref r), (1, .int a1)] [] h
  refine V.iconst dX0_carryAt_0 (pc' := 1) rfl (v := 0) (by decide) ?_
  refine V.isq dX0_carryAt_1 (pc' := 2) rfl (by decide) rfl (L' := [(2, .int (0 : Int32)), (0, .ref r), (1, .int a1)]) rfl ?_
  refine V.pk [1, 2, 0] rfl ?_
  exact vX0_carryAt_b2 FU h r a1 (0 : Int32) hr q e

-- X1_empty (level 0)
theorem dX1_empty_0 : decode cX1_empty 0 = .ok (.aload_n 0, 1) := by decide +kernel
theorem dX1_empty_1 : decode cX1_empty 1 = .ok (.iconst 0, 1) := by decide +kernel
theorem dX1_empty_2 : decode cX1_empty 2 = .ok (.putfield 25, 3) := by decide +kernel
theorem dX1_empty_5 : decode cX1_empty 5 = .ok (.return_, 1) := by decide +kernel
def sX1_empty (h : Hp) (r : Nat) : Option Hp :=
  gd (isC r 1) (nm (u1 h r 4 (0 : Int32)) fun h1 => some h1)
set_option maxRecDepth 10000 in
theorem kX1_empty (h : Hp) (r : Nat) (q : Hp) (e : sX1_empty h r = some q) : K 0 mX1_empty [.ref r] h (pV q) := by
  unfold sX1_empty at e
  obtain ⟨hr, e⟩ := gd_s e
  have hr := isC_t hr
  refine K.ofV (by decide) rfl (Nat.le_of_ble_eq_true rfl) ?_
  show V (Gs 0 (pV q)) mX1_empty (0, 0) 0 [(0, .ref r)] [] h
  refine V.alq dX1_empty_0 (pc' := 1) rfl (j := 0) rfl ?_
  refine V.iconst dX1_empty_1 (pc' := 2) rfl (v := 0) (by decide) ?_
  obtain ⟨h1, eh1, e⟩ := nm_s e
  refine V.putf dX1_empty_2 (pc' := 5) rfl FP_X1_25 hr (by decide) rfl eh1 ?_
  exact V.vret dX1_empty_5 rfl (fnV e)

-- X1_has (level 0)
theorem dX1_has_0 : decode cX1_has 0 = .ok (.iload_n 1, 1) := by decide +kernel
theorem dX1_has_1 : decode cX1_has 1 = .ok (.ifCond .lt 15, 3) := by decide +kernel
theorem dX1_has_4 : decode cX1_has 4 = .ok (.iload_n 1, 1) := by decide +kernel
theorem dX1_has_5 : decode cX1_has 5 = .ok (.aload_n 0, 1) := by decide +kernel
theorem dX1_has_6 : decode cX1_has 6 = .ok (.getfield 25, 3) := by decide +kernel
theorem dX1_has_9 : decode cX1_has 9 = .ok (.if_icmp .ge 7, 3) := by decide +kernel
theorem dX1_has_12 : decode cX1_has 12 = .ok (.iconst 1, 1) := by decide +kernel
theorem dX1_has_13 : decode cX1_has 13 = .ok (.goto 4, 3) := by decide +kernel
theorem dX1_has_16 : decode cX1_has 16 = .ok (.iconst 0, 1) := by decide +kernel
theorem dX1_has_17 : decode cX1_has 17 = .ok (.ireturn, 1) := by decide +kernel
def sX1_has_c17 (h : Hp) (t0 : Int32) : Option (Int32 × Hp) :=
  gd (zb t0) (some (t0, h))
set_option maxRecDepth 10000 in
theorem vX1_has_c17 (h : Hp) (t0 : Int32) (q : (Int32 × Hp)) (e : sX1_has_c17 h t0 = some q) : V (Gs 0 (pI q)) mX1_has (0, 0) 17 [] [.int t0] h := by
  unfold sX1_has_c17 at e
  obtain ⟨c1, e⟩ := gd_s e
  exact V.zret dX1_has_17 rfl (zb_t c1) (fnI e)
def sX1_has_c16 (h : Hp) : Option (Int32 × Hp) :=
  sX1_has_c17 h (0 : Int32)
set_option maxRecDepth 10000 in
theorem vX1_has_c16 (h : Hp) (q : (Int32 × Hp)) (e : sX1_has_c16 h = some q) : V (Gs 0 (pI q)) mX1_has (0, 0) 16 [] [] h := by
  unfold sX1_has_c16 at e
  refine V.iconst dX1_has_16 (pc' := 17) rfl (v := 0) (by decide) ?_
  exact vX1_has_c17 h (0 : Int32) q e
def sX1_has (h : Hp) (r : Nat) (a1 : Int32) : Option (Int32 × Hp) :=
  gd (isC r 1) (if a1 < 0 then (sX1_has_c16 h) else (if (h.1 r 4) ≤ a1 then (sX1_has_c16 h) else (sX1_has_c17 h (1 : Int32))))
set_option maxRecDepth 10000 in
theorem kX1_has (h : Hp) (r : Nat) (a1 : Int32) (q : (Int32 × Hp)) (e : sX1_has h r a1 = some q) : K 0 mX1_has [.ref r, .int a1] h (pI q) := by
  unfold sX1_has at e
  obtain ⟨hr, e⟩ := gd_s e
  have hr := isC_t hr
  refine K.ofV (by decide) rfl (Nat.le_of_ble_eq_true rfl) ?_
  show V (Gs 0 (pI q)) mX1_has (0, 0) 0 [(0, .ref r), (1, .int a1)] [] h
  refine V.ilq dX1_has_0 (pc' := 1) rfl (j := 1) rfl ?_
  refine V.if_lt dX1_has_1 (pc' := 4) rfl (tgt := 16) (by decide) (fun c => ?_) (fun c => ?_)
  · rw [if_pos c] at e
    refine V.pk [] rfl ?_
    exact vX1_has_c16 h q e
  · rw [if_neg c] at e
    refine V.ilq dX1_has_4 (pc' := 5) rfl (j := 1) rfl ?_
    refine V.alq dX1_has_5 (pc' := 6) rfl (j := 0) rfl ?_
    refine V.getf dX1_has_6 (pc' := 9) rfl FL_X1_25 hr (by decide) rfl ?_
    refine V.ic_ge dX1_has_9 (pc' := 12) rfl (tgt := 16) (by decide) (fun c => ?_) (fun c => ?_)
    · rw [if_pos c] at e
      refine V.pk [] rfl ?_
      exact vX1_has_c16 h q e
    · rw [if_neg c] at e
      refine V.iconst dX1_has_12 (pc' := 13) rfl (v := 1) (by decide) ?_
      refine V.goto dX1_has_13 (pc' := 17) (by decide) ?_
      refine V.pk [] rfl ?_
      exact vX1_has_c17 h (1 : Int32) q e

-- X1_add (level 0)
theorem dX1_add_0 : decode cX1_add 0 = .ok (.aload_n 0, 1) := by decide +kernel
theorem dX1_add_1 : decode cX1_add 1 = .ok (.getfield 25, 3) := by decide +kernel
theorem dX1_add_4 : decode cX1_add 4 = .ok (.bipush 10, 2) := by decide +kernel
theorem dX1_add_6 : decode cX1_add 6 = .ok (.if_icmp .ge 54, 3) := by decide +kernel
theorem dX1_add_9 : decode cX1_add 9 = .ok (.aload_n 0, 1) := by decide +kernel
theorem dX1_add_10 : decode cX1_add 10 = .ok (.getfield 9, 3) := by decide +kernel
theorem dX1_add_13 : decode cX1_add 13 = .ok (.aload_n 0, 1) := by decide +kernel
theorem dX1_add_14 : decode cX1_add 14 = .ok (.getfield 25, 3) := by decide +kernel
theorem dX1_add_17 : decode cX1_add 17 = .ok (.iload_n 1, 1) := by decide +kernel
theorem dX1_add_18 : decode cX1_add 18 = .ok (.bastore, 1) := by decide +kernel
theorem dX1_add_19 : decode cX1_add 19 = .ok (.aload_n 0, 1) := by decide +kernel
theorem dX1_add_20 : decode cX1_add 20 = .ok (.getfield 15, 3) := by decide +kernel
theorem dX1_add_23 : decode cX1_add 23 = .ok (.aload_n 0, 1) := by decide +kernel
theorem dX1_add_24 : decode cX1_add 24 = .ok (.getfield 25, 3) := by decide +kernel
theorem dX1_add_27 : decode cX1_add 27 = .ok (.iload_n 2, 1) := by decide +kernel
theorem dX1_add_28 : decode cX1_add 28 = .ok (.iastore, 1) := by decide +kernel
theorem dX1_add_29 : decode cX1_add 29 = .ok (.aload_n 0, 1) := by decide +kernel
theorem dX1_add_30 : decode cX1_add 30 = .ok (.getfield 19, 3) := by decide +kernel
theorem dX1_add_33 : decode cX1_add 33 = .ok (.aload_n 0, 1) := by decide +kernel
theorem dX1_add_34 : decode cX1_add 34 = .ok (.getfield 25, 3) := by decide +kernel
theorem dX1_add_37 : decode cX1_add 37 = .ok (.iload_n 3, 1) := by decide +kernel
theorem dX1_add_38 : decode cX1_add 38 = .ok (.iastore, 1) := by decide +kernel
theorem dX1_add_39 : decode cX1_add 39 = .ok (.aload_n 0, 1) := by decide +kernel
theorem dX1_add_40 : decode cX1_add 40 = .ok (.getfield 22, 3) := by decide +kernel
theorem dX1_add_43 : decode cX1_add 43 = .ok (.aload_n 0, 1) := by decide +kernel
theorem dX1_add_44 : decode cX1_add 44 = .ok (.getfield 25, 3) := by decide +kernel
theorem dX1_add_47 : decode cX1_add 47 = .ok (.iload 4, 2) := by decide +kernel
theorem dX1_add_49 : decode cX1_add 49 = .ok (.iastore, 1) := by decide +kernel
theorem dX1_add_50 : decode cX1_add 50 = .ok (.aload_n 0, 1) := by decide +kernel
theorem dX1_add_51 : decode cX1_add 51 = .ok (.dup, 1) := by decide +kernel
theorem dX1_add_52 : decode cX1_add 52 = .ok (.getfield 25, 3) := by decide +kernel
theorem dX1_add_55 : decode cX1_add 55 = .ok (.iconst 1, 1) := by decide +kernel
theorem dX1_add_56 : decode cX1_add 56 = .ok (.iadd, 1) := by decide +kernel
theorem dX1_add_57 : decode cX1_add 57 = .ok (.putfield 25, 3) := by decide +kernel
theorem dX1_add_60 : decode cX1_add 60 = .ok (.return_, 1) := by decide +kernel
def sX1_add_c60 (h : Hp) : Option Hp :=
  some h
set_option maxRecDepth 10000 in
theorem vX1_add_c60 (h : Hp) (q : Hp) (e : sX1_add_c60 h = some q) : V (Gs 0 (pV q)) mX1_add (0, 0) 60 [] [] h := by
  unfold sX1_add_c60 at e
  exact V.vret dX1_add_60 rfl (fnV e)
def sX1_add (h : Hp) (r : Nat) (a1 : Int32) (a2 : Int32) (a3 : Int32) (a4 : Int32) : Option Hp :=
  gd (isC r 1) (if (10 : Int32) ≤ (h.1 r 4) then (sX1_add_c60 h) else (gd (inb (h.1 r 4) 10) (nm (u1 h (r + 1) (h.1 r 4).toNatClampNeg (vp_nar .boolean a1)) fun h2 => gd (inb (h2.1 r 4) 10) (nm (u1 h2 (r + 2) (h2.1 r 4).toNatClampNeg a2) fun h4 => gd (inb (h4.1 r 4) 10) (nm (u1 h4 (r + 3) (h4.1 r 4).toNatClampNeg a3) fun h6 => gd (inb (h6.1 r 4) 10) (nm (u1 h6 (r + 4) (h6.1 r 4).toNatClampNeg a4) fun h8 => nm (u1 h8 r 4 ((h8.1 r 4) + (1 : Int32))) fun h9 => sX1_add_c60 h9))))))
set_option maxRecDepth 10000 in
theorem kX1_add (h : Hp) (r : Nat) (a1 : Int32) (a2 : Int32) (a3 : Int32) (a4 : Int32) (q : Hp) (e : sX1_add h r a1 a2 a3 a4 = some q) : K 0 mX1_add [.ref r, .int a1, .int a2, .int a3, .int a4] h (pV q) := by
  unfold sX1_add at e
  obtain ⟨hr, e⟩ := gd_s e
  have hr := isC_t hr
  refine K.ofV (by decide) rfl (Nat.le_of_ble_eq_true rfl) ?_
  show V (Gs 0 (pV q)) mX1_add (0, 0) 0 [(0, .ref r), (1, .int a1), (2, .int a2), (3, .int a3), (4, .int a4)] [] h
  refine V.alq dX1_add_0 (pc' := 1) rfl (j := 0) rfl ?_
  refine V.getf dX1_add_1 (pc' := 4) rfl FL_X1_25 hr (by decide) rfl ?_
  refine V.bipush dX1_add_4 (pc' := 6) rfl (v := 10) (by decide) ?_
  refine V.ic_ge dX1_add_6 (pc' := 9) rfl (tgt := 60) (by decide) (fun c => ?_) (fun c => ?_)
  · rw [if_pos c] at e
    refine V.pk [] rfl ?_
    exact vX1_add_c60 h q e
  · rw [if_neg c] at e
    refine V.alq dX1_add_9 (pc' := 10) rfl (j := 0) rfl ?_
    refine V.getr dX1_add_10 (pc' := 13) rfl FL_X1_9 hr (by decide) rfl (r' := r + 1) rfl ?_
    refine V.alq dX1_add_13 (pc' := 14) rfl (j := 0) rfl ?_
    refine V.getf dX1_add_14 (pc' := 17) rfl FL_X1_25 hr (by decide) rfl ?_
    refine V.ilq dX1_add_17 (pc' := 18) rfl (j := 1) rfl ?_
    obtain ⟨c1, e⟩ := gd_s e
    obtain ⟨h2, eh2, e⟩ := nm_s e
    refine V.zast dX1_add_18 (pc' := 19) rfl (akX1_1 hr).1 (akX1_1 hr).2 (inb_t c1) eh2 ?_
    refine V.alq dX1_add_19 (pc' := 20) rfl (j := 0) rfl ?_
    refine V.getr dX1_add_20 (pc' := 23) rfl FL_X1_15 hr (by decide) rfl (r' := r + 2) rfl ?_
    refine V.alq dX1_add_23 (pc' := 24) rfl (j := 0) rfl ?_
    refine V.getf dX1_add_24 (pc' := 27) rfl FL_X1_25 hr (by decide) rfl ?_
    refine V.ilq dX1_add_27 (pc' := 28) rfl (j := 2) rfl ?_
    obtain ⟨c3, e⟩ := gd_s e
    obtain ⟨h4, eh4, e⟩ := nm_s e
    refine V.iast dX1_add_28 (pc' := 29) rfl (akX1_2 hr).1 (akX1_2 hr).2 (inb_t c3) eh4 ?_
    refine V.alq dX1_add_29 (pc' := 30) rfl (j := 0) rfl ?_
    refine V.getr dX1_add_30 (pc' := 33) rfl FL_X1_19 hr (by decide) rfl (r' := r + 3) rfl ?_
    refine V.alq dX1_add_33 (pc' := 34) rfl (j := 0) rfl ?_
    refine V.getf dX1_add_34 (pc' := 37) rfl FL_X1_25 hr (by decide) rfl ?_
    refine V.ilq dX1_add_37 (pc' := 38) rfl (j := 3) rfl ?_
    obtain ⟨c5, e⟩ := gd_s e
    obtain ⟨h6, eh6, e⟩ := nm_s e
    refine V.iast dX1_add_38 (pc' := 39) rfl (akX1_3 hr).1 (akX1_3 hr).2 (inb_t c5) eh6 ?_
    refine V.alq dX1_add_39 (pc' := 40) rfl (j := 0) rfl ?_
    refine V.getr dX1_add_40 (pc' := 43) rfl FL_X1_22 hr (by decide) rfl (r' := r + 4) rfl ?_
    refine V.alq dX1_add_43 (pc' := 44) rfl (j := 0) rfl ?_
    refine V.getf dX1_add_44 (pc' := 47) rfl FL_X1_25 hr (by decide) rfl ?_
    refine V.il dX1_add_47 (pc' := 49) rfl (j := 4) rfl ?_
    obtain ⟨c7, e⟩ := gd_s e
    obtain ⟨h8, eh8, e⟩ := nm_s e
    refine V.iast dX1_add_49 (pc' := 50) rfl (akX1_4 hr).1 (akX1_4 hr).2 (inb_t c7) eh8 ?_
    refine V.alq dX1_add_50 (pc' := 51) rfl (j := 0) rfl ?_
    refine V.dup dX1_add_51 (pc' := 52) rfl rfl ?_
    refine V.getf dX1_add_52 (pc' := 55) rfl FL_X1_25 hr (by decide) rfl ?_
    refine V.iconst dX1_add_55 (pc' := 56) rfl (v := 1) (by decide) ?_
    refine V.iadd dX1_add_56 (pc' := 57) rfl ?_
    obtain ⟨h9, eh9, e⟩ := nm_s e
    refine V.putf dX1_add_57 (pc' := 60) rfl FP_X1_25 hr (by decide) rfl eh9 ?_
    refine V.pk [] rfl ?_
    exact vX1_add_c60 h9 q e

-- X1_remove (level 0)
theorem dX1_remove_0 : decode cX1_remove 0 = .ok (.iload_n 1, 1) := by decide +kernel
theorem dX1_remove_1 : decode cX1_remove 1 = .ok (.iconst 1, 1) := by decide +kernel
theorem dX1_remove_2 : decode cX1_remove 2 = .ok (.iadd, 1) := by decide +kernel
theorem dX1_remove_3 : decode cX1_remove 3 = .ok (.istore_n 2, 1) := by decide +kernel
theorem dX1_remove_4 : decode cX1_remove 4 = .ok (.iload_n 2, 1) := by decide +kernel
theorem dX1_remove_5 : decode cX1_remove 5 = .ok (.aload_n 0, 1) := by decide +kernel
theorem dX1_remove_6 : decode cX1_remove 6 = .ok (.getfield 25, 3) := by decide +kernel
theorem dX1_remove_9 : decode cX1_remove 9 = .ok (.if_icmp .ge 65, 3) := by decide +kernel
theorem dX1_remove_12 : decode cX1_remove 12 = .ok (.aload_n 0, 1) := by decide +kernel
theorem dX1_remove_13 : decode cX1_remove 13 = .ok (.getfield 9, 3) := by decide +kernel
theorem dX1_remove_16 : decode cX1_remove 16 = .ok (.iload_n 2, 1) := by decide +kernel
theorem dX1_remove_17 : decode cX1_remove 17 = .ok (.iconst 1, 1) := by decide +kernel
theorem dX1_remove_18 : decode cX1_remove 18 = .ok (.isub, 1) := by decide +kernel
theorem dX1_remove_19 : decode cX1_remove 19 = .ok (.aload_n 0, 1) := by decide +kernel
theorem dX1_remove_20 : decode cX1_remove 20 = .ok (.getfield 9, 3) := by decide +kernel
theorem dX1_remove_23 : decode cX1_remove 23 = .ok (.iload_n 2, 1) := by decide +kernel
theorem dX1_remove_24 : decode cX1_remove 24 = .ok (.baload, 1) := by decide +kernel
theorem dX1_remove_25 : decode cX1_remove 25 = .ok (.bastore, 1) := by decide +kernel
theorem dX1_remove_26 : decode cX1_remove 26 = .ok (.aload_n 0, 1) := by decide +kernel
theorem dX1_remove_27 : decode cX1_remove 27 = .ok (.getfield 15, 3) := by decide +kernel
theorem dX1_remove_30 : decode cX1_remove 30 = .ok (.iload_n 2, 1) := by decide +kernel
theorem dX1_remove_31 : decode cX1_remove 31 = .ok (.iconst 1, 1) := by decide +kernel
theorem dX1_remove_32 : decode cX1_remove 32 = .ok (.isub, 1) := by decide +kernel
theorem dX1_remove_33 : decode cX1_remove 33 = .ok (.aload_n 0, 1) := by decide +kernel
theorem dX1_remove_34 : decode cX1_remove 34 = .ok (.getfield 15, 3) := by decide +kernel
theorem dX1_remove_37 : decode cX1_remove 37 = .ok (.iload_n 2, 1) := by decide +kernel
theorem dX1_remove_38 : decode cX1_remove 38 = .ok (.iaload, 1) := by decide +kernel
theorem dX1_remove_39 : decode cX1_remove 39 = .ok (.iastore, 1) := by decide +kernel
theorem dX1_remove_40 : decode cX1_remove 40 = .ok (.aload_n 0, 1) := by decide +kernel
theorem dX1_remove_41 : decode cX1_remove 41 = .ok (.getfield 19, 3) := by decide +kernel
theorem dX1_remove_44 : decode cX1_remove 44 = .ok (.iload_n 2, 1) := by decide +kernel
theorem dX1_remove_45 : decode cX1_remove 45 = .ok (.iconst 1, 1) := by decide +kernel
theorem dX1_remove_46 : decode cX1_remove 46 = .ok (.isub, 1) := by decide +kernel
theorem dX1_remove_47 : decode cX1_remove 47 = .ok (.aload_n 0, 1) := by decide +kernel
theorem dX1_remove_48 : decode cX1_remove 48 = .ok (.getfield 19, 3) := by decide +kernel
theorem dX1_remove_51 : decode cX1_remove 51 = .ok (.iload_n 2, 1) := by decide +kernel
theorem dX1_remove_52 : decode cX1_remove 52 = .ok (.iaload, 1) := by decide +kernel
theorem dX1_remove_53 : decode cX1_remove 53 = .ok (.iastore, 1) := by decide +kernel
theorem dX1_remove_54 : decode cX1_remove 54 = .ok (.aload_n 0, 1) := by decide +kernel
theorem dX1_remove_55 : decode cX1_remove 55 = .ok (.getfield 22, 3) := by decide +kernel
theorem dX1_remove_58 : decode cX1_remove 58 = .ok (.iload_n 2, 1) := by decide +kernel
theorem dX1_remove_59 : decode cX1_remove 59 = .ok (.iconst 1, 1) := by decide +kernel
theorem dX1_remove_60 : decode cX1_remove 60 = .ok (.isub, 1) := by decide +kernel
theorem dX1_remove_61 : decode cX1_remove 61 = .ok (.aload_n 0, 1) := by decide +kernel
theorem dX1_remove_62 : decode cX1_remove 62 = .ok (.getfield 22, 3) := by decide +kernel
theorem dX1_remove_65 : decode cX1_remove 65 = .ok (.iload_n 2, 1) := by decide +kernel
theorem dX1_remove_66 : decode cX1_remove 66 = .ok (.iaload, 1) := by decide +kernel
theorem dX1_remove_67 : decode cX1_remove 67 = .ok (.iastore, 1) := by decide +kernel
theorem dX1_remove_68 : decode cX1_remove 68 = .ok (.iinc 2 1, 3) := by decide +kernel
theorem dX1_remove_71 : decode cX1_remove 71 = .ok (.goto (-67), 3) := by decide +kernel
theorem dX1_remove_74 : decode cX1_remove 74 = .ok (.aload_n 0, 1) := by decide +kernel
theorem dX1_remove_75 : decode cX1_remove 75 = .ok (.dup, 1) := by decide +kernel
theorem dX1_remove_76 : decode cX1_remove 76 = .ok (.getfield 25, 3) := by decide +kernel
theorem dX1_remove_79 : decode cX1_remove 79 = .ok (.iconst 1, 1) := by decide +kernel
theorem dX1_remove_80 : decode cX1_remove 80 = .ok (.isub, 1) := by decide +kernel
theorem dX1_remove_81 : decode cX1_remove 81 = .ok (.putfield 25, 3) := by decide +kernel
theorem dX1_remove_84 : decode cX1_remove 84 = .ok (.return_, 1) := by decide +kernel
def sX1_remove_c4 (k4 : Hp → Nat → Int32 → Option Hp) (h : Hp) (r : Nat) (v2 : Int32) : Option Hp :=
  if (h.1 r 4) ≤ v2 then (nm (u1 h r 4 ((h.1 r 4) - (1 : Int32))) fun h2 => some h2) else (gd (inb v2 10) (gd (inb (v2 - (1 : Int32)) 10) (nm (u1 h (r + 1) (v2 - (1 : Int32)).toNatClampNeg (vp_nar .boolean (h.1 (r + 1) v2.toNatClampNeg))) fun h5 => gd (inb v2 10) (gd (inb (v2 - (1 : Int32)) 10) (nm (u1 h5 (r + 2) (v2 - (1 : Int32)).toNatClampNeg (h5.1 (r + 2) v2.toNatClampNeg)) fun h8 => gd (inb v2 10) (gd (inb (v2 - (1 : Int32)) 10) (nm (u1 h8 (r + 3) (v2 - (1 : Int32)).toNatClampNeg (h8.1 (r + 3) v2.toNatClampNeg)) fun h11 => gd (inb v2 10) (gd (inb (v2 - (1 : Int32)) 10) (nm (u1 h11 (r + 4) (v2 - (1 : Int32)).toNatClampNeg (h11.1 (r + 4) v2.toNatClampNeg)) fun h14 => nm (v2 + (1 : Int32)) fun x15 => k4 h14 r x15)))))))))
set_option maxRecDepth 10000 in
theorem vX1_remove_c4 (k4 : Hp → Nat → Int32 → Option Hp) (hk4 : ∀ (h : Hp) (r : Nat) (v2 : Int32) (hr : ck r = 1) (q : Hp), k4 h r v2 = some q → V (Gs 0 (pV q)) mX1_remove (0, 0) 4 [(0, .ref r), (2, .int v2)] [] h) (h : Hp) (r : Nat) (v2 : Int32) (hr : ck r = 1) (q : Hp) (e : sX1_remove_c4 k4 h r v2 = some q) : V (Gs 0 (pV q)) mX1_remove (0, 0) 4 [(0, .ref r), (2, .int v2)] [] h := by
  unfold sX1_remove_c4 at e
  refine V.ilq dX1_remove_4 (pc' := 5) rfl (j := 1) rfl ?_
  refine V.alq dX1_remove_5 (pc' := 6) rfl (j := 0) rfl ?_
  refine V.getf dX1_remove_6 (pc' := 9) rfl FL_X1_25 hr (by decide) rfl ?_
  refine V.ic_ge dX1_remove_9 (pc' := 12) rfl (tgt := 74) (by decide) (fun c => ?_) (fun c => ?_)
  · rw [if_pos c] at e
    refine V.alq dX1_remove_74 (pc' := 75) rfl (j := 0) rfl ?_
    refine V.dup dX1_remove_75 (pc' := 76) rfl rfl ?_
    refine V.getf dX1_remove_76 (pc' := 79) rfl FL_X1_25 hr (by decide) rfl ?_
    refine V.iconst dX1_remove_79 (pc' := 80) rfl (v := 1) (by decide) ?_
    refine V.isub dX1_remove_80 (pc' := 81) rfl ?_
    obtain ⟨h2, eh2, e⟩ := nm_s e
    refine V.putf dX1_remove_81 (pc' := 84) rfl FP_X1_25 hr (by decide) rfl eh2 ?_
    exact V.vret dX1_remove_84 rfl (fnV e)
  · rw [if_neg c] at e
    refine V.alq dX1_remove_12 (pc' := 13) rfl (j := 0) rfl ?_
    refine V.getr dX1_remove_13 (pc' := 16) rfl FL_X1_9 hr (by decide) rfl (r' := r + 1) rfl ?_
    refine V.ilq dX1_remove_16 (pc' := 17) rfl (j := 1) rfl ?_
    refine V.iconst dX1_remove_17 (pc' := 18) rfl (v := 1) (by decide) ?_
    refine V.isub dX1_remove_18 (pc' := 19) rfl ?_
    refine V.alq dX1_remove_19 (pc' := 20) rfl (j := 0) rfl ?_
    refine V.getr dX1_remove_20 (pc' := 23) rfl FL_X1_9 hr (by decide) rfl (r' := r + 1) rfl ?_
    refine V.ilq dX1_remove_23 (pc' := 24) rfl (j := 1) rfl ?_
    obtain ⟨c3, e⟩ := gd_s e
    refine V.zald dX1_remove_24 (pc' := 25) rfl (akX1_1 hr).1 (akX1_1 hr).2 (inb_t c3) ?_
    obtain ⟨c4, e⟩ := gd_s e
    obtain ⟨h5, eh5, e⟩ := nm_s e
    refine V.zast dX1_remove_25 (pc' := 26) rfl (akX1_1 hr).1 (akX1_1 hr).2 (inb_t c4) eh5 ?_
    refine V.alq dX1_remove_26 (pc' := 27) rfl (j := 0) rfl ?_
    refine V.getr dX1_remove_27 (pc' := 30) rfl FL_X1_15 hr (by decide) rfl (r' := r + 2) rfl ?_
    refine V.ilq dX1_remove_30 (pc' := 31) rfl (j := 1) rfl ?_
    refine V.iconst dX1_remove_31 (pc' := 32) rfl (v := 1) (by decide) ?_
    refine V.isub dX1_remove_32 (pc' := 33) rfl ?_
    refine V.alq dX1_remove_33 (pc' := 34) rfl (j := 0) rfl ?_
    refine V.getr dX1_remove_34 (pc' := 37) rfl FL_X1_15 hr (by decide) rfl (r' := r + 2) rfl ?_
    refine V.ilq dX1_remove_37 (pc' := 38) rfl (j := 1) rfl ?_
    obtain ⟨c6, e⟩ := gd_s e
    refine V.iald dX1_remove_38 (pc' := 39) rfl (akX1_2 hr).1 (akX1_2 hr).2 (inb_t c6) ?_
    obtain ⟨c7, e⟩ := gd_s e
    obtain ⟨h8, eh8, e⟩ := nm_s e
    refine V.iast dX1_remove_39 (pc' := 40) rfl (akX1_2 hr).1 (akX1_2 hr).2 (inb_t c7) eh8 ?_
    refine V.alq dX1_remove_40 (pc' := 41) rfl (j := 0) rfl ?_
    refine V.getr dX1_remove_41 (pc' := 44) rfl FL_X1_19 hr (by decide) rfl (r' := r + 3) rfl ?_
    refine V.ilq dX1_remove_44 (pc' := 45) rfl (j := 1) rfl ?_
    refine V.iconst dX1_remove_45 (pc' := 46) rfl (v := 1) (by decide) ?_
    refine V.isub dX1_remove_46 (pc' := 47) rfl ?_
    refine V.alq dX1_remove_47 (pc' := 48) rfl (j := 0) rfl ?_
    refine V.getr dX1_remove_48 (pc' := 51) rfl FL_X1_19 hr (by decide) rfl (r' := r + 3) rfl ?_
    refine V.ilq dX1_remove_51 (pc' := 52) rfl (j := 1) rfl ?_
    obtain ⟨c9, e⟩ := gd_s e
    refine V.iald dX1_remove_52 (pc' := 53) rfl (akX1_3 hr).1 (akX1_3 hr).2 (inb_t c9) ?_
    obtain ⟨c10, e⟩ := gd_s e
    obtain ⟨h11, eh11, e⟩ := nm_s e
    refine V.iast dX1_remove_53 (pc' := 54) rfl (akX1_3 hr).1 (akX1_3 hr).2 (inb_t c10) eh11 ?_
    refine V.alq dX1_remove_54 (pc' := 55) rfl (j := 0) rfl ?_
    refine V.getr dX1_remove_55 (pc' := 58) rfl FL_X1_22 hr (by decide) rfl (r' := r + 4) rfl ?_
    refine V.ilq dX1_remove_58 (pc' := 59) rfl (j := 1) rfl ?_
    refine V.iconst dX1_remove_59 (pc' := 60) rfl (v := 1) (by decide) ?_
    refine V.isub dX1_remove_60 (pc' := 61) rfl ?_
    refine V.alq dX1_remove_61 (pc' := 62) rfl (j := 0) rfl ?_
    refine V.getr dX1_remove_62 (pc' := 65) rfl FL_X1_22 hr (by decide) rfl (r' := r + 4) rfl ?_
    refine V.ilq dX1_remove_65 (pc' := 66) rfl (j := 1) rfl ?_
    obtain ⟨c12, e⟩ := gd_s e
    refine V.iald dX1_remove_66 (pc' := 67) rfl (akX1_4 hr).1 (akX1_4 hr).2 (inb_t c12) ?_
    obtain ⟨c13, e⟩ := gd_s e
    obtain ⟨h14, eh14, e⟩ := nm_s e
    refine V.iast dX1_remove_67 (pc' := 68) rfl (akX1_4 hr).1 (akX1_4 hr).2 (inb_t c13) eh14 ?_
    obtain ⟨x15, ex15, e⟩ := nm_s e
    refine V.iinc dX1_remove_68 (pc' := 71) rfl (j := 1) rfl (v := 1) (by decide) (by decide) ex15 (L' := [(2, .int x15), (0, .ref r)]) rfl ?_
    refine V.goto dX1_remove_71 (pc' := 4) (by decide) ?_
    refine V.pk [1, 0] rfl ?_
    exact hk4 h14 r x15 hr q e
def sX1_remove_b4 : Nat → Hp → Nat → Int32 → Option Hp
  | 0 => fun _ _ _ => none
  | n + 1 => sX1_remove_c4 (sX1_remove_b4 n)
theorem vX1_remove_b4 : ∀ (n : Nat) (h : Hp) (r : Nat) (v2 : Int32) (hr : ck r = 1) (q : Hp), sX1_remove_b4 n h r v2 = some q → V (Gs 0 (pV q)) mX1_remove (0, 0) 4 [(0, .ref r), (2, .int v2)] [] h
  | 0 => fun _ _ _ _ _ e => by cases e
  | n + 1 => fun h r v2 hr q e => vX1_remove_c4 (sX1_remove_b4 n) (vX1_remove_b4 n) h r v2 hr q e
def sX1_remove (h : Hp) (r : Nat) (a1 : Int32) : Option Hp :=
  gd (isC r 1) (nm ((a1 + (1 : Int32))) fun x1 => sX1_remove_b4 FU h r x1)
set_option maxRecDepth 10000 in
theorem kX1_remove (h : Hp) (r : Nat) (a1 : Int32) (q : Hp) (e : sX1_remove h r a1 = some q) : K 0 mX1_remove [.ref r, .int a1] h (pV q) := by
  unfold sX1_remove at e
  obtain ⟨hr, e⟩ := gd_s e
  have hr := isC_t hr
  refine K.ofV (by decide) rfl (Nat.le_of_ble_eq_true rfl) ?_
  show V (Gs 0 (pV q)) mX1_remove (0, 0) 0 [(0, .ref r), (1, .int a1)] [] h
  refine V.ilq dX1_remove_0 (pc' := 1) rfl (j := 1) rfl ?_
  refine V.iconst dX1_remove_1 (pc' := 2) rfl (v := 1) (by decide) ?_
  refine V.iadd dX1_remove_2 (pc' := 3) rfl ?_
  obtain ⟨x1, ex1, e⟩ := nm_s e
  refine V.isq dX1_remove_3 (pc' := 4) rfl (by decide) ex1 (L' := [(2, .int x1), (0, .ref r), (1, .int a1)]) rfl ?_
  refine V.pk [1, 0] rfl ?_
  exact vX1_remove_b4 FU h r x1 hr q e

-- X1_value (level 0)
theorem dX1_value_0 : decode cX1_value 0 = .ok (.iload_n 2, 1) := by decide +kernel
theorem dX1_value_1 : decode cX1_value 1 = .ok (.iconst 2, 1) := by decide +kernel
theorem dX1_value_2 : decode cX1_value 2 = .ok (.if_icmp .ne 10, 3) := by decide +kernel
theorem dX1_value_5 : decode cX1_value 5 = .ok (.aload_n 0, 1) := by decide +kernel
theorem dX1_value_6 : decode cX1_value 6 = .ok (.getfield 22, 3) := by decide +kernel
theorem dX1_value_9 : decode cX1_value 9 = .ok (.iload_n 1, 1) := by decide +kernel
theorem dX1_value_10 : decode cX1_value 10 = .ok (.iaload, 1) := by decide +kernel
theorem dX1_value_11 : decode cX1_value 11 = .ok (.ireturn, 1) := by decide +kernel
theorem dX1_value_12 : decode cX1_value 12 = .ok (.iload_n 2, 1) := by decide +kernel
theorem dX1_value_13 : decode cX1_value 13 = .ok (.ifCond .ne 12, 3) := by decide +kernel
theorem dX1_value_16 : decode cX1_value 16 = .ok (.aload_n 0, 1) := by decide +kernel
theorem dX1_value_17 : decode cX1_value 17 = .ok (.getfield 15, 3) := by decide +kernel
theorem dX1_value_20 : decode cX1_value 20 = .ok (.iload_n 1, 1) := by decide +kernel
theorem dX1_value_21 : decode cX1_value 21 = .ok (.iaload, 1) := by decide +kernel
theorem dX1_value_22 : decode cX1_value 22 = .ok (.goto 9, 3) := by decide +kernel
theorem dX1_value_25 : decode cX1_value 25 = .ok (.aload_n 0, 1) := by decide +kernel
theorem dX1_value_26 : decode cX1_value 26 = .ok (.getfield 19, 3) := by decide +kernel
theorem dX1_value_29 : decode cX1_value 29 = .ok (.iload_n 1, 1) := by decide +kernel
theorem dX1_value_30 : decode cX1_value 30 = .ok (.iaload, 1) := by decide +kernel
theorem dX1_value_31 : decode cX1_value 31 = .ok (.ireturn, 1) := by decide +kernel
def sX1_value_c31 (h : Hp) (t0 : Int32) : Option (Int32 × Hp) :=
  some (t0, h)
set_option maxRecDepth 10000 in
theorem vX1_value_c31 (h : Hp) (t0 : Int32) (q : (Int32 × Hp)) (e : sX1_value_c31 h t0 = some q) : V (Gs 0 (pI q)) mX1_value (0, 0) 31 [] [.int t0] h := by
  unfold sX1_value_c31 at e
  exact V.iret dX1_value_31 rfl (fnI e)
def sX1_value (h : Hp) (r : Nat) (a1 : Int32) (a2 : Int32) : Option (Int32 × Hp) :=
  gd (isC r 1) (if a2 = (2 : Int32) then (gd (inb a1 10) (some ((h.1 (r + 4) a1.toNatClampNeg), h))) else (if a2 = 0 then (gd (inb a1 10) (sX1_value_c31 h (h.1 (r + 2) a1.toNatClampNeg))) else (gd (inb a1 10) (sX1_value_c31 h (h.1 (r + 3) a1.toNatClampNeg)))))
set_option maxRecDepth 10000 in
theorem kX1_value (h : Hp) (r : Nat) (a1 : Int32) (a2 : Int32) (q : (Int32 × Hp)) (e : sX1_value h r a1 a2 = some q) : K 0 mX1_value [.ref r, .int a1, .int a2] h (pI q) := by
  unfold sX1_value at e
  obtain ⟨hr, e⟩ := gd_s e
  have hr := isC_t hr
  refine K.ofV (by decide) rfl (Nat.le_of_ble_eq_true rfl) ?_
  show V (Gs 0 (pI q)) mX1_value (0, 0) 0 [(0, .ref r), (1, .int a1), (2, .int a2)] [] h
  refine V.ilq dX1_value_0 (pc' := 1) rfl (j := 2) rfl ?_
  refine V.iconst dX1_value_1 (pc' := 2) rfl (v := 2) (by decide) ?_
  refine V.ic_ne dX1_value_2 (pc' := 5) rfl (tgt := 12) (by decide) (fun c => ?_) (fun c => ?_)
  · rw [if_neg c] at e
    refine V.ilq dX1_value_12 (pc' := 13) rfl (j := 2) rfl ?_
    refine V.if_ne dX1_value_13 (pc' := 16) rfl (tgt := 25) (by decide) (fun c => ?_) (fun c => ?_)
    · rw [if_neg c] at e
      refine V.alq dX1_value_25 (pc' := 26) rfl (j := 0) rfl ?_
      refine V.getr dX1_value_26 (pc' := 29) rfl FL_X1_19 hr (by decide) rfl (r' := r + 3) rfl ?_
      refine V.ilq dX1_value_29 (pc' := 30) rfl (j := 1) rfl ?_
      obtain ⟨c1, e⟩ := gd_s e
      refine V.iald dX1_value_30 (pc' := 31) rfl (akX1_3 hr).1 (akX1_3 hr).2 (inb_t c1) ?_
      refine V.pk [] rfl ?_
      exact vX1_value_c31 h (h.1 (r + 3) a1.toNatClampNeg) q e
    · rw [if_pos c] at e
      refine V.alq dX1_value_16 (pc' := 17) rfl (j := 0) rfl ?_
      refine V.getr dX1_value_17 (pc' := 20) rfl FL_X1_15 hr (by decide) rfl (r' := r + 2) rfl ?_
      refine V.ilq dX1_value_20 (pc' := 21) rfl (j := 1) rfl ?_
      obtain ⟨c2, e⟩ := gd_s e
      refine V.iald dX1_value_21 (pc' := 22) rfl (akX1_2 hr).1 (akX1_2 hr).2 (inb_t c2) ?_
      refine V.goto dX1_value_22 (pc' := 31) (by decide) ?_
      refine V.pk [] rfl ?_
      exact vX1_value_c31 h (h.1 (r + 2) a1.toNatClampNeg) q e
  · rw [if_pos c] at e
    refine V.alq dX1_value_5 (pc' := 6) rfl (j := 0) rfl ?_
    refine V.getr dX1_value_6 (pc' := 9) rfl FL_X1_22 hr (by decide) rfl (r' := r + 4) rfl ?_
    refine V.ilq dX1_value_9 (pc' := 10) rfl (j := 1) rfl ?_
    obtain ⟨c3, e⟩ := gd_s e
    refine V.iald dX1_value_10 (pc' := 11) rfl (akX1_4 hr).1 (akX1_4 hr).2 (inb_t c3) ?_
    exact V.iret dX1_value_11 rfl (fnI e)

-- X1_put (level 0)
theorem dX1_put_0 : decode cX1_put 0 = .ok (.iload_n 2, 1) := by decide +kernel
theorem dX1_put_1 : decode cX1_put 1 = .ok (.iconst 2, 1) := by decide +kernel
theorem dX1_put_2 : decode cX1_put 2 = .ok (.if_icmp .ne 13, 3) := by decide +kernel
theorem dX1_put_5 : decode cX1_put 5 = .ok (.aload_n 0, 1) := by decide +kernel
theorem dX1_put_6 : decode cX1_put 6 = .ok (.getfield 22, 3) := by decide +kernel
theorem dX1_put_9 : decode cX1_put 9 = .ok (.iload_n 1, 1) := by decide +kernel
theorem dX1_put_10 : decode cX1_put 10 = .ok (.iload_n 3, 1) := by decide +kernel
theorem dX1_put_11 : decode cX1_put 11 = .ok (.iastore, 1) := by decide +kernel
theorem dX1_put_12 : decode cX1_put 12 = .ok (.goto 24, 3) := by decide +kernel
theorem dX1_put_15 : decode cX1_put 15 = .ok (.iload_n 2, 1) := by decide +kernel
theorem dX1_put_16 : decode cX1_put 16 = .ok (.ifCond .ne 13, 3) := by decide +kernel
theorem dX1_put_19 : decode cX1_put 19 = .ok (.aload_n 0, 1) := by decide +kernel
theorem dX1_put_20 : decode cX1_put 20 = .ok (.getfield 15, 3) := by decide +kernel
theorem dX1_put_23 : decode cX1_put 23 = .ok (.iload_n 1, 1) := by decide +kernel
theorem dX1_put_24 : decode cX1_put 24 = .ok (.iload_n 3, 1) := by decide +kernel
theorem dX1_put_25 : decode cX1_put 25 = .ok (.iastore, 1) := by decide +kernel
theorem dX1_put_26 : decode cX1_put 26 = .ok (.goto 10, 3) := by decide +kernel
theorem dX1_put_29 : decode cX1_put 29 = .ok (.aload_n 0, 1) := by decide +kernel
theorem dX1_put_30 : decode cX1_put 30 = .ok (.getfield 19, 3) := by decide +kernel
theorem dX1_put_33 : decode cX1_put 33 = .ok (.iload_n 1, 1) := by decide +kernel
theorem dX1_put_34 : decode cX1_put 34 = .ok (.iload_n 3, 1) := by decide +kernel
theorem dX1_put_35 : decode cX1_put 35 = .ok (.iastore, 1) := by decide +kernel
theorem dX1_put_36 : decode cX1_put 36 = .ok (.return_, 1) := by decide +kernel
def sX1_put_c36 (h : Hp) : Option Hp :=
  some h
set_option maxRecDepth 10000 in
theorem vX1_put_c36 (h : Hp) (q : Hp) (e : sX1_put_c36 h = some q) : V (Gs 0 (pV q)) mX1_put (0, 0) 36 [] [] h := by
  unfold sX1_put_c36 at e
  exact V.vret dX1_put_36 rfl (fnV e)
def sX1_put (h : Hp) (r : Nat) (a1 : Int32) (a2 : Int32) (a3 : Int32) : Option Hp :=
  gd (isC r 1) (if a2 = (2 : Int32) then (gd (inb a1 10) (nm (u1 h (r + 4) a1.toNatClampNeg a3) fun h6 => sX1_put_c36 h6)) else (if a2 = 0 then (gd (inb a1 10) (nm (u1 h (r + 2) a1.toNatClampNeg a3) fun h4 => sX1_put_c36 h4)) else (gd (inb a1 10) (nm (u1 h (r + 3) a1.toNatClampNeg a3) fun h2 => sX1_put_c36 h2))))
set_option maxRecDepth 10000 in
theorem kX1_put (h : Hp) (r : Nat) (a1 : Int32) (a2 : Int32) (a3 : Int32) (q : Hp) (e : sX1_put h r a1 a2 a3 = some q) : K 0 mX1_put [.ref r, .int a1, .int a2, .int a3] h (pV q) := by
  unfold sX1_put at e
  obtain ⟨hr, e⟩ := gd_s e
  have hr := isC_t hr
  refine K.ofV (by decide) rfl (Nat.le_of_ble_eq_true rfl) ?_
  show V (Gs 0 (pV q)) mX1_put (0, 0) 0 [(0, .ref r), (1, .int a1), (2, .int a2), (3, .int a3)] [] h
  refine V.ilq dX1_put_0 (pc' := 1) rfl (j := 2) rfl ?_
  refine V.iconst dX1_put_1 (pc' := 2) rfl (v := 2) (by decide) ?_
  refine V.ic_ne dX1_put_2 (pc' := 5) rfl (tgt := 15) (by decide) (fun c => ?_) (fun c => ?_)
  · rw [if_neg c] at e
    refine V.ilq dX1_put_15 (pc' := 16) rfl (j := 2) rfl ?_
    refine V.if_ne dX1_put_16 (pc' := 19) rfl (tgt := 29) (by decide) (fun c => ?_) (fun c => ?_)
    · rw [if_neg c] at e
      refine V.alq dX1_put_29 (pc' := 30) rfl (j := 0) rfl ?_
      refine V.getr dX1_put_30 (pc' := 33) rfl FL_X1_19 hr (by decide) rfl (r' := r + 3) rfl ?_
      refine V.ilq dX1_put_33 (pc' := 34) rfl (j := 1) rfl ?_
      refine V.ilq dX1_put_34 (pc' := 35) rfl (j := 3) rfl ?_
      obtain ⟨c1, e⟩ := gd_s e
      obtain ⟨h2, eh2, e⟩ := nm_s e
      refine V.iast dX1_put_35 (pc' := 36) rfl (akX1_3 hr).1 (akX1_3 hr).2 (inb_t c1) eh2 ?_
      refine V.pk [] rfl ?_
      exact vX1_put_c36 h2 q e
    · rw [if_pos c] at e
      refine V.alq dX1_put_19 (pc' := 20) rfl (j := 0) rfl ?_
      refine V.getr dX1_put_20 (pc' := 23) rfl FL_X1_15 hr (by decide) rfl (r' := r + 2) rfl ?_
      refine V.ilq dX1_put_23 (pc' := 24) rfl (j := 1) rfl ?_
      refine V.ilq dX1_put_24 (pc' := 25) rfl (j := 3) rfl ?_
      obtain ⟨c3, e⟩ := gd_s e
      obtain ⟨h4, eh4, e⟩ := nm_s e
      refine V.iast dX1_put_25 (pc' := 26) rfl (akX1_2 hr).1 (akX1_2 hr).2 (inb_t c3) eh4 ?_
      refine V.goto dX1_put_26 (pc' := 36) (by decide) ?_
      refine V.pk [] rfl ?_
      exact vX1_put_c36 h4 q e
  · rw [if_pos c] at e
    refine V.alq dX1_put_5 (pc' := 6) rfl (j := 0) rfl ?_
    refine V.getr dX1_put_6 (pc' := 9) rfl FL_X1_22 hr (by decide) rfl (r' := r + 4) rfl ?_
    refine V.ilq dX1_put_9 (pc' := 10) rfl (j := 1) rfl ?_
    refine V.ilq dX1_put_10 (pc' := 11) rfl (j := 3) rfl ?_
    obtain ⟨c5, e⟩ := gd_s e
    obtain ⟨h6, eh6, e⟩ := nm_s e
    refine V.iast dX1_put_11 (pc' := 12) rfl (akX1_4 hr).1 (akX1_4 hr).2 (inb_t c5) eh6 ?_
    refine V.goto dX1_put_12 (pc' := 36) (by decide) ?_
    refine V.pk [] rfl ?_
    exact vX1_put_c36 h6 q e

-- X1_turns (level 0)
theorem dX1_turns_0 : decode cX1_turns 0 = .ok (.iload_n 2, 1) := by decide +kernel
theorem dX1_turns_1 : decode cX1_turns 1 = .ok (.ifCond .ne 7, 3) := by decide +kernel
theorem dX1_turns_4 : decode cX1_turns 4 = .ok (.iload_n 3, 1) := by decide +kernel
theorem dX1_turns_5 : decode cX1_turns 5 = .ok (.goto 9, 3) := by decide +kernel
theorem dX1_turns_8 : decode cX1_turns 8 = .ok (.aload_n 0, 1) := by decide +kernel
theorem dX1_turns_9 : decode cX1_turns 9 = .ok (.getfield 15, 3) := by decide +kernel
theorem dX1_turns_12 : decode cX1_turns 12 = .ok (.iload_n 1, 1) := by decide +kernel
theorem dX1_turns_13 : decode cX1_turns 13 = .ok (.iaload, 1) := by decide +kernel
theorem dX1_turns_14 : decode cX1_turns 14 = .ok (.istore 4, 2) := by decide +kernel
theorem dX1_turns_16 : decode cX1_turns 16 = .ok (.iload_n 2, 1) := by decide +kernel
theorem dX1_turns_17 : decode cX1_turns 17 = .ok (.iconst 1, 1) := by decide +kernel
theorem dX1_turns_18 : decode cX1_turns 18 = .ok (.if_icmp .ne 7, 3) := by decide +kernel
theorem dX1_turns_21 : decode cX1_turns 21 = .ok (.iload_n 3, 1) := by decide +kernel
theorem dX1_turns_22 : decode cX1_turns 22 = .ok (.goto 9, 3) := by decide +kernel
theorem dX1_turns_25 : decode cX1_turns 25 = .ok (.aload_n 0, 1) := by decide +kernel
theorem dX1_turns_26 : decode cX1_turns 26 = .ok (.getfield 19, 3) := by decide +kernel
theorem dX1_turns_29 : decode cX1_turns 29 = .ok (.iload_n 1, 1) := by decide +kernel
theorem dX1_turns_30 : decode cX1_turns 30 = .ok (.iaload, 1) := by decide +kernel
theorem dX1_turns_31 : decode cX1_turns 31 = .ok (.istore 5, 2) := by decide +kernel
theorem dX1_turns_33 : decode cX1_turns 33 = .ok (.aload_n 0, 1) := by decide +kernel
theorem dX1_turns_34 : decode cX1_turns 34 = .ok (.getfield 9, 3) := by decide +kernel
theorem dX1_turns_37 : decode cX1_turns 37 = .ok (.iload_n 1, 1) := by decide +kernel
theorem dX1_turns_38 : decode cX1_turns 38 = .ok (.baload, 1) := by decide +kernel
theorem dX1_turns_39 : decode cX1_turns 39 = .ok (.ifCond .eq 18, 3) := by decide +kernel
theorem dX1_turns_42 : decode cX1_turns 42 = .ok (.iload 4, 2) := by decide +kernel
theorem dX1_turns_44 : decode cX1_turns 44 = .ok (.iload 5, 2) := by decide +kernel
theorem dX1_turns_46 : decode cX1_turns 46 = .ok (.if_icmp .gt 7, 3) := by decide +kernel
theorem dX1_turns_49 : decode cX1_turns 49 = .ok (.iconst 1, 1) := by decide +kernel
theorem dX1_turns_50 : decode cX1_turns 50 = .ok (.goto 19, 3) := by decide +kernel
theorem dX1_turns_53 : decode cX1_turns 53 = .ok (.iconst 0, 1) := by decide +kernel
theorem dX1_turns_54 : decode cX1_turns 54 = .ok (.goto 15, 3) := by decide +kernel
theorem dX1_turns_57 : decode cX1_turns 57 = .ok (.iload 4, 2) := by decide +kernel
theorem dX1_turns_59 : decode cX1_turns 59 = .ok (.iload 5, 2) := by decide +kernel
theorem dX1_turns_61 : decode cX1_turns 61 = .ok (.if_icmp .lt 7, 3) := by decide +kernel
theorem dX1_turns_64 : decode cX1_turns 64 = .ok (.iconst 1, 1) := by decide +kernel
theorem dX1_turns_65 : decode cX1_turns 65 = .ok (.goto 4, 3) := by decide +kernel
theorem dX1_turns_68 : decode cX1_turns 68 = .ok (.iconst 0, 1) := by decide +kernel
theorem dX1_turns_69 : decode cX1_turns 69 = .ok (.ireturn, 1) := by decide +kernel
def sX1_turns_c69 (h : Hp) (t0 : Int32) : Option (Int32 × Hp) :=
  gd (zb t0) (some (t0, h))
set_option maxRecDepth 10000 in
theorem vX1_turns_c69 (h : Hp) (t0 : Int32) (q : (Int32 × Hp)) (e : sX1_turns_c69 h t0 = some q) : V (Gs 0 (pI q)) mX1_turns (0, 0) 69 [] [.int t0] h := by
  unfold sX1_turns_c69 at e
  obtain ⟨c4, e⟩ := gd_s e
  exact V.zret dX1_turns_69 rfl (zb_t c4) (fnI e)
def sX1_turns_c31 (h : Hp) (r : Nat) (v1 : Int32) (v4 : Int32) (t0 : Int32) : Option (Int32 × Hp) :=
  gd (inb v1 10) (if (h.1 (r + 1) v1.toNatClampNeg) = 0 then (if v4 < t0 then (sX1_turns_c69 h (0 : Int32)) else (sX1_turns_c69 h (1 : Int32))) else (if t0 < v4 then (sX1_turns_c69 h (0 : Int32)) else (sX1_turns_c69 h (1 : Int32))))
set_option maxRecDepth 10000 in
theorem vX1_turns_c31 (h : Hp) (r : Nat) (v1 : Int32) (v4 : Int32) (t0 : Int32) (hr : ck r = 1) (q : (Int32 × Hp)) (e : sX1_turns_c31 h r v1 v4 t0 = some q) : V (Gs 0 (pI q)) mX1_turns (0, 0) 31 [(0, .ref r), (1, .int v1), (4, .int v4)] [.int t0] h := by
  unfold sX1_turns_c31 at e
  refine V.is dX1_turns_31 (pc' := 33) rfl (by decide) rfl (L' := [(5, .int t0), (0, .ref r), (1, .int v1), (4, .int v4)]) rfl ?_
  refine V.alq dX1_turns_33 (pc' := 34) rfl (j := 1) rfl ?_
  refine V.getr dX1_turns_34 (pc' := 37) rfl FL_X1_9 hr (by decide) rfl (r' := r + 1) rfl ?_
  refine V.ilq dX1_turns_37 (pc' := 38) rfl (j := 2) rfl ?_
  obtain ⟨c3, e⟩ := gd_s e
  refine V.zald dX1_turns_38 (pc' := 39) rfl (akX1_1 hr).1 (akX1_1 hr).2 (inb_t c3) ?_
  refine V.if_eq dX1_turns_39 (pc' := 42) rfl (tgt := 57) (by decide) (fun c => ?_) (fun c => ?_)
  · rw [if_pos c] at e
    refine V.il dX1_turns_57 (pc' := 59) rfl (j := 3) rfl ?_
    refine V.il dX1_turns_59 (pc' := 61) rfl (j := 0) rfl ?_
    refine V.ic_lt dX1_turns_61 (pc' := 64) rfl (tgt := 68) (by decide) (fun c => ?_) (fun c => ?_)
    · rw [if_pos c] at e
      refine V.iconst dX1_turns_68 (pc' := 69) rfl (v := 0) (by decide) ?_
      refine V.pk [] rfl ?_
      exact vX1_turns_c69 h (0 : Int32) q e
    · rw [if_neg c] at e
      refine V.iconst dX1_turns_64 (pc' := 65) rfl (v := 1) (by decide) ?_
      refine V.goto dX1_turns_65 (pc' := 69) (by decide) ?_
      refine V.pk [] rfl ?_
      exact vX1_turns_c69 h (1 : Int32) q e
  · rw [if_neg c] at e
    refine V.il dX1_turns_42 (pc' := 44) rfl (j := 3) rfl ?_
    refine V.il dX1_turns_44 (pc' := 46) rfl (j := 0) rfl ?_
    refine V.ic_gt dX1_turns_46 (pc' := 49) rfl (tgt := 53) (by decide) (fun c => ?_) (fun c => ?_)
    · rw [if_pos c] at e
      refine V.iconst dX1_turns_53 (pc' := 54) rfl (v := 0) (by decide) ?_
      refine V.goto dX1_turns_54 (pc' := 69) (by decide) ?_
      refine V.pk [] rfl ?_
      exact vX1_turns_c69 h (0 : Int32) q e
    · rw [if_neg c] at e
      refine V.iconst dX1_turns_49 (pc' := 50) rfl (v := 1) (by decide) ?_
      refine V.goto dX1_turns_50 (pc' := 69) (by decide) ?_
      refine V.pk [] rfl ?_
      exact vX1_turns_c69 h (1 : Int32) q e
def sX1_turns_c14 (h : Hp) (r : Nat) (v1 : Int32) (v2 : Int32) (v3 : Int32) (t0 : Int32) : Option (Int32 × Hp) :=
  if v2 = (1 : Int32) then (sX1_turns_c31 h r v1 t0 v3) else (gd (inb v1 10) (sX1_turns_c31 h r v1 t0 (h.1 (r + 3) v1.toNatClampNeg)))
set_option maxRecDepth 10000 in
theorem vX1_turns_c14 (h : Hp) (r : Nat) (v1 : Int32) (v2 : Int32) (v3 : Int32) (t0 : Int32) (hr : ck r = 1) (q : (Int32 × Hp)) (e : sX1_turns_c14 h r v1 v2 v3 t0 = some q) : V (Gs 0 (pI q)) mX1_turns (0, 0) 14 [(0, .ref r), (1, .int v1), (2, .int v2), (3, .int v3)] [.int t0] h := by
  unfold sX1_turns_c14 at e
  refine V.is dX1_turns_14 (pc' := 16) rfl (by decide) rfl (L' := [(4, .int t0), (0, .ref r), (1, .int v1), (2, .int v2), (3, .int v3)]) rfl ?_
  refine V.ilq dX1_turns_16 (pc' := 17) rfl (j := 3) rfl ?_
  refine V.iconst dX1_turns_17 (pc' := 18) rfl (v := 1) (by decide) ?_
  refine V.ic_ne dX1_turns_18 (pc' := 21) rfl (tgt := 25) (by decide) (fun c => ?_) (fun c => ?_)
  · rw [if_neg c] at e
    refine V.alq dX1_turns_25 (pc' := 26) rfl (j := 1) rfl ?_
    refine V.getr dX1_turns_26 (pc' := 29) rfl FL_X1_19 hr (by decide) rfl (r' := r + 3) rfl ?_
    refine V.ilq dX1_turns_29 (pc' := 30) rfl (j := 2) rfl ?_
    obtain ⟨c2, e⟩ := gd_s e
    refine V.iald dX1_turns_30 (pc' := 31) rfl (akX1_3 hr).1 (akX1_3 hr).2 (inb_t c2) ?_
    refine V.pk [1, 2, 0] rfl ?_
    exact vX1_turns_c31 h r v1 t0 (h.1 (r + 3) v1.toNatClampNeg) hr q e
  · rw [if_pos c] at e
    refine V.ilq dX1_turns_21 (pc' := 22) rfl (j := 4) rfl ?_
    refine V.goto dX1_turns_22 (pc' := 31) (by decide) ?_
    refine V.pk [1, 2, 0] rfl ?_
    exact vX1_turns_c31 h r v1 t0 v3 hr q e
def sX1_turns (h : Hp) (r : Nat) (a1 : Int32) (a2 : Int32) (a3 : Int32) : Option (Int32 × Hp) :=
  gd (isC r 1) (if a2 = 0 then (sX1_turns_c14 h r a1 a2 a3 a3) else (gd (inb a1 10) (sX1_turns_c14 h r a1 a2 a3 (h.1 (r + 2) a1.toNatClampNeg))))
set_option maxRecDepth 10000 in
theorem kX1_turns (h : Hp) (r : Nat) (a1 : Int32) (a2 : Int32) (a3 : Int32) (q : (Int32 × Hp)) (e : sX1_turns h r a1 a2 a3 = some q) : K 0 mX1_turns [.ref r, .int a1, .int a2, .int a3] h (pI q) := by
  unfold sX1_turns at e
  obtain ⟨hr, e⟩ := gd_s e
  have hr := isC_t hr
  refine K.ofV (by decide) rfl (Nat.le_of_ble_eq_true rfl) ?_
  show V (Gs 0 (pI q)) mX1_turns (0, 0) 0 [(0, .ref r), (1, .int a1), (2, .int a2), (3, .int a3)] [] h
  refine V.ilq dX1_turns_0 (pc' := 1) rfl (j := 2) rfl ?_
  refine V.if_ne dX1_turns_1 (pc' := 4) rfl (tgt := 8) (by decide) (fun c => ?_) (fun c => ?_)
  · rw [if_neg c] at e
    refine V.alq dX1_turns_8 (pc' := 9) rfl (j := 0) rfl ?_
    refine V.getr dX1_turns_9 (pc' := 12) rfl FL_X1_15 hr (by decide) rfl (r' := r + 2) rfl ?_
    refine V.ilq dX1_turns_12 (pc' := 13) rfl (j := 1) rfl ?_
    obtain ⟨c1, e⟩ := gd_s e
    refine V.iald dX1_turns_13 (pc' := 14) rfl (akX1_2 hr).1 (akX1_2 hr).2 (inb_t c1) ?_
    exact vX1_turns_c14 h r a1 a2 a3 (h.1 (r + 2) a1.toNatClampNeg) hr q e
  · rw [if_pos c] at e
    refine V.ilq dX1_turns_4 (pc' := 5) rfl (j := 3) rfl ?_
    refine V.goto dX1_turns_5 (pc' := 14) (by decide) ?_
    exact vX1_turns_c14 h r a1 a2 a3 a3 hr q e

-- X1_hotBits (level 0)
theorem dX1_hotBits_0 : decode cX1_hotBits 0 = .ok (.iconst 0, 1) := by decide +kernel
theorem dX1_hotBits_1 : decode cX1_hotBits 1 = .ok (.istore_n 1, 1) := by decide +kernel
theorem dX1_hotBits_2 : decode cX1_hotBits 2 = .ok (.iconst 0, 1) := by decide +kernel
theorem dX1_hotBits_3 : decode cX1_hotBits 3 = .ok (.istore_n 2, 1) := by decide +kernel
theorem dX1_hotBits_4 : decode cX1_hotBits 4 = .ok (.iload_n 2, 1) := by decide +kernel
theorem dX1_hotBits_5 : decode cX1_hotBits 5 = .ok (.aload_n 0, 1) := by decide +kernel
theorem dX1_hotBits_6 : decode cX1_hotBits 6 = .ok (.getfield 25, 3) := by decide +kernel
theorem dX1_hotBits_9 : decode cX1_hotBits 9 = .ok (.if_icmp .ge 24, 3) := by decide +kernel
theorem dX1_hotBits_12 : decode cX1_hotBits 12 = .ok (.aload_n 0, 1) := by decide +kernel
theorem dX1_hotBits_13 : decode cX1_hotBits 13 = .ok (.getfield 9, 3) := by decide +kernel
theorem dX1_hotBits_16 : decode cX1_hotBits 16 = .ok (.iload_n 2, 1) := by decide +kernel
theorem dX1_hotBits_17 : decode cX1_hotBits 17 = .ok (.baload, 1) := by decide +kernel
theorem dX1_hotBits_18 : decode cX1_hotBits 18 = .ok (.ifCond .eq 9, 3) := by decide +kernel
theorem dX1_hotBits_21 : decode cX1_hotBits 21 = .ok (.iload_n 1, 1) := by decide +kernel
theorem dX1_hotBits_22 : decode cX1_hotBits 22 = .ok (.iconst 1, 1) := by decide +kernel
theorem dX1_hotBits_23 : decode cX1_hotBits 23 = .ok (.iload_n 2, 1) := by decide +kernel
theorem dX1_hotBits_24 : decode cX1_hotBits 24 = .ok (.ishl, 1) := by decide +kernel
theorem dX1_hotBits_25 : decode cX1_hotBits 25 = .ok (.ior, 1) := by decide +kernel
theorem dX1_hotBits_26 : decode cX1_hotBits 26 = .ok (.istore_n 1, 1) := by decide +kernel
theorem dX1_hotBits_27 : decode cX1_hotBits 27 = .ok (.iinc 2 1, 3) := by decide +kernel
theorem dX1_hotBits_30 : decode cX1_hotBits 30 = .ok (.goto (-26), 3) := by decide +kernel
theorem dX1_hotBits_33 : decode cX1_hotBits 33 = .ok (.iload_n 1, 1) := by decide +kernel
theorem dX1_hotBits_34 : decode cX1_hotBits 34 = .ok (.ireturn, 1) := by decide +kernel
def sX1_hotBits_c27 (k4 : Hp → Nat → Int32 → Int32 → Option (Int32 × Hp)) (h : Hp) (r : Nat) (v1 : Int32) (v2 : Int32) : Option (Int32 × Hp) :=
  nm (v2 + (1 : Int32)) fun x3 => k4 h r v1 x3
set_option maxRecDepth 10000 in
theorem vX1_hotBits_c27 (k4 : Hp → Nat → Int32 → Int32 → Option (Int32 × Hp)) (hk4 : ∀ (h : Hp) (r : Nat) (v1 : Int32) (v2 : Int32) (hr : ck r = 1) (q : (Int32 × Hp)), k4 h r v1 v2 = some q → V (Gs 0 (pI q)) mX1_hotBits (0, 0) 4 [(0, .ref r), (1, .int v1), (2, .int v2)] [] h) (h : Hp) (r : Nat) (v1 : Int32) (v2 : Int32) (hr : ck r = 1) (q : (Int32 × Hp)) (e : sX1_hotBits_c27 k4 h r v1 v2 = some q) : V (Gs 0 (pI q)) mX1_hotBits (0, 0) 27 [(0, .ref r), (1, .int v1), (2, .int v2)] [] h := by
  unfold sX1_hotBits_c27 at e
  obtain ⟨x3, ex3, e⟩ := nm_s e
  refine V.iinc dX1_hotBits_27 (pc' := 30) rfl (j := 2) rfl (v := 1) (by decide) (by decide) ex3 (L' := [(2, .int x3), (0, .ref r), (1, .int v1)]) rfl ?_
  refine V.goto dX1_hotBits_30 (pc' := 4) (by decide) ?_
  refine V.pk [1, 2, 0] rfl ?_
  exact hk4 h r v1 x3 hr q e
def sX1_hotBits_c4 (k4 : Hp → Nat → Int32 → Int32 → Option (Int32 × Hp)) (h : Hp) (r : Nat) (v1 : Int32) (v2 : Int32) : Option (Int32 × Hp) :=
  if (h.1 r 4) ≤ v2 then (some (v1, h)) else (gd (inb v2 10) (if (h.1 (r + 1) v2.toNatClampNeg) = 0 then (sX1_hotBits_c27 k4 h r v1 v2) else (nm ((v1 ||| ((1 : Int32) <<< (v2 &&& 31)))) fun x2 => sX1_hotBits_c27 k4 h r x2 v2)))
set_option maxRecDepth 10000 in
theorem vX1_hotBits_c4 (k4 : Hp → Nat → Int32 → Int32 → Option (Int32 × Hp)) (hk4 : ∀ (h : Hp) (r : Nat) (v1 : Int32) (v2 : Int32) (hr : ck r = 1) (q : (Int32 × Hp)), k4 h r v1 v2 = some q → V (Gs 0 (pI q)) mX1_hotBits (0, 0) 4 [(0, .ref r), (1, .int v1), (2, .int v2)] [] h) (h : Hp) (r : Nat) (v1 : Int32) (v2 : Int32) (hr : ck r = 1) (q : (Int32 × Hp)) (e : sX1_hotBits_c4 k4 h r v1 v2 = some q) : V (Gs 0 (pI q)) mX1_hotBits (0, 0) 4 [(0, .ref r), (1, .int v1), (2, .int v2)] [] h := by
  unfold sX1_hotBits_c4 at e
  refine V.ilq dX1_hotBits_4 (pc' := 5) rfl (j := 2) rfl ?_
  refine V.alq dX1_hotBits_5 (pc' := 6) rfl (j := 0) rfl ?_
  refine V.getf dX1_hotBits_6 (pc' := 9) rfl FL_X1_25 hr (by decide) rfl ?_
  refine V.ic_ge dX1_hotBits_9 (pc' := 12) rfl (tgt := 33) (by decide) (fun c => ?_) (fun c => ?_)
  · rw [if_pos c] at e
    refine V.ilq dX1_hotBits_33 (pc' := 34) rfl (j := 1) rfl ?_
    exact V.iret dX1_hotBits_34 rfl (fnI e)
  · rw [if_neg c] at e
    refine V.alq dX1_hotBits_12 (pc' := 13) rfl (j := 0) rfl ?_
    refine V.getr dX1_hotBits_13 (pc' := 16) rfl FL_X1_9 hr (by decide) rfl (r' := r + 1) rfl ?_
    refine V.ilq dX1_hotBits_16 (pc' := 17) rfl (j := 2) rfl ?_
    obtain ⟨c1, e⟩ := gd_s e
    refine V.zald dX1_hotBits_17 (pc' := 18) rfl (akX1_1 hr).1 (akX1_1 hr).2 (inb_t c1) ?_
    refine V.if_eq dX1_hotBits_18 (pc' := 21) rfl (tgt := 27) (by decide) (fun c => ?_) (fun c => ?_)
    · rw [if_pos c] at e
      exact vX1_hotBits_c27 k4 hk4 h r v1 v2 hr q e
    · rw [if_neg c] at e
      refine V.ilq dX1_hotBits_21 (pc' := 22) rfl (j := 1) rfl ?_
      refine V.iconst dX1_hotBits_22 (pc' := 23) rfl (v := 1) (by decide) ?_
      refine V.ilq dX1_hotBits_23 (pc' := 24) rfl (j := 2) rfl ?_
      refine V.ishl dX1_hotBits_24 (pc' := 25) rfl ?_
      refine V.ior dX1_hotBits_25 (pc' := 26) rfl ?_
      obtain ⟨x2, ex2, e⟩ := nm_s e
      refine V.isq dX1_hotBits_26 (pc' := 27) rfl (by decide) ex2 (L' := [(1, .int x2), (0, .ref r), (2, .int v2)]) rfl ?_
      refine V.pk [1, 0, 2] rfl ?_
      exact vX1_hotBits_c27 k4 hk4 h r x2 v2 hr q e
def sX1_hotBits_b4 : Nat → Hp → Nat → Int32 → Int32 → Option (Int32 × Hp)
  | 0 => fun _ _ _ _ => none
  | n + 1 => sX1_hotBits_c4 (sX1_hotBits_b4 n)
theorem vX1_hotBits_b4 : ∀ (n : Nat) (h : Hp) (r : Nat) (v1 : Int32) (v2 : Int32) (hr : ck r = 1) (q : (Int32 × Hp)), sX1_hotBits_b4 n h r v1 v2 = some q → V (Gs 0 (pI q)) mX1_hotBits (0, 0) 4 [(0, .ref r), (1, .int v1), (2, .int v2)] [] h
  | 0 => fun _ _ _ _ _ _ e => by cases e
  | n + 1 => fun h r v1 v2 hr q e => vX1_hotBits_c4 (sX1_hotBits_b4 n) (vX1_hotBits_b4 n) h r v1 v2 hr q e
def sX1_hotBits (h : Hp) (r : Nat) : Option (Int32 × Hp) :=
  gd (isC r 1) (sX1_hotBits_b4 FU h r (0 : Int32) (0 : Int32))
set_option maxRecDepth 10000 in
theorem kX1_hotBits (h : Hp) (r : Nat) (q : (Int32 × Hp)) (e : sX1_hotBits h r = some q) : K 0 mX1_hotBits [.ref r] h (pI q) := by
  unfold sX1_hotBits at e
  obtain ⟨hr, e⟩ := gd_s e
  have hr := isC_t hr
  refine K.ofV (by decide) rfl (Nat.le_of_ble_eq_true rfl) ?_
  show V (Gs 0 (pI q)) mX1_hotBits (0, 0) 0 [(0, .ref r)] [] h
  refine V.iconst dX1_hotBits_0 (pc' := 1) rfl (v := 0) (by decide) ?_
  refine V.isq dX1_hotBits_1 (pc' := 2) rfl (by decide) rfl (L' := [(1, .int (0 : Int32)), (0, .ref r)]) rfl ?_
  refine V.iconst dX1_hotBits_2 (pc' := 3) rfl (v := 0) (by decide) ?_
  refine V.isq dX1_hotBits_3 (pc' := 4) rfl (by decide) rfl (L' := [(2, .int (0 : Int32)), (1, .int (0 : Int32)), (0, .ref r)]) rfl ?_
  refine V.pk [2, 1, 0] rfl ?_
  exact vX1_hotBits_b4 FU h r (0 : Int32) (0 : Int32) hr q e

-- X2_empty (level 0)
theorem dX2_empty_0 : decode cX2_empty 0 = .ok (.aload_n 0, 1) := by decide +kernel
theorem dX2_empty_1 : decode cX2_empty 1 = .ok (.iconst 0, 1) := by decide +kernel
theorem dX2_empty_2 : decode cX2_empty 2 = .ok (.putfield 53, 3) := by decide +kernel
theorem dX2_empty_5 : decode cX2_empty 5 = .ok (.iconst 0, 1) := by decide +kernel
theorem dX2_empty_6 : decode cX2_empty 6 = .ok (.istore_n 1, 1) := by decide +kernel
theorem dX2_empty_7 : decode cX2_empty 7 = .ok (.iload_n 1, 1) := by decide +kernel
theorem dX2_empty_8 : decode cX2_empty 8 = .ok (.aload_n 0, 1) := by decide +kernel
theorem dX2_empty_9 : decode cX2_empty 9 = .ok (.getfield 15, 3) := by decide +kernel
theorem dX2_empty_12 : decode cX2_empty 12 = .ok (.if_icmp .ge 16, 3) := by decide +kernel
theorem dX2_empty_15 : decode cX2_empty 15 = .ok (.aload_n 0, 1) := by decide +kernel
theorem dX2_empty_16 : decode cX2_empty 16 = .ok (.getfield 38, 3) := by decide +kernel
theorem dX2_empty_19 : decode cX2_empty 19 = .ok (.iload_n 1, 1) := by decide +kernel
theorem dX2_empty_20 : decode cX2_empty 20 = .ok (.iconst 0, 1) := by decide +kernel
theorem dX2_empty_21 : decode cX2_empty 21 = .ok (.iastore, 1) := by decide +kernel
theorem dX2_empty_22 : decode cX2_empty 22 = .ok (.iinc 1 1, 3) := by decide +kernel
theorem dX2_empty_25 : decode cX2_empty 25 = .ok (.goto (-18), 3) := by decide +kernel
theorem dX2_empty_28 : decode cX2_empty 28 = .ok (.return_, 1) := by decide +kernel
def sX2_empty_c7 (k7 : Hp → Nat → Int32 → Option Hp) (h : Hp) (r : Nat) (v1 : Int32) : Option Hp :=
  if (h.1 r 2) ≤ v1 then (some h) else (gd (inb v1 10) (nm (u1 h (r + 7) v1.toNatClampNeg (0 : Int32)) fun h3 => nm (v1 + (1 : Int32)) fun x4 => k7 h3 r x4))
set_option maxRecDepth 10000 in
theorem vX2_empty_c7 (k7 : Hp → Nat → Int32 → Option Hp) (hk7 : ∀ (h : Hp) (r : Nat) (v1 : Int32) (hr : ck r = 2) (q : Hp), k7 h r v1 = some q → V (Gs 0 (pV q)) mX2_empty (0, 0) 7 [(0, .ref r), (1, .int v1)] [] h) (h : Hp) (r : Nat) (v1 : Int32) (hr : ck r = 2) (q : Hp) (e : sX2_empty_c7 k7 h r v1 = some q) : V (Gs 0 (pV q)) mX2_empty (0, 0) 7 [(0, .ref r), (1, .int v1)] [] h := by
  unfold sX2_empty_c7 at e
  refine V.ilq dX2_empty_7 (pc' := 8) rfl (j := 1) rfl ?_
  refine V.alq dX2_empty_8 (pc' := 9) rfl (j := 0) rfl ?_
  refine V.getf dX2_empty_9 (pc' := 12) rfl FL_X2_15 hr (by decide) rfl ?_
  refine V.ic_ge dX2_empty_12 (pc' := 15) rfl (tgt := 28) (by decide) (fun c => ?_) (fun c => ?_)
  · rw [if_pos c] at e
    exact V.vret dX2_empty_28 rfl (fnV e)
  · rw [if_neg c] at e
    refine V.alq dX2_empty_15 (pc' := 16) rfl (j := 0) rfl ?_
    refine V.getr dX2_empty_16 (pc' := 19) rfl FL_X2_38 hr (by decide) rfl (r' := r + 7) rfl ?_
    refine V.ilq dX2_empty_19 (pc' := 20) rfl (j := 1) rfl ?_
    refine V.iconst dX2_empty_20 (pc' := 21) rfl (v := 0) (by decide) ?_
    obtain ⟨c2, e⟩ := gd_s e
    obtain ⟨h3, eh3, e⟩ := nm_s e
    refine V.iast dX2_empty_21 (pc' := 22) rfl (akX2_7 hr).1 (akX2_7 hr).2 (inb_t c2) eh3 ?_
    obtain ⟨x4, ex4, e⟩ := nm_s e
    refine V.iinc dX2_empty_22 (pc' := 25) rfl (j := 1) rfl (v := 1) (by decide) (by decide) ex4 (L' := [(1, .int x4), (0, .ref r)]) rfl ?_
    refine V.goto dX2_empty_25 (pc' := 7) (by decide) ?_
    refine V.pk [1, 0] rfl ?_
    exact hk7 h3 r x4 hr q e
def sX2_empty_b7 : Nat → Hp → Nat → Int32 → Option Hp
  | 0 => fun _ _ _ => none
  | n + 1 => sX2_empty_c7 (sX2_empty_b7 n)
theorem vX2_empty_b7 : ∀ (n : Nat) (h : Hp) (r : Nat) (v1 : Int32) (hr : ck r = 2) (q : Hp), sX2_empty_b7 n h r v1 = some q → V (Gs 0 (pV q)) mX2_empty (0, 0) 7 [(0, .ref r), (1, .int v1)] [] h
  | 0 => fun _ _ _ _ _ e => by cases e
  | n + 1 => fun h r v1 hr q e => vX2_empty_c7 (sX2_empty_b7 n) (vX2_empty_b7 n) h r v1 hr q e
def sX2_empty (h : Hp) (r : Nat) : Option Hp :=
  gd (isC r 2) (nm (u1 h r 14 (0 : Int32)) fun h1 => sX2_empty_b7 FU h1 r (0 : Int32))
set_option maxRecDepth 10000 in
theorem kX2_empty (h : Hp) (r : Nat) (q : Hp) (e : sX2_empty h r = some q) : K 0 mX2_empty [.ref r] h (pV q) := by
  unfold sX2_empty at e
  obtain ⟨hr, e⟩ := gd_s e
  have hr := isC_t hr
  refine K.ofV (by decide) rfl (Nat.le_of_ble_eq_true rfl) ?_
  show V (Gs 0 (pV q)) mX2_empty (0, 0) 0 [(0, .ref r)] [] h
  refine V.alq dX2_empty_0 (pc' := 1) rfl (j := 0) rfl ?_
  refine V.iconst dX2_empty_1 (pc' := 2) rfl (v := 0) (by decide) ?_
  obtain ⟨h1, eh1, e⟩ := nm_s e
  refine V.putf dX2_empty_2 (pc' := 5) rfl FP_X2_53 hr (by decide) rfl eh1 ?_
  refine V.iconst dX2_empty_5 (pc' := 6) rfl (v := 0) (by decide) ?_
  refine V.isq dX2_empty_6 (pc' := 7) rfl (by decide) rfl (L' := [(1, .int (0 : Int32)), (0, .ref r)]) rfl ?_
  refine V.pk [1, 0] rfl ?_
  exact vX2_empty_b7 FU h1 r (0 : Int32) hr q e

-- X2_hasHeat (level 0)
theorem dX2_hasHeat_0 : decode cX2_hasHeat 0 = .ok (.iload_n 1, 1) := by decide +kernel
theorem dX2_hasHeat_1 : decode cX2_hasHeat 1 = .ok (.ifCond .lt 34, 3) := by decide +kernel
theorem dX2_hasHeat_4 : decode cX2_hasHeat 4 = .ok (.iload_n 1, 1) := by decide +kernel
theorem dX2_hasHeat_5 : decode cX2_hasHeat 5 = .ok (.aload_n 0, 1) := by decide +kernel
theorem dX2_hasHeat_6 : decode cX2_hasHeat 6 = .ok (.getfield 15, 3) := by decide +kernel
theorem dX2_hasHeat_9 : decode cX2_hasHeat 9 = .ok (.if_icmp .ge 26, 3) := by decide +kernel
theorem dX2_hasHeat_12 : decode cX2_hasHeat 12 = .ok (.aload_n 0, 1) := by decide +kernel
theorem dX2_hasHeat_13 : decode cX2_hasHeat 13 = .ok (.getfield 18, 3) := by decide +kernel
theorem dX2_hasHeat_16 : decode cX2_hasHeat 16 = .ok (.iload_n 1, 1) := by decide +kernel
theorem dX2_hasHeat_17 : decode cX2_hasHeat 17 = .ok (.baload, 1) := by decide +kernel
theorem dX2_hasHeat_18 : decode cX2_hasHeat 18 = .ok (.iload_n 2, 1) := by decide +kernel
theorem dX2_hasHeat_19 : decode cX2_hasHeat 19 = .ok (.if_icmp .ne 16, 3) := by decide +kernel
theorem dX2_hasHeat_22 : decode cX2_hasHeat 22 = .ok (.aload_n 0, 1) := by decide +kernel
theorem dX2_hasHeat_23 : decode cX2_hasHeat 23 = .ok (.getfield 35, 3) := by decide +kernel
theorem dX2_hasHeat_26 : decode cX2_hasHeat 26 = .ok (.iload_n 1, 1) := by decide +kernel
theorem dX2_hasHeat_27 : decode cX2_hasHeat 27 = .ok (.iaload, 1) := by decide +kernel
theorem dX2_hasHeat_28 : decode cX2_hasHeat 28 = .ok (.ifCond .le 7, 3) := by decide +kernel
theorem dX2_hasHeat_31 : decode cX2_hasHeat 31 = .ok (.iconst 1, 1) := by decide +kernel
theorem dX2_hasHeat_32 : decode cX2_hasHeat 32 = .ok (.goto 4, 3) := by decide +kernel
theorem dX2_hasHeat_35 : decode cX2_hasHeat 35 = .ok (.iconst 0, 1) := by decide +kernel
theorem dX2_hasHeat_36 : decode cX2_hasHeat 36 = .ok (.ireturn, 1) := by decide +kernel
def sX2_hasHeat_c36 (h : Hp) (t0 : Int32) : Option (Int32 × Hp) :=
  gd (zb t0) (some (t0, h))
set_option maxRecDepth 10000 in
theorem vX2_hasHeat_c36 (h : Hp) (t0 : Int32) (q : (Int32 × Hp)) (e : sX2_hasHeat_c36 h t0 = some q) : V (Gs 0 (pI q)) mX2_hasHeat (0, 0) 36 [] [.int t0] h := by
  unfold sX2_hasHeat_c36 at e
  obtain ⟨c3, e⟩ := gd_s e
  exact V.zret dX2_hasHeat_36 rfl (zb_t c3) (fnI e)
def sX2_hasHeat_c35 (h : Hp) : Option (Int32 × Hp) :=
  sX2_hasHeat_c36 h (0 : Int32)
set_option maxRecDepth 10000 in
theorem vX2_hasHeat_c35 (h : Hp) (q : (Int32 × Hp)) (e : sX2_hasHeat_c35 h = some q) : V (Gs 0 (pI q)) mX2_hasHeat (0, 0) 35 [] [] h := by
  unfold sX2_hasHeat_c35 at e
  refine V.iconst dX2_hasHeat_35 (pc' := 36) rfl (v := 0) (by decide) ?_
  exact vX2_hasHeat_c36 h (0 : Int32) q e
def sX2_hasHeat (h : Hp) (r : Nat) (a1 : Int32) (a2 : Int32) : Option (Int32 × Hp) :=
  gd (isC r 2) (if a1 < 0 then (sX2_hasHeat_c35 h) else (if (h.1 r 2) ≤ a1 then (sX2_hasHeat_c35 h) else (gd (inb a1 10) (if (h.1 (r + 1) a1.toNatClampNeg) = a2 then (gd (inb a1 10) (if (h.1 (r + 6) a1.toNatClampNeg) ≤ 0 then (sX2_hasHeat_c35 h) else (sX2_hasHeat_c36 h (1 : Int32)))) else (sX2_hasHeat_c35 h)))))
set_option maxRecDepth 10000 in
theorem kX2_hasHeat (h : Hp) (r : Nat) (a1 : Int32) (a2 : Int32) (q : (Int32 × Hp)) (e : sX2_hasHeat h r a1 a2 = some q) : K 0 mX2_hasHeat [.ref r, .int a1, .int a2] h (pI q) := by
  unfold sX2_hasHeat at e
  obtain ⟨hr, e⟩ := gd_s e
  have hr := isC_t hr
  refine K.ofV (by decide) rfl (Nat.le_of_ble_eq_true rfl) ?_
  show V (Gs 0 (pI q)) mX2_hasHeat (0, 0) 0 [(0, .ref r), (1, .int a1), (2, .int a2)] [] h
  refine V.ilq dX2_hasHeat_0 (pc' := 1) rfl (j := 1) rfl ?_
  refine V.if_lt dX2_hasHeat_1 (pc' := 4) rfl (tgt := 35) (by decide) (fun c => ?_) (fun c => ?_)
  · rw [if_pos c] at e
    refine V.pk [] rfl ?_
    exact vX2_hasHeat_c35 h q e
  · rw [if_neg c] at e
    refine V.ilq dX2_hasHeat_4 (pc' := 5) rfl (j := 1) rfl ?_
    refine V.alq dX2_hasHeat_5 (pc' := 6) rfl (j := 0) rfl ?_
    refine V.getf dX2_hasHeat_6 (pc' := 9) rfl FL_X2_15 hr (by decide) rfl ?_
    refine V.ic_ge dX2_hasHeat_9 (pc' := 12) rfl (tgt := 35) (by decide) (fun c => ?_) (fun c => ?_)
    · rw [if_pos c] at e
      refine V.pk [] rfl ?_
      exact vX2_hasHeat_c35 h q e
    · rw [if_neg c] at e
      refine V.alq dX2_hasHeat_12 (pc' := 13) rfl (j := 0) rfl ?_
      refine V.getr dX2_hasHeat_13 (pc' := 16) rfl FL_X2_18 hr (by decide) rfl (r' := r + 1) rfl ?_
      refine V.ilq dX2_hasHeat_16 (pc' := 17) rfl (j := 1) rfl ?_
      obtain ⟨c1, e⟩ := gd_s e
      refine V.zald dX2_hasHeat_17 (pc' := 18) rfl (akX2_1 hr).1 (akX2_1 hr).2 (inb_t c1) ?_
      refine V.ilq dX2_hasHeat_18 (pc' := 19) rfl (j := 2) rfl ?_
      refine V.ic_ne dX2_hasHeat_19 (pc' := 22) rfl (tgt := 35) (by decide) (fun c => ?_) (fun c => ?_)
      · rw [if_neg c] at e
        refine V.pk [] rfl ?_
        exact vX2_hasHeat_c35 h q e
      · rw [if_pos c] at e
        refine V.alq dX2_hasHeat_22 (pc' := 23) rfl (j := 0) rfl ?_
        refine V.getr dX2_hasHeat_23 (pc' := 26) rfl FL_X2_35 hr (by decide) rfl (r' := r + 6) rfl ?_
        refine V.ilq dX2_hasHeat_26 (pc' := 27) rfl (j := 1) rfl ?_
        obtain ⟨c2, e⟩ := gd_s e
        refine V.iald dX2_hasHeat_27 (pc' := 28) rfl (akX2_6 hr).1 (akX2_6 hr).2 (inb_t c2) ?_
        refine V.if_le dX2_hasHeat_28 (pc' := 31) rfl (tgt := 35) (by decide) (fun c => ?_) (fun c => ?_)
        · rw [if_pos c] at e
          refine V.pk [] rfl ?_
          exact vX2_hasHeat_c35 h q e
        · rw [if_neg c] at e
          refine V.iconst dX2_hasHeat_31 (pc' := 32) rfl (v := 1) (by decide) ?_
          refine V.goto dX2_hasHeat_32 (pc' := 36) (by decide) ?_
          refine V.pk [] rfl ?_
          exact vX2_hasHeat_c36 h (1 : Int32) q e

-- X2_rest (level 0)
theorem dX2_rest_0 : decode cX2_rest 0 = .ok (.aload_n 0, 1) := by decide +kernel
theorem dX2_rest_1 : decode cX2_rest 1 = .ok (.getfield 35, 3) := by decide +kernel
theorem dX2_rest_4 : decode cX2_rest 4 = .ok (.iload_n 1, 1) := by decide +kernel
theorem dX2_rest_5 : decode cX2_rest 5 = .ok (.iaload, 1) := by decide +kernel
theorem dX2_rest_6 : decode cX2_rest 6 = .ok (.aload_n 0, 1) := by decide +kernel
theorem dX2_rest_7 : decode cX2_rest 7 = .ok (.getfield 38, 3) := by decide +kernel
theorem dX2_rest_10 : decode cX2_rest 10 = .ok (.iload_n 1, 1) := by decide +kernel
theorem dX2_rest_11 : decode cX2_rest 11 = .ok (.iaload, 1) := by decide +kernel
theorem dX2_rest_12 : decode cX2_rest 12 = .ok (.isub, 1) := by decide +kernel
theorem dX2_rest_13 : decode cX2_rest 13 = .ok (.ireturn, 1) := by decide +kernel
def sX2_rest (h : Hp) (r : Nat) (a1 : Int32) : Option (Int32 × Hp) :=
  gd (isC r 2) (gd (inb a1 10) (gd (inb a1 10) (some (((h.1 (r + 6) a1.toNatClampNeg) - (h.1 (r + 7) a1.toNatClampNeg)), h))))
set_option maxRecDepth 10000 in
theorem kX2_rest (h : Hp) (r : Nat) (a1 : Int32) (q : (Int32 × Hp)) (e : sX2_rest h r a1 = some q) : K 0 mX2_rest [.ref r, .int a1] h (pI q) := by
  unfold sX2_rest at e
  obtain ⟨hr, e⟩ := gd_s e
  have hr := isC_t hr
  refine K.ofV (by decide) rfl (Nat.le_of_ble_eq_true rfl) ?_
  show V (Gs 0 (pI q)) mX2_rest (0, 0) 0 [(0, .ref r), (1, .int a1)] [] h
  refine V.alq dX2_rest_0 (pc' := 1) rfl (j := 0) rfl ?_
  refine V.getr dX2_rest_1 (pc' := 4) rfl FL_X2_35 hr (by decide) rfl (r' := r + 6) rfl ?_
  refine V.ilq dX2_rest_4 (pc' := 5) rfl (j := 1) rfl ?_
  obtain ⟨c1, e⟩ := gd_s e
  refine V.iald dX2_rest_5 (pc' := 6) rfl (akX2_6 hr).1 (akX2_6 hr).2 (inb_t c1) ?_
  refine V.alq dX2_rest_6 (pc' := 7) rfl (j := 0) rfl ?_
  refine V.getr dX2_rest_7 (pc' := 10) rfl FL_X2_38 hr (by decide) rfl (r' := r + 7) rfl ?_
  refine V.ilq dX2_rest_10 (pc' := 11) rfl (j := 1) rfl ?_
  obtain ⟨c2, e⟩ := gd_s e
  refine V.iald dX2_rest_11 (pc' := 12) rfl (akX2_7 hr).1 (akX2_7 hr).2 (inb_t c2) ?_
  refine V.isub dX2_rest_12 (pc' := 13) rfl ?_
  exact V.iret dX2_rest_13 rfl (fnI e)

-- X2_arriving (level 0)
theorem dX2_arriving_0 : decode cX2_arriving 0 = .ok (.iconst 0, 1) := by decide +kernel
theorem dX2_arriving_1 : decode cX2_arriving 1 = .ok (.istore_n 3, 1) := by decide +kernel
theorem dX2_arriving_2 : decode cX2_arriving 2 = .ok (.iconst 0, 1) := by decide +kernel
theorem dX2_arriving_3 : decode cX2_arriving 3 = .ok (.istore 4, 2) := by decide +kernel
theorem dX2_arriving_5 : decode cX2_arriving 5 = .ok (.iload 4, 2) := by decide +kernel
theorem dX2_arriving_7 : decode cX2_arriving 7 = .ok (.aload_n 0, 1) := by decide +kernel
theorem dX2_arriving_8 : decode cX2_arriving 8 = .ok (.getfield 15, 3) := by decide +kernel
theorem dX2_arriving_11 : decode cX2_arriving 11 = .ok (.if_icmp .ge 44, 3) := by decide +kernel
theorem dX2_arriving_14 : decode cX2_arriving 14 = .ok (.aload_n 0, 1) := by decide +kernel
theorem dX2_arriving_15 : decode cX2_arriving 15 = .ok (.getfield 22, 3) := by decide +kernel
theorem dX2_arriving_18 : decode cX2_arriving 18 = .ok (.iload 4, 2) := by decide +kernel
theorem dX2_arriving_20 : decode cX2_arriving 20 = .ok (.baload, 1) := by decide +kernel
theorem dX2_arriving_21 : decode cX2_arriving 21 = .ok (.ifCond .eq 28, 3) := by decide +kernel
theorem dX2_arriving_24 : decode cX2_arriving 24 = .ok (.aload_n 0, 1) := by decide +kernel
theorem dX2_arriving_25 : decode cX2_arriving 25 = .ok (.getfield 18, 3) := by decide +kernel
theorem dX2_arriving_28 : decode cX2_arriving 28 = .ok (.iload 4, 2) := by decide +kernel
theorem dX2_arriving_30 : decode cX2_arriving 30 = .ok (.baload, 1) := by decide +kernel
theorem dX2_arriving_31 : decode cX2_arriving 31 = .ok (.iload_n 1, 1) := by decide +kernel
theorem dX2_arriving_32 : decode cX2_arriving 32 = .ok (.if_icmp .ne 17, 3) := by decide +kernel
theorem dX2_arriving_35 : decode cX2_arriving 35 = .ok (.aload_n 0, 1) := by decide +kernel
theorem dX2_arriving_36 : decode cX2_arriving 36 = .ok (.getfield 25, 3) := by decide +kernel
theorem dX2_arriving_39 : decode cX2_arriving 39 = .ok (.iload 4, 2) := by decide +kernel
theorem dX2_arriving_41 : decode cX2_arriving 41 = .ok (.iaload, 1) := by decide +kernel
theorem dX2_arriving_42 : decode cX2_arriving 42 = .ok (.iload_n 2, 1) := by decide +kernel
theorem dX2_arriving_43 : decode cX2_arriving 43 = .ok (.if_icmp .lt 6, 3) := by decide +kernel
theorem dX2_arriving_46 : decode cX2_arriving 46 = .ok (.iinc 3 1, 3) := by decide +kernel
theorem dX2_arriving_49 : decode cX2_arriving 49 = .ok (.iinc 4 1, 3) := by decide +kernel
theorem dX2_arriving_52 : decode cX2_arriving 52 = .ok (.goto (-47), 3) := by decide +kernel
theorem dX2_arriving_55 : decode cX2_arriving 55 = .ok (.iload_n 3, 1) := by decide +kernel
theorem dX2_arriving_56 : decode cX2_arriving 56 = .ok (.ireturn, 1) := by decide +kernel
def sX2_arriving_c49 (k5 : Hp → Nat → Int32 → Int32 → Int32 → Int32 → Option (Int32 × Hp)) (h : Hp) (r : Nat) (v1 : Int32) (v2 : Int32) (v3 : Int32) (v4 : Int32) : Option (Int32 × Hp) :=
  nm (v4 + (1 : Int32)) fun x5 => k5 h r v1 v2 v3 x5
set_option maxRecDepth 10000 in
theorem vX2_arriving_c49 (k5 : Hp → Nat → Int32 → Int32 → Int32 → Int32 → Option (Int32 × Hp)) (hk5 : ∀ (h : Hp) (r : Nat) (v1 : Int32) (v2 : Int32) (v3 : Int32) (v4 : Int32) (hr : ck r = 2) (q : (Int32 × Hp)), k5 h r v1 v2 v3 v4 = some q → V (Gs 0 (pI q)) mX2_arriving (0, 0) 5 [(0, .ref r), (1, .int v1), (2, .int v2), (3, .int v3), (4, .int v4)] [] h) (h : Hp) (r : Nat) (v1 : Int32) (v2 : Int32) (v3 : Int32) (v4 : Int32) (hr : ck r = 2) (q : (Int32 × Hp)) (e : sX2_arriving_c49 k5 h r v1 v2 v3 v4 = some q) : V (Gs 0 (pI q)) mX2_arriving (0, 0) 49 [(0, .ref r), (1, .int v1), (2, .int v2), (3, .int v3), (4, .int v4)] [] h := by
  unfold sX2_arriving_c49 at e
  obtain ⟨x5, ex5, e⟩ := nm_s e
  refine V.iinc dX2_arriving_49 (pc' := 52) rfl (j := 4) rfl (v := 1) (by decide) (by decide) ex5 (L' := [(4, .int x5), (0, .ref r), (1, .int v1), (2, .int v2), (3, .int v3)]) rfl ?_
  refine V.goto dX2_arriving_52 (pc' := 5) (by decide) ?_
  refine V.pk [1, 2, 3, 4, 0] rfl ?_
  exact hk5 h r v1 v2 v3 x5 hr q e
def sX2_arriving_c5 (k5 : Hp → Nat → Int32 → Int32 → Int32 → Int32 → Option (Int32 × Hp)) (h : Hp) (r : Nat) (v1 : Int32) (v2 : Int32) (v3 : Int32) (v4 : Int32) : Option (Int32 × Hp) :=
  if (h.1 r 2) ≤ v4 then (some (v3, h)) else (gd (inb v4 10) (if (h.1 (r + 2) v4.toNatClampNeg) = 0 then (sX2_arriving_c49 k5 h r v1 v2 v3 v4) else (gd (inb v4 10) (if (h.1 (r + 1) v4.toNatClampNeg) = v1 then (gd (inb v4 10) (if (h.1 (r + 3) v4.toNatClampNeg) < v2 then (sX2_arriving_c49 k5 h r v1 v2 v3 v4) else (nm (v3 + (1 : Int32)) fun x4 => sX2_arriving_c49 k5 h r v1 v2 x4 v4))) else (sX2_arriving_c49 k5 h r v1 v2 v3 v4)))))
set_option maxRecDepth 10000 in
theorem vX2_arriving_c5 (k5 : Hp → Nat → Int32 → Int32 → Int32 → Int32 → Option (Int32 × Hp)) (hk5 : ∀ (h : Hp) (r : Nat) (v1 : Int32) (v2 : Int32) (v3 : Int32) (v4 : Int32) (hr : ck r = 2) (q : (Int32 × Hp)), k5 h r v1 v2 v3 v4 = some q → V (Gs 0 (pI q)) mX2_arriving (0, 0) 5 [(0, .ref r), (1, .int v1), (2, .int v2), (3, .int v3), (4, .int v4)] [] h) (h : Hp) (r : Nat) (v1 : Int32) (v2 : Int32) (v3 : Int32) (v4 : Int32) (hr : ck r = 2) (q : (Int32 × Hp)) (e : sX2_arriving_c5 k5 h r v1 v2 v3 v4 = some q) : V (Gs 0 (pI q)) mX2_arriving (0, 0) 5 [(0, .ref r), (1, .int v1), (2, .int v2), (3, .int v3), (4, .int v4)] [] h := by
  unfold sX2_arriving_c5 at e
  refine V.il dX2_arriving_5 (pc' := 7) rfl (j := 4) rfl ?_
  refine V.alq dX2_arriving_7 (pc' := 8) rfl (j := 0) rfl ?_
  refine V.getf dX2_arriving_8 (pc' := 11) rfl FL_X2_15 hr (by decide) rfl ?_
  refine V.ic_ge dX2_arriving_11 (pc' := 14) rfl (tgt := 55) (by decide) (fun c => ?_) (fun c => ?_)
  · rw [if_pos c] at e
    refine V.ilq dX2_arriving_55 (pc' := 56) rfl (j := 3) rfl ?_
    exact V.iret dX2_arriving_56 rfl (fnI e)
  · rw [if_neg c] at e
    refine V.alq dX2_arriving_14 (pc' := 15) rfl (j := 0) rfl ?_
    refine V.getr dX2_arriving_15 (pc' := 18) rfl FL_X2_22 hr (by decide) rfl (r' := r + 2) rfl ?_
    refine V.il dX2_arriving_18 (pc' := 20) rfl (j := 4) rfl ?_
    obtain ⟨c1, e⟩ := gd_s e
    refine V.zald dX2_arriving_20 (pc' := 21) rfl (akX2_2 hr).1 (akX2_2 hr).2 (inb_t c1) ?_
    refine V.if_eq dX2_arriving_21 (pc' := 24) rfl (tgt := 49) (by decide) (fun c => ?_) (fun c => ?_)
    · rw [if_pos c] at e
      exact vX2_arriving_c49 k5 hk5 h r v1 v2 v3 v4 hr q e
    · rw [if_neg c] at e
      refine V.alq dX2_arriving_24 (pc' := 25) rfl (j := 0) rfl ?_
      refine V.getr dX2_arriving_25 (pc' := 28) rfl FL_X2_18 hr (by decide) rfl (r' := r + 1) rfl ?_
      refine V.il dX2_arriving_28 (pc' := 30) rfl (j := 4) rfl ?_
      obtain ⟨c2, e⟩ := gd_s e
      refine V.zald dX2_arriving_30 (pc' := 31) rfl (akX2_1 hr).1 (akX2_1 hr).2 (inb_t c2) ?_
      refine V.ilq dX2_arriving_31 (pc' := 32) rfl (j := 1) rfl ?_
      refine V.ic_ne dX2_arriving_32 (pc' := 35) rfl (tgt := 49) (by decide) (fun c => ?_) (fun c => ?_)
      · rw [if_neg c] at e
        exact vX2_arriving_c49 k5 hk5 h r v1 v2 v3 v4 hr q e
      · rw [if_pos c] at e
        refine V.alq dX2_arriving_35 (pc' := 36) rfl (j := 0) rfl ?_
        refine V.getr dX2_arriving_36 (pc' := 39) rfl FL_X2_25 hr (by decide) rfl (r' := r + 3) rfl ?_
        refine V.il dX2_arriving_39 (pc' := 41) rfl (j := 4) rfl ?_
        obtain ⟨c3, e⟩ := gd_s e
        refine V.iald dX2_arriving_41 (pc' := 42) rfl (akX2_3 hr).1 (akX2_3 hr).2 (inb_t c3) ?_
        refine V.ilq dX2_arriving_42 (pc' := 43) rfl (j := 2) rfl ?_
        refine V.ic_lt dX2_arriving_43 (pc' := 46) rfl (tgt := 49) (by decide) (fun c => ?_) (fun c => ?_)
        · rw [if_pos c] at e
          exact vX2_arriving_c49 k5 hk5 h r v1 v2 v3 v4 hr q e
        · rw [if_neg c] at e
          obtain ⟨x4, ex4, e⟩ := nm_s e
          refine V.iinc dX2_arriving_46 (pc' := 49) rfl (j := 3) rfl (v := 1) (by decide) (by decide) ex4 (L' := [(3, .int x4), (0, .ref r), (1, .int v1), (2, .int v2), (4, .int v4)]) rfl ?_
          refine V.pk [1, 2, 3, 0, 4] rfl ?_
          exact vX2_arriving_c49 k5 hk5 h r v1 v2 x4 v4 hr q e
def sX2_arriving_b5 : Nat → Hp → Nat → Int32 → Int32 → Int32 → Int32 → Option (Int32 × Hp)
  | 0 => fun _ _ _ _ _ _ => none
  | n + 1 => sX2_arriving_c5 (sX2_arriving_b5 n)
theorem vX2_arriving_b5 : ∀ (n : Nat) (h : Hp) (r : Nat) (v1 : Int32) (v2 : Int32) (v3 : Int32) (v4 : Int32) (hr : ck r = 2) (q : (Int32 × Hp)), sX2_arriving_b5 n h r v1 v2 v3 v4 = some q → V (Gs 0 (pI q)) mX2_arriving (0, 0) 5 [(0, .ref r), (1, .int v1), (2, .int v2), (3, .int v3), (4, .int v4)] [] h
  | 0 => fun _ _ _ _ _ _ _ _ e => by cases e
  | n + 1 => fun h r v1 v2 v3 v4 hr q e => vX2_arriving_c5 (sX2_arriving_b5 n) (vX2_arriving_b5 n) h r v1 v2 v3 v4 hr q e
def sX2_arriving (h : Hp) (r : Nat) (a1 : Int32) (a2 : Int32) : Option (Int32 × Hp) :=
  gd (isC r 2) (sX2_arriving_b5 FU h r a1 a2 (0 : Int32) (0 : Int32))
set_option maxRecDepth 10000 in
theorem kX2_arriving (h : Hp) (r : Nat) (a1 : Int32) (a2 : Int32) (q : (Int32 × Hp)) (e : sX2_arriving h r a1 a2 = some q) : K 0 mX2_arriving [.ref r, .int a1, .int a2] h (pI q) := by
  unfold sX2_arriving at e
  obtain ⟨hr, e⟩ := gd_s e
  have hr := isC_t hr
  refine K.ofV (by decide) rfl (Nat.le_of_ble_eq_true rfl) ?_
  show V (Gs 0 (pI q)) mX2_arriving (0, 0) 0 [(0, .ref r), (1, .int a1), (2, .int a2)] [] h
  refine V.iconst dX2_arriving_0 (pc' := 1) rfl (v := 0) (by decide) ?_
  refine V.isq dX2_arriving_1 (pc' := 2) rfl (by decide) rfl (L' := [(3, .int (0 : Int32)), (0, .ref r), (1, .int a1), (2, .int a2)]) rfl ?_
  refine V.iconst dX2_arriving_2 (pc' := 3) rfl (v := 0) (by decide) ?_
  refine V.is dX2_arriving_3 (pc' := 5) rfl (by decide) rfl (L' := [(4, .int (0 : Int32)), (3, .int (0 : Int32)), (0, .ref r), (1, .int a1), (2, .int a2)]) rfl ?_
  refine V.pk [2, 3, 4, 1, 0] rfl ?_
  exact vX2_arriving_b5 FU h r a1 a2 (0 : Int32) (0 : Int32) hr q e

-- X2_unit (level 0)
theorem dX2_unit_0 : decode cX2_unit 0 = .ok (.aload_n 0, 1) := by decide +kernel
theorem dX2_unit_1 : decode cX2_unit 1 = .ok (.getfield 25, 3) := by decide +kernel
theorem dX2_unit_4 : decode cX2_unit 4 = .ok (.iload_n 1, 1) := by decide +kernel
theorem dX2_unit_5 : decode cX2_unit 5 = .ok (.iaload, 1) := by decide +kernel
theorem dX2_unit_6 : decode cX2_unit 6 = .ok (.aload_n 0, 1) := by decide +kernel
theorem dX2_unit_7 : decode cX2_unit 7 = .ok (.getfield 25, 3) := by decide +kernel
theorem dX2_unit_10 : decode cX2_unit 10 = .ok (.iload_n 2, 1) := by decide +kernel
theorem dX2_unit_11 : decode cX2_unit 11 = .ok (.iaload, 1) := by decide +kernel
theorem dX2_unit_12 : decode cX2_unit 12 = .ok (.imul, 1) := by decide +kernel
theorem dX2_unit_13 : decode cX2_unit 13 = .ok (.ireturn, 1) := by decide +kernel
def sX2_unit (h : Hp) (r : Nat) (a1 : Int32) (a2 : Int32) : Option (Int32 × Hp) :=
  gd (isC r 2) (gd (inb a1 10) (gd (inb a2 10) (some (((h.1 (r + 3) a1.toNatClampNeg) * (h.1 (r + 3) a2.toNatClampNeg)), h))))
set_option maxRecDepth 10000 in
theorem kX2_unit (h : Hp) (r : Nat) (a1 : Int32) (a2 : Int32) (q : (Int32 × Hp)) (e : sX2_unit h r a1 a2 = some q) : K 0 mX2_unit [.ref r, .int a1, .int a2] h (pI q) := by
  unfold sX2_unit at e
  obtain ⟨hr, e⟩ := gd_s e
  have hr := isC_t hr
  refine K.ofV (by decide) rfl (Nat.le_of_ble_eq_true rfl) ?_
  show V (Gs 0 (pI q)) mX2_unit (0, 0) 0 [(0, .ref r), (1, .int a1), (2, .int a2)] [] h
  refine V.alq dX2_unit_0 (pc' := 1) rfl (j := 0) rfl ?_
  refine V.getr dX2_unit_1 (pc' := 4) rfl FL_X2_25 hr (by decide) rfl (r' := r + 3) rfl ?_
  refine V.ilq dX2_unit_4 (pc' := 5) rfl (j := 1) rfl ?_
  obtain ⟨c1, e⟩ := gd_s e
  refine V.iald dX2_unit_5 (pc' := 6) rfl (akX2_3 hr).1 (akX2_3 hr).2 (inb_t c1) ?_
  refine V.alq dX2_unit_6 (pc' := 7) rfl (j := 0) rfl ?_
  refine V.getr dX2_unit_7 (pc' := 10) rfl FL_X2_25 hr (by decide) rfl (r' := r + 3) rfl ?_
  refine V.ilq dX2_unit_10 (pc' := 11) rfl (j := 2) rfl ?_
  obtain ⟨c2, e⟩ := gd_s e
  refine V.iald dX2_unit_11 (pc' := 12) rfl (akX2_3 hr).1 (akX2_3 hr).2 (inb_t c2) ?_
  refine V.imul dX2_unit_12 (pc' := 13) rfl ?_
  exact V.iret dX2_unit_13 rfl (fnI e)

-- X2_add (level 0)
theorem dX2_add_0 : decode cX2_add 0 = .ok (.aload_n 0, 1) := by decide +kernel
theorem dX2_add_1 : decode cX2_add 1 = .ok (.getfield 53, 3) := by decide +kernel
theorem dX2_add_4 : decode cX2_add 4 = .ok (.bipush 24, 2) := by decide +kernel
theorem dX2_add_6 : decode cX2_add 6 = .ok (.if_icmp .ge 63, 3) := by decide +kernel
theorem dX2_add_9 : decode cX2_add 9 = .ok (.aload_n 0, 1) := by decide +kernel
theorem dX2_add_10 : decode cX2_add 10 = .ok (.getfield 41, 3) := by decide +kernel
theorem dX2_add_13 : decode cX2_add 13 = .ok (.aload_n 0, 1) := by decide +kernel
theorem dX2_add_14 : decode cX2_add 14 = .ok (.getfield 53, 3) := by decide +kernel
theorem dX2_add_17 : decode cX2_add 17 = .ok (.iload_n 1, 1) := by decide +kernel
theorem dX2_add_18 : decode cX2_add 18 = .ok (.iastore, 1) := by decide +kernel
theorem dX2_add_19 : decode cX2_add 19 = .ok (.aload_n 0, 1) := by decide +kernel
theorem dX2_add_20 : decode cX2_add 20 = .ok (.getfield 44, 3) := by decide +kernel
theorem dX2_add_23 : decode cX2_add 23 = .ok (.aload_n 0, 1) := by decide +kernel
theorem dX2_add_24 : decode cX2_add 24 = .ok (.getfield 53, 3) := by decide +kernel
theorem dX2_add_27 : decode cX2_add 27 = .ok (.iload_n 2, 1) := by decide +kernel
theorem dX2_add_28 : decode cX2_add 28 = .ok (.iastore, 1) := by decide +kernel
theorem dX2_add_29 : decode cX2_add 29 = .ok (.aload_n 0, 1) := by decide +kernel
theorem dX2_add_30 : decode cX2_add 30 = .ok (.getfield 47, 3) := by decide +kernel
theorem dX2_add_33 : decode cX2_add 33 = .ok (.aload_n 0, 1) := by decide +kernel
theorem dX2_add_34 : decode cX2_add 34 = .ok (.getfield 53, 3) := by decide +kernel
theorem dX2_add_37 : decode cX2_add 37 = .ok (.iload_n 3, 1) := by decide +kernel
theorem dX2_add_38 : decode cX2_add 38 = .ok (.iastore, 1) := by decide +kernel
theorem dX2_add_39 : decode cX2_add 39 = .ok (.aload_n 0, 1) := by decide +kernel
theorem dX2_add_40 : decode cX2_add 40 = .ok (.dup, 1) := by decide +kernel
theorem dX2_add_41 : decode cX2_add 41 = .ok (.getfield 53, 3) := by decide +kernel
theorem dX2_add_44 : decode cX2_add 44 = .ok (.iconst 1, 1) := by decide +kernel
theorem dX2_add_45 : decode cX2_add 45 = .ok (.iadd, 1) := by decide +kernel
theorem dX2_add_46 : decode cX2_add 46 = .ok (.putfield 53, 3) := by decide +kernel
theorem dX2_add_49 : decode cX2_add 49 = .ok (.aload_n 0, 1) := by decide +kernel
theorem dX2_add_50 : decode cX2_add 50 = .ok (.getfield 38, 3) := by decide +kernel
theorem dX2_add_53 : decode cX2_add 53 = .ok (.iload_n 1, 1) := by decide +kernel
theorem dX2_add_54 : decode cX2_add 54 = .ok (.dup2, 1) := by decide +kernel
theorem dX2_add_55 : decode cX2_add 55 = .ok (.iaload, 1) := by decide +kernel
theorem dX2_add_56 : decode cX2_add 56 = .ok (.iload_n 3, 1) := by decide +kernel
theorem dX2_add_57 : decode cX2_add 57 = .ok (.iadd, 1) := by decide +kernel
theorem dX2_add_58 : decode cX2_add 58 = .ok (.iastore, 1) := by decide +kernel
theorem dX2_add_59 : decode cX2_add 59 = .ok (.aload_n 0, 1) := by decide +kernel
theorem dX2_add_60 : decode cX2_add 60 = .ok (.getfield 38, 3) := by decide +kernel
theorem dX2_add_63 : decode cX2_add 63 = .ok (.iload_n 2, 1) := by decide +kernel
theorem dX2_add_64 : decode cX2_add 64 = .ok (.dup2, 1) := by decide +kernel
theorem dX2_add_65 : decode cX2_add 65 = .ok (.iaload, 1) := by decide +kernel
theorem dX2_add_66 : decode cX2_add 66 = .ok (.iload_n 3, 1) := by decide +kernel
theorem dX2_add_67 : decode cX2_add 67 = .ok (.iadd, 1) := by decide +kernel
theorem dX2_add_68 : decode cX2_add 68 = .ok (.iastore, 1) := by decide +kernel
theorem dX2_add_69 : decode cX2_add 69 = .ok (.return_, 1) := by decide +kernel
def sX2_add_c69 (h : Hp) : Option Hp :=
  some h
set_option maxRecDepth 10000 in
theorem vX2_add_c69 (h : Hp) (q : Hp) (e : sX2_add_c69 h = some q) : V (Gs 0 (pV q)) mX2_add (0, 0) 69 [] [] h := by
  unfold sX2_add_c69 at e
  exact V.vret dX2_add_69 rfl (fnV e)
def sX2_add (h : Hp) (r : Nat) (a1 : Int32) (a2 : Int32) (a3 : Int32) : Option Hp :=
  gd (isC r 2) (if (24 : Int32) ≤ (h.1 r 14) then (sX2_add_c69 h) else (gd (inb (h.1 r 14) 24) (nm (u1 h (r + 8) (h.1 r 14).toNatClampNeg a1) fun h2 => gd (inb (h2.1 r 14) 24) (nm (u1 h2 (r + 9) (h2.1 r 14).toNatClampNeg a2) fun h4 => gd (inb (h4.1 r 14) 24) (nm (u1 h4 (r + 10) (h4.1 r 14).toNatClampNeg a3) fun h6 => nm (u1 h6 r 14 ((h6.1 r 14) + (1 : Int32))) fun h7 => gd (inb a1 10) (gd (inb a1 10) (nm (u1 h7 (r + 7) a1.toNatClampNeg ((h7.1 (r + 7) a1.toNatClampNeg) + a3)) fun h10 => gd (inb a2 10) (gd (inb a2 10) (nm (u1 h10 (r + 7) a2.toNatClampNeg ((h10.1 (r + 7) a2.toNatClampNeg) + a3)) fun h13 => sX2_add_c69 h13)))))))))
set_option maxRecDepth 10000 in
theorem kX2_add (h : Hp) (r : Nat) (a1 : Int32) (a2 : Int32) (a3 : Int32) (q : Hp) (e : sX2_add h r a1 a2 a3 = some q) : K 0 mX2_add [.ref r, .int a1, .int a2, .int a3] h (pV q) := by
  unfold sX2_add at e
  obtain ⟨hr, e⟩ := gd_s e
  have hr := isC_t hr
  refine K.ofV (by decide) rfl (Nat.le_of_ble_eq_true rfl) ?_
  show V (Gs 0 (pV q)) mX2_add (0, 0) 0 [(0, .ref r), (1, .int a1), (2, .int a2), (3, .int a3)] [] h
  refine V.alq dX2_add_0 (pc' := 1) rfl (j := 0) rfl ?_
  refine V.getf dX2_add_1 (pc' := 4) rfl FL_X2_53 hr (by decide) rfl ?_
  refine V.bipush dX2_add_4 (pc' := 6) rfl (v := 24) (by decide) ?_
  refine V.ic_ge dX2_add_6 (pc' := 9) rfl (tgt := 69) (by decide) (fun c => ?_) (fun c => ?_)
  · rw [if_pos c] at e
    refine V.pk [] rfl ?_
    exact vX2_add_c69 h q e
  · rw [if_neg c] at e
    refine V.alq dX2_add_9 (pc' := 10) rfl (j := 0) rfl ?_
    refine V.getr dX2_add_10 (pc' := 13) rfl FL_X2_41 hr (by decide) rfl (r' := r + 8) rfl ?_
    refine V.alq dX2_add_13 (pc' := 14) rfl (j := 0) rfl ?_
    refine V.getf dX2_add_14 (pc' := 17) rfl FL_X2_53 hr (by decide) rfl ?_
    refine V.ilq dX2_add_17 (pc' := 18) rfl (j := 1) rfl ?_
    obtain ⟨c1, e⟩ := gd_s e
    obtain ⟨h2, eh2, e⟩ := nm_s e
    refine V.iast dX2_add_18 (pc' := 19) rfl (akX2_8 hr).1 (akX2_8 hr).2 (inb_t c1) eh2 ?_
    refine V.alq dX2_add_19 (pc' := 20) rfl (j := 0) rfl ?_
    refine V.getr dX2_add_20 (pc' := 23) rfl FL_X2_44 hr (by decide) rfl (r' := r + 9) rfl ?_
    refine V.alq dX2_add_23 (pc' := 24) rfl (j := 0) rfl ?_
    refine V.getf dX2_add_24 (pc' := 27) rfl FL_X2_53 hr (by decide) rfl ?_
    refine V.ilq dX2_add_27 (pc' := 28) rfl (j := 2) rfl ?_
    obtain ⟨c3, e⟩ := gd_s e
    obtain ⟨h4, eh4, e⟩ := nm_s e
    refine V.iast dX2_add_28 (pc' := 29) rfl (akX2_9 hr).1 (akX2_9 hr).2 (inb_t c3) eh4 ?_
    refine V.alq dX2_add_29 (pc' := 30) rfl (j := 0) rfl ?_
    refine V.getr dX2_add_30 (pc' := 33) rfl FL_X2_47 hr (by decide) rfl (r' := r + 10) rfl ?_
    refine V.alq dX2_add_33 (pc' := 34) rfl (j := 0) rfl ?_
    refine V.getf dX2_add_34 (pc' := 37) rfl FL_X2_53 hr (by decide) rfl ?_
    refine V.ilq dX2_add_37 (pc' := 38) rfl (j := 3) rfl ?_
    obtain ⟨c5, e⟩ := gd_s e
    obtain ⟨h6, eh6, e⟩ := nm_s e
    refine V.iast dX2_add_38 (pc' := 39) rfl (akX2_10 hr).1 (akX2_10 hr).2 (inb_t c5) eh6 ?_
    refine V.alq dX2_add_39 (pc' := 40) rfl (j := 0) rfl ?_
    refine V.dup dX2_add_40 (pc' := 41) rfl rfl ?_
    refine V.getf dX2_add_41 (pc' := 44) rfl FL_X2_53 hr (by decide) rfl ?_
    refine V.iconst dX2_add_44 (pc' := 45) rfl (v := 1) (by decide) ?_
    refine V.iadd dX2_add_45 (pc' := 46) rfl ?_
    obtain ⟨h7, eh7, e⟩ := nm_s e
    refine V.putf dX2_add_46 (pc' := 49) rfl FP_X2_53 hr (by decide) rfl eh7 ?_
    refine V.alq dX2_add_49 (pc' := 50) rfl (j := 0) rfl ?_
    refine V.getr dX2_add_50 (pc' := 53) rfl FL_X2_38 hr (by decide) rfl (r' := r + 7) rfl ?_
    refine V.ilq dX2_add_53 (pc' := 54) rfl (j := 1) rfl ?_
    refine V.dup2 dX2_add_54 (pc' := 55) rfl rfl rfl ?_
    obtain ⟨c8, e⟩ := gd_s e
    refine V.iald dX2_add_55 (pc' := 56) rfl (akX2_7 hr).1 (akX2_7 hr).2 (inb_t c8) ?_
    refine V.ilq dX2_add_56 (pc' := 57) rfl (j := 3) rfl ?_
    refine V.iadd dX2_add_57 (pc' := 58) rfl ?_
    obtain ⟨c9, e⟩ := gd_s e
    obtain ⟨h10, eh10, e⟩ := nm_s e
    refine V.iast dX2_add_58 (pc' := 59) rfl (akX2_7 hr).1 (akX2_7 hr).2 (inb_t c9) eh10 ?_
    refine V.alq dX2_add_59 (pc' := 60) rfl (j := 0) rfl ?_
    refine V.getr dX2_add_60 (pc' := 63) rfl FL_X2_38 hr (by decide) rfl (r' := r + 7) rfl ?_
    refine V.ilq dX2_add_63 (pc' := 64) rfl (j := 2) rfl ?_
    refine V.dup2 dX2_add_64 (pc' := 65) rfl rfl rfl ?_
    obtain ⟨c11, e⟩ := gd_s e
    refine V.iald dX2_add_65 (pc' := 66) rfl (akX2_7 hr).1 (akX2_7 hr).2 (inb_t c11) ?_
    refine V.ilq dX2_add_66 (pc' := 67) rfl (j := 3) rfl ?_
    refine V.iadd dX2_add_67 (pc' := 68) rfl ?_
    obtain ⟨c12, e⟩ := gd_s e
    obtain ⟨h13, eh13, e⟩ := nm_s e
    refine V.iast dX2_add_68 (pc' := 69) rfl (akX2_7 hr).1 (akX2_7 hr).2 (inb_t c12) eh13 ?_
    refine V.pk [] rfl ?_
    exact vX2_add_c69 h13 q e

-- X2_sumAhead (level 0)
theorem dX2_sumAhead_0 : decode cX2_sumAhead 0 = .ok (.iconst 0, 1) := by decide +kernel
theorem dX2_sumAhead_1 : decode cX2_sumAhead 1 = .ok (.istore 4, 2) := by decide +kernel
theorem dX2_sumAhead_3 : decode cX2_sumAhead 3 = .ok (.iconst 0, 1) := by decide +kernel
theorem dX2_sumAhead_4 : decode cX2_sumAhead 4 = .ok (.istore 5, 2) := by decide +kernel
theorem dX2_sumAhead_6 : decode cX2_sumAhead 6 = .ok (.iload 5, 2) := by decide +kernel
theorem dX2_sumAhead_8 : decode cX2_sumAhead 8 = .ok (.iload_n 2, 1) := by decide +kernel
theorem dX2_sumAhead_9 : decode cX2_sumAhead 9 = .ok (.if_icmp .ge 40, 3) := by decide +kernel
theorem dX2_sumAhead_12 : decode cX2_sumAhead 12 = .ok (.aload_n 0, 1) := by decide +kernel
theorem dX2_sumAhead_13 : decode cX2_sumAhead 13 = .ok (.getfield 41, 3) := by decide +kernel
theorem dX2_sumAhead_16 : decode cX2_sumAhead 16 = .ok (.iload 5, 2) := by decide +kernel
theorem dX2_sumAhead_18 : decode cX2_sumAhead 18 = .ok (.iaload, 1) := by decide +kernel
theorem dX2_sumAhead_19 : decode cX2_sumAhead 19 = .ok (.iload_n 3, 1) := by decide +kernel
theorem dX2_sumAhead_20 : decode cX2_sumAhead 20 = .ok (.if_icmp .eq 14, 3) := by decide +kernel
theorem dX2_sumAhead_23 : decode cX2_sumAhead 23 = .ok (.aload_n 0, 1) := by decide +kernel
theorem dX2_sumAhead_24 : decode cX2_sumAhead 24 = .ok (.getfield 44, 3) := by decide +kernel
theorem dX2_sumAhead_27 : decode cX2_sumAhead 27 = .ok (.iload 5, 2) := by decide +kernel
theorem dX2_sumAhead_29 : decode cX2_sumAhead 29 = .ok (.iaload, 1) := by decide +kernel
theorem dX2_sumAhead_30 : decode cX2_sumAhead 30 = .ok (.iload_n 3, 1) := by decide +kernel
theorem dX2_sumAhead_31 : decode cX2_sumAhead 31 = .ok (.if_icmp .ne 12, 3) := by decide +kernel
theorem dX2_sumAhead_34 : decode cX2_sumAhead 34 = .ok (.iload 4, 2) := by decide +kernel
theorem dX2_sumAhead_36 : decode cX2_sumAhead 36 = .ok (.aload_n 1, 1) := by decide +kernel
theorem dX2_sumAhead_37 : decode cX2_sumAhead 37 = .ok (.iload 5, 2) := by decide +kernel
theorem dX2_sumAhead_39 : decode cX2_sumAhead 39 = .ok (.iaload, 1) := by decide +kernel
theorem dX2_sumAhead_40 : decode cX2_sumAhead 40 = .ok (.iadd, 1) := by decide +kernel
theorem dX2_sumAhead_41 : decode cX2_sumAhead 41 = .ok (.istore 4, 2) := by decide +kernel
theorem dX2_sumAhead_43 : decode cX2_sumAhead 43 = .ok (.iinc 5 1, 3) := by decide +kernel
theorem dX2_sumAhead_46 : decode cX2_sumAhead 46 = .ok (.goto (-40), 3) := by decide +kernel
theorem dX2_sumAhead_49 : decode cX2_sumAhead 49 = .ok (.iload 4, 2) := by decide +kernel
theorem dX2_sumAhead_51 : decode cX2_sumAhead 51 = .ok (.ireturn, 1) := by decide +kernel
def sX2_sumAhead_c43 (k6 : Hp → Nat → Nat → Int32 → Int32 → Int32 → Int32 → Option (Int32 × Hp)) (h : Hp) (r : Nat) (a1 : Nat) (v2 : Int32) (v3 : Int32) (v4 : Int32) (v5 : Int32) : Option (Int32 × Hp) :=
  nm (v5 + (1 : Int32)) fun x3 => k6 h r a1 v2 v3 v4 x3
set_option maxRecDepth 10000 in
theorem vX2_sumAhead_c43 (k6 : Hp → Nat → Nat → Int32 → Int32 → Int32 → Int32 → Option (Int32 × Hp)) (hk6 : ∀ (h : Hp) (r : Nat) (a1 : Nat) (v2 : Int32) (v3 : Int32) (v4 : Int32) (v5 : Int32) (hr : ck r = 2) (ha1 : ck a1 = 10 ∧ an a1 = 24) (q : (Int32 × Hp)), k6 h r a1 v2 v3 v4 v5 = some q → V (Gs 0 (pI q)) mX2_sumAhead (0, 0) 6 [(0, .ref r), (1, .ref a1), (2, .int v2), (3, .int v3), (4, .int v4), (5, .int v5)] [] h) (h : Hp) (r : Nat) (a1 : Nat) (v2 : Int32) (v3 : Int32) (v4 : Int32) (v5 : Int32) (hr : ck r = 2) (ha1 : ck a1 = 10 ∧ an a1 = 24) (q : (Int32 × Hp)) (e : sX2_sumAhead_c43 k6 h r a1 v2 v3 v4 v5 = some q) : V (Gs 0 (pI q)) mX2_sumAhead (0, 0) 43 [(0, .ref r), (1, .ref a1), (2, .int v2), (3, .int v3), (4, .int v4), (5, .int v5)] [] h := by
  unfold sX2_sumAhead_c43 at e
  obtain ⟨x3, ex3, e⟩ := nm_s e
  refine V.iinc dX2_sumAhead_43 (pc' := 46) rfl (j := 5) rfl (v := 1) (by decide) (by decide) ex3 (L' := [(5, .int x3), (0, .ref r), (1, .ref a1), (2, .int v2), (3, .int v3), (4, .int v4)]) rfl ?_
  refine V.goto dX2_sumAhead_46 (pc' := 6) (by decide) ?_
  refine V.pk [1, 2, 3, 4, 5, 0] rfl ?_
  exact hk6 h r a1 v2 v3 v4 x3 hr ⟨ha1.1, ha1.2⟩ q e
def sX2_sumAhead_c34 (k6 : Hp → Nat → Nat → Int32 → Int32 → Int32 → Int32 → Option (Int32 × Hp)) (h : Hp) (r : Nat) (a1 : Nat) (v2 : Int32) (v3 : Int32) (v4 : Int32) (v5 : Int32) : Option (Int32 × Hp) :=
  gd (inb v5 24) (nm ((v4 + (h.1 a1 v5.toNatClampNeg))) fun x5 => sX2_sumAhead_c43 k6 h r a1 v2 v3 x5 v5)
set_option maxRecDepth 10000 in
theorem vX2_sumAhead_c34 (k6 : Hp → Nat → Nat → Int32 → Int32 → Int32 → Int32 → Option (Int32 × Hp)) (hk6 : ∀ (h : Hp) (r : Nat) (a1 : Nat) (v2 : Int32) (v3 : Int32) (v4 : Int32) (v5 : Int32) (hr : ck r = 2) (ha1 : ck a1 = 10 ∧ an a1 = 24) (q : (Int32 × Hp)), k6 h r a1 v2 v3 v4 v5 = some q → V (Gs 0 (pI q)) mX2_sumAhead (0, 0) 6 [(0, .ref r), (1, .ref a1), (2, .int v2), (3, .int v3), (4, .int v4), (5, .int v5)] [] h) (h : Hp) (r : Nat) (a1 : Nat) (v2 : Int32) (v3 : Int32) (v4 : Int32) (v5 : Int32) (hr : ck r = 2) (ha1 : ck a1 = 10 ∧ an a1 = 24) (q : (Int32 × Hp)) (e : sX2_sumAhead_c34 k6 h r a1 v2 v3 v4 v5 = some q) : V (Gs 0 (pI q)) mX2_sumAhead (0, 0) 34 [(0, .ref r), (1, .ref a1), (2, .int v2), (3, .int v3), (4, .int v4), (5, .int v5)] [] h := by
  unfold sX2_sumAhead_c34 at e
  refine V.il dX2_sumAhead_34 (pc' := 36) rfl (j := 4) rfl ?_
  refine V.alq dX2_sumAhead_36 (pc' := 37) rfl (j := 1) rfl ?_
  refine V.il dX2_sumAhead_37 (pc' := 39) rfl (j := 5) rfl ?_
  obtain ⟨c4, e⟩ := gd_s e
  refine V.iald dX2_sumAhead_39 (pc' := 40) rfl ha1.1 ha1.2 (inb_t c4) ?_
  refine V.iadd dX2_sumAhead_40 (pc' := 41) rfl ?_
  obtain ⟨x5, ex5, e⟩ := nm_s e
  refine V.is dX2_sumAhead_41 (pc' := 43) rfl (by decide) ex5 (L' := [(4, .int x5), (0, .ref r), (1, .ref a1), (2, .int v2), (3, .int v3), (5, .int v5)]) rfl ?_
  refine V.pk [1, 2, 3, 4, 0, 5] rfl ?_
  exact vX2_sumAhead_c43 k6 hk6 h r a1 v2 v3 x5 v5 hr ⟨ha1.1, ha1.2⟩ q e
def sX2_sumAhead_c6 (k6 : Hp → Nat → Nat → Int32 → Int32 → Int32 → Int32 → Option (Int32 × Hp)) (h : Hp) (r : Nat) (a1 : Nat) (v2 : Int32) (v3 : Int32) (v4 : Int32) (v5 : Int32) : Option (Int32 × Hp) :=
  if v2 ≤ v5 then (some (v4, h)) else (gd (inb v5 24) (if (h.1 (r + 8) v5.toNatClampNeg) = v3 then (sX2_sumAhead_c34 k6 h r a1 v2 v3 v4 v5) else (gd (inb v5 24) (if (h.1 (r + 9) v5.toNatClampNeg) = v3 then (sX2_sumAhead_c34 k6 h r a1 v2 v3 v4 v5) else (sX2_sumAhead_c43 k6 h r a1 v2 v3 v4 v5)))))
set_option maxRecDepth 10000 in
theorem vX2_sumAhead_c6 (k6 : Hp → Nat → Nat → Int32 → Int32 → Int32 → Int32 → Option (Int32 × Hp)) (hk6 : ∀ (h : Hp) (r : Nat) (a1 : Nat) (v2 : Int32) (v3 : Int32) (v4 : Int32) (v5 : Int32) (hr : ck r = 2) (ha1 : ck a1 = 10 ∧ an a1 = 24) (q : (Int32 × Hp)), k6 h r a1 v2 v3 v4 v5 = some q → V (Gs 0 (pI q)) mX2_sumAhead (0, 0) 6 [(0, .ref r), (1, .ref a1), (2, .int v2), (3, .int v3), (4, .int v4), (5, .int v5)] [] h) (h : Hp) (r : Nat) (a1 : Nat) (v2 : Int32) (v3 : Int32) (v4 : Int32) (v5 : Int32) (hr : ck r = 2) (ha1 : ck a1 = 10 ∧ an a1 = 24) (q : (Int32 × Hp)) (e : sX2_sumAhead_c6 k6 h r a1 v2 v3 v4 v5 = some q) : V (Gs 0 (pI q)) mX2_sumAhead (0, 0) 6 [(0, .ref r), (1, .ref a1), (2, .int v2), (3, .int v3), (4, .int v4), (5, .int v5)] [] h := by
  unfold sX2_sumAhead_c6 at e
  refine V.il dX2_sumAhead_6 (pc' := 8) rfl (j := 5) rfl ?_
  refine V.ilq dX2_sumAhead_8 (pc' := 9) rfl (j := 2) rfl ?_
  refine V.ic_ge dX2_sumAhead_9 (pc' := 12) rfl (tgt := 49) (by decide) (fun c => ?_) (fun c => ?_)
  · rw [if_pos c] at e
    refine V.il dX2_sumAhead_49 (pc' := 51) rfl (j := 4) rfl ?_
    exact V.iret dX2_sumAhead_51 rfl (fnI e)
  · rw [if_neg c] at e
    refine V.alq dX2_sumAhead_12 (pc' := 13) rfl (j := 0) rfl ?_
    refine V.getr dX2_sumAhead_13 (pc' := 16) rfl FL_X2_41 hr (by decide) rfl (r' := r + 8) rfl ?_
    refine V.il dX2_sumAhead_16 (pc' := 18) rfl (j := 5) rfl ?_
    obtain ⟨c1, e⟩ := gd_s e
    refine V.iald dX2_sumAhead_18 (pc' := 19) rfl (akX2_8 hr).1 (akX2_8 hr).2 (inb_t c1) ?_
    refine V.ilq dX2_sumAhead_19 (pc' := 20) rfl (j := 3) rfl ?_
    refine V.ic_eq dX2_sumAhead_20 (pc' := 23) rfl (tgt := 34) (by decide) (fun c => ?_) (fun c => ?_)
    · rw [if_pos c] at e
      exact vX2_sumAhead_c34 k6 hk6 h r a1 v2 v3 v4 v5 hr ⟨ha1.1, ha1.2⟩ q e
    · rw [if_neg c] at e
      refine V.alq dX2_sumAhead_23 (pc' := 24) rfl (j := 0) rfl ?_
      refine V.getr dX2_sumAhead_24 (pc' := 27) rfl FL_X2_44 hr (by decide) rfl (r' := r + 9) rfl ?_
      refine V.il dX2_sumAhead_27 (pc' := 29) rfl (j := 5) rfl ?_
      obtain ⟨c2, e⟩ := gd_s e
      refine V.iald dX2_sumAhead_29 (pc' := 30) rfl (akX2_9 hr).1 (akX2_9 hr).2 (inb_t c2) ?_
      refine V.ilq dX2_sumAhead_30 (pc' := 31) rfl (j := 3) rfl ?_
      refine V.ic_ne dX2_sumAhead_31 (pc' := 34) rfl (tgt := 43) (by decide) (fun c => ?_) (fun c => ?_)
      · rw [if_neg c] at e
        exact vX2_sumAhead_c43 k6 hk6 h r a1 v2 v3 v4 v5 hr ⟨ha1.1, ha1.2⟩ q e
      · rw [if_pos c] at e
        exact vX2_sumAhead_c34 k6 hk6 h r a1 v2 v3 v4 v5 hr ⟨ha1.1, ha1.2⟩ q e
def sX2_sumAhead_b6 : Nat → Hp → Nat → Nat → Int32 → Int32 → Int32 → Int32 → Option (Int32 × Hp)
  | 0 => fun _ _ _ _ _ _ _ => none
  | n + 1 => sX2_sumAhead_c6 (sX2_sumAhead_b6 n)
theorem vX2_sumAhead_b6 : ∀ (n : Nat) (h : Hp) (r : Nat) (a1 : Nat) (v2 : Int32) (v3 : Int32) (v4 : Int32) (v5 : Int32) (hr : ck r = 2) (ha1 : ck a1 = 10 ∧ an a1 = 24) (q : (Int32 × Hp)), sX2_sumAhead_b6 n h r a1 v2 v3 v4 v5 = some q → V (Gs 0 (pI q)) mX2_sumAhead (0, 0) 6 [(0, .ref r), (1, .ref a1), (2, .int v2), (3, .int v3), (4, .int v4), (5, .int v5)] [] h
  | 0 => fun _ _ _ _ _ _ _ _ _ _ e => by cases e
  | n + 1 => fun h r a1 v2 v3 v4 v5 hr ha1 q e => vX2_sumAhead_c6 (sX2_sumAhead_b6 n) (vX2_sumAhead_b6 n) h r a1 v2 v3 v4 v5 hr ha1 q e
def sX2_sumAhead (h : Hp) (r : Nat) (a1 : Nat) (a2 : Int32) (a3 : Int32) : Option (Int32 × Hp) :=
  gd (isC r 2) (gd (isA a1 10 24) (sX2_sumAhead_b6 FU h r a1 a2 a3 (0 : Int32) (0 : Int32)))
set_option maxRecDepth 10000 in
theorem kX2_sumAhead (h : Hp) (r : Nat) (a1 : Nat) (a2 : Int32) (a3 : Int32) (q : (Int32 × Hp)) (e : sX2_sumAhead h r a1 a2 a3 = some q) : K 0 mX2_sumAhead [.ref r, .ref a1, .int a2, .int a3] h (pI q) := by
  unfold sX2_sumAhead at e
  obtain ⟨hr, e⟩ := gd_s e
  have hr := isC_t hr
  obtain ⟨ha1, e⟩ := gd_s e
  have ha1 := isA_t ha1
  refine K.ofV (by decide) rfl (Nat.le_of_ble_eq_true rfl) ?_
  show V (Gs 0 (pI q)) mX2_sumAhead (0, 0) 0 [(0, .ref r), (1, .ref a1), (2, .int a2), (3, .int a3)] [] h
  refine V.iconst dX2_sumAhead_0 (pc' := 1) rfl (v := 0) (by decide) ?_
  refine V.is dX2_sumAhead_1 (pc' := 3) rfl (by decide) rfl (L' := [(4, .int (0 : Int32)), (0, .ref r), (1, .ref a1), (2, .int a2), (3, .int a3)]) rfl ?_
  refine V.iconst dX2_sumAhead_3 (pc' := 4) rfl (v := 0) (by decide) ?_
  refine V.is dX2_sumAhead_4 (pc' := 6) rfl (by decide) rfl (L' := [(5, .int (0 : Int32)), (4, .int (0 : Int32)), (0, .ref r), (1, .ref a1), (2, .int a2), (3, .int a3)]) rfl ?_
  refine V.pk [2, 3, 4, 5, 1, 0] rfl ?_
  exact vX2_sumAhead_b6 FU h r a1 a2 a3 (0 : Int32) (0 : Int32) hr ⟨ha1.1, ha1.2⟩ q e

-- X2_wantAsIs (level 0)
theorem dX2_wantAsIs_0 : decode cX2_wantAsIs 0 = .ok (.iconst 0, 1) := by decide +kernel
theorem dX2_wantAsIs_1 : decode cX2_wantAsIs 1 = .ok (.istore_n 1, 1) := by decide +kernel
theorem dX2_wantAsIs_2 : decode cX2_wantAsIs 2 = .ok (.iload_n 1, 1) := by decide +kernel
theorem dX2_wantAsIs_3 : decode cX2_wantAsIs 3 = .ok (.aload_n 0, 1) := by decide +kernel
theorem dX2_wantAsIs_4 : decode cX2_wantAsIs 4 = .ok (.getfield 53, 3) := by decide +kernel
theorem dX2_wantAsIs_7 : decode cX2_wantAsIs 7 = .ok (.if_icmp .ge 21, 3) := by decide +kernel
theorem dX2_wantAsIs_10 : decode cX2_wantAsIs 10 = .ok (.aload_n 0, 1) := by decide +kernel
theorem dX2_wantAsIs_11 : decode cX2_wantAsIs 11 = .ok (.getfield 50, 3) := by decide +kernel
theorem dX2_wantAsIs_14 : decode cX2_wantAsIs 14 = .ok (.iload_n 1, 1) := by decide +kernel
theorem dX2_wantAsIs_15 : decode cX2_wantAsIs 15 = .ok (.aload_n 0, 1) := by decide +kernel
theorem dX2_wantAsIs_16 : decode cX2_wantAsIs 16 = .ok (.getfield 47, 3) := by decide +kernel
theorem dX2_wantAsIs_19 : decode cX2_wantAsIs 19 = .ok (.iload_n 1, 1) := by decide +kernel
theorem dX2_wantAsIs_20 : decode cX2_wantAsIs 20 = .ok (.iaload, 1) := by decide +kernel
theorem dX2_wantAsIs_21 : decode cX2_wantAsIs 21 = .ok (.iastore, 1) := by decide +kernel
theorem dX2_wantAsIs_22 : decode cX2_wantAsIs 22 = .ok (.iinc 1 1, 3) := by decide +kernel
theorem dX2_wantAsIs_25 : decode cX2_wantAsIs 25 = .ok (.goto (-23), 3) := by decide +kernel
theorem dX2_wantAsIs_28 : decode cX2_wantAsIs 28 = .ok (.return_, 1) := by decide +kernel
def sX2_wantAsIs_c2 (k2 : Hp → Nat → Int32 → Option Hp) (h : Hp) (r : Nat) (v1 : Int32) : Option Hp :=
  if (h.1 r 14) ≤ v1 then (some h) else (gd (inb v1 24) (gd (inb v1 24) (nm (u1 h (r + 11) v1.toNatClampNeg (h.1 (r + 10) v1.toNatClampNeg)) fun h3 => nm (v1 + (1 : Int32)) fun x4 => k2 h3 r x4)))
set_option maxRecDepth 10000 in
theorem vX2_wantAsIs_c2 (k2 : Hp → Nat → Int32 → Option Hp) (hk2 : ∀ (h : Hp) (r : Nat) (v1 : Int32) (hr : ck r = 2) (q : Hp), k2 h r v1 = some q → V (Gs 0 (pV q)) mX2_wantAsIs (0, 0) 2 [(0, .ref r), (1, .int v1)] [] h) (h : Hp) (r : Nat) (v1 : Int32) (hr : ck r = 2) (q : Hp) (e : sX2_wantAsIs_c2 k2 h r v1 = some q) : V (Gs 0 (pV q)) mX2_wantAsIs (0, 0) 2 [(0, .ref r), (1, .int v1)] [] h := by
  unfold sX2_wantAsIs_c2 at e
  refine V.ilq dX2_wantAsIs_2 (pc' := 3) rfl (j := 1) rfl ?_
  refine V.alq dX2_wantAsIs_3 (pc' := 4) rfl (j := 0) rfl ?_
  refine V.getf dX2_wantAsIs_4 (pc' := 7) rfl FL_X2_53 hr (by decide) rfl ?_
  refine V.ic_ge dX2_wantAsIs_7 (pc' := 10) rfl (tgt := 28) (by decide) (fun c => ?_) (fun c => ?_)
  · rw [if_pos c] at e
    exact V.vret dX2_wantAsIs_28 rfl (fnV e)
  · rw [if_neg c] at e
    refine V.alq dX2_wantAsIs_10 (pc' := 11) rfl (j := 0) rfl ?_
    refine V.getr dX2_wantAsIs_11 (pc' := 14) rfl FL_X2_50 hr (by decide) rfl (r' := r + 11) rfl ?_
    refine V.ilq dX2_wantAsIs_14 (pc' := 15) rfl (j := 1) rfl ?_
    refine V.alq dX2_wantAsIs_15 (pc' := 16) rfl (j := 0) rfl ?_
    refine V.getr dX2_wantAsIs_16 (pc' := 19) rfl FL_X2_47 hr (by decide) rfl (r' := r + 10) rfl ?_
    refine V.ilq dX2_wantAsIs_19 (pc' := 20) rfl (j := 1) rfl ?_
    obtain ⟨c1, e⟩ := gd_s e
    refine V.iald dX2_wantAsIs_20 (pc' := 21) rfl (akX2_10 hr).1 (akX2_10 hr).2 (inb_t c1) ?_
    obtain ⟨c2, e⟩ := gd_s e
    obtain ⟨h3, eh3, e⟩ := nm_s e
    refine V.iast dX2_wantAsIs_21 (pc' := 22) rfl (akX2_11 hr).1 (akX2_11 hr).2 (inb_t c2) eh3 ?_
    obtain ⟨x4, ex4, e⟩ := nm_s e
    refine V.iinc dX2_wantAsIs_22 (pc' := 25) rfl (j := 1) rfl (v := 1) (by decide) (by decide) ex4 (L' := [(1, .int x4), (0, .ref r)]) rfl ?_
    refine V.goto dX2_wantAsIs_25 (pc' := 2) (by decide) ?_
    refine V.pk [1, 0] rfl ?_
    exact hk2 h3 r x4 hr q e
def sX2_wantAsIs_b2 : Nat → Hp → Nat → Int32 → Option Hp
  | 0 => fun _ _ _ => none
  | n + 1 => sX2_wantAsIs_c2 (sX2_wantAsIs_b2 n)
theorem vX2_wantAsIs_b2 : ∀ (n : Nat) (h : Hp) (r : Nat) (v1 : Int32) (hr : ck r = 2) (q : Hp), sX2_wantAsIs_b2 n h r v1 = some q → V (Gs 0 (pV q)) mX2_wantAsIs (0, 0) 2 [(0, .ref r), (1, .int v1)] [] h
  | 0 => fun _ _ _ _ _ e => by cases e
  | n + 1 => fun h r v1 hr q e => vX2_wantAsIs_c2 (sX2_wantAsIs_b2 n) (vX2_wantAsIs_b2 n) h r v1 hr q e
def sX2_wantAsIs (h : Hp) (r : Nat) : Option Hp :=
  gd (isC r 2) (sX2_wantAsIs_b2 FU h r (0 : Int32))
set_option maxRecDepth 10000 in
theorem kX2_wantAsIs (h : Hp) (r : Nat) (q : Hp) (e : sX2_wantAsIs h r = some q) : K 0 mX2_wantAsIs [.ref r] h (pV q) := by
  unfold sX2_wantAsIs at e
  obtain ⟨hr, e⟩ := gd_s e
  have hr := isC_t hr
  refine K.ofV (by decide) rfl (Nat.le_of_ble_eq_true rfl) ?_
  show V (Gs 0 (pV q)) mX2_wantAsIs (0, 0) 0 [(0, .ref r)] [] h
  refine V.iconst dX2_wantAsIs_0 (pc' := 1) rfl (v := 0) (by decide) ?_
  refine V.isq dX2_wantAsIs_1 (pc' := 2) rfl (by decide) rfl (L' := [(1, .int (0 : Int32)), (0, .ref r)]) rfl ?_
  refine V.pk [1, 0] rfl ?_
  exact vX2_wantAsIs_b2 FU h r (0 : Int32) hr q e

-- X2_markAll (level 0)
theorem dX2_markAll_0 : decode cX2_markAll 0 = .ok (.iconst 0, 1) := by decide +kernel
theorem dX2_markAll_1 : decode cX2_markAll 1 = .ok (.istore_n 2, 1) := by decide +kernel
theorem dX2_markAll_2 : decode cX2_markAll 2 = .ok (.iload_n 2, 1) := by decide +kernel
theorem dX2_markAll_3 : decode cX2_markAll 3 = .ok (.aload_n 0, 1) := by decide +kernel
theorem dX2_markAll_4 : decode cX2_markAll 4 = .ok (.getfield 15, 3) := by decide +kernel
theorem dX2_markAll_7 : decode cX2_markAll 7 = .ok (.if_icmp .ge 16, 3) := by decide +kernel
theorem dX2_markAll_10 : decode cX2_markAll 10 = .ok (.aload_n 0, 1) := by decide +kernel
theorem dX2_markAll_11 : decode cX2_markAll 11 = .ok (.getfield 62, 3) := by decide +kernel
theorem dX2_markAll_14 : decode cX2_markAll 14 = .ok (.iload_n 2, 1) := by decide +kernel
theorem dX2_markAll_15 : decode cX2_markAll 15 = .ok (.iload_n 1, 1) := by decide +kernel
theorem dX2_markAll_16 : decode cX2_markAll 16 = .ok (.iastore, 1) := by decide +kernel
theorem dX2_markAll_17 : decode cX2_markAll 17 = .ok (.iinc 2 1, 3) := by decide +kernel
theorem dX2_markAll_20 : decode cX2_markAll 20 = .ok (.goto (-18), 3) := by decide +kernel
theorem dX2_markAll_23 : decode cX2_markAll 23 = .ok (.return_, 1) := by decide +kernel
def sX2_markAll_c2 (k2 : Hp → Nat → Int32 → Int32 → Option Hp) (h : Hp) (r : Nat) (v1 : Int32) (v2 : Int32) : Option Hp :=
  if (h.1 r 2) ≤ v2 then (some h) else (gd (inb v2 10) (nm (u1 h (r + 13) v2.toNatClampNeg v1) fun h2 => nm (v2 + (1 : Int32)) fun x3 => k2 h2 r v1 x3))
set_option maxRecDepth 10000 in
theorem vX2_markAll_c2 (k2 : Hp → Nat → Int32 → Int32 → Option Hp) (hk2 : ∀ (h : Hp) (r : Nat) (v1 : Int32) (v2 : Int32) (hr : ck r = 2) (q : Hp), k2 h r v1 v2 = some q → V (Gs 0 (pV q)) mX2_markAll (0, 0) 2 [(0, .ref r), (1, .int v1), (2, .int v2)] [] h) (h : Hp) (r : Nat) (v1 : Int32) (v2 : Int32) (hr : ck r = 2) (q : Hp) (e : sX2_markAll_c2 k2 h r v1 v2 = some q) : V (Gs 0 (pV q)) mX2_markAll (0, 0) 2 [(0, .ref r), (1, .int v1), (2, .int v2)] [] h := by
  unfold sX2_markAll_c2 at e
  refine V.ilq dX2_markAll_2 (pc' := 3) rfl (j := 2) rfl ?_
  refine V.alq dX2_markAll_3 (pc' := 4) rfl (j := 0) rfl ?_
  refine V.getf dX2_markAll_4 (pc' := 7) rfl FL_X2_15 hr (by decide) rfl ?_
  refine V.ic_ge dX2_markAll_7 (pc' := 10) rfl (tgt := 23) (by decide) (fun c => ?_) (fun c => ?_)
  · rw [if_pos c] at e
    exact V.vret dX2_markAll_23 rfl (fnV e)
  · rw [if_neg c] at e
    refine V.alq dX2_markAll_10 (pc' := 11) rfl (j := 0) rfl ?_
    refine V.getr dX2_markAll_11 (pc' := 14) rfl FL_X2_62 hr (by decide) rfl (r' := r + 13) rfl ?_
    refine V.ilq dX2_markAll_14 (pc' := 15) rfl (j := 2) rfl ?_
    refine V.ilq dX2_markAll_15 (pc' := 16) rfl (j := 1) rfl ?_
    obtain ⟨c1, e⟩ := gd_s e
    obtain ⟨h2, eh2, e⟩ := nm_s e
    refine V.iast dX2_markAll_16 (pc' := 17) rfl (akX2_13 hr).1 (akX2_13 hr).2 (inb_t c1) eh2 ?_
    obtain ⟨x3, ex3, e⟩ := nm_s e
    refine V.iinc dX2_markAll_17 (pc' := 20) rfl (j := 2) rfl (v := 1) (by decide) (by decide) ex3 (L' := [(2, .int x3), (0, .ref r), (1, .int v1)]) rfl ?_
    refine V.goto dX2_markAll_20 (pc' := 2) (by decide) ?_
    refine V.pk [1, 2, 0] rfl ?_
    exact hk2 h2 r v1 x3 hr q e
def sX2_markAll_b2 : Nat → Hp → Nat → Int32 → Int32 → Option Hp
  | 0 => fun _ _ _ _ => none
  | n + 1 => sX2_markAll_c2 (sX2_markAll_b2 n)
theorem vX2_markAll_b2 : ∀ (n : Nat) (h : Hp) (r : Nat) (v1 : Int32) (v2 : Int32) (hr : ck r = 2) (q : Hp), sX2_markAll_b2 n h r v1 v2 = some q → V (Gs 0 (pV q)) mX2_markAll (0, 0) 2 [(0, .ref r), (1, .int v1), (2, .int v2)] [] h
  | 0 => fun _ _ _ _ _ _ e => by cases e
  | n + 1 => fun h r v1 v2 hr q e => vX2_markAll_c2 (sX2_markAll_b2 n) (vX2_markAll_b2 n) h r v1 v2 hr q e
def sX2_markAll (h : Hp) (r : Nat) (a1 : Int32) : Option Hp :=
  gd (isC r 2) (sX2_markAll_b2 FU h r a1 (0 : Int32))
set_option maxRecDepth 10000 in
theorem kX2_markAll (h : Hp) (r : Nat) (a1 : Int32) (q : Hp) (e : sX2_markAll h r a1 = some q) : K 0 mX2_markAll [.ref r, .int a1] h (pV q) := by
  unfold sX2_markAll at e
  obtain ⟨hr, e⟩ := gd_s e
  have hr := isC_t hr
  refine K.ofV (by decide) rfl (Nat.le_of_ble_eq_true rfl) ?_
  show V (Gs 0 (pV q)) mX2_markAll (0, 0) 0 [(0, .ref r), (1, .int a1)] [] h
  refine V.iconst dX2_markAll_0 (pc' := 1) rfl (v := 0) (by decide) ?_
  refine V.isq dX2_markAll_1 (pc' := 2) rfl (by decide) rfl (L' := [(2, .int (0 : Int32)), (0, .ref r), (1, .int a1)]) rfl ?_
  refine V.pk [1, 2, 0] rfl ?_
  exact vX2_markAll_b2 FU h r a1 (0 : Int32) hr q e

-- X2_joinedStreams (level 0)
theorem dX2_joinedStreams_0 : decode cX2_joinedStreams 0 = .ok (.iconst 0, 1) := by decide +kernel
theorem dX2_joinedStreams_1 : decode cX2_joinedStreams 1 = .ok (.istore_n 1, 1) := by decide +kernel
theorem dX2_joinedStreams_2 : decode cX2_joinedStreams 2 = .ok (.iconst 0, 1) := by decide +kernel
theorem dX2_joinedStreams_3 : decode cX2_joinedStreams 3 = .ok (.istore_n 2, 1) := by decide +kernel
theorem dX2_joinedStreams_4 : decode cX2_joinedStreams 4 = .ok (.iload_n 2, 1) := by decide +kernel
theorem dX2_joinedStreams_5 : decode cX2_joinedStreams 5 = .ok (.aload_n 0, 1) := by decide +kernel
theorem dX2_joinedStreams_6 : decode cX2_joinedStreams 6 = .ok (.getfield 15, 3) := by decide +kernel
theorem dX2_joinedStreams_9 : decode cX2_joinedStreams 9 = .ok (.if_icmp .ge 21, 3) := by decide +kernel
theorem dX2_joinedStreams_12 : decode cX2_joinedStreams 12 = .ok (.aload_n 0, 1) := by decide +kernel
theorem dX2_joinedStreams_13 : decode cX2_joinedStreams 13 = .ok (.getfield 38, 3) := by decide +kernel
theorem dX2_joinedStreams_16 : decode cX2_joinedStreams 16 = .ok (.iload_n 2, 1) := by decide +kernel
theorem dX2_joinedStreams_17 : decode cX2_joinedStreams 17 = .ok (.iaload, 1) := by decide +kernel
theorem dX2_joinedStreams_18 : decode cX2_joinedStreams 18 = .ok (.ifCond .le 6, 3) := by decide +kernel
theorem dX2_joinedStreams_21 : decode cX2_joinedStreams 21 = .ok (.iinc 1 1, 3) := by decide +kernel
theorem dX2_joinedStreams_24 : decode cX2_joinedStreams 24 = .ok (.iinc 2 1, 3) := by decide +kernel
theorem dX2_joinedStreams_27 : decode cX2_joinedStreams 27 = .ok (.goto (-23), 3) := by decide +kernel
theorem dX2_joinedStreams_30 : decode cX2_joinedStreams 30 = .ok (.iload_n 1, 1) := by decide +kernel
theorem dX2_joinedStreams_31 : decode cX2_joinedStreams 31 = .ok (.ireturn, 1) := by decide +kernel
def sX2_joinedStreams_c24 (k4 : Hp → Nat → Int32 → Int32 → Option (Int32 × Hp)) (h : Hp) (r : Nat) (v1 : Int32) (v2 : Int32) : Option (Int32 × Hp) :=
  nm (v2 + (1 : Int32)) fun x3 => k4 h r v1 x3
set_option maxRecDepth 10000 in
theorem vX2_joinedStreams_c24 (k4 : Hp → Nat → Int32 → Int32 → Option (Int32 × Hp)) (hk4 : ∀ (h : Hp) (r : Nat) (v1 : Int32) (v2 : Int32) (hr : ck r = 2) (q : (Int32 × Hp)), k4 h r v1 v2 = some q → V (Gs 0 (pI q)) mX2_joinedStreams (0, 0) 4 [(0, .ref r), (1, .int v1), (2, .int v2)] [] h) (h : Hp) (r : Nat) (v1 : Int32) (v2 : Int32) (hr : ck r = 2) (q : (Int32 × Hp)) (e : sX2_joinedStreams_c24 k4 h r v1 v2 = some q) : V (Gs 0 (pI q)) mX2_joinedStreams (0, 0) 24 [(0, .ref r), (1, .int v1), (2, .int v2)] [] h := by
  unfold sX2_joinedStreams_c24 at e
  obtain ⟨x3, ex3, e⟩ := nm_s e
  refine V.iinc dX2_joinedStreams_24 (pc' := 27) rfl (j := 2) rfl (v := 1) (by decide) (by decide) ex3 (L' := [(2, .int x3), (0, .ref r), (1, .int v1)]) rfl ?_
  refine V.goto dX2_joinedStreams_27 (pc' := 4) (by decide) ?_
  refine V.pk [1, 2, 0] rfl ?_
  exact hk4 h r v1 x3 hr q e
def sX2_joinedStreams_c4 (k4 : Hp → Nat → Int32 → Int32 → Option (Int32 × Hp)) (h : Hp) (r : Nat) (v1 : Int32) (v2 : Int32) : Option (Int32 × Hp) :=
  if (h.1 r 2) ≤ v2 then (some (v1, h)) else (gd (inb v2 10) (if (h.1 (r + 7) v2.toNatClampNeg) ≤ 0 then (sX2_joinedStreams_c24 k4 h r v1 v2) else (nm (v1 + (1 : Int32)) fun x2 => sX2_joinedStreams_c24 k4 h r x2 v2)))
set_option maxRecDepth 10000 in
theorem vX2_joinedStreams_c4 (k4 : Hp → Nat → Int32 → Int32 → Option (Int32 × Hp)) (hk4 : ∀ (h : Hp) (r : Nat) (v1 : Int32) (v2 : Int32) (hr : ck r = 2) (q : (Int32 × Hp)), k4 h r v1 v2 = some q → V (Gs 0 (pI q)) mX2_joinedStreams (0, 0) 4 [(0, .ref r), (1, .int v1), (2, .int v2)] [] h) (h : Hp) (r : Nat) (v1 : Int32) (v2 : Int32) (hr : ck r = 2) (q : (Int32 × Hp)) (e : sX2_joinedStreams_c4 k4 h r v1 v2 = some q) : V (Gs 0 (pI q)) mX2_joinedStreams (0, 0) 4 [(0, .ref r), (1, .int v1), (2, .int v2)] [] h := by
  unfold sX2_joinedStreams_c4 at e
  refine V.ilq dX2_joinedStreams_4 (pc' := 5) rfl (j := 2) rfl ?_
  refine V.alq dX2_joinedStreams_5 (pc' := 6) rfl (j := 0) rfl ?_
  refine V.getf dX2_joinedStreams_6 (pc' := 9) rfl FL_X2_15 hr (by decide) rfl ?_
  refine V.ic_ge dX2_joinedStreams_9 (pc' := 12) rfl (tgt := 30) (by decide) (fun c => ?_) (fun c => ?_)
  · rw [if_pos c] at e
    refine V.ilq dX2_joinedStreams_30 (pc' := 31) rfl (j := 1) rfl ?_
    exact V.iret dX2_joinedStreams_31 rfl (fnI e)
  · rw [if_neg c] at e
    refine V.alq dX2_joinedStreams_12 (pc' := 13) rfl (j := 0) rfl ?_
    refine V.getr dX2_joinedStreams_13 (pc' := 16) rfl FL_X2_38 hr (by decide) rfl (r' := r + 7) rfl ?_
    refine V.ilq dX2_joinedStreams_16 (pc' := 17) rfl (j := 2) rfl ?_
    obtain ⟨c1, e⟩ := gd_s e
    refine V.iald dX2_joinedStreams_17 (pc' := 18) rfl (akX2_7 hr).1 (akX2_7 hr).2 (inb_t c1) ?_
    refine V.if_le dX2_joinedStreams_18 (pc' := 21) rfl (tgt := 24) (by decide) (fun c => ?_) (fun c => ?_)
    · rw [if_pos c] at e
      exact vX2_joinedStreams_c24 k4 hk4 h r v1 v2 hr q e
    · rw [if_neg c] at e
      obtain ⟨x2, ex2, e⟩ := nm_s e
      refine V.iinc dX2_joinedStreams_21 (pc' := 24) rfl (j := 1) rfl (v := 1) (by decide) (by decide) ex2 (L' := [(1, .int x2), (0, .ref r), (2, .int v2)]) rfl ?_
      refine V.pk [1, 0, 2] rfl ?_
      exact vX2_joinedStreams_c24 k4 hk4 h r x2 v2 hr q e
def sX2_joinedStreams_b4 : Nat → Hp → Nat → Int32 → Int32 → Option (Int32 × Hp)
  | 0 => fun _ _ _ _ => none
  | n + 1 => sX2_joinedStreams_c4 (sX2_joinedStreams_b4 n)
theorem vX2_joinedStreams_b4 : ∀ (n : Nat) (h : Hp) (r : Nat) (v1 : Int32) (v2 : Int32) (hr : ck r = 2) (q : (Int32 × Hp)), sX2_joinedStreams_b4 n h r v1 v2 = some q → V (Gs 0 (pI q)) mX2_joinedStreams (0, 0) 4 [(0, .ref r), (1, .int v1), (2, .int v2)] [] h
  | 0 => fun _ _ _ _ _ _ e => by cases e
  | n + 1 => fun h r v1 v2 hr q e => vX2_joinedStreams_c4 (sX2_joinedStreams_b4 n) (vX2_joinedStreams_b4 n) h r v1 v2 hr q e
def sX2_joinedStreams (h : Hp) (r : Nat) : Option (Int32 × Hp) :=
  gd (isC r 2) (sX2_joinedStreams_b4 FU h r (0 : Int32) (0 : Int32))
set_option maxRecDepth 10000 in
theorem kX2_joinedStreams (h : Hp) (r : Nat) (q : (Int32 × Hp)) (e : sX2_joinedStreams h r = some q) : K 0 mX2_joinedStreams [.ref r] h (pI q) := by
  unfold sX2_joinedStreams at e
  obtain ⟨hr, e⟩ := gd_s e
  have hr := isC_t hr
  refine K.ofV (by decide) rfl (Nat.le_of_ble_eq_true rfl) ?_
  show V (Gs 0 (pI q)) mX2_joinedStreams (0, 0) 0 [(0, .ref r)] [] h
  refine V.iconst dX2_joinedStreams_0 (pc' := 1) rfl (v := 0) (by decide) ?_
  refine V.isq dX2_joinedStreams_1 (pc' := 2) rfl (by decide) rfl (L' := [(1, .int (0 : Int32)), (0, .ref r)]) rfl ?_
  refine V.iconst dX2_joinedStreams_2 (pc' := 3) rfl (v := 0) (by decide) ?_
  refine V.isq dX2_joinedStreams_3 (pc' := 4) rfl (by decide) rfl (L' := [(2, .int (0 : Int32)), (1, .int (0 : Int32)), (0, .ref r)]) rfl ?_
  refine V.pk [2, 1, 0] rfl ?_
  exact vX2_joinedStreams_b4 FU h r (0 : Int32) (0 : Int32) hr q e

-- X2_mergers (level 0)
theorem dX2_mergers_0 : decode cX2_mergers 0 = .ok (.iconst 0, 1) := by decide +kernel
theorem dX2_mergers_1 : decode cX2_mergers 1 = .ok (.istore_n 1, 1) := by decide +kernel
theorem dX2_mergers_2 : decode cX2_mergers 2 = .ok (.iload_n 1, 1) := by decide +kernel
theorem dX2_mergers_3 : decode cX2_mergers 3 = .ok (.aload_n 0, 1) := by decide +kernel
theorem dX2_mergers_4 : decode cX2_mergers 4 = .ok (.getfield 15, 3) := by decide +kernel
theorem dX2_mergers_7 : decode cX2_mergers 7 = .ok (.if_icmp .ge 16, 3) := by decide +kernel
theorem dX2_mergers_10 : decode cX2_mergers 10 = .ok (.aload_n 0, 1) := by decide +kernel
theorem dX2_mergers_11 : decode cX2_mergers 11 = .ok (.getfield 62, 3) := by decide +kernel
theorem dX2_mergers_14 : decode cX2_mergers 14 = .ok (.iload_n 1, 1) := by decide +kernel
theorem dX2_mergers_15 : decode cX2_mergers 15 = .ok (.iload_n 1, 1) := by decide +kernel
theorem dX2_mergers_16 : decode cX2_mergers 16 = .ok (.iastore, 1) := by decide +kernel
theorem dX2_mergers_17 : decode cX2_mergers 17 = .ok (.iinc 1 1, 3) := by decide +kernel
theorem dX2_mergers_20 : decode cX2_mergers 20 = .ok (.goto (-18), 3) := by decide +kernel
theorem dX2_mergers_23 : decode cX2_mergers 23 = .ok (.iconst 0, 1) := by decide +kernel
theorem dX2_mergers_24 : decode cX2_mergers 24 = .ok (.istore_n 1, 1) := by decide +kernel
theorem dX2_mergers_25 : decode cX2_mergers 25 = .ok (.iconst 0, 1) := by decide +kernel
theorem dX2_mergers_26 : decode cX2_mergers 26 = .ok (.istore_n 2, 1) := by decide +kernel
theorem dX2_mergers_27 : decode cX2_mergers 27 = .ok (.iload_n 2, 1) := by decide +kernel
theorem dX2_mergers_28 : decode cX2_mergers 28 = .ok (.aload_n 0, 1) := by decide +kernel
theorem dX2_mergers_29 : decode cX2_mergers 29 = .ok (.getfield 53, 3) := by decide +kernel
theorem dX2_mergers_32 : decode cX2_mergers 32 = .ok (.if_icmp .ge 91, 3) := by decide +kernel
theorem dX2_mergers_35 : decode cX2_mergers 35 = .ok (.aload_n 0, 1) := by decide +kernel
theorem dX2_mergers_36 : decode cX2_mergers 36 = .ok (.getfield 62, 3) := by decide +kernel
theorem dX2_mergers_39 : decode cX2_mergers 39 = .ok (.aload_n 0, 1) := by decide +kernel
theorem dX2_mergers_40 : decode cX2_mergers 40 = .ok (.getfield 41, 3) := by decide +kernel
theorem dX2_mergers_43 : decode cX2_mergers 43 = .ok (.iload_n 2, 1) := by decide +kernel
theorem dX2_mergers_44 : decode cX2_mergers 44 = .ok (.iaload, 1) := by decide +kernel
theorem dX2_mergers_45 : decode cX2_mergers 45 = .ok (.iaload, 1) := by decide +kernel
theorem dX2_mergers_46 : decode cX2_mergers 46 = .ok (.istore_n 3, 1) := by decide +kernel
theorem dX2_mergers_47 : decode cX2_mergers 47 = .ok (.aload_n 0, 1) := by decide +kernel
theorem dX2_mergers_48 : decode cX2_mergers 48 = .ok (.getfield 62, 3) := by decide +kernel
theorem dX2_mergers_51 : decode cX2_mergers 51 = .ok (.aload_n 0, 1) := by decide +kernel
theorem dX2_mergers_52 : decode cX2_mergers 52 = .ok (.getfield 44, 3) := by decide +kernel
theorem dX2_mergers_55 : decode cX2_mergers 55 = .ok (.iload_n 2, 1) := by decide +kernel
theorem dX2_mergers_56 : decode cX2_mergers 56 = .ok (.iaload, 1) := by decide +kernel
theorem dX2_mergers_57 : decode cX2_mergers 57 = .ok (.iaload, 1) := by decide +kernel
theorem dX2_mergers_58 : decode cX2_mergers 58 = .ok (.istore 4, 2) := by decide +kernel
theorem dX2_mergers_60 : decode cX2_mergers 60 = .ok (.iload_n 3, 1) := by decide +kernel
theorem dX2_mergers_61 : decode cX2_mergers 61 = .ok (.iload 4, 2) := by decide +kernel
theorem dX2_mergers_63 : decode cX2_mergers 63 = .ok (.if_icmp .eq 54, 3) := by decide +kernel
theorem dX2_mergers_66 : decode cX2_mergers 66 = .ok (.iinc 1 1, 3) := by decide +kernel
theorem dX2_mergers_69 : decode cX2_mergers 69 = .ok (.iconst 0, 1) := by decide +kernel
theorem dX2_mergers_70 : decode cX2_mergers 70 = .ok (.istore 5, 2) := by decide +kernel
theorem dX2_mergers_72 : decode cX2_mergers 72 = .ok (.iload 5, 2) := by decide +kernel
theorem dX2_mergers_74 : decode cX2_mergers 74 = .ok (.aload_n 0, 1) := by decide +kernel
theorem dX2_mergers_75 : decode cX2_mergers 75 = .ok (.getfield 15, 3) := by decide +kernel
theorem dX2_mergers_78 : decode cX2_mergers 78 = .ok (.if_icmp .ge 39, 3) := by decide +kernel
theorem dX2_mergers_81 : decode cX2_mergers 81 = .ok (.aload_n 0, 1) := by decide +kernel
theorem dX2_mergers_82 : decode cX2_mergers 82 = .ok (.getfield 62, 3) := by decide +kernel
theorem dX2_mergers_85 : decode cX2_mergers 85 = .ok (.iload 5, 2) := by decide +kernel
theorem dX2_mergers_87 : decode cX2_mergers 87 = .ok (.aload_n 0, 1) := by decide +kernel
theorem dX2_mergers_88 : decode cX2_mergers 88 = .ok (.getfield 62, 3) := by decide +kernel
theorem dX2_mergers_91 : decode cX2_mergers 91 = .ok (.iload 5, 2) := by decide +kernel
theorem dX2_mergers_93 : decode cX2_mergers 93 = .ok (.iaload, 1) := by decide +kernel
theorem dX2_mergers_94 : decode cX2_mergers 94 = .ok (.iload_n 3, 1) := by decide +kernel
theorem dX2_mergers_95 : decode cX2_mergers 95 = .ok (.if_icmp .ne 8, 3) := by decide +kernel
theorem dX2_mergers_98 : decode cX2_mergers 98 = .ok (.iload 4, 2) := by decide +kernel
theorem dX2_mergers_100 : decode cX2_mergers 100 = .ok (.goto 10, 3) := by decide +kernel
theorem dX2_mergers_103 : decode cX2_mergers 103 = .ok (.aload_n 0, 1) := by decide +kernel
theorem dX2_mergers_104 : decode cX2_mergers 104 = .ok (.getfield 62, 3) := by decide +kernel
theorem dX2_mergers_107 : decode cX2_mergers 107 = .ok (.iload 5, 2) := by decide +kernel
theorem dX2_mergers_109 : decode cX2_mergers 109 = .ok (.iaload, 1) := by decide +kernel
theorem dX2_mergers_110 : decode cX2_mergers 110 = .ok (.iastore, 1) := by decide +kernel
theorem dX2_mergers_111 : decode cX2_mergers 111 = .ok (.iinc 5 1, 3) := by decide +kernel
theorem dX2_mergers_114 : decode cX2_mergers 114 = .ok (.goto (-42), 3) := by decide +kernel
theorem dX2_mergers_117 : decode cX2_mergers 117 = .ok (.iinc 2 1, 3) := by decide +kernel
theorem dX2_mergers_120 : decode cX2_mergers 120 = .ok (.goto (-93), 3) := by decide +kernel
theorem dX2_mergers_123 : decode cX2_mergers 123 = .ok (.iload_n 1, 1) := by decide +kernel
theorem dX2_mergers_124 : decode cX2_mergers 124 = .ok (.ireturn, 1) := by decide +kernel
def sX2_mergers_c110 (k27 : Hp → Nat → Int32 → Int32 → Option (Int32 × Hp)) (k72 : Hp → Nat → Int32 → Int32 → Int32 → Int32 → Int32 → Option (Int32 × Hp)) (h : Hp) (r : Nat) (v1 : Int32) (v2 : Int32) (v3 : Int32) (v4 : Int32) (v5 : Int32) (t0 : Int32) (t1 : Int32) : Option (Int32 × Hp) :=
  gd (inb t1 10) (nm (u1 h (r + 13) t1.toNatClampNeg t0) fun h14 => nm (v5 + (1 : Int32)) fun x15 => k72 h14 r v1 v2 v3 v4 x15)
set_option maxRecDepth 10000 in
theorem vX2_mergers_c110 (k27 : Hp → Nat → Int32 → Int32 → Option (Int32 × Hp)) (hk27 : ∀ (h : Hp) (r : Nat) (v1 : Int32) (v2 : Int32) (hr : ck r = 2) (q : (Int32 × Hp)), k27 h r v1 v2 = some q → V (Gs 0 (pI q)) mX2_mergers (0, 0) 27 [(0, .ref r), (1, .int v1), (2, .int v2)] [] h) (k72 : Hp → Nat → Int32 → Int32 → Int32 → Int32 → Int32 → Option (Int32 × Hp)) (hk72 : ∀ (h : Hp) (r : Nat) (v1 : Int32) (v2 : Int32) (v3 : Int32) (v4 : Int32) (v5 : Int32) (hr : ck r = 2) (q : (Int32 × Hp)), k72 h r v1 v2 v3 v4 v5 = some q → V (Gs 0 (pI q)) mX2_mergers (0, 0) 72 [(0, .ref r), (1, .int v1), (2, .int v2), (3, .int v3), (4, .int v4), (5, .int v5)] [] h) (h : Hp) (r : Nat) (v1 : Int32) (v2 : Int32) (v3 : Int32) (v4 : Int32) (v5 : Int32) (t0 : Int32) (t1 : Int32) (hr : ck r = 2) (q : (Int32 × Hp)) (e : sX2_mergers_c110 k27 k72 h r v1 v2 v3 v4 v5 t0 t1 = some q) : V (Gs 0 (pI q)) mX2_mergers (0, 0) 110 [(0, .ref r), (1, .int v1), (2, .int v2), (3, .int v3), (4, .int v4), (5, .int v5)] [.int t0, .int t1, .ref (r + 13)] h := by
  unfold sX2_mergers_c110 at e
  obtain ⟨c13, e⟩ := gd_s e
  obtain ⟨h14, eh14, e⟩ := nm_s e
  refine V.iast dX2_mergers_110 (pc' := 111) rfl (akX2_13 hr).1 (akX2_13 hr).2 (inb_t c13) eh14 ?_
  obtain ⟨x15, ex15, e⟩ := nm_s e
  refine V.iinc dX2_mergers_111 (pc' := 114) rfl (j := 5) rfl (v := 1) (by decide) (by decide) ex15 (L' := [(5, .int x15), (0, .ref r), (1, .int v1), (2, .int v2), (3, .int v3), (4, .int v4)]) rfl ?_
  refine V.goto dX2_mergers_114 (pc' := 72) (by decide) ?_
  refine V.pk [1, 2, 3, 4, 5, 0] rfl ?_
  exact hk72 h14 r v1 v2 v3 v4 x15 hr q e
def sX2_mergers_c117 (k27 : Hp → Nat → Int32 → Int32 → Option (Int32 × Hp)) (h : Hp) (r : Nat) (v1 : Int32) (v2 : Int32) : Option (Int32 × Hp) :=
  nm (v2 + (1 : Int32)) fun x16 => k27 h r v1 x16
set_option maxRecDepth 10000 in
theorem vX2_mergers_c117 (k27 : Hp → Nat → Int32 → Int32 → Option (Int32 × Hp)) (hk27 : ∀ (h : Hp) (r : Nat) (v1 : Int32) (v2 : Int32) (hr : ck r = 2) (q : (Int32 × Hp)), k27 h r v1 v2 = some q → V (Gs 0 (pI q)) mX2_mergers (0, 0) 27 [(0, .ref r), (1, .int v1), (2, .int v2)] [] h) (h : Hp) (r : Nat) (v1 : Int32) (v2 : Int32) (hr : ck r = 2) (q : (Int32 × Hp)) (e : sX2_mergers_c117 k27 h r v1 v2 = some q) : V (Gs 0 (pI q)) mX2_mergers (0, 0) 117 [(0, .ref r), (1, .int v1), (2, .int v2)] [] h := by
  unfold sX2_mergers_c117 at e
  obtain ⟨x16, ex16, e⟩ := nm_s e
  refine V.iinc dX2_mergers_117 (pc' := 120) rfl (j := 2) rfl (v := 1) (by decide) (by decide) ex16 (L' := [(2, .int x16), (0, .ref r), (1, .int v1)]) rfl ?_
  refine V.goto dX2_mergers_120 (pc' := 27) (by decide) ?_
  refine V.pk [1, 2, 0] rfl ?_
  exact hk27 h r v1 x16 hr q e
def sX2_mergers_c72 (k27 : Hp → Nat → Int32 → Int32 → Option (Int32 × Hp)) (k72 : Hp → Nat → Int32 → Int32 → Int32 → Int32 → Int32 → Option (Int32 × Hp)) (h : Hp) (r : Nat) (v1 : Int32) (v2 : Int32) (v3 : Int32) (v4 : Int32) (v5 : Int32) : Option (Int32 × Hp) :=
  if (h.1 r 2) ≤ v5 then (sX2_mergers_c117 k27 h r v1 v2) else (gd (inb v5 10) (if (h.1 (r + 13) v5.toNatClampNeg) = v3 then (sX2_mergers_c110 k27 k72 h r v1 v2 v3 v4 v5 v4 v5) else (gd (inb v5 10) (sX2_mergers_c110 k27 k72 h r v1 v2 v3 v4 v5 (h.1 (r + 13) v5.toNatClampNeg) v5))))
set_option maxRecDepth 10000 in
theorem vX2_mergers_c72 (k27 : Hp → Nat → Int32 → Int32 → Option (Int32 × Hp)) (hk27 : ∀ (h : Hp) (r : Nat) (v1 : Int32) (v2 : Int32) (hr : ck r = 2) (q : (Int32 × Hp)), k27 h r v1 v2 = some q → V (Gs 0 (pI q)) mX2_mergers (0, 0) 27 [(0, .ref r), (1, .int v1), (2, .int v2)] [] h) (k72 : Hp → Nat → Int32 → Int32 → Int32 → Int32 → Int32 → Option (Int32 × Hp)) (hk72 : ∀ (h : Hp) (r : Nat) (v1 : Int32) (v2 : Int32) (v3 : Int32) (v4 : Int32) (v5 : Int32) (hr : ck r = 2) (q : (Int32 × Hp)), k72 h r v1 v2 v3 v4 v5 = some q → V (Gs 0 (pI q)) mX2_mergers (0, 0) 72 [(0, .ref r), (1, .int v1), (2, .int v2), (3, .int v3), (4, .int v4), (5, .int v5)] [] h) (h : Hp) (r : Nat) (v1 : Int32) (v2 : Int32) (v3 : Int32) (v4 : Int32) (v5 : Int32) (hr : ck r = 2) (q : (Int32 × Hp)) (e : sX2_mergers_c72 k27 k72 h r v1 v2 v3 v4 v5 = some q) : V (Gs 0 (pI q)) mX2_mergers (0, 0) 72 [(0, .ref r), (1, .int v1), (2, .int v2), (3, .int v3), (4, .int v4), (5, .int v5)] [] h := by
  unfold sX2_mergers_c72 at e
  refine V.il dX2_mergers_72 (pc' := 74) rfl (j := 5) rfl ?_
  refine V.alq dX2_mergers_74 (pc' := 75) rfl (j := 0) rfl ?_
  refine V.getf dX2_mergers_75 (pc' := 78) rfl FL_X2_15 hr (by decide) rfl ?_
  refine V.ic_ge dX2_mergers_78 (pc' := 81) rfl (tgt := 117) (by decide) (fun c => ?_) (fun c => ?_)
  · rw [if_pos c] at e
    refine V.pk [0, 1, 2] rfl ?_
    exact vX2_mergers_c117 k27 hk27 h r v1 v2 hr q e
  · rw [if_neg c] at e
    refine V.alq dX2_mergers_81 (pc' := 82) rfl (j := 0) rfl ?_
    refine V.getr dX2_mergers_82 (pc' := 85) rfl FL_X2_62 hr (by decide) rfl (r' := r + 13) rfl ?_
    refine V.il dX2_mergers_85 (pc' := 87) rfl (j := 5) rfl ?_
    refine V.alq dX2_mergers_87 (pc' := 88) rfl (j := 0) rfl ?_
    refine V.getr dX2_mergers_88 (pc' := 91) rfl FL_X2_62 hr (by decide) rfl (r' := r + 13) rfl ?_
    refine V.il dX2_mergers_91 (pc' := 93) rfl (j := 5) rfl ?_
    obtain ⟨c11, e⟩ := gd_s e
    refine V.iald dX2_mergers_93 (pc' := 94) rfl (akX2_13 hr).1 (akX2_13 hr).2 (inb_t c11) ?_
    refine V.ilq dX2_mergers_94 (pc' := 95) rfl (j := 3) rfl ?_
    refine V.ic_ne dX2_mergers_95 (pc' := 98) rfl (tgt := 103) (by decide) (fun c => ?_) (fun c => ?_)
    · rw [if_neg c] at e
      refine V.alq dX2_mergers_103 (pc' := 104) rfl (j := 0) rfl ?_
      refine V.getr dX2_mergers_104 (pc' := 107) rfl FL_X2_62 hr (by decide) rfl (r' := r + 13) rfl ?_
      refine V.il dX2_mergers_107 (pc' := 109) rfl (j := 5) rfl ?_
      obtain ⟨c12, e⟩ := gd_s e
      refine V.iald dX2_mergers_109 (pc' := 110) rfl (akX2_13 hr).1 (akX2_13 hr).2 (inb_t c12) ?_
      exact vX2_mergers_c110 k27 hk27 k72 hk72 h r v1 v2 v3 v4 v5 (h.1 (r + 13) v5.toNatClampNeg) v5 hr q e
    · rw [if_pos c] at e
      refine V.il dX2_mergers_98 (pc' := 100) rfl (j := 4) rfl ?_
      refine V.goto dX2_mergers_100 (pc' := 110) (by decide) ?_
      exact vX2_mergers_c110 k27 hk27 k72 hk72 h r v1 v2 v3 v4 v5 v4 v5 hr q e
def sX2_mergers_b72 (k27 : Hp → Nat → Int32 → Int32 → Option (Int32 × Hp)) : Nat → Hp → Nat → Int32 → Int32 → Int32 → Int32 → Int32 → Option (Int32 × Hp)
  | 0 => fun _ _ _ _ _ _ _ => none
  | n + 1 => sX2_mergers_c72 k27 (sX2_mergers_b72 k27 n)
theorem vX2_mergers_b72 (k27 : Hp → Nat → Int32 → Int32 → Option (Int32 × Hp)) (hk27 : ∀ (h : Hp) (r : Nat) (v1 : Int32) (v2 : Int32) (hr : ck r = 2) (q : (Int32 × Hp)), k27 h r v1 v2 = some q → V (Gs 0 (pI q)) mX2_mergers (0, 0) 27 [(0, .ref r), (1, .int v1), (2, .int v2)] [] h) : ∀ (n : Nat) (h : Hp) (r : Nat) (v1 : Int32) (v2 : Int32) (v3 : Int32) (v4 : Int32) (v5 : Int32) (hr : ck r = 2) (q : (Int32 × Hp)), sX2_mergers_b72 k27 n h r v1 v2 v3 v4 v5 = some q → V (Gs 0 (pI q)) mX2_mergers (0, 0) 72 [(0, .ref r), (1, .int v1), (2, .int v2), (3, .int v3), (4, .int v4), (5, .int v5)] [] h
  | 0 => fun _ _ _ _ _ _ _ _ _ e => by cases e
  | n + 1 => fun h r v1 v2 v3 v4 v5 hr q e => vX2_mergers_c72 k27 hk27 (sX2_mergers_b72 k27 n) (vX2_mergers_b72 k27 hk27 n) h r v1 v2 v3 v4 v5 hr q e
def sX2_mergers_c27 (k27 : Hp → Nat → Int32 → Int32 → Option (Int32 × Hp)) (h : Hp) (r : Nat) (v1 : Int32) (v2 : Int32) : Option (Int32 × Hp) :=
  if (h.1 r 14) ≤ v2 then (some (v1, h)) else (gd (inb v2 24) (gd (inb (h.1 (r + 8) v2.toNatClampNeg) 10) (nm ((h.1 (r + 13) (h.1 (r + 8) v2.toNatClampNeg).toNatClampNeg)) fun x6 => gd (inb v2 24) (gd (inb (h.1 (r + 9) v2.toNatClampNeg) 10) (nm ((h.1 (r + 13) (h.1 (r + 9) v2.toNatClampNeg).toNatClampNeg)) fun x9 => if x6 = x9 then (sX2_mergers_c117 k27 h r v1 v2) else (nm (v1 + (1 : Int32)) fun x10 => sX2_mergers_b72 k27 FU h r x10 v2 x6 x9 (0 : Int32)))))))
set_option maxRecDepth 10000 in
theorem vX2_mergers_c27 (k27 : Hp → Nat → Int32 → Int32 → Option (Int32 × Hp)) (hk27 : ∀ (h : Hp) (r : Nat) (v1 : Int32) (v2 : Int32) (hr : ck r = 2) (q : (Int32 × Hp)), k27 h r v1 v2 = some q → V (Gs 0 (pI q)) mX2_mergers (0, 0) 27 [(0, .ref r), (1, .int v1), (2, .int v2)] [] h) (h : Hp) (r : Nat) (v1 : Int32) (v2 : Int32) (hr : ck r = 2) (q : (Int32 × Hp)) (e : sX2_mergers_c27 k27 h r v1 v2 = some q) : V (Gs 0 (pI q)) mX2_mergers (0, 0) 27 [(0, .ref r), (1, .int v1), (2, .int v2)] [] h := by
  unfold sX2_mergers_c27 at e
  refine V.ilq dX2_mergers_27 (pc' := 28) rfl (j := 2) rfl ?_
  refine V.alq dX2_mergers_28 (pc' := 29) rfl (j := 0) rfl ?_
  refine V.getf dX2_mergers_29 (pc' := 32) rfl FL_X2_53 hr (by decide) rfl ?_
  refine V.ic_ge dX2_mergers_32 (pc' := 35) rfl (tgt := 123) (by decide) (fun c => ?_) (fun c => ?_)
  · rw [if_pos c] at e
    refine V.ilq dX2_mergers_123 (pc' := 124) rfl (j := 1) rfl ?_
    exact V.iret dX2_mergers_124 rfl (fnI e)
  · rw [if_neg c] at e
    refine V.alq dX2_mergers_35 (pc' := 36) rfl (j := 0) rfl ?_
    refine V.getr dX2_mergers_36 (pc' := 39) rfl FL_X2_62 hr (by decide) rfl (r' := r + 13) rfl ?_
    refine V.alq dX2_mergers_39 (pc' := 40) rfl (j := 0) rfl ?_
    refine V.getr dX2_mergers_40 (pc' := 43) rfl FL_X2_41 hr (by decide) rfl (r' := r + 8) rfl ?_
    refine V.ilq dX2_mergers_43 (pc' := 44) rfl (j := 2) rfl ?_
    obtain ⟨c4, e⟩ := gd_s e
    refine V.iald dX2_mergers_44 (pc' := 45) rfl (akX2_8 hr).1 (akX2_8 hr).2 (inb_t c4) ?_
    obtain ⟨c5, e⟩ := gd_s e
    refine V.iald dX2_mergers_45 (pc' := 46) rfl (akX2_13 hr).1 (akX2_13 hr).2 (inb_t c5) ?_
    obtain ⟨x6, ex6, e⟩ := nm_s e
    refine V.isq dX2_mergers_46 (pc' := 47) rfl (by decide) ex6 (L' := [(3, .int x6), (0, .ref r), (1, .int v1), (2, .int v2)]) rfl ?_
    refine V.alq dX2_mergers_47 (pc' := 48) rfl (j := 1) rfl ?_
    refine V.getr dX2_mergers_48 (pc' := 51) rfl FL_X2_62 hr (by decide) rfl (r' := r + 13) rfl ?_
    refine V.alq dX2_mergers_51 (pc' := 52) rfl (j := 1) rfl ?_
    refine V.getr dX2_mergers_52 (pc' := 55) rfl FL_X2_44 hr (by decide) rfl (r' := r + 9) rfl ?_
    refine V.ilq dX2_mergers_55 (pc' := 56) rfl (j := 3) rfl ?_
    obtain ⟨c7, e⟩ := gd_s e
    refine V.iald dX2_mergers_56 (pc' := 57) rfl (akX2_9 hr).1 (akX2_9 hr).2 (inb_t c7) ?_
    obtain ⟨c8, e⟩ := gd_s e
    refine V.iald dX2_mergers_57 (pc' := 58) rfl (akX2_13 hr).1 (akX2_13 hr).2 (inb_t c8) ?_
    obtain ⟨x9, ex9, e⟩ := nm_s e
    refine V.is dX2_mergers_58 (pc' := 60) rfl (by decide) ex9 (L' := [(4, .int x9), (3, .int x6), (0, .ref r), (1, .int v1), (2, .int v2)]) rfl ?_
    refine V.ilq dX2_mergers_60 (pc' := 61) rfl (j := 1) rfl ?_
    refine V.il dX2_mergers_61 (pc' := 63) rfl (j := 0) rfl ?_
    refine V.ic_eq dX2_mergers_63 (pc' := 66) rfl (tgt := 117) (by decide) (fun c => ?_) (fun c => ?_)
    · rw [if_pos c] at e
      refine V.pk [2, 3, 4] rfl ?_
      exact vX2_mergers_c117 k27 hk27 h r v1 v2 hr q e
    · rw [if_neg c] at e
      obtain ⟨x10, ex10, e⟩ := nm_s e
      refine V.iinc dX2_mergers_66 (pc' := 69) rfl (j := 3) rfl (v := 1) (by decide) (by decide) ex10 (L' := [(1, .int x10), (4, .int x9), (3, .int x6), (0, .ref r), (2, .int v2)]) rfl ?_
      refine V.iconst dX2_mergers_69 (pc' := 70) rfl (v := 0) (by decide) ?_
      refine V.is dX2_mergers_70 (pc' := 72) rfl (by decide) rfl (L' := [(5, .int (0 : Int32)), (1, .int x10), (4, .int x9), (3, .int x6), (0, .ref r), (2, .int v2)]) rfl ?_
      refine V.pk [4, 1, 5, 3, 2, 0] rfl ?_
      exact vX2_mergers_b72 k27 hk27 FU h r x10 v2 x6 x9 (0 : Int32) hr q e
def sX2_mergers_b27 : Nat → Hp → Nat → Int32 → Int32 → Option (Int32 × Hp)
  | 0 => fun _ _ _ _ => none
  | n + 1 => sX2_mergers_c27 (sX2_mergers_b27 n)
theorem vX2_mergers_b27 : ∀ (n : Nat) (h : Hp) (r : Nat) (v1 : Int32) (v2 : Int32) (hr : ck r = 2) (q : (Int32 × Hp)), sX2_mergers_b27 n h r v1 v2 = some q → V (Gs 0 (pI q)) mX2_mergers (0, 0) 27 [(0, .ref r), (1, .int v1), (2, .int v2)] [] h
  | 0 => fun _ _ _ _ _ _ e => by cases e
  | n + 1 => fun h r v1 v2 hr q e => vX2_mergers_c27 (sX2_mergers_b27 n) (vX2_mergers_b27 n) h r v1 v2 hr q e
def sX2_mergers_c2 (k2 : Hp → Nat → Int32 → Option (Int32 × Hp)) (h : Hp) (r : Nat) (v1 : Int32) : Option (Int32 × Hp) :=
  if (h.1 r 2) ≤ v1 then (sX2_mergers_b27 FU h r (0 : Int32) (0 : Int32)) else (gd (inb v1 10) (nm (u1 h (r + 13) v1.toNatClampNeg v1) fun h2 => nm (v1 + (1 : Int32)) fun x3 => k2 h2 r x3))
set_option maxRecDepth 10000 in
theorem vX2_mergers_c2 (k2 : Hp → Nat → Int32 → Option (Int32 × Hp)) (hk2 : ∀ (h : Hp) (r : Nat) (v1 : Int32) (hr : ck r = 2) (q : (Int32 × Hp)), k2 h r v1 = some q → V (Gs 0 (pI q)) mX2_mergers (0, 0) 2 [(0, .ref r), (1, .int v1)] [] h) (h : Hp) (r : Nat) (v1 : Int32) (hr : ck r = 2) (q : (Int32 × Hp)) (e : sX2_mergers_c2 k2 h r v1 = some q) : V (Gs 0 (pI q)) mX2_mergers (0, 0) 2 [(0, .ref r), (1, .int v1)] [] h := by
  unfold sX2_mergers_c2 at e
  refine V.ilq dX2_mergers_2 (pc' := 3) rfl (j := 1) rfl ?_
  refine V.alq dX2_mergers_3 (pc' := 4) rfl (j := 0) rfl ?_
  refine V.getf dX2_mergers_4 (pc' := 7) rfl FL_X2_15 hr (by decide) rfl ?_
  refine V.ic_ge dX2_mergers_7 (pc' := 10) rfl (tgt := 23) (by decide) (fun c => ?_) (fun c => ?_)
  · rw [if_pos c] at e
    refine V.iconst dX2_mergers_23 (pc' := 24) rfl (v := 0) (by decide) ?_
    refine V.isq dX2_mergers_24 (pc' := 25) rfl (by decide) rfl (L' := [(1, .int (0 : Int32)), (0, .ref r)]) rfl ?_
    refine V.iconst dX2_mergers_25 (pc' := 26) rfl (v := 0) (by decide) ?_
    refine V.isq dX2_mergers_26 (pc' := 27) rfl (by decide) rfl (L' := [(2, .int (0 : Int32)), (1, .int (0 : Int32)), (0, .ref r)]) rfl ?_
    refine V.pk [2, 1, 0] rfl ?_
    exact vX2_mergers_b27 FU h r (0 : Int32) (0 : Int32) hr q e
  · rw [if_neg c] at e
    refine V.alq dX2_mergers_10 (pc' := 11) rfl (j := 0) rfl ?_
    refine V.getr dX2_mergers_11 (pc' := 14) rfl FL_X2_62 hr (by decide) rfl (r' := r + 13) rfl ?_
    refine V.ilq dX2_mergers_14 (pc' := 15) rfl (j := 1) rfl ?_
    refine V.ilq dX2_mergers_15 (pc' := 16) rfl (j := 1) rfl ?_
    obtain ⟨c1, e⟩ := gd_s e
    obtain ⟨h2, eh2, e⟩ := nm_s e
    refine V.iast dX2_mergers_16 (pc' := 17) rfl (akX2_13 hr).1 (akX2_13 hr).2 (inb_t c1) eh2 ?_
    obtain ⟨x3, ex3, e⟩ := nm_s e
    refine V.iinc dX2_mergers_17 (pc' := 20) rfl (j := 1) rfl (v := 1) (by decide) (by decide) ex3 (L' := [(1, .int x3), (0, .ref r)]) rfl ?_
    refine V.goto dX2_mergers_20 (pc' := 2) (by decide) ?_
    refine V.pk [1, 0] rfl ?_
    exact hk2 h2 r x3 hr q e
def sX2_mergers_b2 : Nat → Hp → Nat → Int32 → Option (Int32 × Hp)
  | 0 => fun _ _ _ => none
  | n + 1 => sX2_mergers_c2 (sX2_mergers_b2 n)
theorem vX2_mergers_b2 : ∀ (n : Nat) (h : Hp) (r : Nat) (v1 : Int32) (hr : ck r = 2) (q : (Int32 × Hp)), sX2_mergers_b2 n h r v1 = some q → V (Gs 0 (pI q)) mX2_mergers (0, 0) 2 [(0, .ref r), (1, .int v1)] [] h
  | 0 => fun _ _ _ _ _ e => by cases e
  | n + 1 => fun h r v1 hr q e => vX2_mergers_c2 (sX2_mergers_b2 n) (vX2_mergers_b2 n) h r v1 hr q e
def sX2_mergers (h : Hp) (r : Nat) : Option (Int32 × Hp) :=
  gd (isC r 2) (sX2_mergers_b2 FU h r (0 : Int32))
set_option maxRecDepth 10000 in
theorem kX2_mergers (h : Hp) (r : Nat) (q : (Int32 × Hp)) (e : sX2_mergers h r = some q) : K 0 mX2_mergers [.ref r] h (pI q) := by
  unfold sX2_mergers at e
  obtain ⟨hr, e⟩ := gd_s e
  have hr := isC_t hr
  refine K.ofV (by decide) rfl (Nat.le_of_ble_eq_true rfl) ?_
  show V (Gs 0 (pI q)) mX2_mergers (0, 0) 0 [(0, .ref r)] [] h
  refine V.iconst dX2_mergers_0 (pc' := 1) rfl (v := 0) (by decide) ?_
  refine V.isq dX2_mergers_1 (pc' := 2) rfl (by decide) rfl (L' := [(1, .int (0 : Int32)), (0, .ref r)]) rfl ?_
  refine V.pk [1, 0] rfl ?_
  exact vX2_mergers_b2 FU h r (0 : Int32) hr q e

-- X2_markNext (level 0)
theorem dX2_markNext_0 : decode cX2_markNext 0 = .ok (.aload_n 0, 1) := by decide +kernel
theorem dX2_markNext_1 : decode cX2_markNext 1 = .ok (.getfield 62, 3) := by decide +kernel
theorem dX2_markNext_4 : decode cX2_markNext 4 = .ok (.iload_n 1, 1) := by decide +kernel
theorem dX2_markNext_5 : decode cX2_markNext 5 = .ok (.iaload, 1) := by decide +kernel
theorem dX2_markNext_6 : decode cX2_markNext 6 = .ok (.iload_n 3, 1) := by decide +kernel
theorem dX2_markNext_7 : decode cX2_markNext 7 = .ok (.iconst 1, 1) := by decide +kernel
theorem dX2_markNext_8 : decode cX2_markNext 8 = .ok (.isub, 1) := by decide +kernel
theorem dX2_markNext_9 : decode cX2_markNext 9 = .ok (.if_icmp .ne 20, 3) := by decide +kernel
theorem dX2_markNext_12 : decode cX2_markNext 12 = .ok (.aload_n 0, 1) := by decide +kernel
theorem dX2_markNext_13 : decode cX2_markNext 13 = .ok (.getfield 62, 3) := by decide +kernel
theorem dX2_markNext_16 : decode cX2_markNext 16 = .ok (.iload_n 2, 1) := by decide +kernel
theorem dX2_markNext_17 : decode cX2_markNext 17 = .ok (.iaload, 1) := by decide +kernel
theorem dX2_markNext_18 : decode cX2_markNext 18 = .ok (.iconst (-1), 1) := by decide +kernel
theorem dX2_markNext_19 : decode cX2_markNext 19 = .ok (.if_icmp .ne 10, 3) := by decide +kernel
theorem dX2_markNext_22 : decode cX2_markNext 22 = .ok (.aload_n 0, 1) := by decide +kernel
theorem dX2_markNext_23 : decode cX2_markNext 23 = .ok (.getfield 62, 3) := by decide +kernel
theorem dX2_markNext_26 : decode cX2_markNext 26 = .ok (.iload_n 2, 1) := by decide +kernel
theorem dX2_markNext_27 : decode cX2_markNext 27 = .ok (.iload_n 3, 1) := by decide +kernel
theorem dX2_markNext_28 : decode cX2_markNext 28 = .ok (.iastore, 1) := by decide +kernel
theorem dX2_markNext_29 : decode cX2_markNext 29 = .ok (.return_, 1) := by decide +kernel
def sX2_markNext_c29 (h : Hp) : Option Hp :=
  some h
set_option maxRecDepth 10000 in
theorem vX2_markNext_c29 (h : Hp) (q : Hp) (e : sX2_markNext_c29 h = some q) : V (Gs 0 (pV q)) mX2_markNext (0, 0) 29 [] [] h := by
  unfold sX2_markNext_c29 at e
  exact V.vret dX2_markNext_29 rfl (fnV e)
def sX2_markNext (h : Hp) (r : Nat) (a1 : Int32) (a2 : Int32) (a3 : Int32) : Option Hp :=
  gd (isC r 2) (gd (inb a1 10) (if (h.1 (r + 13) a1.toNatClampNeg) = (a3 - (1 : Int32)) then (gd (inb a2 10) (if (h.1 (r + 13) a2.toNatClampNeg) = (-1 : Int32) then (gd (inb a2 10) (nm (u1 h (r + 13) a2.toNatClampNeg a3) fun h4 => sX2_markNext_c29 h4)) else (sX2_markNext_c29 h))) else (sX2_markNext_c29 h)))
set_option maxRecDepth 10000 in
theorem kX2_markNext (h : Hp) (r : Nat) (a1 : Int32) (a2 : Int32) (a3 : Int32) (q : Hp) (e : sX2_markNext h r a1 a2 a3 = some q) : K 0 mX2_markNext [.ref r, .int a1, .int a2, .int a3] h (pV q) := by
  unfold sX2_markNext at e
  obtain ⟨hr, e⟩ := gd_s e
  have hr := isC_t hr
  refine K.ofV (by decide) rfl (Nat.le_of_ble_eq_true rfl) ?_
  show V (Gs 0 (pV q)) mX2_markNext (0, 0) 0 [(0, .ref r), (1, .int a1), (2, .int a2), (3, .int a3)] [] h
  refine V.alq dX2_markNext_0 (pc' := 1) rfl (j := 0) rfl ?_
  refine V.getr dX2_markNext_1 (pc' := 4) rfl FL_X2_62 hr (by decide) rfl (r' := r + 13) rfl ?_
  refine V.ilq dX2_markNext_4 (pc' := 5) rfl (j := 1) rfl ?_
  obtain ⟨c1, e⟩ := gd_s e
  refine V.iald dX2_markNext_5 (pc' := 6) rfl (akX2_13 hr).1 (akX2_13 hr).2 (inb_t c1) ?_
  refine V.ilq dX2_markNext_6 (pc' := 7) rfl (j := 3) rfl ?_
  refine V.iconst dX2_markNext_7 (pc' := 8) rfl (v := 1) (by decide) ?_
  refine V.isub dX2_markNext_8 (pc' := 9) rfl ?_
  refine V.ic_ne dX2_markNext_9 (pc' := 12) rfl (tgt := 29) (by decide) (fun c => ?_) (fun c => ?_)
  · rw [if_neg c] at e
    refine V.pk [] rfl ?_
    exact vX2_markNext_c29 h q e
  · rw [if_pos c] at e
    refine V.alq dX2_markNext_12 (pc' := 13) rfl (j := 0) rfl ?_
    refine V.getr dX2_markNext_13 (pc' := 16) rfl FL_X2_62 hr (by decide) rfl (r' := r + 13) rfl ?_
    refine V.ilq dX2_markNext_16 (pc' := 17) rfl (j := 2) rfl ?_
    obtain ⟨c2, e⟩ := gd_s e
    refine V.iald dX2_markNext_17 (pc' := 18) rfl (akX2_13 hr).1 (akX2_13 hr).2 (inb_t c2) ?_
    refine V.iconst dX2_markNext_18 (pc' := 19) rfl (v := -1) (by decide) ?_
    refine V.ic_ne dX2_markNext_19 (pc' := 22) rfl (tgt := 29) (by decide) (fun c => ?_) (fun c => ?_)
    · rw [if_neg c] at e
      refine V.pk [] rfl ?_
      exact vX2_markNext_c29 h q e
    · rw [if_pos c] at e
      refine V.alq dX2_markNext_22 (pc' := 23) rfl (j := 0) rfl ?_
      refine V.getr dX2_markNext_23 (pc' := 26) rfl FL_X2_62 hr (by decide) rfl (r' := r + 13) rfl ?_
      refine V.ilq dX2_markNext_26 (pc' := 27) rfl (j := 2) rfl ?_
      refine V.ilq dX2_markNext_27 (pc' := 28) rfl (j := 3) rfl ?_
      obtain ⟨c3, e⟩ := gd_s e
      obtain ⟨h4, eh4, e⟩ := nm_s e
      refine V.iast dX2_markNext_28 (pc' := 29) rfl (akX2_13 hr).1 (akX2_13 hr).2 (inb_t c3) eh4 ?_
      refine V.pk [] rfl ?_
      exact vX2_markNext_c29 h4 q e

-- X2_otherEnd (level 0)
theorem dX2_otherEnd_0 : decode cX2_otherEnd 0 = .ok (.aload_n 0, 1) := by decide +kernel
theorem dX2_otherEnd_1 : decode cX2_otherEnd 1 = .ok (.getfield 41, 3) := by decide +kernel
theorem dX2_otherEnd_4 : decode cX2_otherEnd 4 = .ok (.iload_n 1, 1) := by decide +kernel
theorem dX2_otherEnd_5 : decode cX2_otherEnd 5 = .ok (.iaload, 1) := by decide +kernel
theorem dX2_otherEnd_6 : decode cX2_otherEnd 6 = .ok (.iload_n 2, 1) := by decide +kernel
theorem dX2_otherEnd_7 : decode cX2_otherEnd 7 = .ok (.if_icmp .ne 12, 3) := by decide +kernel
theorem dX2_otherEnd_10 : decode cX2_otherEnd 10 = .ok (.aload_n 0, 1) := by decide +kernel
theorem dX2_otherEnd_11 : decode cX2_otherEnd 11 = .ok (.getfield 44, 3) := by decide +kernel
theorem dX2_otherEnd_14 : decode cX2_otherEnd 14 = .ok (.iload_n 1, 1) := by decide +kernel
theorem dX2_otherEnd_15 : decode cX2_otherEnd 15 = .ok (.iaload, 1) := by decide +kernel
theorem dX2_otherEnd_16 : decode cX2_otherEnd 16 = .ok (.goto 9, 3) := by decide +kernel
theorem dX2_otherEnd_19 : decode cX2_otherEnd 19 = .ok (.aload_n 0, 1) := by decide +kernel
theorem dX2_otherEnd_20 : decode cX2_otherEnd 20 = .ok (.getfield 41, 3) := by decide +kernel
theorem dX2_otherEnd_23 : decode cX2_otherEnd 23 = .ok (.iload_n 1, 1) := by decide +kernel
theorem dX2_otherEnd_24 : decode cX2_otherEnd 24 = .ok (.iaload, 1) := by decide +kernel
theorem dX2_otherEnd_25 : decode cX2_otherEnd 25 = .ok (.ireturn, 1) := by decide +kernel
def sX2_otherEnd_c25 (h : Hp) (t0 : Int32) : Option (Int32 × Hp) :=
  some (t0, h)
set_option maxRecDepth 10000 in
theorem vX2_otherEnd_c25 (h : Hp) (t0 : Int32) (q : (Int32 × Hp)) (e : sX2_otherEnd_c25 h t0 = some q) : V (Gs 0 (pI q)) mX2_otherEnd (0, 0) 25 [] [.int t0] h := by
  unfold sX2_otherEnd_c25 at e
  exact V.iret dX2_otherEnd_25 rfl (fnI e)
def sX2_otherEnd (h : Hp) (r : Nat) (a1 : Int32) (a2 : Int32) : Option (Int32 × Hp) :=
  gd (isC r 2) (gd (inb a1 24) (if (h.1 (r + 8) a1.toNatClampNeg) = a2 then (gd (inb a1 24) (sX2_otherEnd_c25 h (h.1 (r + 9) a1.toNatClampNeg))) else (gd (inb a1 24) (sX2_otherEnd_c25 h (h.1 (r + 8) a1.toNatClampNeg)))))
set_option maxRecDepth 10000 in
theorem kX2_otherEnd (h : Hp) (r : Nat) (a1 : Int32) (a2 : Int32) (q : (Int32 × Hp)) (e : sX2_otherEnd h r a1 a2 = some q) : K 0 mX2_otherEnd [.ref r, .int a1, .int a2] h (pI q) := by
  unfold sX2_otherEnd at e
  obtain ⟨hr, e⟩ := gd_s e
  have hr := isC_t hr
  refine K.ofV (by decide) rfl (Nat.le_of_ble_eq_true rfl) ?_
  show V (Gs 0 (pI q)) mX2_otherEnd (0, 0) 0 [(0, .ref r), (1, .int a1), (2, .int a2)] [] h
  refine V.alq dX2_otherEnd_0 (pc' := 1) rfl (j := 0) rfl ?_
  refine V.getr dX2_otherEnd_1 (pc' := 4) rfl FL_X2_41 hr (by decide) rfl (r' := r + 8) rfl ?_
  refine V.ilq dX2_otherEnd_4 (pc' := 5) rfl (j := 1) rfl ?_
  obtain ⟨c1, e⟩ := gd_s e
  refine V.iald dX2_otherEnd_5 (pc' := 6) rfl (akX2_8 hr).1 (akX2_8 hr).2 (inb_t c1) ?_
  refine V.ilq dX2_otherEnd_6 (pc' := 7) rfl (j := 2) rfl ?_
  refine V.ic_ne dX2_otherEnd_7 (pc' := 10) rfl (tgt := 19) (by decide) (fun c => ?_) (fun c => ?_)
  · rw [if_neg c] at e
    refine V.alq dX2_otherEnd_19 (pc' := 20) rfl (j := 0) rfl ?_
    refine V.getr dX2_otherEnd_20 (pc' := 23) rfl FL_X2_41 hr (by decide) rfl (r' := r + 8) rfl ?_
    refine V.ilq dX2_otherEnd_23 (pc' := 24) rfl (j := 1) rfl ?_
    obtain ⟨c2, e⟩ := gd_s e
    refine V.iald dX2_otherEnd_24 (pc' := 25) rfl (akX2_8 hr).1 (akX2_8 hr).2 (inb_t c2) ?_
    refine V.pk [] rfl ?_
    exact vX2_otherEnd_c25 h (h.1 (r + 8) a1.toNatClampNeg) q e
  · rw [if_pos c] at e
    refine V.alq dX2_otherEnd_10 (pc' := 11) rfl (j := 0) rfl ?_
    refine V.getr dX2_otherEnd_11 (pc' := 14) rfl FL_X2_44 hr (by decide) rfl (r' := r + 9) rfl ?_
    refine V.ilq dX2_otherEnd_14 (pc' := 15) rfl (j := 1) rfl ?_
    obtain ⟨c3, e⟩ := gd_s e
    refine V.iald dX2_otherEnd_15 (pc' := 16) rfl (akX2_9 hr).1 (akX2_9 hr).2 (inb_t c3) ?_
    refine V.goto dX2_otherEnd_16 (pc' := 25) (by decide) ?_
    refine V.pk [] rfl ?_
    exact vX2_otherEnd_c25 h (h.1 (r + 9) a1.toNatClampNeg) q e

-- X3_put (level 0)
theorem dX3_put_0 : decode cX3_put 0 = .ok (.aload_n 0, 1) := by decide +kernel
theorem dX3_put_1 : decode cX3_put 1 = .ok (.getfield 15, 3) := by decide +kernel
theorem dX3_put_4 : decode cX3_put 4 = .ok (.iconst 4, 1) := by decide +kernel
theorem dX3_put_5 : decode cX3_put 5 = .ok (.iadd, 1) := by decide +kernel
theorem dX3_put_6 : decode cX3_put 6 = .ok (.bipush 120, 2) := by decide +kernel
theorem dX3_put_8 : decode cX3_put 8 = .ok (.if_icmp .le 5, 3) := by decide +kernel
theorem dX3_put_11 : decode cX3_put 11 = .ok (.iconst 0, 1) := by decide +kernel
theorem dX3_put_12 : decode cX3_put 12 = .ok (.ireturn, 1) := by decide +kernel
theorem dX3_put_13 : decode cX3_put 13 = .ok (.bipush 24, 2) := by decide +kernel
theorem dX3_put_15 : decode cX3_put 15 = .ok (.istore_n 2, 1) := by decide +kernel
theorem dX3_put_16 : decode cX3_put 16 = .ok (.iload_n 2, 1) := by decide +kernel
theorem dX3_put_17 : decode cX3_put 17 = .ok (.ifCond .lt 35, 3) := by decide +kernel
theorem dX3_put_20 : decode cX3_put 20 = .ok (.aload_n 0, 1) := by decide +kernel
theorem dX3_put_21 : decode cX3_put 21 = .ok (.getfield 9, 3) := by decide +kernel
theorem dX3_put_24 : decode cX3_put 24 = .ok (.aload_n 0, 1) := by decide +kernel
theorem dX3_put_25 : decode cX3_put 25 = .ok (.getfield 15, 3) := by decide +kernel
theorem dX3_put_28 : decode cX3_put 28 = .ok (.iload_n 1, 1) := by decide +kernel
theorem dX3_put_29 : decode cX3_put 29 = .ok (.iload_n 2, 1) := by decide +kernel
theorem dX3_put_30 : decode cX3_put 30 = .ok (.iushr, 1) := by decide +kernel
theorem dX3_put_31 : decode cX3_put 31 = .ok (.sipush 255, 3) := by decide +kernel
theorem dX3_put_34 : decode cX3_put 34 = .ok (.iand, 1) := by decide +kernel
theorem dX3_put_35 : decode cX3_put 35 = .ok (.iastore, 1) := by decide +kernel
theorem dX3_put_36 : decode cX3_put 36 = .ok (.aload_n 0, 1) := by decide +kernel
theorem dX3_put_37 : decode cX3_put 37 = .ok (.dup, 1) := by decide +kernel
theorem dX3_put_38 : decode cX3_put 38 = .ok (.getfield 15, 3) := by decide +kernel
theorem dX3_put_41 : decode cX3_put 41 = .ok (.iconst 1, 1) := by decide +kernel
theorem dX3_put_42 : decode cX3_put 42 = .ok (.iadd, 1) := by decide +kernel
theorem dX3_put_43 : decode cX3_put 43 = .ok (.putfield 15, 3) := by decide +kernel
theorem dX3_put_46 : decode cX3_put 46 = .ok (.iinc 2 (-8), 3) := by decide +kernel
theorem dX3_put_49 : decode cX3_put 49 = .ok (.goto (-33), 3) := by decide +kernel
theorem dX3_put_52 : decode cX3_put 52 = .ok (.iconst 1, 1) := by decide +kernel
theorem dX3_put_53 : decode cX3_put 53 = .ok (.ireturn, 1) := by decide +kernel
def sX3_put_c16 (k16 : Hp → Int32 → Int32 → Option (Int32 × Hp)) (h : Hp) (v1 : Int32) (v2 : Int32) : Option (Int32 × Hp) :=
  if v2 < 0 then (some ((1 : Int32), h)) else (gd (inb (h.1 2 1) 120) (nm (u1 h 3 (h.1 2 1).toNatClampNeg ((v1.toUInt32 >>> (v2.toUInt32 &&& Int32.toUInt32 31)).toInt32 &&& (255 : Int32))) fun h2 => nm (u1 h2 2 1 ((h2.1 2 1) + (1 : Int32))) fun h3 => nm (v2 + (-8 : Int32)) fun x4 => k16 h3 v1 x4))
set_option maxRecDepth 10000 in
theorem vX3_put_c16 (k16 : Hp → Int32 → Int32 → Option (Int32 × Hp)) (hk16 : ∀ (h : Hp) (v1 : Int32) (v2 : Int32) (q : (Int32 × Hp)), k16 h v1 v2 = some q → V (Gs 0 (pI q)) mX3_put (0, 0) 16 [(0, .ref 2), (1, .int v1), (2, .int v2)] [] h) (h : Hp) (v1 : Int32) (v2 : Int32) (q : (Int32 × Hp)) (e : sX3_put_c16 k16 h v1 v2 = some q) : V (Gs 0 (pI q)) mX3_put (0, 0) 16 [(0, .ref 2), (1, .int v1), (2, .int v2)] [] h := by
  unfold sX3_put_c16 at e
  refine V.ilq dX3_put_16 (pc' := 17) rfl (j := 2) rfl ?_
  refine V.if_lt dX3_put_17 (pc' := 20) rfl (tgt := 52) (by decide) (fun c => ?_) (fun c => ?_)
  · rw [if_pos c] at e
    refine V.iconst dX3_put_52 (pc' := 53) rfl (v := 1) (by decide) ?_
    exact V.zret dX3_put_53 rfl (Or.inr rfl) (fnI e)
  · rw [if_neg c] at e
    refine V.alq dX3_put_20 (pc' := 21) rfl (j := 0) rfl ?_
    refine V.getr dX3_put_21 (pc' := 24) rfl FL_X3_9 rfl (by decide) rfl (r' := 3) rfl ?_
    refine V.alq dX3_put_24 (pc' := 25) rfl (j := 0) rfl ?_
    refine V.getf dX3_put_25 (pc' := 28) rfl FL_X3_15 rfl (by decide) rfl ?_
    refine V.ilq dX3_put_28 (pc' := 29) rfl (j := 1) rfl ?_
    refine V.ilq dX3_put_29 (pc' := 30) rfl (j := 2) rfl ?_
    refine V.iushr dX3_put_30 (pc' := 31) rfl ?_
    refine V.sipush dX3_put_31 (pc' := 34) rfl (v := 255) (by decide) ?_
    refine V.iand dX3_put_34 (pc' := 35) rfl ?_
    obtain ⟨c1, e⟩ := gd_s e
    obtain ⟨h2, eh2, e⟩ := nm_s e
    refine V.iast dX3_put_35 (pc' := 36) rfl rfl rfl (inb_t c1) eh2 ?_
    refine V.alq dX3_put_36 (pc' := 37) rfl (j := 0) rfl ?_
    refine V.dup dX3_put_37 (pc' := 38) rfl rfl ?_
    refine V.getf dX3_put_38 (pc' := 41) rfl FL_X3_15 rfl (by decide) rfl ?_
    refine V.iconst dX3_put_41 (pc' := 42) rfl (v := 1) (by decide) ?_
    refine V.iadd dX3_put_42 (pc' := 43) rfl ?_
    obtain ⟨h3, eh3, e⟩ := nm_s e
    refine V.putf dX3_put_43 (pc' := 46) rfl FP_X3_15 rfl (by decide) rfl eh3 ?_
    obtain ⟨x4, ex4, e⟩ := nm_s e
    refine V.iinc dX3_put_46 (pc' := 49) rfl (j := 2) rfl (v := -8) (by decide) (by decide) ex4 (L' := [(2, .int x4), (0, .ref 2), (1, .int v1)]) rfl ?_
    refine V.goto dX3_put_49 (pc' := 16) (by decide) ?_
    refine V.pk [1, 2, 0] rfl ?_
    exact hk16 h3 v1 x4 q e
def sX3_put_b16 : Nat → Hp → Int32 → Int32 → Option (Int32 × Hp)
  | 0 => fun _ _ _ => none
  | n + 1 => sX3_put_c16 (sX3_put_b16 n)
theorem vX3_put_b16 : ∀ (n : Nat) (h : Hp) (v1 : Int32) (v2 : Int32) (q : (Int32 × Hp)), sX3_put_b16 n h v1 v2 = some q → V (Gs 0 (pI q)) mX3_put (0, 0) 16 [(0, .ref 2), (1, .int v1), (2, .int v2)] [] h
  | 0 => fun _ _ _ _ e => by cases e
  | n + 1 => fun h v1 v2 q e => vX3_put_c16 (sX3_put_b16 n) (vX3_put_b16 n) h v1 v2 q e
def sX3_put (h : Hp) (a1 : Int32) : Option (Int32 × Hp) :=
  if ((h.1 2 1) + (4 : Int32)) ≤ (120 : Int32) then (sX3_put_b16 FU h a1 (24 : Int32)) else (some ((0 : Int32), h))
set_option maxRecDepth 10000 in
theorem kX3_put (h : Hp) (a1 : Int32) (q : (Int32 × Hp)) (e : sX3_put h a1 = some q) : K 0 mX3_put [.ref 2, .int a1] h (pI q) := by
  unfold sX3_put at e
  refine K.ofV (by decide) rfl (Nat.le_of_ble_eq_true rfl) ?_
  show V (Gs 0 (pI q)) mX3_put (0, 0) 0 [(0, .ref 2), (1, .int a1)] [] h
  refine V.alq dX3_put_0 (pc' := 1) rfl (j := 0) rfl ?_
  refine V.getf dX3_put_1 (pc' := 4) rfl FL_X3_15 rfl (by decide) rfl ?_
  refine V.iconst dX3_put_4 (pc' := 5) rfl (v := 4) (by decide) ?_
  refine V.iadd dX3_put_5 (pc' := 6) rfl ?_
  refine V.bipush dX3_put_6 (pc' := 8) rfl (v := 120) (by decide) ?_
  refine V.ic_le dX3_put_8 (pc' := 11) rfl (tgt := 13) (by decide) (fun c => ?_) (fun c => ?_)
  · rw [if_pos c] at e
    refine V.bipush dX3_put_13 (pc' := 15) rfl (v := 24) (by decide) ?_
    refine V.isq dX3_put_15 (pc' := 16) rfl (by decide) rfl (L' := [(2, .int (24 : Int32)), (0, .ref 2), (1, .int a1)]) rfl ?_
    refine V.pk [1, 2, 0] rfl ?_
    exact vX3_put_b16 FU h a1 (24 : Int32) q e
  · rw [if_neg c] at e
    refine V.iconst dX3_put_11 (pc' := 12) rfl (v := 0) (by decide) ?_
    exact V.zret dX3_put_12 rfl (Or.inl rfl) (fnI e)

-- X3_cut (level 0)
theorem dX3_cut_0 : decode cX3_cut 0 = .ok (.iload_n 1, 1) := by decide +kernel
theorem dX3_cut_1 : decode cX3_cut 1 = .ok (.ifCond .lt 11, 3) := by decide +kernel
theorem dX3_cut_4 : decode cX3_cut 4 = .ok (.iload_n 1, 1) := by decide +kernel
theorem dX3_cut_5 : decode cX3_cut 5 = .ok (.aload_n 0, 1) := by decide +kernel
theorem dX3_cut_6 : decode cX3_cut 6 = .ok (.getfield 15, 3) := by decide +kernel
theorem dX3_cut_9 : decode cX3_cut 9 = .ok (.if_icmp .le 5, 3) := by decide +kernel
theorem dX3_cut_12 : decode cX3_cut 12 = .ok (.iconst 0, 1) := by decide +kernel
theorem dX3_cut_13 : decode cX3_cut 13 = .ok (.ireturn, 1) := by decide +kernel
theorem dX3_cut_14 : decode cX3_cut 14 = .ok (.aload_n 0, 1) := by decide +kernel
theorem dX3_cut_15 : decode cX3_cut 15 = .ok (.iload_n 1, 1) := by decide +kernel
theorem dX3_cut_16 : decode cX3_cut 16 = .ok (.putfield 15, 3) := by decide +kernel
theorem dX3_cut_19 : decode cX3_cut 19 = .ok (.iconst 1, 1) := by decide +kernel
theorem dX3_cut_20 : decode cX3_cut 20 = .ok (.ireturn, 1) := by decide +kernel
def sX3_cut_c12 (h : Hp) : Option (Int32 × Hp) :=
  some ((0 : Int32), h)
set_option maxRecDepth 10000 in
theorem vX3_cut_c12 (h : Hp) (q : (Int32 × Hp)) (e : sX3_cut_c12 h = some q) : V (Gs 0 (pI q)) mX3_cut (0, 0) 12 [] [] h := by
  unfold sX3_cut_c12 at e
  refine V.iconst dX3_cut_12 (pc' := 13) rfl (v := 0) (by decide) ?_
  exact V.zret dX3_cut_13 rfl (Or.inl rfl) (fnI e)
def sX3_cut (h : Hp) (a1 : Int32) : Option (Int32 × Hp) :=
  if a1 < 0 then (sX3_cut_c12 h) else (if a1 ≤ (h.1 2 1) then (nm (u1 h 2 1 a1) fun h1 => some ((1 : Int32), h1)) else (sX3_cut_c12 h))
set_option maxRecDepth 10000 in
theorem kX3_cut (h : Hp) (a1 : Int32) (q : (Int32 × Hp)) (e : sX3_cut h a1 = some q) : K 0 mX3_cut [.ref 2, .int a1] h (pI q) := by
  unfold sX3_cut at e
  refine K.ofV (by decide) rfl (Nat.le_of_ble_eq_true rfl) ?_
  show V (Gs 0 (pI q)) mX3_cut (0, 0) 0 [(0, .ref 2), (1, .int a1)] [] h
  refine V.ilq dX3_cut_0 (pc' := 1) rfl (j := 1) rfl ?_
  refine V.if_lt dX3_cut_1 (pc' := 4) rfl (tgt := 12) (by decide) (fun c => ?_) (fun c => ?_)
  · rw [if_pos c] at e
    refine V.pk [] rfl ?_
    exact vX3_cut_c12 h q e
  · rw [if_neg c] at e
    refine V.ilq dX3_cut_4 (pc' := 5) rfl (j := 1) rfl ?_
    refine V.alq dX3_cut_5 (pc' := 6) rfl (j := 0) rfl ?_
    refine V.getf dX3_cut_6 (pc' := 9) rfl FL_X3_15 rfl (by decide) rfl ?_
    refine V.ic_le dX3_cut_9 (pc' := 12) rfl (tgt := 14) (by decide) (fun c => ?_) (fun c => ?_)
    · rw [if_pos c] at e
      refine V.alq dX3_cut_14 (pc' := 15) rfl (j := 0) rfl ?_
      refine V.ilq dX3_cut_15 (pc' := 16) rfl (j := 1) rfl ?_
      obtain ⟨h1, eh1, e⟩ := nm_s e
      refine V.putf dX3_cut_16 (pc' := 19) rfl FP_X3_15 rfl (by decide) rfl eh1 ?_
      refine V.iconst dX3_cut_19 (pc' := 20) rfl (v := 1) (by decide) ?_
      exact V.zret dX3_cut_20 rfl (Or.inr rfl) (fnI e)
    · rw [if_neg c] at e
      refine V.pk [] rfl ?_
      exact vX3_cut_c12 h q e

-- X3_readSign (level 0)
theorem dX3_readSign_0 : decode cX3_readSign 0 = .ok (.aload_n 0, 1) := by decide +kernel
theorem dX3_readSign_1 : decode cX3_readSign 1 = .ok (.getfield 19, 3) := by decide +kernel
theorem dX3_readSign_4 : decode cX3_readSign 4 = .ok (.aload_n 0, 1) := by decide +kernel
theorem dX3_readSign_5 : decode cX3_readSign 5 = .ok (.getfield 15, 3) := by decide +kernel
theorem dX3_readSign_8 : decode cX3_readSign 8 = .ok (.if_icmp .ge 16, 3) := by decide +kernel
theorem dX3_readSign_11 : decode cX3_readSign 11 = .ok (.aload_n 0, 1) := by decide +kernel
theorem dX3_readSign_12 : decode cX3_readSign 12 = .ok (.getfield 9, 3) := by decide +kernel
theorem dX3_readSign_15 : decode cX3_readSign 15 = .ok (.aload_n 0, 1) := by decide +kernel
theorem dX3_readSign_16 : decode cX3_readSign 16 = .ok (.getfield 19, 3) := by decide +kernel
theorem dX3_readSign_19 : decode cX3_readSign 19 = .ok (.iaload, 1) := by decide +kernel
theorem dX3_readSign_20 : decode cX3_readSign 20 = .ok (.iload_n 1, 1) := by decide +kernel
theorem dX3_readSign_21 : decode cX3_readSign 21 = .ok (.if_icmp .eq 5, 3) := by decide +kernel
theorem dX3_readSign_24 : decode cX3_readSign 24 = .ok (.iconst 0, 1) := by decide +kernel
theorem dX3_readSign_25 : decode cX3_readSign 25 = .ok (.ireturn, 1) := by decide +kernel
theorem dX3_readSign_26 : decode cX3_readSign 26 = .ok (.aload_n 0, 1) := by decide +kernel
theorem dX3_readSign_27 : decode cX3_readSign 27 = .ok (.dup, 1) := by decide +kernel
theorem dX3_readSign_28 : decode cX3_readSign 28 = .ok (.getfield 19, 3) := by decide +kernel
theorem dX3_readSign_31 : decode cX3_readSign 31 = .ok (.iconst 1, 1) := by decide +kernel
theorem dX3_readSign_32 : decode cX3_readSign 32 = .ok (.iadd, 1) := by decide +kernel
theorem dX3_readSign_33 : decode cX3_readSign 33 = .ok (.putfield 19, 3) := by decide +kernel
theorem dX3_readSign_36 : decode cX3_readSign 36 = .ok (.iconst 1, 1) := by decide +kernel
theorem dX3_readSign_37 : decode cX3_readSign 37 = .ok (.ireturn, 1) := by decide +kernel
def sX3_readSign_c24 (h : Hp) : Option (Int32 × Hp) :=
  some ((0 : Int32), h)
set_option maxRecDepth 10000 in
theorem vX3_readSign_c24 (h : Hp) (q : (Int32 × Hp)) (e : sX3_readSign_c24 h = some q) : V (Gs 0 (pI q)) mX3_readSign (0, 0) 24 [] [] h := by
  unfold sX3_readSign_c24 at e
  refine V.iconst dX3_readSign_24 (pc' := 25) rfl (v := 0) (by decide) ?_
  exact V.zret dX3_readSign_25 rfl (Or.inl rfl) (fnI e)
def sX3_readSign (h : Hp) (a1 : Int32) : Option (Int32 × Hp) :=
  if (h.1 2 1) ≤ (h.1 2 2) then (sX3_readSign_c24 h) else (gd (inb (h.1 2 2) 120) (if (h.1 3 (h.1 2 2).toNatClampNeg) = a1 then (nm (u1 h 2 2 ((h.1 2 2) + (1 : Int32))) fun h2 => some ((1 : Int32), h2)) else (sX3_readSign_c24 h)))
set_option maxRecDepth 10000 in
theorem kX3_readSign (h : Hp) (a1 : Int32) (q : (Int32 × Hp)) (e : sX3_readSign h a1 = some q) : K 0 mX3_readSign [.ref 2, .int a1] h (pI q) := by
  unfold sX3_readSign at e
  refine K.ofV (by decide) rfl (Nat.le_of_ble_eq_true rfl) ?_
  show V (Gs 0 (pI q)) mX3_readSign (0, 0) 0 [(0, .ref 2), (1, .int a1)] [] h
  refine V.alq dX3_readSign_0 (pc' := 1) rfl (j := 0) rfl ?_
  refine V.getf dX3_readSign_1 (pc' := 4) rfl FL_X3_19 rfl (by decide) rfl ?_
  refine V.alq dX3_readSign_4 (pc' := 5) rfl (j := 0) rfl ?_
  refine V.getf dX3_readSign_5 (pc' := 8) rfl FL_X3_15 rfl (by decide) rfl ?_
  refine V.ic_ge dX3_readSign_8 (pc' := 11) rfl (tgt := 24) (by decide) (fun c => ?_) (fun c => ?_)
  · rw [if_pos c] at e
    refine V.pk [] rfl ?_
    exact vX3_readSign_c24 h q e
  · rw [if_neg c] at e
    refine V.alq dX3_readSign_11 (pc' := 12) rfl (j := 0) rfl ?_
    refine V.getr dX3_readSign_12 (pc' := 15) rfl FL_X3_9 rfl (by decide) rfl (r' := 3) rfl ?_
    refine V.alq dX3_readSign_15 (pc' := 16) rfl (j := 0) rfl ?_
    refine V.getf dX3_readSign_16 (pc' := 19) rfl FL_X3_19 rfl (by decide) rfl ?_
    obtain ⟨c1, e⟩ := gd_s e
    refine V.iald dX3_readSign_19 (pc' := 20) rfl rfl rfl (inb_t c1) ?_
    refine V.ilq dX3_readSign_20 (pc' := 21) rfl (j := 1) rfl ?_
    refine V.ic_eq dX3_readSign_21 (pc' := 24) rfl (tgt := 26) (by decide) (fun c => ?_) (fun c => ?_)
    · rw [if_pos c] at e
      refine V.alq dX3_readSign_26 (pc' := 27) rfl (j := 0) rfl ?_
      refine V.dup dX3_readSign_27 (pc' := 28) rfl rfl ?_
      refine V.getf dX3_readSign_28 (pc' := 31) rfl FL_X3_19 rfl (by decide) rfl ?_
      refine V.iconst dX3_readSign_31 (pc' := 32) rfl (v := 1) (by decide) ?_
      refine V.iadd dX3_readSign_32 (pc' := 33) rfl ?_
      obtain ⟨h2, eh2, e⟩ := nm_s e
      refine V.putf dX3_readSign_33 (pc' := 36) rfl FP_X3_19 rfl (by decide) rfl eh2 ?_
      refine V.iconst dX3_readSign_36 (pc' := 37) rfl (v := 1) (by decide) ?_
      exact V.zret dX3_readSign_37 rfl (Or.inr rfl) (fnI e)
    · rw [if_neg c] at e
      refine V.pk [] rfl ?_
      exact vX3_readSign_c24 h q e

-- X3_isDigitHere (level 0)
theorem dX3_isDigitHere_0 : decode cX3_isDigitHere 0 = .ok (.aload_n 0, 1) := by decide +kernel
theorem dX3_isDigitHere_1 : decode cX3_isDigitHere 1 = .ok (.getfield 19, 3) := by decide +kernel
theorem dX3_isDigitHere_4 : decode cX3_isDigitHere 4 = .ok (.aload_n 0, 1) := by decide +kernel
theorem dX3_isDigitHere_5 : decode cX3_isDigitHere 5 = .ok (.getfield 15, 3) := by decide +kernel
theorem dX3_isDigitHere_8 : decode cX3_isDigitHere 8 = .ok (.if_icmp .ge 35, 3) := by decide +kernel
theorem dX3_isDigitHere_11 : decode cX3_isDigitHere 11 = .ok (.aload_n 0, 1) := by decide +kernel
theorem dX3_isDigitHere_12 : decode cX3_isDigitHere 12 = .ok (.getfield 9, 3) := by decide +kernel
theorem dX3_isDigitHere_15 : decode cX3_isDigitHere 15 = .ok (.aload_n 0, 1) := by decide +kernel
theorem dX3_isDigitHere_16 : decode cX3_isDigitHere 16 = .ok (.getfield 19, 3) := by decide +kernel
theorem dX3_isDigitHere_19 : decode cX3_isDigitHere 19 = .ok (.iaload, 1) := by decide +kernel
theorem dX3_isDigitHere_20 : decode cX3_isDigitHere 20 = .ok (.bipush 48, 2) := by decide +kernel
theorem dX3_isDigitHere_22 : decode cX3_isDigitHere 22 = .ok (.if_icmp .lt 21, 3) := by decide +kernel
theorem dX3_isDigitHere_25 : decode cX3_isDigitHere 25 = .ok (.aload_n 0, 1) := by decide +kernel
theorem dX3_isDigitHere_26 : decode cX3_isDigitHere 26 = .ok (.getfield 9, 3) := by decide +kernel
theorem dX3_isDigitHere_29 : decode cX3_isDigitHere 29 = .ok (.aload_n 0, 1) := by decide +kernel
theorem dX3_isDigitHere_30 : decode cX3_isDigitHere 30 = .ok (.getfield 19, 3) := by decide +kernel
theorem dX3_isDigitHere_33 : decode cX3_isDigitHere 33 = .ok (.iaload, 1) := by decide +kernel
theorem dX3_isDigitHere_34 : decode cX3_isDigitHere 34 = .ok (.bipush 57, 2) := by decide +kernel
theorem dX3_isDigitHere_36 : decode cX3_isDigitHere 36 = .ok (.if_icmp .gt 7, 3) := by decide +kernel
theorem dX3_isDigitHere_39 : decode cX3_isDigitHere 39 = .ok (.iconst 1, 1) := by decide +kernel
theorem dX3_isDigitHere_40 : decode cX3_isDigitHere 40 = .ok (.goto 4, 3) := by decide +kernel
theorem dX3_isDigitHere_43 : decode cX3_isDigitHere 43 = .ok (.iconst 0, 1) := by decide +kernel
theorem dX3_isDigitHere_44 : decode cX3_isDigitHere 44 = .ok (.ireturn, 1) := by decide +kernel
def sX3_isDigitHere_c44 (h : Hp) (t0 : Int32) : Option (Int32 × Hp) :=
  gd (zb t0) (some (t0, h))
set_option maxRecDepth 10000 in
theorem vX3_isDigitHere_c44 (h : Hp) (t0 : Int32) (q : (Int32 × Hp)) (e : sX3_isDigitHere_c44 h t0 = some q) : V (Gs 0 (pI q)) mX3_isDigitHere (0, 0) 44 [] [.int t0] h := by
  unfold sX3_isDigitHere_c44 at e
  obtain ⟨c3, e⟩ := gd_s e
  exact V.zret dX3_isDigitHere_44 rfl (zb_t c3) (fnI e)
def sX3_isDigitHere_c43 (h : Hp) : Option (Int32 × Hp) :=
  sX3_isDigitHere_c44 h (0 : Int32)
set_option maxRecDepth 10000 in
theorem vX3_isDigitHere_c43 (h : Hp) (q : (Int32 × Hp)) (e : sX3_isDigitHere_c43 h = some q) : V (Gs 0 (pI q)) mX3_isDigitHere (0, 0) 43 [] [] h := by
  unfold sX3_isDigitHere_c43 at e
  refine V.iconst dX3_isDigitHere_43 (pc' := 44) rfl (v := 0) (by decide) ?_
  exact vX3_isDigitHere_c44 h (0 : Int32) q e
def sX3_isDigitHere (h : Hp) : Option (Int32 × Hp) :=
  if (h.1 2 1) ≤ (h.1 2 2) then (sX3_isDigitHere_c43 h) else (gd (inb (h.1 2 2) 120) (if (h.1 3 (h.1 2 2).toNatClampNeg) < (48 : Int32) then (sX3_isDigitHere_c43 h) else (gd (inb (h.1 2 2) 120) (if (57 : Int32) < (h.1 3 (h.1 2 2).toNatClampNeg) then (sX3_isDigitHere_c43 h) else (sX3_isDigitHere_c44 h (1 : Int32))))))
set_option maxRecDepth 10000 in
theorem kX3_isDigitHere (h : Hp) (q : (Int32 × Hp)) (e : sX3_isDigitHere h = some q) : K 0 mX3_isDigitHere [.ref 2] h (pI q) := by
  unfold sX3_isDigitHere at e
  refine K.ofV (by decide) rfl (Nat.le_of_ble_eq_true rfl) ?_
  show V (Gs 0 (pI q)) mX3_isDigitHere (0, 0) 0 [(0, .ref 2)] [] h
  refine V.alq dX3_isDigitHere_0 (pc' := 1) rfl (j := 0) rfl ?_
  refine V.getf dX3_isDigitHere_1 (pc' := 4) rfl FL_X3_19 rfl (by decide) rfl ?_
  refine V.alq dX3_isDigitHere_4 (pc' := 5) rfl (j := 0) rfl ?_
  refine V.getf dX3_isDigitHere_5 (pc' := 8) rfl FL_X3_15 rfl (by decide) rfl ?_
  refine V.ic_ge dX3_isDigitHere_8 (pc' := 11) rfl (tgt := 43) (by decide) (fun c => ?_) (fun c => ?_)
  · rw [if_pos c] at e
    refine V.pk [] rfl ?_
    exact vX3_isDigitHere_c43 h q e
  · rw [if_neg c] at e
    refine V.alq dX3_isDigitHere_11 (pc' := 12) rfl (j := 0) rfl ?_
    refine V.getr dX3_isDigitHere_12 (pc' := 15) rfl FL_X3_9 rfl (by decide) rfl (r' := 3) rfl ?_
    refine V.alq dX3_isDigitHere_15 (pc' := 16) rfl (j := 0) rfl ?_
    refine V.getf dX3_isDigitHere_16 (pc' := 19) rfl FL_X3_19 rfl (by decide) rfl ?_
    obtain ⟨c1, e⟩ := gd_s e
    refine V.iald dX3_isDigitHere_19 (pc' := 20) rfl rfl rfl (inb_t c1) ?_
    refine V.bipush dX3_isDigitHere_20 (pc' := 22) rfl (v := 48) (by decide) ?_
    refine V.ic_lt dX3_isDigitHere_22 (pc' := 25) rfl (tgt := 43) (by decide) (fun c => ?_) (fun c => ?_)
    · rw [if_pos c] at e
      refine V.pk [] rfl ?_
      exact vX3_isDigitHere_c43 h q e
    · rw [if_neg c] at e
      refine V.alq dX3_isDigitHere_25 (pc' := 26) rfl (j := 0) rfl ?_
      refine V.getr dX3_isDigitHere_26 (pc' := 29) rfl FL_X3_9 rfl (by decide) rfl (r' := 3) rfl ?_
      refine V.alq dX3_isDigitHere_29 (pc' := 30) rfl (j := 0) rfl ?_
      refine V.getf dX3_isDigitHere_30 (pc' := 33) rfl FL_X3_19 rfl (by decide) rfl ?_
      obtain ⟨c2, e⟩ := gd_s e
      refine V.iald dX3_isDigitHere_33 (pc' := 34) rfl rfl rfl (inb_t c2) ?_
      refine V.bipush dX3_isDigitHere_34 (pc' := 36) rfl (v := 57) (by decide) ?_
      refine V.ic_gt dX3_isDigitHere_36 (pc' := 39) rfl (tgt := 43) (by decide) (fun c => ?_) (fun c => ?_)
      · rw [if_pos c] at e
        refine V.pk [] rfl ?_
        exact vX3_isDigitHere_c43 h q e
      · rw [if_neg c] at e
        refine V.iconst dX3_isDigitHere_39 (pc' := 40) rfl (v := 1) (by decide) ?_
        refine V.goto dX3_isDigitHere_40 (pc' := 44) (by decide) ?_
        refine V.pk [] rfl ?_
        exact vX3_isDigitHere_c44 h (1 : Int32) q e

-- X3_failAt (level 0)
theorem dX3_failAt_0 : decode cX3_failAt 0 = .ok (.aload_n 0, 1) := by decide +kernel
theorem dX3_failAt_1 : decode cX3_failAt 1 = .ok (.iload_n 1, 1) := by decide +kernel
theorem dX3_failAt_2 : decode cX3_failAt 2 = .ok (.putfield 25, 3) := by decide +kernel
theorem dX3_failAt_5 : decode cX3_failAt 5 = .ok (.iconst 0, 1) := by decide +kernel
theorem dX3_failAt_6 : decode cX3_failAt 6 = .ok (.ireturn, 1) := by decide +kernel
def sX3_failAt (h : Hp) (a1 : Int32) : Option (Int32 × Hp) :=
  nm (u1 h 2 4 a1) fun h1 => some ((0 : Int32), h1)
set_option maxRecDepth 10000 in
theorem kX3_failAt (h : Hp) (a1 : Int32) (q : (Int32 × Hp)) (e : sX3_failAt h a1 = some q) : K 0 mX3_failAt [.ref 2, .int a1] h (pI q) := by
  unfold sX3_failAt at e
  refine K.ofV (by decide) rfl (Nat.le_of_ble_eq_true rfl) ?_
  show V (Gs 0 (pI q)) mX3_failAt (0, 0) 0 [(0, .ref 2), (1, .int a1)] [] h
  refine V.alq dX3_failAt_0 (pc' := 1) rfl (j := 0) rfl ?_
  refine V.ilq dX3_failAt_1 (pc' := 2) rfl (j := 1) rfl ?_
  obtain ⟨h1, eh1, e⟩ := nm_s e
  refine V.putf dX3_failAt_2 (pc' := 5) rfl FP_X3_25 rfl (by decide) rfl eh1 ?_
  refine V.iconst dX3_failAt_5 (pc' := 6) rfl (v := 0) (by decide) ?_
  exact V.zret dX3_failAt_6 rfl (Or.inl rfl) (fnI e)

-- X4_empty (level 0)
theorem dX4_empty_0 : decode cX4_empty 0 = .ok (.aload_n 0, 1) := by decide +kernel
theorem dX4_empty_1 : decode cX4_empty 1 = .ok (.iconst 0, 1) := by decide +kernel
theorem dX4_empty_2 : decode cX4_empty 2 = .ok (.putfield 15, 3) := by decide +kernel
theorem dX4_empty_5 : decode cX4_empty 5 = .ok (.return_, 1) := by decide +kernel
def sX4_empty (h : Hp) : Option Hp :=
  nm (u1 h 4 1 (0 : Int32)) fun h1 => some h1
set_option maxRecDepth 10000 in
theorem kX4_empty (h : Hp) (q : Hp) (e : sX4_empty h = some q) : K 0 mX4_empty [.ref 4] h (pV q) := by
  unfold sX4_empty at e
  refine K.ofV (by decide) rfl (Nat.le_of_ble_eq_true rfl) ?_
  show V (Gs 0 (pV q)) mX4_empty (0, 0) 0 [(0, .ref 4)] [] h
  refine V.alq dX4_empty_0 (pc' := 1) rfl (j := 0) rfl ?_
  refine V.iconst dX4_empty_1 (pc' := 2) rfl (v := 0) (by decide) ?_
  obtain ⟨h1, eh1, e⟩ := nm_s e
  refine V.putf dX4_empty_2 (pc' := 5) rfl FP_X4_15 rfl (by decide) rfl eh1 ?_
  exact V.vret dX4_empty_5 rfl (fnV e)

-- X4_add (level 0)
theorem dX4_add_0 : decode cX4_add 0 = .ok (.aload_n 0, 1) := by decide +kernel
theorem dX4_add_1 : decode cX4_add 1 = .ok (.getfield 15, 3) := by decide +kernel
theorem dX4_add_4 : decode cX4_add 4 = .ok (.aload_n 0, 1) := by decide +kernel
theorem dX4_add_5 : decode cX4_add 5 = .ok (.getfield 9, 3) := by decide +kernel
theorem dX4_add_8 : decode cX4_add 8 = .ok (.arraylength, 1) := by decide +kernel
theorem dX4_add_9 : decode cX4_add 9 = .ok (.if_icmp .ge 23, 3) := by decide +kernel
theorem dX4_add_12 : decode cX4_add 12 = .ok (.aload_n 0, 1) := by decide +kernel
theorem dX4_add_13 : decode cX4_add 13 = .ok (.getfield 9, 3) := by decide +kernel
theorem dX4_add_16 : decode cX4_add 16 = .ok (.aload_n 0, 1) := by decide +kernel
theorem dX4_add_17 : decode cX4_add 17 = .ok (.getfield 15, 3) := by decide +kernel
theorem dX4_add_20 : decode cX4_add 20 = .ok (.lload_n 1, 1) := by decide +kernel
theorem dX4_add_21 : decode cX4_add 21 = .ok (.lastore, 1) := by decide +kernel
theorem dX4_add_22 : decode cX4_add 22 = .ok (.aload_n 0, 1) := by decide +kernel
theorem dX4_add_23 : decode cX4_add 23 = .ok (.dup, 1) := by decide +kernel
theorem dX4_add_24 : decode cX4_add 24 = .ok (.getfield 15, 3) := by decide +kernel
theorem dX4_add_27 : decode cX4_add 27 = .ok (.iconst 1, 1) := by decide +kernel
theorem dX4_add_28 : decode cX4_add 28 = .ok (.iadd, 1) := by decide +kernel
theorem dX4_add_29 : decode cX4_add 29 = .ok (.putfield 15, 3) := by decide +kernel
theorem dX4_add_32 : decode cX4_add 32 = .ok (.return_, 1) := by decide +kernel
def sX4_add_c32 (h : Hp) : Option Hp :=
  some h
set_option maxRecDepth 10000 in
theorem vX4_add_c32 (h : Hp) (q : Hp) (e : sX4_add_c32 h = some q) : V (Gs 0 (pV q)) mX4_add (0, 0) 32 [] [] h := by
  unfold sX4_add_c32 at e
  exact V.vret dX4_add_32 rfl (fnV e)
def sX4_add (h : Hp) (a1 : Int64) : Option Hp :=
  if (24 : Int32) ≤ (h.1 4 1) then (sX4_add_c32 h) else (gd (inb (h.1 4 1) 24) (nm (u2 h 5 (h.1 4 1).toNatClampNeg a1) fun h2 => nm (u1 h2 4 1 ((h2.1 4 1) + (1 : Int32))) fun h3 => sX4_add_c32 h3))
set_option maxRecDepth 10000 in
theorem kX4_add (h : Hp) (a1 : Int64) (q : Hp) (e : sX4_add h a1 = some q) : K 0 mX4_add [.ref 4, .long a1] h (pV q) := by
  unfold sX4_add at e
  refine K.ofV (by decide) rfl (Nat.le_of_ble_eq_true rfl) ?_
  show V (Gs 0 (pV q)) mX4_add (0, 0) 0 [(0, .ref 4), (1, .long a1)] [] h
  refine V.alq dX4_add_0 (pc' := 1) rfl (j := 0) rfl ?_
  refine V.getf dX4_add_1 (pc' := 4) rfl FL_X4_15 rfl (by decide) rfl ?_
  refine V.alq dX4_add_4 (pc' := 5) rfl (j := 0) rfl ?_
  refine V.getr dX4_add_5 (pc' := 8) rfl FL_X4_9 rfl (by decide) rfl (r' := 5) rfl ?_
  refine V.alenJ dX4_add_8 (pc' := 9) rfl rfl (v := 24) (by decide) ?_
  refine V.ic_ge dX4_add_9 (pc' := 12) rfl (tgt := 32) (by decide) (fun c => ?_) (fun c => ?_)
  · rw [if_pos c] at e
    refine V.pk [] rfl ?_
    exact vX4_add_c32 h q e
  · rw [if_neg c] at e
    refine V.alq dX4_add_12 (pc' := 13) rfl (j := 0) rfl ?_
    refine V.getr dX4_add_13 (pc' := 16) rfl FL_X4_9 rfl (by decide) rfl (r' := 5) rfl ?_
    refine V.alq dX4_add_16 (pc' := 17) rfl (j := 0) rfl ?_
    refine V.getf dX4_add_17 (pc' := 20) rfl FL_X4_15 rfl (by decide) rfl ?_
    refine V.llq dX4_add_20 (pc' := 21) rfl (j := 1) rfl ?_
    obtain ⟨c1, e⟩ := gd_s e
    obtain ⟨h2, eh2, e⟩ := nm_s e
    refine V.last dX4_add_21 (pc' := 22) rfl rfl rfl (inb_t c1) eh2 ?_
    refine V.alq dX4_add_22 (pc' := 23) rfl (j := 0) rfl ?_
    refine V.dup dX4_add_23 (pc' := 24) rfl rfl ?_
    refine V.getf dX4_add_24 (pc' := 27) rfl FL_X4_15 rfl (by decide) rfl ?_
    refine V.iconst dX4_add_27 (pc' := 28) rfl (v := 1) (by decide) ?_
    refine V.iadd dX4_add_28 (pc' := 29) rfl ?_
    obtain ⟨h3, eh3, e⟩ := nm_s e
    refine V.putf dX4_add_29 (pc' := 32) rfl FP_X4_15 rfl (by decide) rfl eh3 ?_
    refine V.pk [] rfl ?_
    exact vX4_add_c32 h3 q e

-- X5_isDegree (level 0)
theorem dX5_isDegree_0 : decode cX5_isDegree 0 = .ok (.iload_n 0, 1) := by decide +kernel
theorem dX5_isDegree_1 : decode cX5_isDegree 1 = .ok (.ifCond .lt 14, 3) := by decide +kernel
theorem dX5_isDegree_4 : decode cX5_isDegree 4 = .ok (.iload_n 0, 1) := by decide +kernel
theorem dX5_isDegree_5 : decode cX5_isDegree 5 = .ok (.sipush 500, 3) := by decide +kernel
theorem dX5_isDegree_8 : decode cX5_isDegree 8 = .ok (.if_icmp .gt 7, 3) := by decide +kernel
theorem dX5_isDegree_11 : decode cX5_isDegree 11 = .ok (.iconst 1, 1) := by decide +kernel
theorem dX5_isDegree_12 : decode cX5_isDegree 12 = .ok (.goto 4, 3) := by decide +kernel
theorem dX5_isDegree_15 : decode cX5_isDegree 15 = .ok (.iconst 0, 1) := by decide +kernel
theorem dX5_isDegree_16 : decode cX5_isDegree 16 = .ok (.ireturn, 1) := by decide +kernel
def sX5_isDegree_c16 (h : Hp) (t0 : Int32) : Option (Int32 × Hp) :=
  gd (zb t0) (some (t0, h))
set_option maxRecDepth 10000 in
theorem vX5_isDegree_c16 (h : Hp) (t0 : Int32) (q : (Int32 × Hp)) (e : sX5_isDegree_c16 h t0 = some q) : V (Gs 0 (pI q)) mX5_isDegree (0, 0) 16 [] [.int t0] h := by
  unfold sX5_isDegree_c16 at e
  obtain ⟨c1, e⟩ := gd_s e
  exact V.zret dX5_isDegree_16 rfl (zb_t c1) (fnI e)
def sX5_isDegree_c15 (h : Hp) : Option (Int32 × Hp) :=
  sX5_isDegree_c16 h (0 : Int32)
set_option maxRecDepth 10000 in
theorem vX5_isDegree_c15 (h : Hp) (q : (Int32 × Hp)) (e : sX5_isDegree_c15 h = some q) : V (Gs 0 (pI q)) mX5_isDegree (0, 0) 15 [] [] h := by
  unfold sX5_isDegree_c15 at e
  refine V.iconst dX5_isDegree_15 (pc' := 16) rfl (v := 0) (by decide) ?_
  exact vX5_isDegree_c16 h (0 : Int32) q e
def sX5_isDegree (h : Hp) (a0 : Int32) : Option (Int32 × Hp) :=
  if a0 < 0 then (sX5_isDegree_c15 h) else (if (500 : Int32) < a0 then (sX5_isDegree_c15 h) else (sX5_isDegree_c16 h (1 : Int32)))
set_option maxRecDepth 10000 in
theorem kX5_isDegree (h : Hp) (a0 : Int32) (q : (Int32 × Hp)) (e : sX5_isDegree h a0 = some q) : K 0 mX5_isDegree [.int a0] h (pI q) := by
  unfold sX5_isDegree at e
  refine K.ofV (by decide) rfl (Nat.le_of_ble_eq_true rfl) ?_
  show V (Gs 0 (pI q)) mX5_isDegree (0, 0) 0 [(0, .int a0)] [] h
  refine V.ilq dX5_isDegree_0 (pc' := 1) rfl (j := 0) rfl ?_
  refine V.if_lt dX5_isDegree_1 (pc' := 4) rfl (tgt := 15) (by decide) (fun c => ?_) (fun c => ?_)
  · rw [if_pos c] at e
    refine V.pk [] rfl ?_
    exact vX5_isDegree_c15 h q e
  · rw [if_neg c] at e
    refine V.ilq dX5_isDegree_4 (pc' := 5) rfl (j := 0) rfl ?_
    refine V.sipush dX5_isDegree_5 (pc' := 8) rfl (v := 500) (by decide) ?_
    refine V.ic_gt dX5_isDegree_8 (pc' := 11) rfl (tgt := 15) (by decide) (fun c => ?_) (fun c => ?_)
    · rw [if_pos c] at e
      refine V.pk [] rfl ?_
      exact vX5_isDegree_c15 h q e
    · rw [if_neg c] at e
      refine V.iconst dX5_isDegree_11 (pc' := 12) rfl (v := 1) (by decide) ?_
      refine V.goto dX5_isDegree_12 (pc' := 16) (by decide) ?_
      refine V.pk [] rfl ?_
      exact vX5_isDegree_c16 h (1 : Int32) q e

-- X5_isGap (level 0)
theorem dX5_isGap_0 : decode cX5_isGap 0 = .ok (.iload_n 0, 1) := by decide +kernel
theorem dX5_isGap_1 : decode cX5_isGap 1 = .ok (.ifCond .lt 13, 3) := by decide +kernel
theorem dX5_isGap_4 : decode cX5_isGap 4 = .ok (.iload_n 0, 1) := by decide +kernel
theorem dX5_isGap_5 : decode cX5_isGap 5 = .ok (.bipush 60, 2) := by decide +kernel
theorem dX5_isGap_7 : decode cX5_isGap 7 = .ok (.if_icmp .gt 7, 3) := by decide +kernel
theorem dX5_isGap_10 : decode cX5_isGap 10 = .ok (.iconst 1, 1) := by decide +kernel
theorem dX5_isGap_11 : decode cX5_isGap 11 = .ok (.goto 4, 3) := by decide +kernel
theorem dX5_isGap_14 : decode cX5_isGap 14 = .ok (.iconst 0, 1) := by decide +kernel
theorem dX5_isGap_15 : decode cX5_isGap 15 = .ok (.ireturn, 1) := by decide +kernel
def sX5_isGap_c15 (h : Hp) (t0 : Int32) : Option (Int32 × Hp) :=
  gd (zb t0) (some (t0, h))
set_option maxRecDepth 10000 in
theorem vX5_isGap_c15 (h : Hp) (t0 : Int32) (q : (Int32 × Hp)) (e : sX5_isGap_c15 h t0 = some q) : V (Gs 0 (pI q)) mX5_isGap (0, 0) 15 [] [.int t0] h := by
  unfold sX5_isGap_c15 at e
  obtain ⟨c1, e⟩ := gd_s e
  exact V.zret dX5_isGap_15 rfl (zb_t c1) (fnI e)
def sX5_isGap_c14 (h : Hp) : Option (Int32 × Hp) :=
  sX5_isGap_c15 h (0 : Int32)
set_option maxRecDepth 10000 in
theorem vX5_isGap_c14 (h : Hp) (q : (Int32 × Hp)) (e : sX5_isGap_c14 h = some q) : V (Gs 0 (pI q)) mX5_isGap (0, 0) 14 [] [] h := by
  unfold sX5_isGap_c14 at e
  refine V.iconst dX5_isGap_14 (pc' := 15) rfl (v := 0) (by decide) ?_
  exact vX5_isGap_c15 h (0 : Int32) q e
def sX5_isGap (h : Hp) (a0 : Int32) : Option (Int32 × Hp) :=
  if a0 < 0 then (sX5_isGap_c14 h) else (if (60 : Int32) < a0 then (sX5_isGap_c14 h) else (sX5_isGap_c15 h (1 : Int32)))
set_option maxRecDepth 10000 in
theorem kX5_isGap (h : Hp) (a0 : Int32) (q : (Int32 × Hp)) (e : sX5_isGap h a0 = some q) : K 0 mX5_isGap [.int a0] h (pI q) := by
  unfold sX5_isGap at e
  refine K.ofV (by decide) rfl (Nat.le_of_ble_eq_true rfl) ?_
  show V (Gs 0 (pI q)) mX5_isGap (0, 0) 0 [(0, .int a0)] [] h
  refine V.ilq dX5_isGap_0 (pc' := 1) rfl (j := 0) rfl ?_
  refine V.if_lt dX5_isGap_1 (pc' := 4) rfl (tgt := 14) (by decide) (fun c => ?_) (fun c => ?_)
  · rw [if_pos c] at e
    refine V.pk [] rfl ?_
    exact vX5_isGap_c14 h q e
  · rw [if_neg c] at e
    refine V.ilq dX5_isGap_4 (pc' := 5) rfl (j := 0) rfl ?_
    refine V.bipush dX5_isGap_5 (pc' := 7) rfl (v := 60) (by decide) ?_
    refine V.ic_gt dX5_isGap_7 (pc' := 10) rfl (tgt := 14) (by decide) (fun c => ?_) (fun c => ?_)
    · rw [if_pos c] at e
      refine V.pk [] rfl ?_
      exact vX5_isGap_c14 h q e
    · rw [if_neg c] at e
      refine V.iconst dX5_isGap_10 (pc' := 11) rfl (v := 1) (by decide) ?_
      refine V.goto dX5_isGap_11 (pc' := 15) (by decide) ?_
      refine V.pk [] rfl ?_
      exact vX5_isGap_c15 h (1 : Int32) q e
