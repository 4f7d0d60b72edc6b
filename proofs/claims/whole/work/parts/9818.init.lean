/-! the constructors, walked -/
theorem ac_int : Cond.arrayClass .int ∈ TB := TBm 122 (by decide +kernel) rfl
theorem ac_long : Cond.arrayClass .long ∈ TB := TBm 138 (by decide +kernel) rfl
theorem ac_boolean : Cond.arrayClass .boolean ∈ TB := TBm 173 (by decide +kernel) rfl
theorem oi_m : Cond.instanceMethod Lib.objectInit ∈ TB := TBm 97 (by decide +kernel) rfl
theorem oi_c : Cond.code Lib.objectInit ⟨#[0xb1]⟩ 1 none ∈ TB := TBm 98 (by decide +kernel) rfl
theorem dX3_init_0 : decode cX3_init 0 = .ok (.aload_n 0, 1) := by decide +kernel
theorem dX3_init_1 : decode cX3_init 1 = .ok (.invokespecial 3, 3) := by decide +kernel
theorem dX3_init_4 : decode cX3_init 4 = .ok (.aload_n 0, 1) := by decide +kernel
theorem dX3_init_5 : decode cX3_init 5 = .ok (.bipush 120, 2) := by decide +kernel
theorem dX3_init_7 : decode cX3_init 7 = .ok (.newarray .int, 2) := by decide +kernel
theorem dX3_init_9 : decode cX3_init 9 = .ok (.putfield 9, 3) := by decide +kernel
theorem dX3_init_12 : decode cX3_init 12 = .ok (.aload_n 0, 1) := by decide +kernel
theorem dX3_init_13 : decode cX3_init 13 = .ok (.iconst 0, 1) := by decide +kernel
theorem dX3_init_14 : decode cX3_init 14 = .ok (.putfield 15, 3) := by decide +kernel
theorem dX3_init_17 : decode cX3_init 17 = .ok (.aload_n 0, 1) := by decide +kernel
theorem dX3_init_18 : decode cX3_init 18 = .ok (.iconst 0, 1) := by decide +kernel
theorem dX3_init_19 : decode cX3_init 19 = .ok (.putfield 19, 3) := by decide +kernel
theorem dX3_init_22 : decode cX3_init 22 = .ok (.aload_n 0, 1) := by decide +kernel
theorem dX3_init_23 : decode cX3_init 23 = .ok (.iconst 0, 1) := by decide +kernel
theorem dX3_init_24 : decode cX3_init 24 = .ok (.putfield 22, 3) := by decide +kernel
theorem dX3_init_27 : decode cX3_init 27 = .ok (.aload_n 0, 1) := by decide +kernel
theorem dX3_init_28 : decode cX3_init 28 = .ok (.iconst (-1), 1) := by decide +kernel
theorem dX3_init_29 : decode cX3_init 29 = .ok (.putfield 25, 3) := by decide +kernel
theorem dX3_init_32 : decode cX3_init 32 = .ok (.return_, 1) := by decide +kernel
abbrev fsX3 : List Value := [.null, .int 0, .int 0, .int 0, .int 0]
theorem dfX3 : ∀ j, j < 5 → defaultValue (tyX3 j) = vp_V fsX3 j := by
  intro j hj
  match j, hj with
  | 0, _ => rfl
  | 1, _ => rfl
  | 2, _ => rfl
  | 3, _ => rfl
  | 4, _ => rfl
  | j + 5, h => exact absurd h (by omega)
theorem CI_X3 : CI0 0 yX3_init cX3_init 1 := ⟨TBm 80 (by decide +kernel) rfl, TBm 103 (by decide +kernel) rfl, ⟨by decide, by decide, by decide +kernel⟩, rfl, TBm 102 (by decide +kernel) rfl⟩
abbrev nwX3 (f : Nat → Nat) (cI cJ cZ : ClassId) : va_W := [(f 0, .inr (3, [.ref (f 1), .int 0, .int 0, .int 0, .int (-1)])), (f 1, .inl (cI, 120, .inl (fun _ => 0)))]
set_option maxRecDepth 20000 in
set_option maxHeartbeats 4000000 in
theorem iX3 : KI 1 yX3_init cX3_init 1 3 [] 1 120 fsX3 (nwX3) (fun _ => True) := by
  intro l D cI cJ cZ h0 sz
  refine Met.ofW (cc := cX3_init) (maxL := 1) (ret := none) (by decide) rfl ?_
  intro p e s m args below meth c s₁ B hml hv
  obtain ⟨rfl, hsz, hP, hK, hD0, hN⟩ := hv
  have hx := B.exec
  have hb := B.bytes
  have hr := B.returns
  have hts0 := atoms_spec (ws := .code yX3_init cX3_init 1 none :: TB) B.pre
  have hts : ∀ w ∈ TB, w.before (Value.ref h0 :: []).toArray s = true := fun w hw => hts0 w (List.mem_cons_of_mem _ hw)
  have hown : s.vm.findClass RX3 = some m.cls := findClass_of_methodNamed B.named
  have hlocks := B.notSynchronized
  have hin : meth.name = "<init>" := (name_of_methodNamed B.named B.method).1
  subst hsz
  have hD := hD0.self (sz := s.heap.size)
  generalize hAe : va_A [(h0, .inr (3, fsX3))] s.heap.size = A at hD ⊢
  have hA : ∀ q : Nat, s.heap.size ≤ q → A q := fun q h => by rw [← hAe]; exact Or.inr h
  have hS : va_S A s.heap s.heap [] := va_S.rf
  have hl := lv_entry (Value.ref h0 :: []) (n := 1) (Nat.le_of_ble_eq_true rfl)
  rw [lg_entry_eq]
  generalize (lg_sl (Value.ref h0 :: []) ++ List.replicate (1 - (lg_sl (Value.ref h0 :: [])).length) Slot.unset).toArray = ls at hl ⊢
  have hl : lv_has ls 1 [(0, .ref h0)] := hl
  refine lv_aload_n hx hb dX3_init_0 rfl (lv_at hl 0 rfl) ?_
  refine W.objInit hx hb hown (hts _ (TBm 104 (by decide +kernel) rfl)) (hts _ oi_m) (hts _ oi_c) rfl (by rw [hml]; exact hl.1) rfl dX3_init_1 (Nat.le_of_ble_eq_true rfl) (Nat.le_of_ble_eq_true rfl) ?_
  refine W.eq (g2 := F0 m 4 ls []) rfl ?_
  refine lv_aload_n hx hb dX3_init_4 rfl (lv_at hl 0 rfl) ?_
  refine lv_bipush (v := 120) hx hb dX3_init_5 (by decide) ?_
  refine cn_newa (atype := .int) hx hb (hts _ ac_int) (ty := .int) rfl 0 rfl ra_int hK hP hD hS hA (N' := 120) (a0 := (120, .inl (fun _ => 0))) (fun cA => rfl) (by decide) (by decide) (Nat.le_of_ble_eq_true rfl) (Nat.le_of_ble_eq_true rfl) (Nat.le_of_ble_eq_true rfl) dX3_init_7 (fun q1 H hP hD hS => ?_)
  have hP : va_P D classes ([(h0, .inr (3, [.null, .int 0, .int 0, .int 0, .int 0])), (q1, .inl (cI, 120, .inl (fun _ => 0)))]) H := hP
  have hD : va_D A ([(h0, .inr (3, [.null, .int 0, .int 0, .int 0, .int 0])), (q1, .inl (cI, 120, .inl (fun _ => 0)))]) := hD
  refine va_putF (D := D) (ci := 3) (v := .ref q1) (ty := .array .int) (C := RX3) (T := TX3) (N := 5) hx hb hts itX3 tyX3 tyX3_ok nmX3 hown hK hP hD hS 0 rfl rfl 0 (by decide) (hts _ (TBm 105 (by decide +kernel) rfl)) (fun _ h9 => h9) rfl hin rfl (by decide +kernel) rfl rfl (Nat.le_of_ble_eq_true rfl) dX3_init_9 (fun H locs hP hD hS => ?_)
  have hP : va_P D classes ([(h0, .inr (3, [.ref q1, .int 0, .int 0, .int 0, .int 0])), (q1, .inl (cI, 120, .inl (fun _ => 0)))]) H := hP
  have hD : va_D A ([(h0, .inr (3, [.ref q1, .int 0, .int 0, .int 0, .int 0])), (q1, .inl (cI, 120, .inl (fun _ => 0)))]) := hD
  refine lv_aload_n hx hb dX3_init_12 rfl (lv_at hl 0 rfl) ?_
  refine lv_iconst (v := 0) hx hb dX3_init_13 (by decide) ?_
  refine va_put (D := D) (ci := 3) (v := .int 0) (ty := .int) (C := RX3) (T := TX3) (N := 5) hx hb hts itX3 tyX3 tyX3_ok nmX3 hown hK hP hD hS 0 rfl rfl 1 (by decide) (hts _ (TBm 106 (by decide +kernel) rfl)) (fun _ h9 => h9) rfl (by decide +kernel) rfl rfl (Nat.le_of_ble_eq_true rfl) dX3_init_14 (fun H locs hP hD hS => ?_)
  have hP : va_P D classes ([(h0, .inr (3, [.ref q1, .int 0, .int 0, .int 0, .int 0])), (q1, .inl (cI, 120, .inl (fun _ => 0)))]) H := hP
  have hD : va_D A ([(h0, .inr (3, [.ref q1, .int 0, .int 0, .int 0, .int 0])), (q1, .inl (cI, 120, .inl (fun _ => 0)))]) := hD
  refine lv_aload_n hx hb dX3_init_17 rfl (lv_at hl 0 rfl) ?_
  refine lv_iconst (v := 0) hx hb dX3_init_18 (by decide) ?_
  refine va_put (D := D) (ci := 3) (v := .int 0) (ty := .int) (C := RX3) (T := TX3) (N := 5) hx hb hts itX3 tyX3 tyX3_ok nmX3 hown hK hP hD hS 0 rfl rfl 2 (by decide) (hts _ (TBm 108 (by decide +kernel) rfl)) (fun _ h9 => h9) rfl (by decide +kernel) rfl rfl (Nat.le_of_ble_eq_true rfl) dX3_init_19 (fun H locs hP hD hS => ?_)
  have hP : va_P D classes ([(h0, .inr (3, [.ref q1, .int 0, .int 0, .int 0, .int 0])), (q1, .inl (cI, 120, .inl (fun _ => 0)))]) H := hP
  have hD : va_D A ([(h0, .inr (3, [.ref q1, .int 0, .int 0, .int 0, .int 0])), (q1, .inl (cI, 120, .inl (fun _ => 0)))]) := hD
  refine lv_aload_n hx hb dX3_init_22 rfl (lv_at hl 0 rfl) ?_
  refine lv_iconst (v := 0) hx hb dX3_init_23 (by decide) ?_
  refine va_put (D := D) (ci := 3) (v := .int 0) (ty := .int) (C := RX3) (T := TX3) (N := 5) hx hb hts itX3 tyX3 tyX3_ok nmX3 hown hK hP hD hS 0 rfl rfl 3 (by decide) (hts _ (TBm 109 (by decide +kernel) rfl)) (fun _ h9 => h9) rfl (by decide +kernel) rfl rfl (Nat.le_of_ble_eq_true rfl) dX3_init_24 (fun H locs hP hD hS => ?_)
  have hP : va_P D classes ([(h0, .inr (3, [.ref q1, .int 0, .int 0, .int 0, .int 0])), (q1, .inl (cI, 120, .inl (fun _ => 0)))]) H := hP
  have hD : va_D A ([(h0, .inr (3, [.ref q1, .int 0, .int 0, .int 0, .int 0])), (q1, .inl (cI, 120, .inl (fun _ => 0)))]) := hD
  refine lv_aload_n hx hb dX3_init_27 rfl (lv_at hl 0 rfl) ?_
  refine lv_iconst (v := (-1)) hx hb dX3_init_28 (by decide) ?_
  refine va_put (D := D) (ci := 3) (v := .int (-1)) (ty := .int) (C := RX3) (T := TX3) (N := 5) hx hb hts itX3 tyX3 tyX3_ok nmX3 hown hK hP hD hS 0 rfl rfl 4 (by decide) (hts _ (TBm 110 (by decide +kernel) rfl)) (fun _ h9 => h9) rfl (by decide +kernel) rfl rfl (Nat.le_of_ble_eq_true rfl) dX3_init_29 (fun H locs hP hD hS => ?_)
  have hP : va_P D classes ([(h0, .inr (3, [.ref q1, .int 0, .int 0, .int 0, .int (-1)])), (q1, .inl (cI, 120, .inl (fun _ => 0)))]) H := hP
  have hD : va_D A ([(h0, .inr (3, [.ref q1, .int 0, .int 0, .int 0, .int (-1)])), (q1, .inl (cI, 120, .inl (fun _ => 0)))]) := hD
  exact W.vret hx hb hr (fun t ht hW => ⟨⟨(fun k => [h0, q1].getD k 0), rfl, rfl, by rw [ht]; exact hP, va_K.moved hW.alike hK, hD⟩, hS.F ht⟩) hS.2.2 dX3_init_32
theorem dX4_init_0 : decode cX4_init 0 = .ok (.aload_n 0, 1) := by decide +kernel
theorem dX4_init_1 : decode cX4_init 1 = .ok (.invokespecial 3, 3) := by decide +kernel
theorem dX4_init_4 : decode cX4_init 4 = .ok (.aload_n 0, 1) := by decide +kernel
theorem dX4_init_5 : decode cX4_init 5 = .ok (.bipush 24, 2) := by decide +kernel
theorem dX4_init_7 : decode cX4_init 7 = .ok (.newarray .long, 2) := by decide +kernel
theorem dX4_init_9 : decode cX4_init 9 = .ok (.putfield 9, 3) := by decide +kernel
theorem dX4_init_12 : decode cX4_init 12 = .ok (.aload_n 0, 1) := by decide +kernel
theorem dX4_init_13 : decode cX4_init 13 = .ok (.iconst 0, 1) := by decide +kernel
theorem dX4_init_14 : decode cX4_init 14 = .ok (.putfield 15, 3) := by decide +kernel
theorem dX4_init_17 : decode cX4_init 17 = .ok (.return_, 1) := by decide +kernel
abbrev fsX4 : List Value := [.null, .int 0]
theorem dfX4 : ∀ j, j < 2 → defaultValue (tyX4 j) = vp_V fsX4 j := by
  intro j hj
  match j, hj with
  | 0, _ => rfl
  | 1, _ => rfl
  | j + 2, h => exact absurd h (by omega)
theorem CI_X4 : CI0 0 yX4_init cX4_init 1 := ⟨TBm 81 (by decide +kernel) rfl, TBm 127 (by decide +kernel) rfl, ⟨by decide, by decide, by decide +kernel⟩, rfl, TBm 126 (by decide +kernel) rfl⟩
abbrev nwX4 (f : Nat → Nat) (cI cJ cZ : ClassId) : va_W := [(f 0, .inr (4, [.ref (f 1), .int 0])), (f 1, .inl (cJ, 24, .inr (.inl (fun _ => 0))))]
set_option maxRecDepth 20000 in
set_option maxHeartbeats 4000000 in
theorem iX4 : KI 1 yX4_init cX4_init 1 4 [] 1 24 fsX4 (nwX4) (fun _ => True) := by
  intro l D cI cJ cZ h0 sz
  refine Met.ofW (cc := cX4_init) (maxL := 1) (ret := none) (by decide) rfl ?_
  intro p e s m args below meth c s₁ B hml hv
  obtain ⟨rfl, hsz, hP, hK, hD0, hN⟩ := hv
  have hx := B.exec
  have hb := B.bytes
  have hr := B.returns
  have hts0 := atoms_spec (ws := .code yX4_init cX4_init 1 none :: TB) B.pre
  have hts : ∀ w ∈ TB, w.before (Value.ref h0 :: []).toArray s = true := fun w hw => hts0 w (List.mem_cons_of_mem _ hw)
  have hown : s.vm.findClass RX4 = some m.cls := findClass_of_methodNamed B.named
  have hlocks := B.notSynchronized
  have hin : meth.name = "<init>" := (name_of_methodNamed B.named B.method).1
  subst hsz
  have hD := hD0.self (sz := s.heap.size)
  generalize hAe : va_A [(h0, .inr (4, fsX4))] s.heap.size = A at hD ⊢
  have hA : ∀ q : Nat, s.heap.size ≤ q → A q := fun q h => by rw [← hAe]; exact Or.inr h
  have hS : va_S A s.heap s.heap [] := va_S.rf
  have hl := lv_entry (Value.ref h0 :: []) (n := 1) (Nat.le_of_ble_eq_true rfl)
  rw [lg_entry_eq]
  generalize (lg_sl (Value.ref h0 :: []) ++ List.replicate (1 - (lg_sl (Value.ref h0 :: [])).length) Slot.unset).toArray = ls at hl ⊢
  have hl : lv_has ls 1 [(0, .ref h0)] := hl
  refine lv_aload_n hx hb dX4_init_0 rfl (lv_at hl 0 rfl) ?_
  refine W.objInit hx hb hown (hts _ (TBm 128 (by decide +kernel) rfl)) (hts _ oi_m) (hts _ oi_c) rfl (by rw [hml]; exact hl.1) rfl dX4_init_1 (Nat.le_of_ble_eq_true rfl) (Nat.le_of_ble_eq_true rfl) ?_
  refine W.eq (g2 := F0 m 4 ls []) rfl ?_
  refine lv_aload_n hx hb dX4_init_4 rfl (lv_at hl 0 rfl) ?_
  refine lv_bipush (v := 24) hx hb dX4_init_5 (by decide) ?_
  refine cn_newa (atype := .long) hx hb (hts _ ac_long) (ty := .long) rfl 1 rfl ra_long hK hP hD hS hA (N' := 24) (a0 := (24, .inr (.inl (fun _ => 0)))) (fun cA => rfl) (by decide) (by decide) (Nat.le_of_ble_eq_true rfl) (Nat.le_of_ble_eq_true rfl) (Nat.le_of_ble_eq_true rfl) dX4_init_7 (fun q1 H hP hD hS => ?_)
  have hP : va_P D classes ([(h0, .inr (4, [.null, .int 0])), (q1, .inl (cJ, 24, .inr (.inl (fun _ => 0))))]) H := hP
  have hD : va_D A ([(h0, .inr (4, [.null, .int 0])), (q1, .inl (cJ, 24, .inr (.inl (fun _ => 0))))]) := hD
  refine va_putF (D := D) (ci := 4) (v := .ref q1) (ty := .array .long) (C := RX4) (T := TX4) (N := 2) hx hb hts itX4 tyX4 tyX4_ok nmX4 hown hK hP hD hS 0 rfl rfl 0 (by decide) (hts _ (TBm 129 (by decide +kernel) rfl)) (fun _ h9 => h9) rfl hin rfl (by decide +kernel) rfl rfl (Nat.le_of_ble_eq_true rfl) dX4_init_9 (fun H locs hP hD hS => ?_)
  have hP : va_P D classes ([(h0, .inr (4, [.ref q1, .int 0])), (q1, .inl (cJ, 24, .inr (.inl (fun _ => 0))))]) H := hP
  have hD : va_D A ([(h0, .inr (4, [.ref q1, .int 0])), (q1, .inl (cJ, 24, .inr (.inl (fun _ => 0))))]) := hD
  refine lv_aload_n hx hb dX4_init_12 rfl (lv_at hl 0 rfl) ?_
  refine lv_iconst (v := 0) hx hb dX4_init_13 (by decide) ?_
  refine va_put (D := D) (ci := 4) (v := .int 0) (ty := .int) (C := RX4) (T := TX4) (N := 2) hx hb hts itX4 tyX4 tyX4_ok nmX4 hown hK hP hD hS 0 rfl rfl 1 (by decide) (hts _ (TBm 131 (by decide +kernel) rfl)) (fun _ h9 => h9) rfl (by decide +kernel) rfl rfl (Nat.le_of_ble_eq_true rfl) dX4_init_14 (fun H locs hP hD hS => ?_)
  have hP : va_P D classes ([(h0, .inr (4, [.ref q1, .int 0])), (q1, .inl (cJ, 24, .inr (.inl (fun _ => 0))))]) H := hP
  have hD : va_D A ([(h0, .inr (4, [.ref q1, .int 0])), (q1, .inl (cJ, 24, .inr (.inl (fun _ => 0))))]) := hD
  exact W.vret hx hb hr (fun t ht hW => ⟨⟨(fun k => [h0, q1].getD k 0), rfl, rfl, by rw [ht]; exact hP, va_K.moved hW.alike hK, hD⟩, hS.F ht⟩) hS.2.2 dX4_init_17
theorem dX1_init_0 : decode cX1_init 0 = .ok (.aload_n 0, 1) := by decide +kernel
theorem dX1_init_1 : decode cX1_init 1 = .ok (.invokespecial 3, 3) := by decide +kernel
theorem dX1_init_4 : decode cX1_init 4 = .ok (.aload_n 0, 1) := by decide +kernel
theorem dX1_init_5 : decode cX1_init 5 = .ok (.bipush 10, 2) := by decide +kernel
theorem dX1_init_7 : decode cX1_init 7 = .ok (.newarray .boolean, 2) := by decide +kernel
theorem dX1_init_9 : decode cX1_init 9 = .ok (.putfield 9, 3) := by decide +kernel
theorem dX1_init_12 : decode cX1_init 12 = .ok (.aload_n 0, 1) := by decide +kernel
theorem dX1_init_13 : decode cX1_init 13 = .ok (.bipush 10, 2) := by decide +kernel
theorem dX1_init_15 : decode cX1_init 15 = .ok (.newarray .int, 2) := by decide +kernel
theorem dX1_init_17 : decode cX1_init 17 = .ok (.putfield 15, 3) := by decide +kernel
theorem dX1_init_20 : decode cX1_init 20 = .ok (.aload_n 0, 1) := by decide +kernel
theorem dX1_init_21 : decode cX1_init 21 = .ok (.bipush 10, 2) := by decide +kernel
theorem dX1_init_23 : decode cX1_init 23 = .ok (.newarray .int, 2) := by decide +kernel
theorem dX1_init_25 : decode cX1_init 25 = .ok (.putfield 19, 3) := by decide +kernel
theorem dX1_init_28 : decode cX1_init 28 = .ok (.aload_n 0, 1) := by decide +kernel
theorem dX1_init_29 : decode cX1_init 29 = .ok (.bipush 10, 2) := by decide +kernel
theorem dX1_init_31 : decode cX1_init 31 = .ok (.newarray .int, 2) := by decide +kernel
theorem dX1_init_33 : decode cX1_init 33 = .ok (.putfield 22, 3) := by decide +kernel
theorem dX1_init_36 : decode cX1_init 36 = .ok (.aload_n 0, 1) := by decide +kernel
theorem dX1_init_37 : decode cX1_init 37 = .ok (.iconst 0, 1) := by decide +kernel
theorem dX1_init_38 : decode cX1_init 38 = .ok (.putfield 25, 3) := by decide +kernel
theorem dX1_init_41 : decode cX1_init 41 = .ok (.return_, 1) := by decide +kernel
abbrev fsX1 : List Value := [.null, .null, .null, .null, .int 0]
theorem dfX1 : ∀ j, j < 5 → defaultValue (tyX1 j) = vp_V fsX1 j := by
  intro j hj
  match j, hj with
  | 0, _ => rfl
  | 1, _ => rfl
  | 2, _ => rfl
  | 3, _ => rfl
  | 4, _ => rfl
  | j + 5, h => exact absurd h (by omega)
theorem CI_X1 : CI0 0 yX1_init cX1_init 1 := ⟨TBm 82 (by decide +kernel) rfl, TBm 143 (by decide +kernel) rfl, ⟨by decide, by decide, by decide +kernel⟩, rfl, TBm 142 (by decide +kernel) rfl⟩
abbrev nwX1 (f : Nat → Nat) (cI cJ cZ : ClassId) : va_W := [(f 0, .inr (1, [.ref (f 1), .ref (f 2), .ref (f 3), .ref (f 4), .int 0])), (f 1, .inl (cZ, 10, .inl (fun _ => 0))), (f 2, .inl (cI, 10, .inl (fun _ => 0))), (f 3, .inl (cI, 10, .inl (fun _ => 0))), (f 4, .inl (cI, 10, .inl (fun _ => 0)))]
set_option maxRecDepth 20000 in
set_option maxHeartbeats 4000000 in
theorem iX1 : KI 1 yX1_init cX1_init 1 1 [] 4 40 fsX1 (nwX1) (fun _ => True) := by
  intro l D cI cJ cZ h0 sz
  refine Met.ofW (cc := cX1_init) (maxL := 1) (ret := none) (by decide) rfl ?_
  intro p e s m args below meth c s₁ B hml hv
  obtain ⟨rfl, hsz, hP, hK, hD0, hN⟩ := hv
  have hx := B.exec
  have hb := B.bytes
  have hr := B.returns
  have hts0 := atoms_spec (ws := .code yX1_init cX1_init 1 none :: TB) B.pre
  have hts : ∀ w ∈ TB, w.before (Value.ref h0 :: []).toArray s = true := fun w hw => hts0 w (List.mem_cons_of_mem _ hw)
  have hown : s.vm.findClass RX1 = some m.cls := findClass_of_methodNamed B.named
  have hlocks := B.notSynchronized
  have hin : meth.name = "<init>" := (name_of_methodNamed B.named B.method).1
  subst hsz
  have hD := hD0.self (sz := s.heap.size)
  generalize hAe : va_A [(h0, .inr (1, fsX1))] s.heap.size = A at hD ⊢
  have hA : ∀ q : Nat, s.heap.size ≤ q → A q := fun q h => by rw [← hAe]; exact Or.inr h
  have hS : va_S A s.heap s.heap [] := va_S.rf
  have hl := lv_entry (Value.ref h0 :: []) (n := 1) (Nat.le_of_ble_eq_true rfl)
  rw [lg_entry_eq]
  generalize (lg_sl (Value.ref h0 :: []) ++ List.replicate (1 - (lg_sl (Value.ref h0 :: [])).length) Slot.unset).toArray = ls at hl ⊢
  have hl : lv_has ls 1 [(0, .ref h0)] := hl
  refine lv_aload_n hx hb dX1_init_0 rfl (lv_at hl 0 rfl) ?_
  refine W.objInit hx hb hown (hts _ (TBm 144 (by decide +kernel) rfl)) (hts _ oi_m) (hts _ oi_c) rfl (by rw [hml]; exact hl.1) rfl dX1_init_1 (Nat.le_of_ble_eq_true rfl) (Nat.le_of_ble_eq_true rfl) ?_
  refine W.eq (g2 := F0 m 4 ls []) rfl ?_
  refine lv_aload_n hx hb dX1_init_4 rfl (lv_at hl 0 rfl) ?_
  refine lv_bipush (v := 10) hx hb dX1_init_5 (by decide) ?_
  refine cn_newa (atype := .boolean) hx hb (hts _ ac_boolean) (ty := .boolean) rfl 2 rfl ra_boolean hK hP hD hS hA (N' := 10) (a0 := (10, .inl (fun _ => 0))) (fun cA => rfl) (by decide) (by decide) (Nat.le_of_ble_eq_true rfl) (Nat.le_of_ble_eq_true rfl) (Nat.le_of_ble_eq_true rfl) dX1_init_7 (fun q1 H hP hD hS => ?_)
  have hP : va_P D classes ([(h0, .inr (1, [.null, .null, .null, .null, .int 0])), (q1, .inl (cZ, 10, .inl (fun _ => 0)))]) H := hP
  have hD : va_D A ([(h0, .inr (1, [.null, .null, .null, .null, .int 0])), (q1, .inl (cZ, 10, .inl (fun _ => 0)))]) := hD
  refine va_putF (D := D) (ci := 1) (v := .ref q1) (ty := .array .boolean) (C := RX1) (T := TX1) (N := 5) hx hb hts itX1 tyX1 tyX1_ok nmX1 hown hK hP hD hS 0 rfl rfl 0 (by decide) (hts _ (TBm 145 (by decide +kernel) rfl)) (fun _ h9 => h9) rfl hin rfl (by decide +kernel) rfl rfl (Nat.le_of_ble_eq_true rfl) dX1_init_9 (fun H locs hP hD hS => ?_)
  have hP : va_P D classes ([(h0, .inr (1, [.ref q1, .null, .null, .null, .int 0])), (q1, .inl (cZ, 10, .inl (fun _ => 0)))]) H := hP
  have hD : va_D A ([(h0, .inr (1, [.ref q1, .null, .null, .null, .int 0])), (q1, .inl (cZ, 10, .inl (fun _ => 0)))]) := hD
  refine lv_aload_n hx hb dX1_init_12 rfl (lv_at hl 0 rfl) ?_
  refine lv_bipush (v := 10) hx hb dX1_init_13 (by decide) ?_
  refine cn_newa (atype := .int) hx hb (hts _ ac_int) (ty := .int) rfl 0 rfl ra_int hK hP hD hS hA (N' := 10) (a0 := (10, .inl (fun _ => 0))) (fun cA => rfl) (by decide) (by decide) (Nat.le_of_ble_eq_true rfl) (Nat.le_of_ble_eq_true rfl) (Nat.le_of_ble_eq_true rfl) dX1_init_15 (fun q2 H hP hD hS => ?_)
  have hP : va_P D classes ([(h0, .inr (1, [.ref q1, .null, .null, .null, .int 0])), (q1, .inl (cZ, 10, .inl (fun _ => 0))), (q2, .inl (cI, 10, .inl (fun _ => 0)))]) H := hP
  have hD : va_D A ([(h0, .inr (1, [.ref q1, .null, .null, .null, .int 0])), (q1, .inl (cZ, 10, .inl (fun _ => 0))), (q2, .inl (cI, 10, .inl (fun _ => 0)))]) := hD
  refine va_putF (D := D) (ci := 1) (v := .ref q2) (ty := .array .int) (C := RX1) (T := TX1) (N := 5) hx hb hts itX1 tyX1 tyX1_ok nmX1 hown hK hP hD hS 0 rfl rfl 1 (by decide) (hts _ (TBm 149 (by decide +kernel) rfl)) (fun _ h9 => h9) rfl hin rfl (by decide +kernel) rfl rfl (Nat.le_of_ble_eq_true rfl) dX1_init_17 (fun H locs hP hD hS => ?_)
  have hP : va_P D classes ([(h0, .inr (1, [.ref q1, .ref q2, .null, .null, .int 0])), (q1, .inl (cZ, 10, .inl (fun _ => 0))), (q2, .inl (cI, 10, .inl (fun _ => 0)))]) H := hP
  have hD : va_D A ([(h0, .inr (1, [.ref q1, .ref q2, .null, .null, .int 0])), (q1, .inl (cZ, 10, .inl (fun _ => 0))), (q2, .inl (cI, 10, .inl (fun _ => 0)))]) := hD
  refine lv_aload_n hx hb dX1_init_20 rfl (lv_at hl 0 rfl) ?_
  refine lv_bipush (v := 10) hx hb dX1_init_21 (by decide) ?_
  refine cn_newa (atype := .int) hx hb (hts _ ac_int) (ty := .int) rfl 0 rfl ra_int hK hP hD hS hA (N' := 10) (a0 := (10, .inl (fun _ => 0))) (fun cA => rfl) (by decide) (by decide) (Nat.le_of_ble_eq_true rfl) (Nat.le_of_ble_eq_true rfl) (Nat.le_of_ble_eq_true rfl) dX1_init_23 (fun q3 H hP hD hS => ?_)
  have hP : va_P D classes ([(h0, .inr (1, [.ref q1, .ref q2, .null, .null, .int 0])), (q1, .inl (cZ, 10, .inl (fun _ => 0))), (q2, .inl (cI, 10, .inl (fun _ => 0))), (q3, .inl (cI, 10, .inl (fun _ => 0)))]) H := hP
  have hD : va_D A ([(h0, .inr (1, [.ref q1, .ref q2, .null, .null, .int 0])), (q1, .inl (cZ, 10, .inl (fun _ => 0))), (q2, .inl (cI, 10, .inl (fun _ => 0))), (q3, .inl (cI, 10, .inl (fun _ => 0)))]) := hD
  refine va_putF (D := D) (ci := 1) (v := .ref q3) (ty := .array .int) (C := RX1) (T := TX1) (N := 5) hx hb hts itX1 tyX1 tyX1_ok nmX1 hown hK hP hD hS 0 rfl rfl 2 (by decide) (hts _ (TBm 152 (by decide +kernel) rfl)) (fun _ h9 => h9) rfl hin rfl (by decide +kernel) rfl rfl (Nat.le_of_ble_eq_true rfl) dX1_init_25 (fun H locs hP hD hS => ?_)
  have hP : va_P D classes ([(h0, .inr (1, [.ref q1, .ref q2, .ref q3, .null, .int 0])), (q1, .inl (cZ, 10, .inl (fun _ => 0))), (q2, .inl (cI, 10, .inl (fun _ => 0))), (q3, .inl (cI, 10, .inl (fun _ => 0)))]) H := hP
  have hD : va_D A ([(h0, .inr (1, [.ref q1, .ref q2, .ref q3, .null, .int 0])), (q1, .inl (cZ, 10, .inl (fun _ => 0))), (q2, .inl (cI, 10, .inl (fun _ => 0))), (q3, .inl (cI, 10, .inl (fun _ => 0)))]) := hD
  refine lv_aload_n hx hb dX1_init_28 rfl (lv_at hl 0 rfl) ?_
  refine lv_bipush (v := 10) hx hb dX1_init_29 (by decide) ?_
  refine cn_newa (atype := .int) hx hb (hts _ ac_int) (ty := .int) rfl 0 rfl ra_int hK hP hD hS hA (N' := 10) (a0 := (10, .inl (fun _ => 0))) (fun cA => rfl) (by decide) (by decide) (Nat.le_of_ble_eq_true rfl) (Nat.le_of_ble_eq_true rfl) (Nat.le_of_ble_eq_true rfl) dX1_init_31 (fun q4 H hP hD hS => ?_)
  have hP : va_P D classes ([(h0, .inr (1, [.ref q1, .ref q2, .ref q3, .null, .int 0])), (q1, .inl (cZ, 10, .inl (fun _ => 0))), (q2, .inl (cI, 10, .inl (fun _ => 0))), (q3, .inl (cI, 10, .inl (fun _ => 0))), (q4, .inl (cI, 10, .inl (fun _ => 0)))]) H := hP
  have hD : va_D A ([(h0, .inr (1, [.ref q1, .ref q2, .ref q3, .null, .int 0])), (q1, .inl (cZ, 10, .inl (fun _ => 0))), (q2, .inl (cI, 10, .inl (fun _ => 0))), (q3, .inl (cI, 10, .inl (fun _ => 0))), (q4, .inl (cI, 10, .inl (fun _ => 0)))]) := hD
  refine va_putF (D := D) (ci := 1) (v := .ref q4) (ty := .array .int) (C := RX1) (T := TX1) (N := 5) hx hb hts itX1 tyX1 tyX1_ok nmX1 hown hK hP hD hS 0 rfl rfl 3 (by decide) (hts _ (TBm 155 (by decide +kernel) rfl)) (fun _ h9 => h9) rfl hin rfl (by decide +kernel) rfl rfl (Nat.le_of_ble_eq_true rfl) dX1_init_33 (fun H locs hP hD hS => ?_)
  have hP : va_P D classes ([(h0, .inr (1, [.ref q1, .ref q2, .ref q3, .ref q4, .int 0])), (q1, .inl (cZ, 10, .inl (fun _ => 0))), (q2, .inl (cI, 10, .inl (fun _ => 0))), (q3, .inl (cI, 10, .inl (fun _ => 0))), (q4, .inl (cI, 10, .inl (fun _ => 0)))]) H := hP
  have hD : va_D A ([(h0, .inr (1, [.ref q1, .ref q2, .ref q3, .ref q4, .int 0])), (q1, .inl (cZ, 10, .inl (fun _ => 0))), (q2, .inl (cI, 10, .inl (fun _ => 0))), (q3, .inl (cI, 10, .inl (fun _ => 0))), (q4, .inl (cI, 10, .inl (fun _ => 0)))]) := hD
  refine lv_aload_n hx hb dX1_init_36 rfl (lv_at hl 0 rfl) ?_
  refine lv_iconst (v := 0) hx hb dX1_init_37 (by decide) ?_
  refine va_put (D := D) (ci := 1) (v := .int 0) (ty := .int) (C := RX1) (T := TX1) (N := 5) hx hb hts itX1 tyX1 tyX1_ok nmX1 hown hK hP hD hS 0 rfl rfl 4 (by decide) (hts _ (TBm 158 (by decide +kernel) rfl)) (fun _ h9 => h9) rfl (by decide +kernel) rfl rfl (Nat.le_of_ble_eq_true rfl) dX1_init_38 (fun H locs hP hD hS => ?_)
  have hP : va_P D classes ([(h0, .inr (1, [.ref q1, .ref q2, .ref q3, .ref q4, .int 0])), (q1, .inl (cZ, 10, .inl (fun _ => 0))), (q2, .inl (cI, 10, .inl (fun _ => 0))), (q3, .inl (cI, 10, .inl (fun _ => 0))), (q4, .inl (cI, 10, .inl (fun _ => 0)))]) H := hP
  have hD : va_D A ([(h0, .inr (1, [.ref q1, .ref q2, .ref q3, .ref q4, .int 0])), (q1, .inl (cZ, 10, .inl (fun _ => 0))), (q2, .inl (cI, 10, .inl (fun _ => 0))), (q3, .inl (cI, 10, .inl (fun _ => 0))), (q4, .inl (cI, 10, .inl (fun _ => 0)))]) := hD
  exact W.vret hx hb hr (fun t ht hW => ⟨⟨(fun k => [h0, q1, q2, q3, q4].getD k 0), rfl, rfl, by rw [ht]; exact hP, va_K.moved hW.alike hK, hD⟩, hS.F ht⟩) hS.2.2 dX1_init_41
theorem dX0_init_0 : decode cX0_init 0 = .ok (.aload_n 0, 1) := by decide +kernel
theorem dX0_init_1 : decode cX0_init 1 = .ok (.invokespecial 3, 3) := by decide +kernel
theorem dX0_init_4 : decode cX0_init 4 = .ok (.aload_n 0, 1) := by decide +kernel
theorem dX0_init_5 : decode cX0_init 5 = .ok (.bipush 20, 2) := by decide +kernel
theorem dX0_init_7 : decode cX0_init 7 = .ok (.newarray .int, 2) := by decide +kernel
theorem dX0_init_9 : decode cX0_init 9 = .ok (.putfield 9, 3) := by decide +kernel
theorem dX0_init_12 : decode cX0_init 12 = .ok (.aload_n 0, 1) := by decide +kernel
theorem dX0_init_13 : decode cX0_init 13 = .ok (.bipush 20, 2) := by decide +kernel
theorem dX0_init_15 : decode cX0_init 15 = .ok (.newarray .int, 2) := by decide +kernel
theorem dX0_init_17 : decode cX0_init 17 = .ok (.putfield 15, 3) := by decide +kernel
theorem dX0_init_20 : decode cX0_init 20 = .ok (.aload_n 0, 1) := by decide +kernel
theorem dX0_init_21 : decode cX0_init 21 = .ok (.bipush 20, 2) := by decide +kernel
theorem dX0_init_23 : decode cX0_init 23 = .ok (.newarray .int, 2) := by decide +kernel
theorem dX0_init_25 : decode cX0_init 25 = .ok (.putfield 18, 3) := by decide +kernel
theorem dX0_init_28 : decode cX0_init 28 = .ok (.aload_n 0, 1) := by decide +kernel
theorem dX0_init_29 : decode cX0_init 29 = .ok (.bipush 20, 2) := by decide +kernel
theorem dX0_init_31 : decode cX0_init 31 = .ok (.newarray .int, 2) := by decide +kernel
theorem dX0_init_33 : decode cX0_init 33 = .ok (.putfield 21, 3) := by decide +kernel
theorem dX0_init_36 : decode cX0_init 36 = .ok (.aload_n 0, 1) := by decide +kernel
theorem dX0_init_37 : decode cX0_init 37 = .ok (.iconst 0, 1) := by decide +kernel
theorem dX0_init_38 : decode cX0_init 38 = .ok (.putfield 24, 3) := by decide +kernel
theorem dX0_init_41 : decode cX0_init 41 = .ok (.aload_n 0, 1) := by decide +kernel
theorem dX0_init_42 : decode cX0_init 42 = .ok (.iconst 0, 1) := by decide +kernel
theorem dX0_init_43 : decode cX0_init 43 = .ok (.putfield 28, 3) := by decide +kernel
theorem dX0_init_46 : decode cX0_init 46 = .ok (.return_, 1) := by decide +kernel
abbrev fsX0 : List Value := [.null, .null, .null, .null, .int 0, .int 0]
theorem dfX0 : ∀ j, j < 6 → defaultValue (tyX0 j) = vp_V fsX0 j := by
  intro j hj
  match j, hj with
  | 0, _ => rfl
  | 1, _ => rfl
  | 2, _ => rfl
  | 3, _ => rfl
  | 4, _ => rfl
  | 5, _ => rfl
  | j + 6, h => exact absurd h (by omega)
theorem CI_X0 : CI0 0 yX0_init cX0_init 1 := ⟨TBm 83 (by decide +kernel) rfl, TBm 178 (by decide +kernel) rfl, ⟨by decide, by decide, by decide +kernel⟩, rfl, TBm 177 (by decide +kernel) rfl⟩
abbrev nwX0 (f : Nat → Nat) (cI cJ cZ : ClassId) : va_W := [(f 0, .inr (0, [.ref (f 1), .ref (f 2), .ref (f 3), .ref (f 4), .int 0, .int 0])), (f 1, .inl (cI, 20, .inl (fun _ => 0))), (f 2, .inl (cI, 20, .inl (fun _ => 0))), (f 3, .inl (cI, 20, .inl (fun _ => 0))), (f 4, .inl (cI, 20, .inl (fun _ => 0)))]
set_option maxRecDepth 20000 in
set_option maxHeartbeats 4000000 in
theorem iX0 : KI 1 yX0_init cX0_init 1 0 [] 4 80 fsX0 (nwX0) (fun _ => True) := by
  intro l D cI cJ cZ h0 sz
  refine Met.ofW (cc := cX0_init) (maxL := 1) (ret := none) (by decide) rfl ?_
  intro p e s m args below meth c s₁ B hml hv
  obtain ⟨rfl, hsz, hP, hK, hD0, hN⟩ := hv
  have hx := B.exec
  have hb := B.bytes
  have hr := B.returns
  have hts0 := atoms_spec (ws := .code yX0_init cX0_init 1 none :: TB) B.pre
  have hts : ∀ w ∈ TB, w.before (Value.ref h0 :: []).toArray s = true := fun w hw => hts0 w (List.mem_cons_of_mem _ hw)
  have hown : s.vm.findClass RX0 = some m.cls := findClass_of_methodNamed B.named
  have hlocks := B.notSynchronized
  have hin : meth.name = "<init>" := (name_of_methodNamed B.named B.method).1
  subst hsz
  have hD := hD0.self (sz := s.heap.size)
  generalize hAe : va_A [(h0, .inr (0, fsX0))] s.heap.size = A at hD ⊢
  have hA : ∀ q : Nat, s.heap.size ≤ q → A q := fun q h => by rw [← hAe]; exact Or.inr h
  have hS : va_S A s.heap s.heap [] := va_S.rf
  have hl := lv_entry (Value.ref h0 :: []) (n := 1) (Nat.le_of_ble_eq_true rfl)
  rw [lg_entry_eq]
  generalize (lg_sl (Value.ref h0 :: []) ++ List.replicate (1 - (lg_sl (Value.ref h0 :: [])).length) Slot.unset).toArray = ls at hl ⊢
  have hl : lv_has ls 1 [(0, .ref h0)] := hl
  refine lv_aload_n hx hb dX0_init_0 rfl (lv_at hl 0 rfl) ?_
  refine W.objInit hx hb hown (hts _ (TBm 179 (by decide +kernel) rfl)) (hts _ oi_m) (hts _ oi_c) rfl (by rw [hml]; exact hl.1) rfl dX0_init_1 (Nat.le_of_ble_eq_true rfl) (Nat.le_of_ble_eq_true rfl) ?_
  refine W.eq (g2 := F0 m 4 ls []) rfl ?_
  refine lv_aload_n hx hb dX0_init_4 rfl (lv_at hl 0 rfl) ?_
  refine lv_bipush (v := 20) hx hb dX0_init_5 (by decide) ?_
  refine cn_newa (atype := .int) hx hb (hts _ ac_int) (ty := .int) rfl 0 rfl ra_int hK hP hD hS hA (N' := 20) (a0 := (20, .inl (fun _ => 0))) (fun cA => rfl) (by decide) (by decide) (Nat.le_of_ble_eq_true rfl) (Nat.le_of_ble_eq_true rfl) (Nat.le_of_ble_eq_true rfl) dX0_init_7 (fun q1 H hP hD hS => ?_)
  have hP : va_P D classes ([(h0, .inr (0, [.null, .null, .null, .null, .int 0, .int 0])), (q1, .inl (cI, 20, .inl (fun _ => 0)))]) H := hP
  have hD : va_D A ([(h0, .inr (0, [.null, .null, .null, .null, .int 0, .int 0])), (q1, .inl (cI, 20, .inl (fun _ => 0)))]) := hD
  refine va_putF (D := D) (ci := 0) (v := .ref q1) (ty := .array .int) (C := RX0) (T := TX0) (N := 6) hx hb hts itX0 tyX0 tyX0_ok nmX0 hown hK hP hD hS 0 rfl rfl 0 (by decide) (hts _ (TBm 180 (by decide +kernel) rfl)) (fun _ h9 => h9) rfl hin rfl (by decide +kernel) rfl rfl (Nat.le_of_ble_eq_true rfl) dX0_init_9 (fun H locs hP hD hS => ?_)
  have hP : va_P D classes ([(h0, .inr (0, [.ref q1, .null, .null, .null, .int 0, .int 0])), (q1, .inl (cI, 20, .inl (fun _ => 0)))]) H := hP
  have hD : va_D A ([(h0, .inr (0, [.ref q1, .null, .null, .null, .int 0, .int 0])), (q1, .inl (cI, 20, .inl (fun _ => 0)))]) := hD
  refine lv_aload_n hx hb dX0_init_12 rfl (lv_at hl 0 rfl) ?_
  refine lv_bipush (v := 20) hx hb dX0_init_13 (by decide) ?_
  refine cn_newa (atype := .int) hx hb (hts _ ac_int) (ty := .int) rfl 0 rfl ra_int hK hP hD hS hA (N' := 20) (a0 := (20, .inl (fun _ => 0))) (fun cA => rfl) (by decide) (by decide) (Nat.le_of_ble_eq_true rfl) (Nat.le_of_ble_eq_true rfl) (Nat.le_of_ble_eq_true rfl) dX0_init_15 (fun q2 H hP hD hS => ?_)
  have hP : va_P D classes ([(h0, .inr (0, [.ref q1, .null, .null, .null, .int 0, .int 0])), (q1, .inl (cI, 20, .inl (fun _ => 0))), (q2, .inl (cI, 20, .inl (fun _ => 0)))]) H := hP
  have hD : va_D A ([(h0, .inr (0, [.ref q1, .null, .null, .null, .int 0, .int 0])), (q1, .inl (cI, 20, .inl (fun _ => 0))), (q2, .inl (cI, 20, .inl (fun _ => 0)))]) := hD
  refine va_putF (D := D) (ci := 0) (v := .ref q2) (ty := .array .int) (C := RX0) (T := TX0) (N := 6) hx hb hts itX0 tyX0 tyX0_ok nmX0 hown hK hP hD hS 0 rfl rfl 1 (by decide) (hts _ (TBm 182 (by decide +kernel) rfl)) (fun _ h9 => h9) rfl hin rfl (by decide +kernel) rfl rfl (Nat.le_of_ble_eq_true rfl) dX0_init_17 (fun H locs hP hD hS => ?_)
  have hP : va_P D classes ([(h0, .inr (0, [.ref q1, .ref q2, .null, .null, .int 0, .int 0])), (q1, .inl (cI, 20, .inl (fun _ => 0))), (q2, .inl (cI, 20, .inl (fun _ => 0)))]) H := hP
  have hD : va_D A ([(h0, .inr (0, [.ref q1, .ref q2, .null, .null, .int 0, .int 0])), (q1, .inl (cI, 20, .inl (fun _ => 0))), (q2, .inl (cI, 20, .inl (fun _ => 0)))]) := hD
  refine lv_aload_n hx hb dX0_init_20 rfl (lv_at hl 0 rfl) ?_
  refine lv_bipush (v := 20) hx hb dX0_init_21 (by decide) ?_
  refine cn_newa (atype := .int) hx hb (hts _ ac_int) (ty := .int) rfl 0 rfl ra_int hK hP hD hS hA (N' := 20) (a0 := (20, .inl (fun _ => 0))) (fun cA => rfl) (by decide) (by decide) (Nat.le_of_ble_eq_true rfl) (Nat.le_of_ble_eq_true rfl) (Nat.le_of_ble_eq_true rfl) dX0_init_23 (fun q3 H hP hD hS => ?_)
  have hP : va_P D classes ([(h0, .inr (0, [.ref q1, .ref q2, .null, .null, .int 0, .int 0])), (q1, .inl (cI, 20, .inl (fun _ => 0))), (q2, .inl (cI, 20, .inl (fun _ => 0))), (q3, .inl (cI, 20, .inl (fun _ => 0)))]) H := hP
  have hD : va_D A ([(h0, .inr (0, [.ref q1, .ref q2, .null, .null, .int 0, .int 0])), (q1, .inl (cI, 20, .inl (fun _ => 0))), (q2, .inl (cI, 20, .inl (fun _ => 0))), (q3, .inl (cI, 20, .inl (fun _ => 0)))]) := hD
  refine va_putF (D := D) (ci := 0) (v := .ref q3) (ty := .array .int) (C := RX0) (T := TX0) (N := 6) hx hb hts itX0 tyX0 tyX0_ok nmX0 hown hK hP hD hS 0 rfl rfl 2 (by decide) (hts _ (TBm 184 (by decide +kernel) rfl)) (fun _ h9 => h9) rfl hin rfl (by decide +kernel) rfl rfl (Nat.le_of_ble_eq_true rfl) dX0_init_25 (fun H locs hP hD hS => ?_)
  have hP : va_P D classes ([(h0, .inr (0, [.ref q1, .ref q2, .ref q3, .null, .int 0, .int 0])), (q1, .inl (cI, 20, .inl (fun _ => 0))), (q2, .inl (cI, 20, .inl (fun _ => 0))), (q3, .inl (cI, 20, .inl (fun _ => 0)))]) H := hP
  have hD : va_D A ([(h0, .inr (0, [.ref q1, .ref q2, .ref q3, .null, .int 0, .int 0])), (q1, .inl (cI, 20, .inl (fun _ => 0))), (q2, .inl (cI, 20, .inl (fun _ => 0))), (q3, .inl (cI, 20, .inl (fun _ => 0)))]) := hD
  refine lv_aload_n hx hb dX0_init_28 rfl (lv_at hl 0 rfl) ?_
  refine lv_bipush (v := 20) hx hb dX0_init_29 (by decide) ?_
  refine cn_newa (atype := .int) hx hb (hts _ ac_int) (ty := .int) rfl 0 rfl ra_int hK hP hD hS hA (N' := 20) (a0 := (20, .inl (fun _ => 0))) (fun cA => rfl) (by decide) (by decide) (Nat.le_of_ble_eq_true rfl) (Nat.le_of_ble_eq_true rfl) (Nat.le_of_ble_eq_true rfl) dX0_init_31 (fun q4 H hP hD hS => ?_)
  have hP : va_P D classes ([(h0, .inr (0, [.ref q1, .ref q2, .ref q3, .null, .int 0, .int 0])), (q1, .inl (cI, 20, .inl (fun _ => 0))), (q2, .inl (cI, 20, .inl (fun _ => 0))), (q3, .inl (cI, 20, .inl (fun _ => 0))), (q4, .inl (cI, 20, .inl (fun _ => 0)))]) H := hP
  have hD : va_D A ([(h0, .inr (0, [.ref q1, .ref q2, .ref q3, .null, .int 0, .int 0])), (q1, .inl (cI, 20, .inl (fun _ => 0))), (q2, .inl (cI, 20, .inl (fun _ => 0))), (q3, .inl (cI, 20, .inl (fun _ => 0))), (q4, .inl (cI, 20, .inl (fun _ => 0)))]) := hD
  refine va_putF (D := D) (ci := 0) (v := .ref q4) (ty := .array .int) (C := RX0) (T := TX0) (N := 6) hx hb hts itX0 tyX0 tyX0_ok nmX0 hown hK hP hD hS 0 rfl rfl 3 (by decide) (hts _ (TBm 186 (by decide +kernel) rfl)) (fun _ h9 => h9) rfl hin rfl (by decide +kernel) rfl rfl (Nat.le_of_ble_eq_true rfl) dX0_init_33 (fun H locs hP hD hS => ?_)
  have hP : va_P D classes ([(h0, .inr (0, [.ref q1, .ref q2, .ref q3, .ref q4, .int 0, .int 0])), (q1, .inl (cI, 20, .inl (fun _ => 0))), (q2, .inl (cI, 20, .inl (fun _ => 0))), (q3, .inl (cI, 20, .inl (fun _ => 0))), (q4, .inl (cI, 20, .inl (fun _ => 0)))]) H := hP
  have hD : va_D A ([(h0, .inr (0, [.ref q1, .ref q2, .ref q3, .ref q4, .int 0, .int 0])), (q1, .inl (cI, 20, .inl (fun _ => 0))), (q2, .inl (cI, 20, .inl (fun _ => 0))), (q3, .inl (cI, 20, .inl (fun _ => 0))), (q4, .inl (cI, 20, .inl (fun _ => 0)))]) := hD
  refine lv_aload_n hx hb dX0_init_36 rfl (lv_at hl 0 rfl) ?_
  refine lv_iconst (v := 0) hx hb dX0_init_37 (by decide) ?_
  refine va_put (D := D) (ci := 0) (v := .int 0) (ty := .int) (C := RX0) (T := TX0) (N := 6) hx hb hts itX0 tyX0 tyX0_ok nmX0 hown hK hP hD hS 0 rfl rfl 4 (by decide) (hts _ (TBm 188 (by decide +kernel) rfl)) (fun _ h9 => h9) rfl (by decide +kernel) rfl rfl (Nat.le_of_ble_eq_true rfl) dX0_init_38 (fun H locs hP hD hS => ?_)
  have hP : va_P D classes ([(h0, .inr (0, [.ref q1, .ref q2, .ref q3, .ref q4, .int 0, .int 0])), (q1, .inl (cI, 20, .inl (fun _ => 0))), (q2, .inl (cI, 20, .inl (fun _ => 0))), (q3, .inl (cI, 20, .inl (fun _ => 0))), (q4, .inl (cI, 20, .inl (fun _ => 0)))]) H := hP
  have hD : va_D A ([(h0, .inr (0, [.ref q1, .ref q2, .ref q3, .ref q4, .int 0, .int 0])), (q1, .inl (cI, 20, .inl (fun _ => 0))), (q2, .inl (cI, 20, .inl (fun _ => 0))), (q3, .inl (cI, 20, .inl (fun _ => 0))), (q4, .inl (cI, 20, .inl (fun _ => 0)))]) := hD
  refine lv_aload_n hx hb dX0_init_41 rfl (lv_at hl 0 rfl) ?_
  refine lv_iconst (v := 0) hx hb dX0_init_42 (by decide) ?_
  refine va_put (D := D) (ci := 0) (v := .int 0) (ty := .int) (C := RX0) (T := TX0) (N := 6) hx hb hts itX0 tyX0 tyX0_ok nmX0 hown hK hP hD hS 0 rfl rfl 5 (by decide) (hts _ (TBm 190 (by decide +kernel) rfl)) (fun _ h9 => h9) rfl (by decide +kernel) rfl rfl (Nat.le_of_ble_eq_true rfl) dX0_init_43 (fun H locs hP hD hS => ?_)
  have hP : va_P D classes ([(h0, .inr (0, [.ref q1, .ref q2, .ref q3, .ref q4, .int 0, .int 0])), (q1, .inl (cI, 20, .inl (fun _ => 0))), (q2, .inl (cI, 20, .inl (fun _ => 0))), (q3, .inl (cI, 20, .inl (fun _ => 0))), (q4, .inl (cI, 20, .inl (fun _ => 0)))]) H := hP
  have hD : va_D A ([(h0, .inr (0, [.ref q1, .ref q2, .ref q3, .ref q4, .int 0, .int 0])), (q1, .inl (cI, 20, .inl (fun _ => 0))), (q2, .inl (cI, 20, .inl (fun _ => 0))), (q3, .inl (cI, 20, .inl (fun _ => 0))), (q4, .inl (cI, 20, .inl (fun _ => 0)))]) := hD
  exact W.vret hx hb hr (fun t ht hW => ⟨⟨(fun k => [h0, q1, q2, q3, q4].getD k 0), rfl, rfl, by rw [ht]; exact hP, va_K.moved hW.alike hK, hD⟩, hS.F ht⟩) hS.2.2 dX0_init_46
theorem dX2_init_0 : decode cX2_init 0 = .ok (.aload_n 0, 1) := by decide +kernel
theorem dX2_init_1 : decode cX2_init 1 = .ok (.invokespecial 3, 3) := by decide +kernel
theorem dX2_init_4 : decode cX2_init 4 = .ok (.aload_n 0, 1) := by decide +kernel
theorem dX2_init_5 : decode cX2_init 5 = .ok (.bipush 10, 2) := by decide +kernel
theorem dX2_init_7 : decode cX2_init 7 = .ok (.putfield 9, 3) := by decide +kernel
theorem dX2_init_10 : decode cX2_init 10 = .ok (.aload_n 0, 1) := by decide +kernel
theorem dX2_init_11 : decode cX2_init 11 = .ok (.iconst 0, 1) := by decide +kernel
theorem dX2_init_12 : decode cX2_init 12 = .ok (.putfield 15, 3) := by decide +kernel
theorem dX2_init_15 : decode cX2_init 15 = .ok (.aload_n 0, 1) := by decide +kernel
theorem dX2_init_16 : decode cX2_init 16 = .ok (.bipush 10, 2) := by decide +kernel
theorem dX2_init_18 : decode cX2_init 18 = .ok (.newarray .boolean, 2) := by decide +kernel
theorem dX2_init_20 : decode cX2_init 20 = .ok (.putfield 18, 3) := by decide +kernel
theorem dX2_init_23 : decode cX2_init 23 = .ok (.aload_n 0, 1) := by decide +kernel
theorem dX2_init_24 : decode cX2_init 24 = .ok (.bipush 10, 2) := by decide +kernel
theorem dX2_init_26 : decode cX2_init 26 = .ok (.newarray .boolean, 2) := by decide +kernel
theorem dX2_init_28 : decode cX2_init 28 = .ok (.putfield 22, 3) := by decide +kernel
theorem dX2_init_31 : decode cX2_init 31 = .ok (.aload_n 0, 1) := by decide +kernel
theorem dX2_init_32 : decode cX2_init 32 = .ok (.bipush 10, 2) := by decide +kernel
theorem dX2_init_34 : decode cX2_init 34 = .ok (.newarray .int, 2) := by decide +kernel
theorem dX2_init_36 : decode cX2_init 36 = .ok (.putfield 25, 3) := by decide +kernel
theorem dX2_init_39 : decode cX2_init 39 = .ok (.aload_n 0, 1) := by decide +kernel
theorem dX2_init_40 : decode cX2_init 40 = .ok (.bipush 10, 2) := by decide +kernel
theorem dX2_init_42 : decode cX2_init 42 = .ok (.newarray .int, 2) := by decide +kernel
theorem dX2_init_44 : decode cX2_init 44 = .ok (.putfield 29, 3) := by decide +kernel
theorem dX2_init_47 : decode cX2_init 47 = .ok (.aload_n 0, 1) := by decide +kernel
theorem dX2_init_48 : decode cX2_init 48 = .ok (.bipush 10, 2) := by decide +kernel
theorem dX2_init_50 : decode cX2_init 50 = .ok (.newarray .int, 2) := by decide +kernel
theorem dX2_init_52 : decode cX2_init 52 = .ok (.putfield 32, 3) := by decide +kernel
theorem dX2_init_55 : decode cX2_init 55 = .ok (.aload_n 0, 1) := by decide +kernel
theorem dX2_init_56 : decode cX2_init 56 = .ok (.bipush 10, 2) := by decide +kernel
theorem dX2_init_58 : decode cX2_init 58 = .ok (.newarray .int, 2) := by decide +kernel
theorem dX2_init_60 : decode cX2_init 60 = .ok (.putfield 35, 3) := by decide +kernel
theorem dX2_init_63 : decode cX2_init 63 = .ok (.aload_n 0, 1) := by decide +kernel
theorem dX2_init_64 : decode cX2_init 64 = .ok (.bipush 10, 2) := by decide +kernel
theorem dX2_init_66 : decode cX2_init 66 = .ok (.newarray .int, 2) := by decide +kernel
theorem dX2_init_68 : decode cX2_init 68 = .ok (.putfield 38, 3) := by decide +kernel
theorem dX2_init_71 : decode cX2_init 71 = .ok (.aload_n 0, 1) := by decide +kernel
theorem dX2_init_72 : decode cX2_init 72 = .ok (.bipush 24, 2) := by decide +kernel
theorem dX2_init_74 : decode cX2_init 74 = .ok (.newarray .int, 2) := by decide +kernel
theorem dX2_init_76 : decode cX2_init 76 = .ok (.putfield 41, 3) := by decide +kernel
theorem dX2_init_79 : decode cX2_init 79 = .ok (.aload_n 0, 1) := by decide +kernel
theorem dX2_init_80 : decode cX2_init 80 = .ok (.bipush 24, 2) := by decide +kernel
theorem dX2_init_82 : decode cX2_init 82 = .ok (.newarray .int, 2) := by decide +kernel
theorem dX2_init_84 : decode cX2_init 84 = .ok (.putfield 44, 3) := by decide +kernel
theorem dX2_init_87 : decode cX2_init 87 = .ok (.aload_n 0, 1) := by decide +kernel
theorem dX2_init_88 : decode cX2_init 88 = .ok (.bipush 24, 2) := by decide +kernel
theorem dX2_init_90 : decode cX2_init 90 = .ok (.newarray .int, 2) := by decide +kernel
theorem dX2_init_92 : decode cX2_init 92 = .ok (.putfield 47, 3) := by decide +kernel
theorem dX2_init_95 : decode cX2_init 95 = .ok (.aload_n 0, 1) := by decide +kernel
theorem dX2_init_96 : decode cX2_init 96 = .ok (.bipush 24, 2) := by decide +kernel
theorem dX2_init_98 : decode cX2_init 98 = .ok (.newarray .int, 2) := by decide +kernel
theorem dX2_init_100 : decode cX2_init 100 = .ok (.putfield 50, 3) := by decide +kernel
theorem dX2_init_103 : decode cX2_init 103 = .ok (.aload_n 0, 1) := by decide +kernel
theorem dX2_init_104 : decode cX2_init 104 = .ok (.iconst 0, 1) := by decide +kernel
theorem dX2_init_105 : decode cX2_init 105 = .ok (.putfield 53, 3) := by decide +kernel
theorem dX2_init_108 : decode cX2_init 108 = .ok (.aload_n 0, 1) := by decide +kernel
theorem dX2_init_109 : decode cX2_init 109 = .ok (.bipush 10, 2) := by decide +kernel
theorem dX2_init_111 : decode cX2_init 111 = .ok (.newarray .int, 2) := by decide +kernel
theorem dX2_init_113 : decode cX2_init 113 = .ok (.putfield 56, 3) := by decide +kernel
theorem dX2_init_116 : decode cX2_init 116 = .ok (.aload_n 0, 1) := by decide +kernel
theorem dX2_init_117 : decode cX2_init 117 = .ok (.iconst 0, 1) := by decide +kernel
theorem dX2_init_118 : decode cX2_init 118 = .ok (.putfield 59, 3) := by decide +kernel
theorem dX2_init_121 : decode cX2_init 121 = .ok (.aload_n 0, 1) := by decide +kernel
theorem dX2_init_122 : decode cX2_init 122 = .ok (.bipush 10, 2) := by decide +kernel
theorem dX2_init_124 : decode cX2_init 124 = .ok (.newarray .int, 2) := by decide +kernel
theorem dX2_init_126 : decode cX2_init 126 = .ok (.putfield 62, 3) := by decide +kernel
theorem dX2_init_129 : decode cX2_init 129 = .ok (.aload_n 0, 1) := by decide +kernel
theorem dX2_init_130 : decode cX2_init 130 = .ok (.iload_n 1, 1) := by decide +kernel
theorem dX2_init_131 : decode cX2_init 131 = .ok (.putfield 65, 3) := by decide +kernel
theorem dX2_init_134 : decode cX2_init 134 = .ok (.return_, 1) := by decide +kernel
abbrev fsX2 : List Value := [.int 0, .int 0, .int 0, .null, .null, .null, .null, .null, .null, .null, .null, .null, .null, .null, .int 0, .null, .int 0, .null]
theorem dfX2 : ∀ j, j < 18 → defaultValue (tyX2 j) = vp_V fsX2 j := by
  intro j hj
  match j, hj with
  | 0, _ => rfl
  | 1, _ => rfl
  | 2, _ => rfl
  | 3, _ => rfl
  | 4, _ => rfl
  | 5, _ => rfl
  | 6, _ => rfl
  | 7, _ => rfl
  | 8, _ => rfl
  | 9, _ => rfl
  | 10, _ => rfl
  | 11, _ => rfl
  | 12, _ => rfl
  | 13, _ => rfl
  | 14, _ => rfl
  | 15, _ => rfl
  | 16, _ => rfl
  | 17, _ => rfl
  | j + 18, h => exact absurd h (by omega)
theorem CI_X2 : CI0 1 yX2_init cX2_init 2 := ⟨TBm 84 (by decide +kernel) rfl, TBm 209 (by decide +kernel) rfl, ⟨by decide, by decide, by decide +kernel⟩, rfl, TBm 208 (by decide +kernel) rfl⟩
abbrev nwX2 (u : Int32) (f : Nat → Nat) (cI cJ cZ : ClassId) : va_W := [(f 0, .inr (2, [.int u, .int 10, .int 0, .ref (f 1), .ref (f 2), .ref (f 3), .ref (f 4), .ref (f 5), .ref (f 6), .ref (f 7), .ref (f 8), .ref (f 9), .ref (f 10), .ref (f 11), .int 0, .ref (f 12), .int 0, .ref (f 13)])), (f 1, .inl (cZ, 10, .inl (fun _ => 0))), (f 2, .inl (cZ, 10, .inl (fun _ => 0))), (f 3, .inl (cI, 10, .inl (fun _ => 0))), (f 4, .inl (cI, 10, .inl (fun _ => 0))), (f 5, .inl (cI, 10, .inl (fun _ => 0))), (f 6, .inl (cI, 10, .inl (fun _ => 0))), (f 7, .inl (cI, 10, .inl (fun _ => 0))), (f 8, .inl (cI, 24, .inl (fun _ => 0))), (f 9, .inl (cI, 24, .inl (fun _ => 0))), (f 10, .inl (cI, 24, .inl (fun _ => 0))), (f 11, .inl (cI, 24, .inl (fun _ => 0))), (f 12, .inl (cI, 10, .inl (fun _ => 0))), (f 13, .inl (cI, 10, .inl (fun _ => 0)))]
set_option maxRecDepth 20000 in
set_option maxHeartbeats 4000000 in
theorem iX2 (u : Int32) : KI 1 yX2_init cX2_init 2 2 [.int u] 13 186 fsX2 (nwX2 u) (fun _ => True) := by
  intro l D cI cJ cZ h0 sz
  refine Met.ofW (cc := cX2_init) (maxL := 2) (ret := none) (by decide) rfl ?_
  intro p e s m args below meth c s₁ B hml hv
  obtain ⟨rfl, hsz, hP, hK, hD0, hN⟩ := hv
  have hx := B.exec
  have hb := B.bytes
  have hr := B.returns
  have hts0 := atoms_spec (ws := .code yX2_init cX2_init 2 none :: TB) B.pre
  have hts : ∀ w ∈ TB, w.before (Value.ref h0 :: [.int u]).toArray s = true := fun w hw => hts0 w (List.mem_cons_of_mem _ hw)
  have hown : s.vm.findClass RX2 = some m.cls := findClass_of_methodNamed B.named
  have hlocks := B.notSynchronized
  have hin : meth.name = "<init>" := (name_of_methodNamed B.named B.method).1
  subst hsz
  have hD := hD0.self (sz := s.heap.size)
  generalize hAe : va_A [(h0, .inr (2, fsX2))] s.heap.size = A at hD ⊢
  have hA : ∀ q : Nat, s.heap.size ≤ q → A q := fun q h => by rw [← hAe]; exact Or.inr h
  have hS : va_S A s.heap s.heap [] := va_S.rf
  have hl := lv_entry (Value.ref h0 :: [.int u]) (n := 2) (Nat.le_of_ble_eq_true rfl)
  rw [lg_entry_eq]
  generalize (lg_sl (Value.ref h0 :: [.int u]) ++ List.replicate (2 - (lg_sl (Value.ref h0 :: [.int u])).length) Slot.unset).toArray = ls at hl ⊢
  have hl : lv_has ls 2 [(0, .ref h0), (1, .int u)] := hl
  refine lv_aload_n hx hb dX2_init_0 rfl (lv_at hl 0 rfl) ?_
  refine W.objInit hx hb hown (hts _ (TBm 210 (by decide +kernel) rfl)) (hts _ oi_m) (hts _ oi_c) rfl (by rw [hml]; exact hl.1) rfl dX2_init_1 (Nat.le_of_ble_eq_true rfl) (Nat.le_of_ble_eq_true rfl) ?_
  refine W.eq (g2 := F0 m 4 ls []) rfl ?_
  refine lv_aload_n hx hb dX2_init_4 rfl (lv_at hl 0 rfl) ?_
  refine lv_bipush (v := 10) hx hb dX2_init_5 (by decide) ?_
  refine va_put (D := D) (ci := 2) (v := .int 10) (ty := .int) (C := RX2) (T := TX2) (N := 18) hx hb hts itX2 tyX2 tyX2_ok nmX2 hown hK hP hD hS 0 rfl rfl 1 (by decide) (hts _ (TBm 212 (by decide +kernel) rfl)) (fun _ h9 => h9) rfl (by decide +kernel) rfl rfl (Nat.le_of_ble_eq_true rfl) dX2_init_7 (fun H locs hP hD hS => ?_)
  have hP : va_P D classes ([(h0, .inr (2, [.int 0, .int 10, .int 0, .null, .null, .null, .null, .null, .null, .null, .null, .null, .null, .null, .int 0, .null, .int 0, .null]))]) H := hP
  have hD : va_D A ([(h0, .inr (2, [.int 0, .int 10, .int 0, .null, .null, .null, .null, .null, .null, .null, .null, .null, .null, .null, .int 0, .null, .int 0, .null]))]) := hD
  refine lv_aload_n hx hb dX2_init_10 rfl (lv_at hl 0 rfl) ?_
  refine lv_iconst (v := 0) hx hb dX2_init_11 (by decide) ?_
  refine va_put (D := D) (ci := 2) (v := .int 0) (ty := .int) (C := RX2) (T := TX2) (N := 18) hx hb hts itX2 tyX2 tyX2_ok nmX2 hown hK hP hD hS 0 rfl rfl 2 (by decide) (hts _ (TBm 213 (by decide +kernel) rfl)) (fun _ h9 => h9) rfl (by decide +kernel) rfl rfl (Nat.le_of_ble_eq_true rfl) dX2_init_12 (fun H locs hP hD hS => ?_)
  have hP : va_P D classes ([(h0, .inr (2, [.int 0, .int 10, .int 0, .null, .null, .null, .null, .null, .null, .null, .null, .null, .null, .null, .int 0, .null, .int 0, .null]))]) H := hP
  have hD : va_D A ([(h0, .inr (2, [.int 0, .int 10, .int 0, .null, .null, .null, .null, .null, .null, .null, .null, .null, .null, .null, .int 0, .null, .int 0, .null]))]) := hD
  refine lv_aload_n hx hb dX2_init_15 rfl (lv_at hl 0 rfl) ?_
  refine lv_bipush (v := 10) hx hb dX2_init_16 (by decide) ?_
  refine cn_newa (atype := .boolean) hx hb (hts _ ac_boolean) (ty := .boolean) rfl 2 rfl ra_boolean hK hP hD hS hA (N' := 10) (a0 := (10, .inl (fun _ => 0))) (fun cA => rfl) (by decide) (by decide) (Nat.le_of_ble_eq_true rfl) (Nat.le_of_ble_eq_true rfl) (Nat.le_of_ble_eq_true rfl) dX2_init_18 (fun q1 H hP hD hS => ?_)
  have hP : va_P D classes ([(h0, .inr (2, [.int 0, .int 10, .int 0, .null, .null, .null, .null, .null, .null, .null, .null, .null, .null, .null, .int 0, .null, .int 0, .null])), (q1, .inl (cZ, 10, .inl (fun _ => 0)))]) H := hP
  have hD : va_D A ([(h0, .inr (2, [.int 0, .int 10, .int 0, .null, .null, .null, .null, .null, .null, .null, .null, .null, .null, .null, .int 0, .null, .int 0, .null])), (q1, .inl (cZ, 10, .inl (fun _ => 0)))]) := hD
  refine va_putF (D := D) (ci := 2) (v := .ref q1) (ty := .array .boolean) (C := RX2) (T := TX2) (N := 18) hx hb hts itX2 tyX2 tyX2_ok nmX2 hown hK hP hD hS 0 rfl rfl 3 (by decide) (hts _ (TBm 214 (by decide +kernel) rfl)) (fun _ h9 => h9) rfl hin rfl (by decide +kernel) rfl rfl (Nat.le_of_ble_eq_true rfl) dX2_init_20 (fun H locs hP hD hS => ?_)
  have hP : va_P D classes ([(h0, .inr (2, [.int 0, .int 10, .int 0, .ref q1, .null, .null, .null, .null, .null, .null, .null, .null, .null, .null, .int 0, .null, .int 0, .null])), (q1, .inl (cZ, 10, .inl (fun _ => 0)))]) H := hP
  have hD : va_D A ([(h0, .inr (2, [.int 0, .int 10, .int 0, .ref q1, .null, .null, .null, .null, .null, .null, .null, .null, .null, .null, .int 0, .null, .int 0, .null])), (q1, .inl (cZ, 10, .inl (fun _ => 0)))]) := hD
  refine lv_aload_n hx hb dX2_init_23 rfl (lv_at hl 0 rfl) ?_
  refine lv_bipush (v := 10) hx hb dX2_init_24 (by decide) ?_
  refine cn_newa (atype := .boolean) hx hb (hts _ ac_boolean) (ty := .boolean) rfl 2 rfl ra_boolean hK hP hD hS hA (N' := 10) (a0 := (10, .inl (fun _ => 0))) (fun cA => rfl) (by decide) (by decide) (Nat.le_of_ble_eq_true rfl) (Nat.le_of_ble_eq_true rfl) (Nat.le_of_ble_eq_true rfl) dX2_init_26 (fun q2 H hP hD hS => ?_)
  have hP : va_P D classes ([(h0, .inr (2, [.int 0, .int 10, .int 0, .ref q1, .null, .null, .null, .null, .null, .null, .null, .null, .null, .null, .int 0, .null, .int 0, .null])), (q1, .inl (cZ, 10, .inl (fun _ => 0))), (q2, .inl (cZ, 10, .inl (fun _ => 0)))]) H := hP
  have hD : va_D A ([(h0, .inr (2, [.int 0, .int 10, .int 0, .ref q1, .null, .null, .null, .null, .null, .null, .null, .null, .null, .null, .int 0, .null, .int 0, .null])), (q1, .inl (cZ, 10, .inl (fun _ => 0))), (q2, .inl (cZ, 10, .inl (fun _ => 0)))]) := hD
  refine va_putF (D := D) (ci := 2) (v := .ref q2) (ty := .array .boolean) (C := RX2) (T := TX2) (N := 18) hx hb hts itX2 tyX2 tyX2_ok nmX2 hown hK hP hD hS 0 rfl rfl 4 (by decide) (hts _ (TBm 215 (by decide +kernel) rfl)) (fun _ h9 => h9) rfl hin rfl (by decide +kernel) rfl rfl (Nat.le_of_ble_eq_true rfl) dX2_init_28 (fun H locs hP hD hS => ?_)
  have hP : va_P D classes ([(h0, .inr (2, [.int 0, .int 10, .int 0, .ref q1, .ref q2, .null, .null, .null, .null, .null, .null, .null, .null, .null, .int 0, .null, .int 0, .null])), (q1, .inl (cZ, 10, .inl (fun _ => 0))), (q2, .inl (cZ, 10, .inl (fun _ => 0)))]) H := hP
  have hD : va_D A ([(h0, .inr (2, [.int 0, .int 10, .int 0, .ref q1, .ref q2, .null, .null, .null, .null, .null, .null, .null, .null, .null, .int 0, .null, .int 0, .null])), (q1, .inl (cZ, 10, .inl (fun _ => 0))), (q2, .inl (cZ, 10, .inl (fun _ => 0)))]) := hD
  refine lv_aload_n hx hb dX2_init_31 rfl (lv_at hl 0 rfl) ?_
  refine lv_bipush (v := 10) hx hb dX2_init_32 (by decide) ?_
  refine cn_newa (atype := .int) hx hb (hts _ ac_int) (ty := .int) rfl 0 rfl ra_int hK hP hD hS hA (N' := 10) (a0 := (10, .inl (fun _ => 0))) (fun cA => rfl) (by decide) (by decide) (Nat.le_of_ble_eq_true rfl) (Nat.le_of_ble_eq_true rfl) (Nat.le_of_ble_eq_true rfl) dX2_init_34 (fun q3 H hP hD hS => ?_)
  have hP : va_P D classes ([(h0, .inr (2, [.int 0, .int 10, .int 0, .ref q1, .ref q2, .null, .null, .null, .null, .null, .null, .null, .null, .null, .int 0, .null, .int 0, .null])), (q1, .inl (cZ, 10, .inl (fun _ => 0))), (q2, .inl (cZ, 10, .inl (fun _ => 0))), (q3, .inl (cI, 10, .inl (fun _ => 0)))]) H := hP
  have hD : va_D A ([(h0, .inr (2, [.int 0, .int 10, .int 0, .ref q1, .ref q2, .null, .null, .null, .null, .null, .null, .null, .null, .null, .int 0, .null, .int 0, .null])), (q1, .inl (cZ, 10, .inl (fun _ => 0))), (q2, .inl (cZ, 10, .inl (fun _ => 0))), (q3, .inl (cI, 10, .inl (fun _ => 0)))]) := hD
  refine va_putF (D := D) (ci := 2) (v := .ref q3) (ty := .array .int) (C := RX2) (T := TX2) (N := 18) hx hb hts itX2 tyX2 tyX2_ok nmX2 hown hK hP hD hS 0 rfl rfl 5 (by decide) (hts _ (TBm 216 (by decide +kernel) rfl)) (fun _ h9 => h9) rfl hin rfl (by decide +kernel) rfl rfl (Nat.le_of_ble_eq_true rfl) dX2_init_36 (fun H locs hP hD hS => ?_)
  have hP : va_P D classes ([(h0, .inr (2, [.int 0, .int 10, .int 0, .ref q1, .ref q2, .ref q3, .null, .null, .null, .null, .null, .null, .null, .null, .int 0, .null, .int 0, .null])), (q1, .inl (cZ, 10, .inl (fun _ => 0))), (q2, .inl (cZ, 10, .inl (fun _ => 0))), (q3, .inl (cI, 10, .inl (fun _ => 0)))]) H := hP
  have hD : va_D A ([(h0, .inr (2, [.int 0, .int 10, .int 0, .ref q1, .ref q2, .ref q3, .null, .null, .null, .null, .null, .null, .null, .null, .int 0, .null, .int 0, .null])), (q1, .inl (cZ, 10, .inl (fun _ => 0))), (q2, .inl (cZ, 10, .inl (fun _ => 0))), (q3, .inl (cI, 10, .inl (fun _ => 0)))]) := hD
  refine lv_aload_n hx hb dX2_init_39 rfl (lv_at hl 0 rfl) ?_
  refine lv_bipush (v := 10) hx hb dX2_init_40 (by decide) ?_
  refine cn_newa (atype := .int) hx hb (hts _ ac_int) (ty := .int) rfl 0 rfl ra_int hK hP hD hS hA (N' := 10) (a0 := (10, .inl (fun _ => 0))) (fun cA => rfl) (by decide) (by decide) (Nat.le_of_ble_eq_true rfl) (Nat.le_of_ble_eq_true rfl) (Nat.le_of_ble_eq_true rfl) dX2_init_42 (fun q4 H hP hD hS => ?_)
  have hP : va_P D classes ([(h0, .inr (2, [.int 0, .int 10, .int 0, .ref q1, .ref q2, .ref q3, .null, .null, .null, .null, .null, .null, .null, .null, .int 0, .null, .int 0, .null])), (q1, .inl (cZ, 10, .inl (fun _ => 0))), (q2, .inl (cZ, 10, .inl (fun _ => 0))), (q3, .inl (cI, 10, .inl (fun _ => 0))), (q4, .inl (cI, 10, .inl (fun _ => 0)))]) H := hP
  have hD : va_D A ([(h0, .inr (2, [.int 0, .int 10, .int 0, .ref q1, .ref q2, .ref q3, .null, .null, .null, .null, .null, .null, .null, .null, .int 0, .null, .int 0, .null])), (q1, .inl (cZ, 10, .inl (fun _ => 0))), (q2, .inl (cZ, 10, .inl (fun _ => 0))), (q3, .inl (cI, 10, .inl (fun _ => 0))), (q4, .inl (cI, 10, .inl (fun _ => 0)))]) := hD
  refine va_putF (D := D) (ci := 2) (v := .ref q4) (ty := .array .int) (C := RX2) (T := TX2) (N := 18) hx hb hts itX2 tyX2 tyX2_ok nmX2 hown hK hP hD hS 0 rfl rfl 6 (by decide) (hts _ (TBm 217 (by decide +kernel) rfl)) (fun _ h9 => h9) rfl hin rfl (by decide +kernel) rfl rfl (Nat.le_of_ble_eq_true rfl) dX2_init_44 (fun H locs hP hD hS => ?_)
  have hP : va_P D classes ([(h0, .inr (2, [.int 0, .int 10, .int 0, .ref q1, .ref q2, .ref q3, .ref q4, .null, .null, .null, .null, .null, .null, .null, .int 0, .null, .int 0, .null])), (q1, .inl (cZ, 10, .inl (fun _ => 0))), (q2, .inl (cZ, 10, .inl (fun _ => 0))), (q3, .inl (cI, 10, .inl (fun _ => 0))), (q4, .inl (cI, 10, .inl (fun _ => 0)))]) H := hP
  have hD : va_D A ([(h0, .inr (2, [.int 0, .int 10, .int 0, .ref q1, .ref q2, .ref q3, .ref q4, .null, .null, .null, .null, .null, .null, .null, .int 0, .null, .int 0, .null])), (q1, .inl (cZ, 10, .inl (fun _ => 0))), (q2, .inl (cZ, 10, .inl (fun _ => 0))), (q3, .inl (cI, 10, .inl (fun _ => 0))), (q4, .inl (cI, 10, .inl (fun _ => 0)))]) := hD
  refine lv_aload_n hx hb dX2_init_47 rfl (lv_at hl 0 rfl) ?_
  refine lv_bipush (v := 10) hx hb dX2_init_48 (by decide) ?_
  refine cn_newa (atype := .int) hx hb (hts _ ac_int) (ty := .int) rfl 0 rfl ra_int hK hP hD hS hA (N' := 10) (a0 := (10, .inl (fun _ => 0))) (fun cA => rfl) (by decide) (by decide) (Nat.le_of_ble_eq_true rfl) (Nat.le_of_ble_eq_true rfl) (Nat.le_of_ble_eq_true rfl) dX2_init_50 (fun q5 H hP hD hS => ?_)
  have hP : va_P D classes ([(h0, .inr (2, [.int 0, .int 10, .int 0, .ref q1, .ref q2, .ref q3, .ref q4, .null, .null, .null, .null, .null, .null, .null, .int 0, .null, .int 0, .null])), (q1, .inl (cZ, 10, .inl (fun _ => 0))), (q2, .inl (cZ, 10, .inl (fun _ => 0))), (q3, .inl (cI, 10, .inl (fun _ => 0))), (q4, .inl (cI, 10, .inl (fun _ => 0))), (q5, .inl (cI, 10, .inl (fun _ => 0)))]) H := hP
  have hD : va_D A ([(h0, .inr (2, [.int 0, .int 10, .int 0, .ref q1, .ref q2, .ref q3, .ref q4, .null, .null, .null, .null, .null, .null, .null, .int 0, .null, .int 0, .null])), (q1, .inl (cZ, 10, .inl (fun _ => 0))), (q2, .inl (cZ, 10, .inl (fun _ => 0))), (q3, .inl (cI, 10, .inl (fun _ => 0))), (q4, .inl (cI, 10, .inl (fun _ => 0))), (q5, .inl (cI, 10, .inl (fun _ => 0)))]) := hD
  refine va_putF (D := D) (ci := 2) (v := .ref q5) (ty := .array .int) (C := RX2) (T := TX2) (N := 18) hx hb hts itX2 tyX2 tyX2_ok nmX2 hown hK hP hD hS 0 rfl rfl 7 (by decide) (hts _ (TBm 219 (by decide +kernel) rfl)) (fun _ h9 => h9) rfl hin rfl (by decide +kernel) rfl rfl (Nat.le_of_ble_eq_true rfl) dX2_init_52 (fun H locs hP hD hS => ?_)
  have hP : va_P D classes ([(h0, .inr (2, [.int 0, .int 10, .int 0, .ref q1, .ref q2, .ref q3, .ref q4, .ref q5, .null, .null, .null, .null, .null, .null, .int 0, .null, .int 0, .null])), (q1, .inl (cZ, 10, .inl (fun _ => 0))), (q2, .inl (cZ, 10, .inl (fun _ => 0))), (q3, .inl (cI, 10, .inl (fun _ => 0))), (q4, .inl (cI, 10, .inl (fun _ => 0))), (q5, .inl (cI, 10, .inl (fun _ => 0)))]) H := hP
  have hD : va_D A ([(h0, .inr (2, [.int 0, .int 10, .int 0, .ref q1, .ref q2, .ref q3, .ref q4, .ref q5, .null, .null, .null, .null, .null, .null, .int 0, .null, .int 0, .null])), (q1, .inl (cZ, 10, .inl (fun _ => 0))), (q2, .inl (cZ, 10, .inl (fun _ => 0))), (q3, .inl (cI, 10, .inl (fun _ => 0))), (q4, .inl (cI, 10, .inl (fun _ => 0))), (q5, .inl (cI, 10, .inl (fun _ => 0)))]) := hD
  refine lv_aload_n hx hb dX2_init_55 rfl (lv_at hl 0 rfl) ?_
  refine lv_bipush (v := 10) hx hb dX2_init_56 (by decide) ?_
  refine cn_newa (atype := .int) hx hb (hts _ ac_int) (ty := .int) rfl 0 rfl ra_int hK hP hD hS hA (N' := 10) (a0 := (10, .inl (fun _ => 0))) (fun cA => rfl) (by decide) (by decide) (Nat.le_of_ble_eq_true rfl) (Nat.le_of_ble_eq_true rfl) (Nat.le_of_ble_eq_true rfl) dX2_init_58 (fun q6 H hP hD hS => ?_)
  have hP : va_P D classes ([(h0, .inr (2, [.int 0, .int 10, .int 0, .ref q1, .ref q2, .ref q3, .ref q4, .ref q5, .null, .null, .null, .null, .null, .null, .int 0, .null, .int 0, .null])), (q1, .inl (cZ, 10, .inl (fun _ => 0))), (q2, .inl (cZ, 10, .inl (fun _ => 0))), (q3, .inl (cI, 10, .inl (fun _ => 0))), (q4, .inl (cI, 10, .inl (fun _ => 0))), (q5, .inl (cI, 10, .inl (fun _ => 0))), (q6, .inl (cI, 10, .inl (fun _ => 0)))]) H := hP
  have hD : va_D A ([(h0, .inr (2, [.int 0, .int 10, .int 0, .ref q1, .ref q2, .ref q3, .ref q4, .ref q5, .null, .null, .null, .null, .null, .null, .int 0, .null, .int 0, .null])), (q1, .inl (cZ, 10, .inl (fun _ => 0))), (q2, .inl (cZ, 10, .inl (fun _ => 0))), (q3, .inl (cI, 10, .inl (fun _ => 0))), (q4, .inl (cI, 10, .inl (fun _ => 0))), (q5, .inl (cI, 10, .inl (fun _ => 0))), (q6, .inl (cI, 10, .inl (fun _ => 0)))]) := hD
  refine va_putF (D := D) (ci := 2) (v := .ref q6) (ty := .array .int) (C := RX2) (T := TX2) (N := 18) hx hb hts itX2 tyX2 tyX2_ok nmX2 hown hK hP hD hS 0 rfl rfl 8 (by decide) (hts _ (TBm 221 (by decide +kernel) rfl)) (fun _ h9 => h9) rfl hin rfl (by decide +kernel) rfl rfl (Nat.le_of_ble_eq_true rfl) dX2_init_60 (fun H locs hP hD hS => ?_)
  have hP : va_P D classes ([(h0, .inr (2, [.int 0, .int 10, .int 0, .ref q1, .ref q2, .ref q3, .ref q4, .ref q5, .ref q6, .null, .null, .null, .null, .null, .int 0, .null, .int 0, .null])), (q1, .inl (cZ, 10, .inl (fun _ => 0))), (q2, .inl (cZ, 10, .inl (fun _ => 0))), (q3, .inl (cI, 10, .inl (fun _ => 0))), (q4, .inl (cI, 10, .inl (fun _ => 0))), (q5, .inl (cI, 10, .inl (fun _ => 0))), (q6, .inl (cI, 10, .inl (fun _ => 0)))]) H := hP
  have hD : va_D A ([(h0, .inr (2, [.int 0, .int 10, .int 0, .ref q1, .ref q2, .ref q3, .ref q4, .ref q5, .ref q6, .null, .null, .null, .null, .null, .int 0, .null, .int 0, .null])), (q1, .inl (cZ, 10, .inl (fun _ => 0))), (q2, .inl (cZ, 10, .inl (fun _ => 0))), (q3, .inl (cI, 10, .inl (fun _ => 0))), (q4, .inl (cI, 10, .inl (fun _ => 0))), (q5, .inl (cI, 10, .inl (fun _ => 0))), (q6, .inl (cI, 10, .inl (fun _ => 0)))]) := hD
  refine lv_aload_n hx hb dX2_init_63 rfl (lv_at hl 0 rfl) ?_
  refine lv_bipush (v := 10) hx hb dX2_init_64 (by decide) ?_
  refine cn_newa (atype := .int) hx hb (hts _ ac_int) (ty := .int) rfl 0 rfl ra_int hK hP hD hS hA (N' := 10) (a0 := (10, .inl (fun _ => 0))) (fun cA => rfl) (by decide) (by decide) (Nat.le_of_ble_eq_true rfl) (Nat.le_of_ble_eq_true rfl) (Nat.le_of_ble_eq_true rfl) dX2_init_66 (fun q7 H hP hD hS => ?_)
  have hP : va_P D classes ([(h0, .inr (2, [.int 0, .int 10, .int 0, .ref q1, .ref q2, .ref q3, .ref q4, .ref q5, .ref q6, .null, .null, .null, .null, .null, .int 0, .null, .int 0, .null])), (q1, .inl (cZ, 10, .inl (fun _ => 0))), (q2, .inl (cZ, 10, .inl (fun _ => 0))), (q3, .inl (cI, 10, .inl (fun _ => 0))), (q4, .inl (cI, 10, .inl (fun _ => 0))), (q5, .inl (cI, 10, .inl (fun _ => 0))), (q6, .inl (cI, 10, .inl (fun _ => 0))), (q7, .inl (cI, 10, .inl (fun _ => 0)))]) H := hP
  have hD : va_D A ([(h0, .inr (2, [.int 0, .int 10, .int 0, .ref q1, .ref q2, .ref q3, .ref q4, .ref q5, .ref q6, .null, .null, .null, .null, .null, .int 0, .null, .int 0, .null])), (q1, .inl (cZ, 10, .inl (fun _ => 0))), (q2, .inl (cZ, 10, .inl (fun _ => 0))), (q3, .inl (cI, 10, .inl (fun _ => 0))), (q4, .inl (cI, 10, .inl (fun _ => 0))), (q5, .inl (cI, 10, .inl (fun _ => 0))), (q6, .inl (cI, 10, .inl (fun _ => 0))), (q7, .inl (cI, 10, .inl (fun _ => 0)))]) := hD
  refine va_putF (D := D) (ci := 2) (v := .ref q7) (ty := .array .int) (C := RX2) (T := TX2) (N := 18) hx hb hts itX2 tyX2 tyX2_ok nmX2 hown hK hP hD hS 0 rfl rfl 9 (by decide) (hts _ (TBm 223 (by decide +kernel) rfl)) (fun _ h9 => h9) rfl hin rfl (by decide +kernel) rfl rfl (Nat.le_of_ble_eq_true rfl) dX2_init_68 (fun H locs hP hD hS => ?_)
  have hP : va_P D classes ([(h0, .inr (2, [.int 0, .int 10, .int 0, .ref q1, .ref q2, .ref q3, .ref q4, .ref q5, .ref q6, .ref q7, .null, .null, .null, .null, .int 0, .null, .int 0, .null])), (q1, .inl (cZ, 10, .inl (fun _ => 0))), (q2, .inl (cZ, 10, .inl (fun _ => 0))), (q3, .inl (cI, 10, .inl (fun _ => 0))), (q4, .inl (cI, 10, .inl (fun _ => 0))), (q5, .inl (cI, 10, .inl (fun _ => 0))), (q6, .inl (cI, 10, .inl (fun _ => 0))), (q7, .inl (cI, 10, .inl (fun _ => 0)))]) H := hP
  have hD : va_D A ([(h0, .inr (2, [.int 0, .int 10, .int 0, .ref q1, .ref q2, .ref q3, .ref q4, .ref q5, .ref q6, .ref q7, .null, .null, .null, .null, .int 0, .null, .int 0, .null])), (q1, .inl (cZ, 10, .inl (fun _ => 0))), (q2, .inl (cZ, 10, .inl (fun _ => 0))), (q3, .inl (cI, 10, .inl (fun _ => 0))), (q4, .inl (cI, 10, .inl (fun _ => 0))), (q5, .inl (cI, 10, .inl (fun _ => 0))), (q6, .inl (cI, 10, .inl (fun _ => 0))), (q7, .inl (cI, 10, .inl (fun _ => 0)))]) := hD
  refine lv_aload_n hx hb dX2_init_71 rfl (lv_at hl 0 rfl) ?_
  refine lv_bipush (v := 24) hx hb dX2_init_72 (by decide) ?_
  refine cn_newa (atype := .int) hx hb (hts _ ac_int) (ty := .int) rfl 0 rfl ra_int hK hP hD hS hA (N' := 24) (a0 := (24, .inl (fun _ => 0))) (fun cA => rfl) (by decide) (by decide) (Nat.le_of_ble_eq_true rfl) (Nat.le_of_ble_eq_true rfl) (Nat.le_of_ble_eq_true rfl) dX2_init_74 (fun q8 H hP hD hS => ?_)
  have hP : va_P D classes ([(h0, .inr (2, [.int 0, .int 10, .int 0, .ref q1, .ref q2, .ref q3, .ref q4, .ref q5, .ref q6, .ref q7, .null, .null, .null, .null, .int 0, .null, .int 0, .null])), (q1, .inl (cZ, 10, .inl (fun _ => 0))), (q2, .inl (cZ, 10, .inl (fun _ => 0))), (q3, .inl (cI, 10, .inl (fun _ => 0))), (q4, .inl (cI, 10, .inl (fun _ => 0))), (q5, .inl (cI, 10, .inl (fun _ => 0))), (q6, .inl (cI, 10, .inl (fun _ => 0))), (q7, .inl (cI, 10, .inl (fun _ => 0))), (q8, .inl (cI, 24, .inl (fun _ => 0)))]) H := hP
  have hD : va_D A ([(h0, .inr (2, [.int 0, .int 10, .int 0, .ref q1, .ref q2, .ref q3, .ref q4, .ref q5, .ref q6, .ref q7, .null, .null, .null, .null, .int 0, .null, .int 0, .null])), (q1, .inl (cZ, 10, .inl (fun _ => 0))), (q2, .inl (cZ, 10, .inl (fun _ => 0))), (q3, .inl (cI, 10, .inl (fun _ => 0))), (q4, .inl (cI, 10, .inl (fun _ => 0))), (q5, .inl (cI, 10, .inl (fun _ => 0))), (q6, .inl (cI, 10, .inl (fun _ => 0))), (q7, .inl (cI, 10, .inl (fun _ => 0))), (q8, .inl (cI, 24, .inl (fun _ => 0)))]) := hD
  refine va_putF (D := D) (ci := 2) (v := .ref q8) (ty := .array .int) (C := RX2) (T := TX2) (N := 18) hx hb hts itX2 tyX2 tyX2_ok nmX2 hown hK hP hD hS 0 rfl rfl 10 (by decide) (hts _ (TBm 225 (by decide +kernel) rfl)) (fun _ h9 => h9) rfl hin rfl (by decide +kernel) rfl rfl (Nat.le_of_ble_eq_true rfl) dX2_init_76 (fun H locs hP hD hS => ?_)
  have hP : va_P D classes ([(h0, .inr (2, [.int 0, .int 10, .int 0, .ref q1, .ref q2, .ref q3, .ref q4, .ref q5, .ref q6, .ref q7, .ref q8, .null, .null, .null, .int 0, .null, .int 0, .null])), (q1, .inl (cZ, 10, .inl (fun _ => 0))), (q2, .inl (cZ, 10, .inl (fun _ => 0))), (q3, .inl (cI, 10, .inl (fun _ => 0))), (q4, .inl (cI, 10, .inl (fun _ => 0))), (q5, .inl (cI, 10, .inl (fun _ => 0))), (q6, .inl (cI, 10, .inl (fun _ => 0))), (q7, .inl (cI, 10, .inl (fun _ => 0))), (q8, .inl (cI, 24, .inl (fun _ => 0)))]) H := hP
  have hD : va_D A ([(h0, .inr (2, [.int 0, .int 10, .int 0, .ref q1, .ref q2, .ref q3, .ref q4, .ref q5, .ref q6, .ref q7, .ref q8, .null, .null, .null, .int 0, .null, .int 0, .null])), (q1, .inl (cZ, 10, .inl (fun _ => 0))), (q2, .inl (cZ, 10, .inl (fun _ => 0))), (q3, .inl (cI, 10, .inl (fun _ => 0))), (q4, .inl (cI, 10, .inl (fun _ => 0))), (q5, .inl (cI, 10, .inl (fun _ => 0))), (q6, .inl (cI, 10, .inl (fun _ => 0))), (q7, .inl (cI, 10, .inl (fun _ => 0))), (q8, .inl (cI, 24, .inl (fun _ => 0)))]) := hD
  refine lv_aload_n hx hb dX2_init_79 rfl (lv_at hl 0 rfl) ?_
  refine lv_bipush (v := 24) hx hb dX2_init_80 (by decide) ?_
  refine cn_newa (atype := .int) hx hb (hts _ ac_int) (ty := .int) rfl 0 rfl ra_int hK hP hD hS hA (N' := 24) (a0 := (24, .inl (fun _ => 0))) (fun cA => rfl) (by decide) (by decide) (Nat.le_of_ble_eq_true rfl) (Nat.le_of_ble_eq_true rfl) (Nat.le_of_ble_eq_true rfl) dX2_init_82 (fun q9 H hP hD hS => ?_)
  have hP : va_P D classes ([(h0, .inr (2, [.int 0, .int 10, .int 0, .ref q1, .ref q2, .ref q3, .ref q4, .ref q5, .ref q6, .ref q7, .ref q8, .null, .null, .null, .int 0, .null, .int 0, .null])), (q1, .inl (cZ, 10, .inl (fun _ => 0))), (q2, .inl (cZ, 10, .inl (fun _ => 0))), (q3, .inl (cI, 10, .inl (fun _ => 0))), (q4, .inl (cI, 10, .inl (fun _ => 0))), (q5, .inl (cI, 10, .inl (fun _ => 0))), (q6, .inl (cI, 10, .inl (fun _ => 0))), (q7, .inl (cI, 10, .inl (fun _ => 0))), (q8, .inl (cI, 24, .inl (fun _ => 0))), (q9, .inl (cI, 24, .inl (fun _ => 0)))]) H := hP
  have hD : va_D A ([(h0, .inr (2, [.int 0, .int 10, .int 0, .ref q1, .ref q2, .ref q3, .ref q4, .ref q5, .ref q6, .ref q7, .ref q8, .null, .null, .null, .int 0, .null, .int 0, .null])), (q1, .inl (cZ, 10, .inl (fun _ => 0))), (q2, .inl (cZ, 10, .inl (fun _ => 0))), (q3, .inl (cI, 10, .inl (fun _ => 0))), (q4, .inl (cI, 10, .inl (fun _ => 0))), (q5, .inl (cI, 10, .inl (fun _ => 0))), (q6, .inl (cI, 10, .inl (fun _ => 0))), (q7, .inl (cI, 10, .inl (fun _ => 0))), (q8, .inl (cI, 24, .inl (fun _ => 0))), (q9, .inl (cI, 24, .inl (fun _ => 0)))]) := hD
  refine va_putF (D := D) (ci := 2) (v := .ref q9) (ty := .array .int) (C := RX2) (T := TX2) (N := 18) hx hb hts itX2 tyX2 tyX2_ok nmX2 hown hK hP hD hS 0 rfl rfl 11 (by decide) (hts _ (TBm 227 (by decide +kernel) rfl)) (fun _ h9 => h9) rfl hin rfl (by decide +kernel) rfl rfl (Nat.le_of_ble_eq_true rfl) dX2_init_84 (fun H locs hP hD hS => ?_)
  have hP : va_P D classes ([(h0, .inr (2, [.int 0, .int 10, .int 0, .ref q1, .ref q2, .ref q3, .ref q4, .ref q5, .ref q6, .ref q7, .ref q8, .ref q9, .null, .null, .int 0, .null, .int 0, .null])), (q1, .inl (cZ, 10, .inl (fun _ => 0))), (q2, .inl (cZ, 10, .inl (fun _ => 0))), (q3, .inl (cI, 10, .inl (fun _ => 0))), (q4, .inl (cI, 10, .inl (fun _ => 0))), (q5, .inl (cI, 10, .inl (fun _ => 0))), (q6, .inl (cI, 10, .inl (fun _ => 0))), (q7, .inl (cI, 10, .inl (fun _ => 0))), (q8, .inl (cI, 24, .inl (fun _ => 0))), (q9, .inl (cI, 24, .inl (fun _ => 0)))]) H := hP
  have hD : va_D A ([(h0, .inr (2, [.int 0, .int 10, .int 0, .ref q1, .ref q2, .ref q3, .ref q4, .ref q5, .ref q6, .ref q7, .ref q8, .ref q9, .null, .null, .int 0, .null, .int 0, .null])), (q1, .inl (cZ, 10, .inl (fun _ => 0))), (q2, .inl (cZ, 10, .inl (fun _ => 0))), (q3, .inl (cI, 10, .inl (fun _ => 0))), (q4, .inl (cI, 10, .inl (fun _ => 0))), (q5, .inl (cI, 10, .inl (fun _ => 0))), (q6, .inl (cI, 10, .inl (fun _ => 0))), (q7, .inl (cI, 10, .inl (fun _ => 0))), (q8, .inl (cI, 24, .inl (fun _ => 0))), (q9, .inl (cI, 24, .inl (fun _ => 0)))]) := hD
  refine lv_aload_n hx hb dX2_init_87 rfl (lv_at hl 0 rfl) ?_
  refine lv_bipush (v := 24) hx hb dX2_init_88 (by decide) ?_
  refine cn_newa (atype := .int) hx hb (hts _ ac_int) (ty := .int) rfl 0 rfl ra_int hK hP hD hS hA (N' := 24) (a0 := (24, .inl (fun _ => 0))) (fun cA => rfl) (by decide) (by decide) (Nat.le_of_ble_eq_true rfl) (Nat.le_of_ble_eq_true rfl) (Nat.le_of_ble_eq_true rfl) dX2_init_90 (fun q10 H hP hD hS => ?_)
  have hP : va_P D classes ([(h0, .inr (2, [.int 0, .int 10, .int 0, .ref q1, .ref q2, .ref q3, .ref q4, .ref q5, .ref q6, .ref q7, .ref q8, .ref q9, .null, .null, .int 0, .null, .int 0, .null])), (q1, .inl (cZ, 10, .inl (fun _ => 0))), (q2, .inl (cZ, 10, .inl (fun _ => 0))), (q3, .inl (cI, 10, .inl (fun _ => 0))), (q4, .inl (cI, 10, .inl (fun _ => 0))), (q5, .inl (cI, 10, .inl (fun _ => 0))), (q6, .inl (cI, 10, .inl (fun _ => 0))), (q7, .inl (cI, 10, .inl (fun _ => 0))), (q8, .inl (cI, 24, .inl (fun _ => 0))), (q9, .inl (cI, 24, .inl (fun _ => 0))), (q10, .inl (cI, 24, .inl (fun _ => 0)))]) H := hP
  have hD : va_D A ([(h0, .inr (2, [.int 0, .int 10, .int 0, .ref q1, .ref q2, .ref q3, .ref q4, .ref q5, .ref q6, .ref q7, .ref q8, .ref q9, .null, .null, .int 0, .null, .int 0, .null])), (q1, .inl (cZ, 10, .inl (fun _ => 0))), (q2, .inl (cZ, 10, .inl (fun _ => 0))), (q3, .inl (cI, 10, .inl (fun _ => 0))), (q4, .inl (cI, 10, .inl (fun _ => 0))), (q5, .inl (cI, 10, .inl (fun _ => 0))), (q6, .inl (cI, 10, .inl (fun _ => 0))), (q7, .inl (cI, 10, .inl (fun _ => 0))), (q8, .inl (cI, 24, .inl (fun _ => 0))), (q9, .inl (cI, 24, .inl (fun _ => 0))), (q10, .inl (cI, 24, .inl (fun _ => 0)))]) := hD
  refine va_putF (D := D) (ci := 2) (v := .ref q10) (ty := .array .int) (C := RX2) (T := TX2) (N := 18) hx hb hts itX2 tyX2 tyX2_ok nmX2 hown hK hP hD hS 0 rfl rfl 12 (by decide) (hts _ (TBm 229 (by decide +kernel) rfl)) (fun _ h9 => h9) rfl hin rfl (by decide +kernel) rfl rfl (Nat.le_of_ble_eq_true rfl) dX2_init_92 (fun H locs hP hD hS => ?_)
  have hP : va_P D classes ([(h0, .inr (2, [.int 0, .int 10, .int 0, .ref q1, .ref q2, .ref q3, .ref q4, .ref q5, .ref q6, .ref q7, .ref q8, .ref q9, .ref q10, .null, .int 0, .null, .int 0, .null])), (q1, .inl (cZ, 10, .inl (fun _ => 0))), (q2, .inl (cZ, 10, .inl (fun _ => 0))), (q3, .inl (cI, 10, .inl (fun _ => 0))), (q4, .inl (cI, 10, .inl (fun _ => 0))), (q5, .inl (cI, 10, .inl (fun _ => 0))), (q6, .inl (cI, 10, .inl (fun _ => 0))), (q7, .inl (cI, 10, .inl (fun _ => 0))), (q8, .inl (cI, 24, .inl (fun _ => 0))), (q9, .inl (cI, 24, .inl (fun _ => 0))), (q10, .inl (cI, 24, .inl (fun _ => 0)))]) H := hP
  have hD : va_D A ([(h0, .inr (2, [.int 0, .int 10, .int 0, .ref q1, .ref q2, .ref q3, .ref q4, .ref q5, .ref q6, .ref q7, .ref q8, .ref q9, .ref q10, .null, .int 0, .null, .int 0, .null])), (q1, .inl (cZ, 10, .inl (fun _ => 0))), (q2, .inl (cZ, 10, .inl (fun _ => 0))), (q3, .inl (cI, 10, .inl (fun _ => 0))), (q4, .inl (cI, 10, .inl (fun _ => 0))), (q5, .inl (cI, 10, .inl (fun _ => 0))), (q6, .inl (cI, 10, .inl (fun _ => 0))), (q7, .inl (cI, 10, .inl (fun _ => 0))), (q8, .inl (cI, 24, .inl (fun _ => 0))), (q9, .inl (cI, 24, .inl (fun _ => 0))), (q10, .inl (cI, 24, .inl (fun _ => 0)))]) := hD
  refine lv_aload_n hx hb dX2_init_95 rfl (lv_at hl 0 rfl) ?_
  refine lv_bipush (v := 24) hx hb dX2_init_96 (by decide) ?_
  refine cn_newa (atype := .int) hx hb (hts _ ac_int) (ty := .int) rfl 0 rfl ra_int hK hP hD hS hA (N' := 24) (a0 := (24, .inl (fun _ => 0))) (fun cA => rfl) (by decide) (by decide) (Nat.le_of_ble_eq_true rfl) (Nat.le_of_ble_eq_true rfl) (Nat.le_of_ble_eq_true rfl) dX2_init_98 (fun q11 H hP hD hS => ?_)
  have hP : va_P D classes ([(h0, .inr (2, [.int 0, .int 10, .int 0, .ref q1, .ref q2, .ref q3, .ref q4, .ref q5, .ref q6, .ref q7, .ref q8, .ref q9, .ref q10, .null, .int 0, .null, .int 0, .null])), (q1, .inl (cZ, 10, .inl (fun _ => 0))), (q2, .inl (cZ, 10, .inl (fun _ => 0))), (q3, .inl (cI, 10, .inl (fun _ => 0))), (q4, .inl (cI, 10, .inl (fun _ => 0))), (q5, .inl (cI, 10, .inl (fun _ => 0))), (q6, .inl (cI, 10, .inl (fun _ => 0))), (q7, .inl (cI, 10, .inl (fun _ => 0))), (q8, .inl (cI, 24, .inl (fun _ => 0))), (q9, .inl (cI, 24, .inl (fun _ => 0))), (q10, .inl (cI, 24, .inl (fun _ => 0))), (q11, .inl (cI, 24, .inl (fun _ => 0)))]) H := hP
  have hD : va_D A ([(h0, .inr (2, [.int 0, .int 10, .int 0, .ref q1, .ref q2, .ref q3, .ref q4, .ref q5, .ref q6, .ref q7, .ref q8, .ref q9, .ref q10, .null, .int 0, .null, .int 0, .null])), (q1, .inl (cZ, 10, .inl (fun _ => 0))), (q2, .inl (cZ, 10, .inl (fun _ => 0))), (q3, .inl (cI, 10, .inl (fun _ => 0))), (q4, .inl (cI, 10, .inl (fun _ => 0))), (q5, .inl (cI, 10, .inl (fun _ => 0))), (q6, .inl (cI, 10, .inl (fun _ => 0))), (q7, .inl (cI, 10, .inl (fun _ => 0))), (q8, .inl (cI, 24, .inl (fun _ => 0))), (q9, .inl (cI, 24, .inl (fun _ => 0))), (q10, .inl (cI, 24, .inl (fun _ => 0))), (q11, .inl (cI, 24, .inl (fun _ => 0)))]) := hD
  refine va_putF (D := D) (ci := 2) (v := .ref q11) (ty := .array .int) (C := RX2) (T := TX2) (N := 18) hx hb hts itX2 tyX2 tyX2_ok nmX2 hown hK hP hD hS 0 rfl rfl 13 (by decide) (hts _ (TBm 231 (by decide +kernel) rfl)) (fun _ h9 => h9) rfl hin rfl (by decide +kernel) rfl rfl (Nat.le_of_ble_eq_true rfl) dX2_init_100 (fun H locs hP hD hS => ?_)
  have hP : va_P D classes ([(h0, .inr (2, [.int 0, .int 10, .int 0, .ref q1, .ref q2, .ref q3, .ref q4, .ref q5, .ref q6, .ref q7, .ref q8, .ref q9, .ref q10, .ref q11, .int 0, .null, .int 0, .null])), (q1, .inl (cZ, 10, .inl (fun _ => 0))), (q2, .inl (cZ, 10, .inl (fun _ => 0))), (q3, .inl (cI, 10, .inl (fun _ => 0))), (q4, .inl (cI, 10, .inl (fun _ => 0))), (q5, .inl (cI, 10, .inl (fun _ => 0))), (q6, .inl (cI, 10, .inl (fun _ => 0))), (q7, .inl (cI, 10, .inl (fun _ => 0))), (q8, .inl (cI, 24, .inl (fun _ => 0))), (q9, .inl (cI, 24, .inl (fun _ => 0))), (q10, .inl (cI, 24, .inl (fun _ => 0))), (q11, .inl (cI, 24, .inl (fun _ => 0)))]) H := hP
  have hD : va_D A ([(h0, .inr (2, [.int 0, .int 10, .int 0, .ref q1, .ref q2, .ref q3, .ref q4, .ref q5, .ref q6, .ref q7, .ref q8, .ref q9, .ref q10, .ref q11, .int 0, .null, .int 0, .null])), (q1, .inl (cZ, 10, .inl (fun _ => 0))), (q2, .inl (cZ, 10, .inl (fun _ => 0))), (q3, .inl (cI, 10, .inl (fun _ => 0))), (q4, .inl (cI, 10, .inl (fun _ => 0))), (q5, .inl (cI, 10, .inl (fun _ => 0))), (q6, .inl (cI, 10, .inl (fun _ => 0))), (q7, .inl (cI, 10, .inl (fun _ => 0))), (q8, .inl (cI, 24, .inl (fun _ => 0))), (q9, .inl (cI, 24, .inl (fun _ => 0))), (q10, .inl (cI, 24, .inl (fun _ => 0))), (q11, .inl (cI, 24, .inl (fun _ => 0)))]) := hD
  refine lv_aload_n hx hb dX2_init_103 rfl (lv_at hl 0 rfl) ?_
  refine lv_iconst (v := 0) hx hb dX2_init_104 (by decide) ?_
  refine va_put (D := D) (ci := 2) (v := .int 0) (ty := .int) (C := RX2) (T := TX2) (N := 18) hx hb hts itX2 tyX2 tyX2_ok nmX2 hown hK hP hD hS 0 rfl rfl 14 (by decide) (hts _ (TBm 233 (by decide +kernel) rfl)) (fun _ h9 => h9) rfl (by decide +kernel) rfl rfl (Nat.le_of_ble_eq_true rfl) dX2_init_105 (fun H locs hP hD hS => ?_)
  have hP : va_P D classes ([(h0, .inr (2, [.int 0, .int 10, .int 0, .ref q1, .ref q2, .ref q3, .ref q4, .ref q5, .ref q6, .ref q7, .ref q8, .ref q9, .ref q10, .ref q11, .int 0, .null, .int 0, .null])), (q1, .inl (cZ, 10, .inl (fun _ => 0))), (q2, .inl (cZ, 10, .inl (fun _ => 0))), (q3, .inl (cI, 10, .inl (fun _ => 0))), (q4, .inl (cI, 10, .inl (fun _ => 0))), (q5, .inl (cI, 10, .inl (fun _ => 0))), (q6, .inl (cI, 10, .inl (fun _ => 0))), (q7, .inl (cI, 10, .inl (fun _ => 0))), (q8, .inl (cI, 24, .inl (fun _ => 0))), (q9, .inl (cI, 24, .inl (fun _ => 0))), (q10, .inl (cI, 24, .inl (fun _ => 0))), (q11, .inl (cI, 24, .inl (fun _ => 0)))]) H := hP
  have hD : va_D A ([(h0, .inr (2, [.int 0, .int 10, .int 0, .ref q1, .ref q2, .ref q3, .ref q4, .ref q5, .ref q6, .ref q7, .ref q8, .ref q9, .ref q10, .ref q11, .int 0, .null, .int 0, .null])), (q1, .inl (cZ, 10, .inl (fun _ => 0))), (q2, .inl (cZ, 10, .inl (fun _ => 0))), (q3, .inl (cI, 10, .inl (fun _ => 0))), (q4, .inl (cI, 10, .inl (fun _ => 0))), (q5, .inl (cI, 10, .inl (fun _ => 0))), (q6, .inl (cI, 10, .inl (fun _ => 0))), (q7, .inl (cI, 10, .inl (fun _ => 0))), (q8, .inl (cI, 24, .inl (fun _ => 0))), (q9, .inl (cI, 24, .inl (fun _ => 0))), (q10, .inl (cI, 24, .inl (fun _ => 0))), (q11, .inl (cI, 24, .inl (fun _ => 0)))]) := hD
  refine lv_aload_n hx hb dX2_init_108 rfl (lv_at hl 0 rfl) ?_
  refine lv_bipush (v := 10) hx hb dX2_init_109 (by decide) ?_
  refine cn_newa (atype := .int) hx hb (hts _ ac_int) (ty := .int) rfl 0 rfl ra_int hK hP hD hS hA (N' := 10) (a0 := (10, .inl (fun _ => 0))) (fun cA => rfl) (by decide) (by decide) (Nat.le_of_ble_eq_true rfl) (Nat.le_of_ble_eq_true rfl) (Nat.le_of_ble_eq_true rfl) dX2_init_111 (fun q12 H hP hD hS => ?_)
  have hP : va_P D classes ([(h0, .inr (2, [.int 0, .int 10, .int 0, .ref q1, .ref q2, .ref q3, .ref q4, .ref q5, .ref q6, .ref q7, .ref q8, .ref q9, .ref q10, .ref q11, .int 0, .null, .int 0, .null])), (q1, .inl (cZ, 10, .inl (fun _ => 0))), (q2, .inl (cZ, 10, .inl (fun _ => 0))), (q3, .inl (cI, 10, .inl (fun _ => 0))), (q4, .inl (cI, 10, .inl (fun _ => 0))), (q5, .inl (cI, 10, .inl (fun _ => 0))), (q6, .inl (cI, 10, .inl (fun _ => 0))), (q7, .inl (cI, 10, .inl (fun _ => 0))), (q8, .inl (cI, 24, .inl (fun _ => 0))), (q9, .inl (cI, 24, .inl (fun _ => 0))), (q10, .inl (cI, 24, .inl (fun _ => 0))), (q11, .inl (cI, 24, .inl (fun _ => 0))), (q12, .inl (cI, 10, .inl (fun _ => 0)))]) H := hP
  have hD : va_D A ([(h0, .inr (2, [.int 0, .int 10, .int 0, .ref q1, .ref q2, .ref q3, .ref q4, .ref q5, .ref q6, .ref q7, .ref q8, .ref q9, .ref q10, .ref q11, .int 0, .null, .int 0, .null])), (q1, .inl (cZ, 10, .inl (fun _ => 0))), (q2, .inl (cZ, 10, .inl (fun _ => 0))), (q3, .inl (cI, 10, .inl (fun _ => 0))), (q4, .inl (cI, 10, .inl (fun _ => 0))), (q5, .inl (cI, 10, .inl (fun _ => 0))), (q6, .inl (cI, 10, .inl (fun _ => 0))), (q7, .inl (cI, 10, .inl (fun _ => 0))), (q8, .inl (cI, 24, .inl (fun _ => 0))), (q9, .inl (cI, 24, .inl (fun _ => 0))), (q10, .inl (cI, 24, .inl (fun _ => 0))), (q11, .inl (cI, 24, .inl (fun _ => 0))), (q12, .inl (cI, 10, .inl (fun _ => 0)))]) := hD
  refine va_putF (D := D) (ci := 2) (v := .ref q12) (ty := .array .int) (C := RX2) (T := TX2) (N := 18) hx hb hts itX2 tyX2 tyX2_ok nmX2 hown hK hP hD hS 0 rfl rfl 15 (by decide) (hts _ (TBm 235 (by decide +kernel) rfl)) (fun _ h9 => h9) rfl hin rfl (by decide +kernel) rfl rfl (Nat.le_of_ble_eq_true rfl) dX2_init_113 (fun H locs hP hD hS => ?_)
  have hP : va_P D classes ([(h0, .inr (2, [.int 0, .int 10, .int 0, .ref q1, .ref q2, .ref q3, .ref q4, .ref q5, .ref q6, .ref q7, .ref q8, .ref q9, .ref q10, .ref q11, .int 0, .ref q12, .int 0, .null])), (q1, .inl (cZ, 10, .inl (fun _ => 0))), (q2, .inl (cZ, 10, .inl (fun _ => 0))), (q3, .inl (cI, 10, .inl (fun _ => 0))), (q4, .inl (cI, 10, .inl (fun _ => 0))), (q5, .inl (cI, 10, .inl (fun _ => 0))), (q6, .inl (cI, 10, .inl (fun _ => 0))), (q7, .inl (cI, 10, .inl (fun _ => 0))), (q8, .inl (cI, 24, .inl (fun _ => 0))), (q9, .inl (cI, 24, .inl (fun _ => 0))), (q10, .inl (cI, 24, .inl (fun _ => 0))), (q11, .inl (cI, 24, .inl (fun _ => 0))), (q12, .inl (cI, 10, .inl (fun _ => 0)))]) H := hP
  have hD : va_D A ([(h0, .inr (2, [.int 0, .int 10, .int 0, .ref q1, .ref q2, .ref q3, .ref q4, .ref q5, .ref q6, .ref q7, .ref q8, .ref q9, .ref q10, .ref q11, .int 0, .ref q12, .int 0, .null])), (q1, .inl (cZ, 10, .inl (fun _ => 0))), (q2, .inl (cZ, 10, .inl (fun _ => 0))), (q3, .inl (cI, 10, .inl (fun _ => 0))), (q4, .inl (cI, 10, .inl (fun _ => 0))), (q5, .inl (cI, 10, .inl (fun _ => 0))), (q6, .inl (cI, 10, .inl (fun _ => 0))), (q7, .inl (cI, 10, .inl (fun _ => 0))), (q8, .inl (cI, 24, .inl (fun _ => 0))), (q9, .inl (cI, 24, .inl (fun _ => 0))), (q10, .inl (cI, 24, .inl (fun _ => 0))), (q11, .inl (cI, 24, .inl (fun _ => 0))), (q12, .inl (cI, 10, .inl (fun _ => 0)))]) := hD
  refine lv_aload_n hx hb dX2_init_116 rfl (lv_at hl 0 rfl) ?_
  refine lv_iconst (v := 0) hx hb dX2_init_117 (by decide) ?_
  refine va_put (D := D) (ci := 2) (v := .int 0) (ty := .int) (C := RX2) (T := TX2) (N := 18) hx hb hts itX2 tyX2 tyX2_ok nmX2 hown hK hP hD hS 0 rfl rfl 16 (by decide) (hts _ (TBm 237 (by decide +kernel) rfl)) (fun _ h9 => h9) rfl (by decide +kernel) rfl rfl (Nat.le_of_ble_eq_true rfl) dX2_init_118 (fun H locs hP hD hS => ?_)
  have hP : va_P D classes ([(h0, .inr (2, [.int 0, .int 10, .int 0, .ref q1, .ref q2, .ref q3, .ref q4, .ref q5, .ref q6, .ref q7, .ref q8, .ref q9, .ref q10, .ref q11, .int 0, .ref q12, .int 0, .null])), (q1, .inl (cZ, 10, .inl (fun _ => 0))), (q2, .inl (cZ, 10, .inl (fun _ => 0))), (q3, .inl (cI, 10, .inl (fun _ => 0))), (q4, .inl (cI, 10, .inl (fun _ => 0))), (q5, .inl (cI, 10, .inl (fun _ => 0))), (q6, .inl (cI, 10, .inl (fun _ => 0))), (q7, .inl (cI, 10, .inl (fun _ => 0))), (q8, .inl (cI, 24, .inl (fun _ => 0))), (q9, .inl (cI, 24, .inl (fun _ => 0))), (q10, .inl (cI, 24, .inl (fun _ => 0))), (q11, .inl (cI, 24, .inl (fun _ => 0))), (q12, .inl (cI, 10, .inl (fun _ => 0)))]) H := hP
  have hD : va_D A ([(h0, .inr (2, [.int 0, .int 10, .int 0, .ref q1, .ref q2, .ref q3, .ref q4, .ref q5, .ref q6, .ref q7, .ref q8, .ref q9, .ref q10, .ref q11, .int 0, .ref q12, .int 0, .null])), (q1, .inl (cZ, 10, .inl (fun _ => 0))), (q2, .inl (cZ, 10, .inl (fun _ => 0))), (q3, .inl (cI, 10, .inl (fun _ => 0))), (q4, .inl (cI, 10, .inl (fun _ => 0))), (q5, .inl (cI, 10, .inl (fun _ => 0))), (q6, .inl (cI, 10, .inl (fun _ => 0))), (q7, .inl (cI, 10, .inl (fun _ => 0))), (q8, .inl (cI, 24, .inl (fun _ => 0))), (q9, .inl (cI, 24, .inl (fun _ => 0))), (q10, .inl (cI, 24, .inl (fun _ => 0))), (q11, .inl (cI, 24, .inl (fun _ => 0))), (q12, .inl (cI, 10, .inl (fun _ => 0)))]) := hD
  refine lv_aload_n hx hb dX2_init_121 rfl (lv_at hl 0 rfl) ?_
  refine lv_bipush (v := 10) hx hb dX2_init_122 (by decide) ?_
  refine cn_newa (atype := .int) hx hb (hts _ ac_int) (ty := .int) rfl 0 rfl ra_int hK hP hD hS hA (N' := 10) (a0 := (10, .inl (fun _ => 0))) (fun cA => rfl) (by decide) (by decide) (Nat.le_of_ble_eq_true rfl) (Nat.le_of_ble_eq_true rfl) (Nat.le_of_ble_eq_true rfl) dX2_init_124 (fun q13 H hP hD hS => ?_)
  have hP : va_P D classes ([(h0, .inr (2, [.int 0, .int 10, .int 0, .ref q1, .ref q2, .ref q3, .ref q4, .ref q5, .ref q6, .ref q7, .ref q8, .ref q9, .ref q10, .ref q11, .int 0, .ref q12, .int 0, .null])), (q1, .inl (cZ, 10, .inl (fun _ => 0))), (q2, .inl (cZ, 10, .inl (fun _ => 0))), (q3, .inl (cI, 10, .inl (fun _ => 0))), (q4, .inl (cI, 10, .inl (fun _ => 0))), (q5, .inl (cI, 10, .inl (fun _ => 0))), (q6, .inl (cI, 10, .inl (fun _ => 0))), (q7, .inl (cI, 10, .inl (fun _ => 0))), (q8, .inl (cI, 24, .inl (fun _ => 0))), (q9, .inl (cI, 24, .inl (fun _ => 0))), (q10, .inl (cI, 24, .inl (fun _ => 0))), (q11, .inl (cI, 24, .inl (fun _ => 0))), (q12, .inl (cI, 10, .inl (fun _ => 0))), (q13, .inl (cI, 10, .inl (fun _ => 0)))]) H := hP
  have hD : va_D A ([(h0, .inr (2, [.int 0, .int 10, .int 0, .ref q1, .ref q2, .ref q3, .ref q4, .ref q5, .ref q6, .ref q7, .ref q8, .ref q9, .ref q10, .ref q11, .int 0, .ref q12, .int 0, .null])), (q1, .inl (cZ, 10, .inl (fun _ => 0))), (q2, .inl (cZ, 10, .inl (fun _ => 0))), (q3, .inl (cI, 10, .inl (fun _ => 0))), (q4, .inl (cI, 10, .inl (fun _ => 0))), (q5, .inl (cI, 10, .inl (fun _ => 0))), (q6, .inl (cI, 10, .inl (fun _ => 0))), (q7, .inl (cI, 10, .inl (fun _ => 0))), (q8, .inl (cI, 24, .inl (fun _ => 0))), (q9, .inl (cI, 24, .inl (fun _ => 0))), (q10, .inl (cI, 24, .inl (fun _ => 0))), (q11, .inl (cI, 24, .inl (fun _ => 0))), (q12, .inl (cI, 10, .inl (fun _ => 0))), (q13, .inl (cI, 10, .inl (fun _ => 0)))]) := hD
  refine va_putF (D := D) (ci := 2) (v := .ref q13) (ty := .array .int) (C := RX2) (T := TX2) (N := 18) hx hb hts itX2 tyX2 tyX2_ok nmX2 hown hK hP hD hS 0 rfl rfl 17 (by decide) (hts _ (TBm 239 (by decide +kernel) rfl)) (fun _ h9 => h9) rfl hin rfl (by decide +kernel) rfl rfl (Nat.le_of_ble_eq_true rfl) dX2_init_126 (fun H locs hP hD hS => ?_)
  have hP : va_P D classes ([(h0, .inr (2, [.int 0, .int 10, .int 0, .ref q1, .ref q2, .ref q3, .ref q4, .ref q5, .ref q6, .ref q7, .ref q8, .ref q9, .ref q10, .ref q11, .int 0, .ref q12, .int 0, .ref q13])), (q1, .inl (cZ, 10, .inl (fun _ => 0))), (q2, .inl (cZ, 10, .inl (fun _ => 0))), (q3, .inl (cI, 10, .inl (fun _ => 0))), (q4, .inl (cI, 10, .inl (fun _ => 0))), (q5, .inl (cI, 10, .inl (fun _ => 0))), (q6, .inl (cI, 10, .inl (fun _ => 0))), (q7, .inl (cI, 10, .inl (fun _ => 0))), (q8, .inl (cI, 24, .inl (fun _ => 0))), (q9, .inl (cI, 24, .inl (fun _ => 0))), (q10, .inl (cI, 24, .inl (fun _ => 0))), (q11, .inl (cI, 24, .inl (fun _ => 0))), (q12, .inl (cI, 10, .inl (fun _ => 0))), (q13, .inl (cI, 10, .inl (fun _ => 0)))]) H := hP
  have hD : va_D A ([(h0, .inr (2, [.int 0, .int 10, .int 0, .ref q1, .ref q2, .ref q3, .ref q4, .ref q5, .ref q6, .ref q7, .ref q8, .ref q9, .ref q10, .ref q11, .int 0, .ref q12, .int 0, .ref q13])), (q1, .inl (cZ, 10, .inl (fun _ => 0))), (q2, .inl (cZ, 10, .inl (fun _ => 0))), (q3, .inl (cI, 10, .inl (fun _ => 0))), (q4, .inl (cI, 10, .inl (fun _ => 0))), (q5, .inl (cI, 10, .inl (fun _ => 0))), (q6, .inl (cI, 10, .inl (fun _ => 0))), (q7, .inl (cI, 10, .inl (fun _ => 0))), (q8, .inl (cI, 24, .inl (fun _ => 0))), (q9, .inl (cI, 24, .inl (fun _ => 0))), (q10, .inl (cI, 24, .inl (fun _ => 0))), (q11, .inl (cI, 24, .inl (fun _ => 0))), (q12, .inl (cI, 10, .inl (fun _ => 0))), (q13, .inl (cI, 10, .inl (fun _ => 0)))]) := hD
  refine lv_aload_n hx hb dX2_init_129 rfl (lv_at hl 0 rfl) ?_
  refine lv_iload_n hx hb dX2_init_130 rfl (lv_at hl 1 rfl) ?_
  refine va_putF (D := D) (ci := 2) (v := .int u) (ty := .int) (C := RX2) (T := TX2) (N := 18) hx hb hts itX2 tyX2 tyX2_ok nmX2 hown hK hP hD hS 0 rfl rfl 0 (by decide) (hts _ (TBm 211 (by decide +kernel) rfl)) (fun _ h9 => h9) rfl hin rfl (by decide +kernel) rfl rfl (Nat.le_of_ble_eq_true rfl) dX2_init_131 (fun H locs hP hD hS => ?_)
  have hP : va_P D classes ([(h0, .inr (2, [.int u, .int 10, .int 0, .ref q1, .ref q2, .ref q3, .ref q4, .ref q5, .ref q6, .ref q7, .ref q8, .ref q9, .ref q10, .ref q11, .int 0, .ref q12, .int 0, .ref q13])), (q1, .inl (cZ, 10, .inl (fun _ => 0))), (q2, .inl (cZ, 10, .inl (fun _ => 0))), (q3, .inl (cI, 10, .inl (fun _ => 0))), (q4, .inl (cI, 10, .inl (fun _ => 0))), (q5, .inl (cI, 10, .inl (fun _ => 0))), (q6, .inl (cI, 10, .inl (fun _ => 0))), (q7, .inl (cI, 10, .inl (fun _ => 0))), (q8, .inl (cI, 24, .inl (fun _ => 0))), (q9, .inl (cI, 24, .inl (fun _ => 0))), (q10, .inl (cI, 24, .inl (fun _ => 0))), (q11, .inl (cI, 24, .inl (fun _ => 0))), (q12, .inl (cI, 10, .inl (fun _ => 0))), (q13, .inl (cI, 10, .inl (fun _ => 0)))]) H := hP
  have hD : va_D A ([(h0, .inr (2, [.int u, .int 10, .int 0, .ref q1, .ref q2, .ref q3, .ref q4, .ref q5, .ref q6, .ref q7, .ref q8, .ref q9, .ref q10, .ref q11, .int 0, .ref q12, .int 0, .ref q13])), (q1, .inl (cZ, 10, .inl (fun _ => 0))), (q2, .inl (cZ, 10, .inl (fun _ => 0))), (q3, .inl (cI, 10, .inl (fun _ => 0))), (q4, .inl (cI, 10, .inl (fun _ => 0))), (q5, .inl (cI, 10, .inl (fun _ => 0))), (q6, .inl (cI, 10, .inl (fun _ => 0))), (q7, .inl (cI, 10, .inl (fun _ => 0))), (q8, .inl (cI, 24, .inl (fun _ => 0))), (q9, .inl (cI, 24, .inl (fun _ => 0))), (q10, .inl (cI, 24, .inl (fun _ => 0))), (q11, .inl (cI, 24, .inl (fun _ => 0))), (q12, .inl (cI, 10, .inl (fun _ => 0))), (q13, .inl (cI, 10, .inl (fun _ => 0)))]) := hD
  exact W.vret hx hb hr (fun t ht hW => ⟨⟨(fun k => [h0, q1, q2, q3, q4, q5, q6, q7, q8, q9, q10, q11, q12, q13].getD k 0), rfl, rfl, by rw [ht]; exact hP, va_K.moved hW.alike hK, hD⟩, hS.F ht⟩) hS.2.2 dX2_init_134
theorem dX6_init_0 : decode cX6_init 0 = .ok (.aload_n 0, 1) := by decide +kernel
theorem dX6_init_1 : decode cX6_init 1 = .ok (.invokespecial 51, 3) := by decide +kernel
theorem dX6_init_4 : decode cX6_init 4 = .ok (.aload_n 0, 1) := by decide +kernel
theorem dX6_init_5 : decode cX6_init 5 = .ok (.bipush 64, 2) := by decide +kernel
theorem dX6_init_7 : decode cX6_init 7 = .ok (.newarray .long, 2) := by decide +kernel
theorem dX6_init_9 : decode cX6_init 9 = .ok (.putfield 7, 3) := by decide +kernel
theorem dX6_init_12 : decode cX6_init 12 = .ok (.aload_n 0, 1) := by decide +kernel
theorem dX6_init_13 : decode cX6_init 13 = .ok (.bipush 120, 2) := by decide +kernel
theorem dX6_init_15 : decode cX6_init 15 = .ok (.newarray .int, 2) := by decide +kernel
theorem dX6_init_17 : decode cX6_init 17 = .ok (.putfield 25, 3) := by decide +kernel
theorem dX6_init_20 : decode cX6_init 20 = .ok (.aload_n 0, 1) := by decide +kernel
theorem dX6_init_21 : decode cX6_init 21 = .ok (.bipush 10, 2) := by decide +kernel
theorem dX6_init_23 : decode cX6_init 23 = .ok (.newarray .int, 2) := by decide +kernel
theorem dX6_init_25 : decode cX6_init 25 = .ok (.putfield 57, 3) := by decide +kernel
theorem dX6_init_28 : decode cX6_init 28 = .ok (.aload_n 0, 1) := by decide +kernel
theorem dX6_init_29 : decode cX6_init 29 = .ok (.bipush 10, 2) := by decide +kernel
theorem dX6_init_31 : decode cX6_init 31 = .ok (.newarray .int, 2) := by decide +kernel
theorem dX6_init_33 : decode cX6_init 33 = .ok (.putfield 60, 3) := by decide +kernel
theorem dX6_init_36 : decode cX6_init 36 = .ok (.aload_n 0, 1) := by decide +kernel
theorem dX6_init_37 : decode cX6_init 37 = .ok (.bipush 10, 2) := by decide +kernel
theorem dX6_init_39 : decode cX6_init 39 = .ok (.newarray .int, 2) := by decide +kernel
theorem dX6_init_41 : decode cX6_init 41 = .ok (.putfield 63, 3) := by decide +kernel
theorem dX6_init_44 : decode cX6_init 44 = .ok (.aload_n 0, 1) := by decide +kernel
theorem dX6_init_45 : decode cX6_init 45 = .ok (.bipush 10, 2) := by decide +kernel
theorem dX6_init_47 : decode cX6_init 47 = .ok (.putfield 66, 3) := by decide +kernel
theorem dX6_init_50 : decode cX6_init 50 = .ok (.aload_n 0, 1) := by decide +kernel
theorem dX6_init_51 : decode cX6_init 51 = .ok (.bipush 10, 2) := by decide +kernel
theorem dX6_init_53 : decode cX6_init 53 = .ok (.newarray .int, 2) := by decide +kernel
theorem dX6_init_55 : decode cX6_init 55 = .ok (.putfield 69, 3) := by decide +kernel
theorem dX6_init_58 : decode cX6_init 58 = .ok (.aload_n 0, 1) := by decide +kernel
theorem dX6_init_59 : decode cX6_init 59 = .ok (.bipush 10, 2) := by decide +kernel
theorem dX6_init_61 : decode cX6_init 61 = .ok (.newarray .int, 2) := by decide +kernel
theorem dX6_init_63 : decode cX6_init 63 = .ok (.putfield 72, 3) := by decide +kernel
theorem dX6_init_66 : decode cX6_init 66 = .ok (.aload_n 0, 1) := by decide +kernel
theorem dX6_init_67 : decode cX6_init 67 = .ok (.bipush 10, 2) := by decide +kernel
theorem dX6_init_69 : decode cX6_init 69 = .ok (.newarray .int, 2) := by decide +kernel
theorem dX6_init_71 : decode cX6_init 71 = .ok (.putfield 75, 3) := by decide +kernel
theorem dX6_init_74 : decode cX6_init 74 = .ok (.aload_n 0, 1) := by decide +kernel
theorem dX6_init_75 : decode cX6_init 75 = .ok (.bipush 20, 2) := by decide +kernel
theorem dX6_init_77 : decode cX6_init 77 = .ok (.newarray .int, 2) := by decide +kernel
theorem dX6_init_79 : decode cX6_init 79 = .ok (.putfield 78, 3) := by decide +kernel
theorem dX6_init_82 : decode cX6_init 82 = .ok (.aload_n 0, 1) := by decide +kernel
theorem dX6_init_83 : decode cX6_init 83 = .ok (.bipush 20, 2) := by decide +kernel
theorem dX6_init_85 : decode cX6_init 85 = .ok (.newarray .int, 2) := by decide +kernel
theorem dX6_init_87 : decode cX6_init 87 = .ok (.putfield 81, 3) := by decide +kernel
theorem dX6_init_90 : decode cX6_init 90 = .ok (.aload_n 0, 1) := by decide +kernel
theorem dX6_init_91 : decode cX6_init 91 = .ok (.bipush 10, 2) := by decide +kernel
theorem dX6_init_93 : decode cX6_init 93 = .ok (.newarray .int, 2) := by decide +kernel
theorem dX6_init_95 : decode cX6_init 95 = .ok (.putfield 84, 3) := by decide +kernel
theorem dX6_init_98 : decode cX6_init 98 = .ok (.aload_n 0, 1) := by decide +kernel
theorem dX6_init_99 : decode cX6_init 99 = .ok (.bipush 10, 2) := by decide +kernel
theorem dX6_init_101 : decode cX6_init 101 = .ok (.newarray .int, 2) := by decide +kernel
theorem dX6_init_103 : decode cX6_init 103 = .ok (.putfield 87, 3) := by decide +kernel
theorem dX6_init_106 : decode cX6_init 106 = .ok (.aload_n 0, 1) := by decide +kernel
theorem dX6_init_107 : decode cX6_init 107 = .ok (.iconst 2, 1) := by decide +kernel
theorem dX6_init_108 : decode cX6_init 108 = .ok (.newarray .int, 2) := by decide +kernel
theorem dX6_init_110 : decode cX6_init 110 = .ok (.putfield 90, 3) := by decide +kernel
theorem dX6_init_113 : decode cX6_init 113 = .ok (.aload_n 0, 1) := by decide +kernel
theorem dX6_init_114 : decode cX6_init 114 = .ok (.bipush 50, 2) := by decide +kernel
theorem dX6_init_116 : decode cX6_init 116 = .ok (.newarray .int, 2) := by decide +kernel
theorem dX6_init_118 : decode cX6_init 118 = .ok (.putfield 93, 3) := by decide +kernel
theorem dX6_init_121 : decode cX6_init 121 = .ok (.aload_n 0, 1) := by decide +kernel
theorem dX6_init_122 : decode cX6_init 122 = .ok (.bipush 50, 2) := by decide +kernel
theorem dX6_init_124 : decode cX6_init 124 = .ok (.newarray .int, 2) := by decide +kernel
theorem dX6_init_126 : decode cX6_init 126 = .ok (.putfield 96, 3) := by decide +kernel
theorem dX6_init_129 : decode cX6_init 129 = .ok (.aload_n 0, 1) := by decide +kernel
theorem dX6_init_130 : decode cX6_init 130 = .ok (.bipush 50, 2) := by decide +kernel
theorem dX6_init_132 : decode cX6_init 132 = .ok (.newarray .int, 2) := by decide +kernel
theorem dX6_init_134 : decode cX6_init 134 = .ok (.putfield 99, 3) := by decide +kernel
theorem dX6_init_137 : decode cX6_init 137 = .ok (.aload_n 0, 1) := by decide +kernel
theorem dX6_init_138 : decode cX6_init 138 = .ok (.bipush 24, 2) := by decide +kernel
theorem dX6_init_140 : decode cX6_init 140 = .ok (.newarray .int, 2) := by decide +kernel
theorem dX6_init_142 : decode cX6_init 142 = .ok (.putfield 102, 3) := by decide +kernel
theorem dX6_init_145 : decode cX6_init 145 = .ok (.aload_n 0, 1) := by decide +kernel
theorem dX6_init_146 : decode cX6_init 146 = .ok (.bipush 24, 2) := by decide +kernel
theorem dX6_init_148 : decode cX6_init 148 = .ok (.newarray .int, 2) := by decide +kernel
theorem dX6_init_150 : decode cX6_init 150 = .ok (.putfield 105, 3) := by decide +kernel
theorem dX6_init_153 : decode cX6_init 153 = .ok (.aload_n 0, 1) := by decide +kernel
theorem dX6_init_154 : decode cX6_init 154 = .ok (.bipush 24, 2) := by decide +kernel
theorem dX6_init_156 : decode cX6_init 156 = .ok (.newarray .int, 2) := by decide +kernel
theorem dX6_init_158 : decode cX6_init 158 = .ok (.putfield 108, 3) := by decide +kernel
theorem dX6_init_161 : decode cX6_init 161 = .ok (.aload_n 0, 1) := by decide +kernel
theorem dX6_init_162 : decode cX6_init 162 = .ok (.bipush 24, 2) := by decide +kernel
theorem dX6_init_164 : decode cX6_init 164 = .ok (.newarray .int, 2) := by decide +kernel
theorem dX6_init_166 : decode cX6_init 166 = .ok (.putfield 111, 3) := by decide +kernel
theorem dX6_init_169 : decode cX6_init 169 = .ok (.return_, 1) := by decide +kernel
abbrev fsX6 : List Value := [.int 0, .int 0, .null, .null, .int 0, .int 0, .int 0, .int 0, .null, .null, .null, .int 0, .null, .null, .null, .null, .null, .int 0, .int 0, .int 0, .int 0, .int 0, .null, .null, .null, .null, .null, .null, .int 0, .int 0, .null, .null, .null, .int 0, .null, .int 0]
theorem dfX6 : ∀ j, j < 36 → defaultValue (tyX6 j) = vp_V fsX6 j := by
  intro j hj
  match j, hj with
  | 0, _ => rfl
  | 1, _ => rfl
  | 2, _ => rfl
  | 3, _ => rfl
  | 4, _ => rfl
  | 5, _ => rfl
  | 6, _ => rfl
  | 7, _ => rfl
  | 8, _ => rfl
  | 9, _ => rfl
  | 10, _ => rfl
  | 11, _ => rfl
  | 12, _ => rfl
  | 13, _ => rfl
  | 14, _ => rfl
  | 15, _ => rfl
  | 16, _ => rfl
  | 17, _ => rfl
  | 18, _ => rfl
  | 19, _ => rfl
  | 20, _ => rfl
  | 21, _ => rfl
  | 22, _ => rfl
  | 23, _ => rfl
  | 24, _ => rfl
  | 25, _ => rfl
  | 26, _ => rfl
  | 27, _ => rfl
  | 28, _ => rfl
  | 29, _ => rfl
  | 30, _ => rfl
  | 31, _ => rfl
  | 32, _ => rfl
  | 33, _ => rfl
  | 34, _ => rfl
  | 35, _ => rfl
  | j + 36, h => exact absurd h (by omega)
theorem CI_X6 : CI0 0 yX6_init cX6_init 1 := ⟨TBm 85 (by decide +kernel) rfl, TBm 891 (by decide +kernel) rfl, ⟨by decide, by decide, by decide +kernel⟩, rfl, TBm 890 (by decide +kernel) rfl⟩
abbrev nwX6 (f : Nat → Nat) (cI cJ cZ : ClassId) : va_W := [(f 0, .inr (6, [.int 0, .int 0, .ref (f 1), .ref (f 2), .int 0, .int 0, .int 0, .int 0, .ref (f 3), .ref (f 4), .ref (f 5), .int 10, .ref (f 6), .ref (f 7), .ref (f 8), .ref (f 9), .ref (f 10), .int 0, .int 0, .int 0, .int 0, .int 0, .ref (f 11), .ref (f 12), .ref (f 13), .ref (f 14), .ref (f 15), .ref (f 16), .int 0, .int 0, .ref (f 17), .ref (f 18), .ref (f 19), .int 0, .ref (f 20), .int 0])), (f 1, .inl (cJ, 64, .inr (.inl (fun _ => 0)))), (f 2, .inl (cI, 120, .inl (fun _ => 0))), (f 3, .inl (cI, 10, .inl (fun _ => 0))), (f 4, .inl (cI, 10, .inl (fun _ => 0))), (f 5, .inl (cI, 10, .inl (fun _ => 0))), (f 6, .inl (cI, 10, .inl (fun _ => 0))), (f 7, .inl (cI, 10, .inl (fun _ => 0))), (f 8, .inl (cI, 10, .inl (fun _ => 0))), (f 9, .inl (cI, 20, .inl (fun _ => 0))), (f 10, .inl (cI, 20, .inl (fun _ => 0))), (f 11, .inl (cI, 10, .inl (fun _ => 0))), (f 12, .inl (cI, 10, .inl (fun _ => 0))), (f 13, .inl (cI, 2, .inl (fun _ => 0))), (f 14, .inl (cI, 50, .inl (fun _ => 0))), (f 15, .inl (cI, 50, .inl (fun _ => 0))), (f 16, .inl (cI, 50, .inl (fun _ => 0))), (f 17, .inl (cI, 24, .inl (fun _ => 0))), (f 18, .inl (cI, 24, .inl (fun _ => 0))), (f 19, .inl (cI, 24, .inl (fun _ => 0))), (f 20, .inl (cI, 24, .inl (fun _ => 0)))]
set_option maxRecDepth 20000 in
set_option maxHeartbeats 4000000 in
theorem iX6 : KI 1 yX6_init cX6_init 1 6 [] 20 552 fsX6 (nwX6) (fun _ => True) := by
  intro l D cI cJ cZ h0 sz
  refine Met.ofW (cc := cX6_init) (maxL := 1) (ret := none) (by decide) rfl ?_
  intro p e s m args below meth c s₁ B hml hv
  obtain ⟨rfl, hsz, hP, hK, hD0, hN⟩ := hv
  have hx := B.exec
  have hb := B.bytes
  have hr := B.returns
  have hts0 := atoms_spec (ws := .code yX6_init cX6_init 1 none :: TB) B.pre
  have hts : ∀ w ∈ TB, w.before (Value.ref h0 :: []).toArray s = true := fun w hw => hts0 w (List.mem_cons_of_mem _ hw)
  have hown : s.vm.findClass RX6 = some m.cls := findClass_of_methodNamed B.named
  have hlocks := B.notSynchronized
  have hin : meth.name = "<init>" := (name_of_methodNamed B.named B.method).1
  subst hsz
  have hD := hD0.self (sz := s.heap.size)
  generalize hAe : va_A [(h0, .inr (6, fsX6))] s.heap.size = A at hD ⊢
  have hA : ∀ q : Nat, s.heap.size ≤ q → A q := fun q h => by rw [← hAe]; exact Or.inr h
  have hS : va_S A s.heap s.heap [] := va_S.rf
  have hl := lv_entry (Value.ref h0 :: []) (n := 1) (Nat.le_of_ble_eq_true rfl)
  rw [lg_entry_eq]
  generalize (lg_sl (Value.ref h0 :: []) ++ List.replicate (1 - (lg_sl (Value.ref h0 :: [])).length) Slot.unset).toArray = ls at hl ⊢
  have hl : lv_has ls 1 [(0, .ref h0)] := hl
  refine lv_aload_n hx hb dX6_init_0 rfl (lv_at hl 0 rfl) ?_
  refine W.objInit hx hb hown (hts _ (TBm 892 (by decide +kernel) rfl)) (hts _ oi_m) (hts _ oi_c) rfl (by rw [hml]; exact hl.1) rfl dX6_init_1 (Nat.le_of_ble_eq_true rfl) (Nat.le_of_ble_eq_true rfl) ?_
  refine W.eq (g2 := F0 m 4 ls []) rfl ?_
  refine lv_aload_n hx hb dX6_init_4 rfl (lv_at hl 0 rfl) ?_
  refine lv_bipush (v := 64) hx hb dX6_init_5 (by decide) ?_
  refine cn_newa (atype := .long) hx hb (hts _ ac_long) (ty := .long) rfl 1 rfl ra_long hK hP hD hS hA (N' := 64) (a0 := (64, .inr (.inl (fun _ => 0)))) (fun cA => rfl) (by decide) (by decide) (Nat.le_of_ble_eq_true rfl) (Nat.le_of_ble_eq_true rfl) (Nat.le_of_ble_eq_true rfl) dX6_init_7 (fun q1 H hP hD hS => ?_)
  have hP : va_P D classes ([(h0, .inr (6, [.int 0, .int 0, .null, .null, .int 0, .int 0, .int 0, .int 0, .null, .null, .null, .int 0, .null, .null, .null, .null, .null, .int 0, .int 0, .int 0, .int 0, .int 0, .null, .null, .null, .null, .null, .null, .int 0, .int 0, .null, .null, .null, .int 0, .null, .int 0])), (q1, .inl (cJ, 64, .inr (.inl (fun _ => 0))))]) H := hP
  have hD : va_D A ([(h0, .inr (6, [.int 0, .int 0, .null, .null, .int 0, .int 0, .int 0, .int 0, .null, .null, .null, .int 0, .null, .null, .null, .null, .null, .int 0, .int 0, .int 0, .int 0, .int 0, .null, .null, .null, .null, .null, .null, .int 0, .int 0, .null, .null, .null, .int 0, .null, .int 0])), (q1, .inl (cJ, 64, .inr (.inl (fun _ => 0))))]) := hD
  refine va_putF (D := D) (ci := 6) (v := .ref q1) (ty := .array .long) (C := RX6) (T := TX6) (N := 36) hx hb hts itX6 tyX6 tyX6_ok nmX6 hown hK hP hD hS 0 rfl rfl 2 (by decide) (hts _ (TBm 895 (by decide +kernel) rfl)) (fun _ h9 => h9) rfl hin rfl (by decide +kernel) rfl rfl (Nat.le_of_ble_eq_true rfl) dX6_init_9 (fun H locs hP hD hS => ?_)
  have hP : va_P D classes ([(h0, .inr (6, [.int 0, .int 0, .ref q1, .null, .int 0, .int 0, .int 0, .int 0, .null, .null, .null, .int 0, .null, .null, .null, .null, .null, .int 0, .int 0, .int 0, .int 0, .int 0, .null, .null, .null, .null, .null, .null, .int 0, .int 0, .null, .null, .null, .int 0, .null, .int 0])), (q1, .inl (cJ, 64, .inr (.inl (fun _ => 0))))]) H := hP
  have hD : va_D A ([(h0, .inr (6, [.int 0, .int 0, .ref q1, .null, .int 0, .int 0, .int 0, .int 0, .null, .null, .null, .int 0, .null, .null, .null, .null, .null, .int 0, .int 0, .int 0, .int 0, .int 0, .null, .null, .null, .null, .null, .null, .int 0, .int 0, .null, .null, .null, .int 0, .null, .int 0])), (q1, .inl (cJ, 64, .inr (.inl (fun _ => 0))))]) := hD
  refine lv_aload_n hx hb dX6_init_12 rfl (lv_at hl 0 rfl) ?_
  refine lv_bipush (v := 120) hx hb dX6_init_13 (by decide) ?_
  refine cn_newa (atype := .int) hx hb (hts _ ac_int) (ty := .int) rfl 0 rfl ra_int hK hP hD hS hA (N' := 120) (a0 := (120, .inl (fun _ => 0))) (fun cA => rfl) (by decide) (by decide) (Nat.le_of_ble_eq_true rfl) (Nat.le_of_ble_eq_true rfl) (Nat.le_of_ble_eq_true rfl) dX6_init_15 (fun q2 H hP hD hS => ?_)
  have hP : va_P D classes ([(h0, .inr (6, [.int 0, .int 0, .ref q1, .null, .int 0, .int 0, .int 0, .int 0, .null, .null, .null, .int 0, .null, .null, .null, .null, .null, .int 0, .int 0, .int 0, .int 0, .int 0, .null, .null, .null, .null, .null, .null, .int 0, .int 0, .null, .null, .null, .int 0, .null, .int 0])), (q1, .inl (cJ, 64, .inr (.inl (fun _ => 0)))), (q2, .inl (cI, 120, .inl (fun _ => 0)))]) H := hP
  have hD : va_D A ([(h0, .inr (6, [.int 0, .int 0, .ref q1, .null, .int 0, .int 0, .int 0, .int 0, .null, .null, .null, .int 0, .null, .null, .null, .null, .null, .int 0, .int 0, .int 0, .int 0, .int 0, .null, .null, .null, .null, .null, .null, .int 0, .int 0, .null, .null, .null, .int 0, .null, .int 0])), (q1, .inl (cJ, 64, .inr (.inl (fun _ => 0)))), (q2, .inl (cI, 120, .inl (fun _ => 0)))]) := hD
  refine va_putF (D := D) (ci := 6) (v := .ref q2) (ty := .array .int) (C := RX6) (T := TX6) (N := 36) hx hb hts itX6 tyX6 tyX6_ok nmX6 hown hK hP hD hS 0 rfl rfl 3 (by decide) (hts _ (TBm 896 (by decide +kernel) rfl)) (fun _ h9 => h9) rfl hin rfl (by decide +kernel) rfl rfl (Nat.le_of_ble_eq_true rfl) dX6_init_17 (fun H locs hP hD hS => ?_)
  have hP : va_P D classes ([(h0, .inr (6, [.int 0, .int 0, .ref q1, .ref q2, .int 0, .int 0, .int 0, .int 0, .null, .null, .null, .int 0, .null, .null, .null, .null, .null, .int 0, .int 0, .int 0, .int 0, .int 0, .null, .null, .null, .null, .null, .null, .int 0, .int 0, .null, .null, .null, .int 0, .null, .int 0])), (q1, .inl (cJ, 64, .inr (.inl (fun _ => 0)))), (q2, .inl (cI, 120, .inl (fun _ => 0)))]) H := hP
  have hD : va_D A ([(h0, .inr (6, [.int 0, .int 0, .ref q1, .ref q2, .int 0, .int 0, .int 0, .int 0, .null, .null, .null, .int 0, .null, .null, .null, .null, .null, .int 0, .int 0, .int 0, .int 0, .int 0, .null, .null, .null, .null, .null, .null, .int 0, .int 0, .null, .null, .null, .int 0, .null, .int 0])), (q1, .inl (cJ, 64, .inr (.inl (fun _ => 0)))), (q2, .inl (cI, 120, .inl (fun _ => 0)))]) := hD
  refine lv_aload_n hx hb dX6_init_20 rfl (lv_at hl 0 rfl) ?_
  refine lv_bipush (v := 10) hx hb dX6_init_21 (by decide) ?_
  refine cn_newa (atype := .int) hx hb (hts _ ac_int) (ty := .int) rfl 0 rfl ra_int hK hP hD hS hA (N' := 10) (a0 := (10, .inl (fun _ => 0))) (fun cA => rfl) (by decide) (by decide) (Nat.le_of_ble_eq_true rfl) (Nat.le_of_ble_eq_true rfl) (Nat.le_of_ble_eq_true rfl) dX6_init_23 (fun q3 H hP hD hS => ?_)
  have hP : va_P D classes ([(h0, .inr (6, [.int 0, .int 0, .ref q1, .ref q2, .int 0, .int 0, .int 0, .int 0, .null, .null, .null, .int 0, .null, .null, .null, .null, .null, .int 0, .int 0, .int 0, .int 0, .int 0, .null, .null, .null, .null, .null, .null, .int 0, .int 0, .null, .null, .null, .int 0, .null, .int 0])), (q1, .inl (cJ, 64, .inr (.inl (fun _ => 0)))), (q2, .inl (cI, 120, .inl (fun _ => 0))), (q3, .inl (cI, 10, .inl (fun _ => 0)))]) H := hP
  have hD : va_D A ([(h0, .inr (6, [.int 0, .int 0, .ref q1, .ref q2, .int 0, .int 0, .int 0, .int 0, .null, .null, .null, .int 0, .null, .null, .null, .null, .null, .int 0, .int 0, .int 0, .int 0, .int 0, .null, .null, .null, .null, .null, .null, .int 0, .int 0, .null, .null, .null, .int 0, .null, .int 0])), (q1, .inl (cJ, 64, .inr (.inl (fun _ => 0)))), (q2, .inl (cI, 120, .inl (fun _ => 0))), (q3, .inl (cI, 10, .inl (fun _ => 0)))]) := hD
  refine va_putF (D := D) (ci := 6) (v := .ref q3) (ty := .array .int) (C := RX6) (T := TX6) (N := 36) hx hb hts itX6 tyX6 tyX6_ok nmX6 hown hK hP hD hS 0 rfl rfl 8 (by decide) (hts _ (TBm 901 (by decide +kernel) rfl)) (fun _ h9 => h9) rfl hin rfl (by decide +kernel) rfl rfl (Nat.le_of_ble_eq_true rfl) dX6_init_25 (fun H locs hP hD hS => ?_)
  have hP : va_P D classes ([(h0, .inr (6, [.int 0, .int 0, .ref q1, .ref q2, .int 0, .int 0, .int 0, .int 0, .ref q3, .null, .null, .int 0, .null, .null, .null, .null, .null, .int 0, .int 0, .int 0, .int 0, .int 0, .null, .null, .null, .null, .null, .null, .int 0, .int 0, .null, .null, .null, .int 0, .null, .int 0])), (q1, .inl (cJ, 64, .inr (.inl (fun _ => 0)))), (q2, .inl (cI, 120, .inl (fun _ => 0))), (q3, .inl (cI, 10, .inl (fun _ => 0)))]) H := hP
  have hD : va_D A ([(h0, .inr (6, [.int 0, .int 0, .ref q1, .ref q2, .int 0, .int 0, .int 0, .int 0, .ref q3, .null, .null, .int 0, .null, .null, .null, .null, .null, .int 0, .int 0, .int 0, .int 0, .int 0, .null, .null, .null, .null, .null, .null, .int 0, .int 0, .null, .null, .null, .int 0, .null, .int 0])), (q1, .inl (cJ, 64, .inr (.inl (fun _ => 0)))), (q2, .inl (cI, 120, .inl (fun _ => 0))), (q3, .inl (cI, 10, .inl (fun _ => 0)))]) := hD
  refine lv_aload_n hx hb dX6_init_28 rfl (lv_at hl 0 rfl) ?_
  refine lv_bipush (v := 10) hx hb dX6_init_29 (by decide) ?_
  refine cn_newa (atype := .int) hx hb (hts _ ac_int) (ty := .int) rfl 0 rfl ra_int hK hP hD hS hA (N' := 10) (a0 := (10, .inl (fun _ => 0))) (fun cA => rfl) (by decide) (by decide) (Nat.le_of_ble_eq_true rfl) (Nat.le_of_ble_eq_true rfl) (Nat.le_of_ble_eq_true rfl) dX6_init_31 (fun q4 H hP hD hS => ?_)
  have hP : va_P D classes ([(h0, .inr (6, [.int 0, .int 0, .ref q1, .ref q2, .int 0, .int 0, .int 0, .int 0, .ref q3, .null, .null, .int 0, .null, .null, .null, .null, .null, .int 0, .int 0, .int 0, .int 0, .int 0, .null, .null, .null, .null, .null, .null, .int 0, .int 0, .null, .null, .null, .int 0, .null, .int 0])), (q1, .inl (cJ, 64, .inr (.inl (fun _ => 0)))), (q2, .inl (cI, 120, .inl (fun _ => 0))), (q3, .inl (cI, 10, .inl (fun _ => 0))), (q4, .inl (cI, 10, .inl (fun _ => 0)))]) H := hP
  have hD : va_D A ([(h0, .inr (6, [.int 0, .int 0, .ref q1, .ref q2, .int 0, .int 0, .int 0, .int 0, .ref q3, .null, .null, .int 0, .null, .null, .null, .null, .null, .int 0, .int 0, .int 0, .int 0, .int 0, .null, .null, .null, .null, .null, .null, .int 0, .int 0, .null, .null, .null, .int 0, .null, .int 0])), (q1, .inl (cJ, 64, .inr (.inl (fun _ => 0)))), (q2, .inl (cI, 120, .inl (fun _ => 0))), (q3, .inl (cI, 10, .inl (fun _ => 0))), (q4, .inl (cI, 10, .inl (fun _ => 0)))]) := hD
  refine va_putF (D := D) (ci := 6) (v := .ref q4) (ty := .array .int) (C := RX6) (T := TX6) (N := 36) hx hb hts itX6 tyX6 tyX6_ok nmX6 hown hK hP hD hS 0 rfl rfl 9 (by decide) (hts _ (TBm 902 (by decide +kernel) rfl)) (fun _ h9 => h9) rfl hin rfl (by decide +kernel) rfl rfl (Nat.le_of_ble_eq_true rfl) dX6_init_33 (fun H locs hP hD hS => ?_)
  have hP : va_P D classes ([(h0, .inr (6, [.int 0, .int 0, .ref q1, .ref q2, .int 0, .int 0, .int 0, .int 0, .ref q3, .ref q4, .null, .int 0, .null, .null, .null, .null, .null, .int 0, .int 0, .int 0, .int 0, .int 0, .null, .null, .null, .null, .null, .null, .int 0, .int 0, .null, .null, .null, .int 0, .null, .int 0])), (q1, .inl (cJ, 64, .inr (.inl (fun _ => 0)))), (q2, .inl (cI, 120, .inl (fun _ => 0))), (q3, .inl (cI, 10, .inl (fun _ => 0))), (q4, .inl (cI, 10, .inl (fun _ => 0)))]) H := hP
  have hD : va_D A ([(h0, .inr (6, [.int 0, .int 0, .ref q1, .ref q2, .int 0, .int 0, .int 0, .int 0, .ref q3, .ref q4, .null, .int 0, .null, .null, .null, .null, .null, .int 0, .int 0, .int 0, .int 0, .int 0, .null, .null, .null, .null, .null, .null, .int 0, .int 0, .null, .null, .null, .int 0, .null, .int 0])), (q1, .inl (cJ, 64, .inr (.inl (fun _ => 0)))), (q2, .inl (cI, 120, .inl (fun _ => 0))), (q3, .inl (cI, 10, .inl (fun _ => 0))), (q4, .inl (cI, 10, .inl (fun _ => 0)))]) := hD
  refine lv_aload_n hx hb dX6_init_36 rfl (lv_at hl 0 rfl) ?_
  refine lv_bipush (v := 10) hx hb dX6_init_37 (by decide) ?_
  refine cn_newa (atype := .int) hx hb (hts _ ac_int) (ty := .int) rfl 0 rfl ra_int hK hP hD hS hA (N' := 10) (a0 := (10, .inl (fun _ => 0))) (fun cA => rfl) (by decide) (by decide) (Nat.le_of_ble_eq_true rfl) (Nat.le_of_ble_eq_true rfl) (Nat.le_of_ble_eq_true rfl) dX6_init_39 (fun q5 H hP hD hS => ?_)
  have hP : va_P D classes ([(h0, .inr (6, [.int 0, .int 0, .ref q1, .ref q2, .int 0, .int 0, .int 0, .int 0, .ref q3, .ref q4, .null, .int 0, .null, .null, .null, .null, .null, .int 0, .int 0, .int 0, .int 0, .int 0, .null, .null, .null, .null, .null, .null, .int 0, .int 0, .null, .null, .null, .int 0, .null, .int 0])), (q1, .inl (cJ, 64, .inr (.inl (fun _ => 0)))), (q2, .inl (cI, 120, .inl (fun _ => 0))), (q3, .inl (cI, 10, .inl (fun _ => 0))), (q4, .inl (cI, 10, .inl (fun _ => 0))), (q5, .inl (cI, 10, .inl (fun _ => 0)))]) H := hP
  have hD : va_D A ([(h0, .inr (6, [.int 0, .int 0, .ref q1, .ref q2, .int 0, .int 0, .int 0, .int 0, .ref q3, .ref q4, .null, .int 0, .null, .null, .null, .null, .null, .int 0, .int 0, .int 0, .int 0, .int 0, .null, .null, .null, .null, .null, .null, .int 0, .int 0, .null, .null, .null, .int 0, .null, .int 0])), (q1, .inl (cJ, 64, .inr (.inl (fun _ => 0)))), (q2, .inl (cI, 120, .inl (fun _ => 0))), (q3, .inl (cI, 10, .inl (fun _ => 0))), (q4, .inl (cI, 10, .inl (fun _ => 0))), (q5, .inl (cI, 10, .inl (fun _ => 0)))]) := hD
  refine va_putF (D := D) (ci := 6) (v := .ref q5) (ty := .array .int) (C := RX6) (T := TX6) (N := 36) hx hb hts itX6 tyX6 tyX6_ok nmX6 hown hK hP hD hS 0 rfl rfl 10 (by decide) (hts _ (TBm 903 (by decide +kernel) rfl)) (fun _ h9 => h9) rfl hin rfl (by decide +kernel) rfl rfl (Nat.le_of_ble_eq_true rfl) dX6_init_41 (fun H locs hP hD hS => ?_)
  have hP : va_P D classes ([(h0, .inr (6, [.int 0, .int 0, .ref q1, .ref q2, .int 0, .int 0, .int 0, .int 0, .ref q3, .ref q4, .ref q5, .int 0, .null, .null, .null, .null, .null, .int 0, .int 0, .int 0, .int 0, .int 0, .null, .null, .null, .null, .null, .null, .int 0, .int 0, .null, .null, .null, .int 0, .null, .int 0])), (q1, .inl (cJ, 64, .inr (.inl (fun _ => 0)))), (q2, .inl (cI, 120, .inl (fun _ => 0))), (q3, .inl (cI, 10, .inl (fun _ => 0))), (q4, .inl (cI, 10, .inl (fun _ => 0))), (q5, .inl (cI, 10, .inl (fun _ => 0)))]) H := hP
  have hD : va_D A ([(h0, .inr (6, [.int 0, .int 0, .ref q1, .ref q2, .int 0, .int 0, .int 0, .int 0, .ref q3, .ref q4, .ref q5, .int 0, .null, .null, .null, .null, .null, .int 0, .int 0, .int 0, .int 0, .int 0, .null, .null, .null, .null, .null, .null, .int 0, .int 0, .null, .null, .null, .int 0, .null, .int 0])), (q1, .inl (cJ, 64, .inr (.inl (fun _ => 0)))), (q2, .inl (cI, 120, .inl (fun _ => 0))), (q3, .inl (cI, 10, .inl (fun _ => 0))), (q4, .inl (cI, 10, .inl (fun _ => 0))), (q5, .inl (cI, 10, .inl (fun _ => 0)))]) := hD
  refine lv_aload_n hx hb dX6_init_44 rfl (lv_at hl 0 rfl) ?_
  refine lv_bipush (v := 10) hx hb dX6_init_45 (by decide) ?_
  refine va_put (D := D) (ci := 6) (v := .int 10) (ty := .int) (C := RX6) (T := TX6) (N := 36) hx hb hts itX6 tyX6 tyX6_ok nmX6 hown hK hP hD hS 0 rfl rfl 11 (by decide) (hts _ (TBm 904 (by decide +kernel) rfl)) (fun _ h9 => h9) rfl (by decide +kernel) rfl rfl (Nat.le_of_ble_eq_true rfl) dX6_init_47 (fun H locs hP hD hS => ?_)
  have hP : va_P D classes ([(h0, .inr (6, [.int 0, .int 0, .ref q1, .ref q2, .int 0, .int 0, .int 0, .int 0, .ref q3, .ref q4, .ref q5, .int 10, .null, .null, .null, .null, .null, .int 0, .int 0, .int 0, .int 0, .int 0, .null, .null, .null, .null, .null, .null, .int 0, .int 0, .null, .null, .null, .int 0, .null, .int 0])), (q1, .inl (cJ, 64, .inr (.inl (fun _ => 0)))), (q2, .inl (cI, 120, .inl (fun _ => 0))), (q3, .inl (cI, 10, .inl (fun _ => 0))), (q4, .inl (cI, 10, .inl (fun _ => 0))), (q5, .inl (cI, 10, .inl (fun _ => 0)))]) H := hP
  have hD : va_D A ([(h0, .inr (6, [.int 0, .int 0, .ref q1, .ref q2, .int 0, .int 0, .int 0, .int 0, .ref q3, .ref q4, .ref q5, .int 10, .null, .null, .null, .null, .null, .int 0, .int 0, .int 0, .int 0, .int 0, .null, .null, .null, .null, .null, .null, .int 0, .int 0, .null, .null, .null, .int 0, .null, .int 0])), (q1, .inl (cJ, 64, .inr (.inl (fun _ => 0)))), (q2, .inl (cI, 120, .inl (fun _ => 0))), (q3, .inl (cI, 10, .inl (fun _ => 0))), (q4, .inl (cI, 10, .inl (fun _ => 0))), (q5, .inl (cI, 10, .inl (fun _ => 0)))]) := hD
  refine lv_aload_n hx hb dX6_init_50 rfl (lv_at hl 0 rfl) ?_
  refine lv_bipush (v := 10) hx hb dX6_init_51 (by decide) ?_
  refine cn_newa (atype := .int) hx hb (hts _ ac_int) (ty := .int) rfl 0 rfl ra_int hK hP hD hS hA (N' := 10) (a0 := (10, .inl (fun _ => 0))) (fun cA => rfl) (by decide) (by decide) (Nat.le_of_ble_eq_true rfl) (Nat.le_of_ble_eq_true rfl) (Nat.le_of_ble_eq_true rfl) dX6_init_53 (fun q6 H hP hD hS => ?_)
  have hP : va_P D classes ([(h0, .inr (6, [.int 0, .int 0, .ref q1, .ref q2, .int 0, .int 0, .int 0, .int 0, .ref q3, .ref q4, .ref q5, .int 10, .null, .null, .null, .null, .null, .int 0, .int 0, .int 0, .int 0, .int 0, .null, .null, .null, .null, .null, .null, .int 0, .int 0, .null, .null, .null, .int 0, .null, .int 0])), (q1, .inl (cJ, 64, .inr (.inl (fun _ => 0)))), (q2, .inl (cI, 120, .inl (fun _ => 0))), (q3, .inl (cI, 10, .inl (fun _ => 0))), (q4, .inl (cI, 10, .inl (fun _ => 0))), (q5, .inl (cI, 10, .inl (fun _ => 0))), (q6, .inl (cI, 10, .inl (fun _ => 0)))]) H := hP
  have hD : va_D A ([(h0, .inr (6, [.int 0, .int 0, .ref q1, .ref q2, .int 0, .int 0, .int 0, .int 0, .ref q3, .ref q4, .ref q5, .int 10, .null, .null, .null, .null, .null, .int 0, .int 0, .int 0, .int 0, .int 0, .null, .null, .null, .null, .null, .null, .int 0, .int 0, .null, .null, .null, .int 0, .null, .int 0])), (q1, .inl (cJ, 64, .inr (.inl (fun _ => 0)))), (q2, .inl (cI, 120, .inl (fun _ => 0))), (q3, .inl (cI, 10, .inl (fun _ => 0))), (q4, .inl (cI, 10, .inl (fun _ => 0))), (q5, .inl (cI, 10, .inl (fun _ => 0))), (q6, .inl (cI, 10, .inl (fun _ => 0)))]) := hD
  refine va_putF (D := D) (ci := 6) (v := .ref q6) (ty := .array .int) (C := RX6) (T := TX6) (N := 36) hx hb hts itX6 tyX6 tyX6_ok nmX6 hown hK hP hD hS 0 rfl rfl 12 (by decide) (hts _ (TBm 905 (by decide +kernel) rfl)) (fun _ h9 => h9) rfl hin rfl (by decide +kernel) rfl rfl (Nat.le_of_ble_eq_true rfl) dX6_init_55 (fun H locs hP hD hS => ?_)
  have hP : va_P D classes ([(h0, .inr (6, [.int 0, .int 0, .ref q1, .ref q2, .int 0, .int 0, .int 0, .int 0, .ref q3, .ref q4, .ref q5, .int 10, .ref q6, .null, .null, .null, .null, .int 0, .int 0, .int 0, .int 0, .int 0, .null, .null, .null, .null, .null, .null, .int 0, .int 0, .null, .null, .null, .int 0, .null, .int 0])), (q1, .inl (cJ, 64, .inr (.inl (fun _ => 0)))), (q2, .inl (cI, 120, .inl (fun _ => 0))), (q3, .inl (cI, 10, .inl (fun _ => 0))), (q4, .inl (cI, 10, .inl (fun _ => 0))), (q5, .inl (cI, 10, .inl (fun _ => 0))), (q6, .inl (cI, 10, .inl (fun _ => 0)))]) H := hP
  have hD : va_D A ([(h0, .inr (6, [.int 0, .int 0, .ref q1, .ref q2, .int 0, .int 0, .int 0, .int 0, .ref q3, .ref q4, .ref q5, .int 10, .ref q6, .null, .null, .null, .null, .int 0, .int 0, .int 0, .int 0, .int 0, .null, .null, .null, .null, .null, .null, .int 0, .int 0, .null, .null, .null, .int 0, .null, .int 0])), (q1, .inl (cJ, 64, .inr (.inl (fun _ => 0)))), (q2, .inl (cI, 120, .inl (fun _ => 0))), (q3, .inl (cI, 10, .inl (fun _ => 0))), (q4, .inl (cI, 10, .inl (fun _ => 0))), (q5, .inl (cI, 10, .inl (fun _ => 0))), (q6, .inl (cI, 10, .inl (fun _ => 0)))]) := hD
  refine lv_aload_n hx hb dX6_init_58 rfl (lv_at hl 0 rfl) ?_
  refine lv_bipush (v := 10) hx hb dX6_init_59 (by decide) ?_
  refine cn_newa (atype := .int) hx hb (hts _ ac_int) (ty := .int) rfl 0 rfl ra_int hK hP hD hS hA (N' := 10) (a0 := (10, .inl (fun _ => 0))) (fun cA => rfl) (by decide) (by decide) (Nat.le_of_ble_eq_true rfl) (Nat.le_of_ble_eq_true rfl) (Nat.le_of_ble_eq_true rfl) dX6_init_61 (fun q7 H hP hD hS => ?_)
  have hP : va_P D classes ([(h0, .inr (6, [.int 0, .int 0, .ref q1, .ref q2, .int 0, .int 0, .int 0, .int 0, .ref q3, .ref q4, .ref q5, .int 10, .ref q6, .null, .null, .null, .null, .int 0, .int 0, .int 0, .int 0, .int 0, .null, .null, .null, .null, .null, .null, .int 0, .int 0, .null, .null, .null, .int 0, .null, .int 0])), (q1, .inl (cJ, 64, .inr (.inl (fun _ => 0)))), (q2, .inl (cI, 120, .inl (fun _ => 0))), (q3, .inl (cI, 10, .inl (fun _ => 0))), (q4, .inl (cI, 10, .inl (fun _ => 0))), (q5, .inl (cI, 10, .inl (fun _ => 0))), (q6, .inl (cI, 10, .inl (fun _ => 0))), (q7, .inl (cI, 10, .inl (fun _ => 0)))]) H := hP
  have hD : va_D A ([(h0, .inr (6, [.int 0, .int 0, .ref q1, .ref q2, .int 0, .int 0, .int 0, .int 0, .ref q3, .ref q4, .ref q5, .int 10, .ref q6, .null, .null, .null, .null, .int 0, .int 0, .int 0, .int 0, .int 0, .null, .null, .null, .null, .null, .null, .int 0, .int 0, .null, .null, .null, .int 0, .null, .int 0])), (q1, .inl (cJ, 64, .inr (.inl (fun _ => 0)))), (q2, .inl (cI, 120, .inl (fun _ => 0))), (q3, .inl (cI, 10, .inl (fun _ => 0))), (q4, .inl (cI, 10, .inl (fun _ => 0))), (q5, .inl (cI, 10, .inl (fun _ => 0))), (q6, .inl (cI, 10, .inl (fun _ => 0))), (q7, .inl (cI, 10, .inl (fun _ => 0)))]) := hD
  refine va_putF (D := D) (ci := 6) (v := .ref q7) (ty := .array .int) (C := RX6) (T := TX6) (N := 36) hx hb hts itX6 tyX6 tyX6_ok nmX6 hown hK hP hD hS 0 rfl rfl 13 (by decide) (hts _ (TBm 906 (by decide +kernel) rfl)) (fun _ h9 => h9) rfl hin rfl (by decide +kernel) rfl rfl (Nat.le_of_ble_eq_true rfl) dX6_init_63 (fun H locs hP hD hS => ?_)
  have hP : va_P D classes ([(h0, .inr (6, [.int 0, .int 0, .ref q1, .ref q2, .int 0, .int 0, .int 0, .int 0, .ref q3, .ref q4, .ref q5, .int 10, .ref q6, .ref q7, .null, .null, .null, .int 0, .int 0, .int 0, .int 0, .int 0, .null, .null, .null, .null, .null, .null, .int 0, .int 0, .null, .null, .null, .int 0, .null, .int 0])), (q1, .inl (cJ, 64, .inr (.inl (fun _ => 0)))), (q2, .inl (cI, 120, .inl (fun _ => 0))), (q3, .inl (cI, 10, .inl (fun _ => 0))), (q4, .inl (cI, 10, .inl (fun _ => 0))), (q5, .inl (cI, 10, .inl (fun _ => 0))), (q6, .inl (cI, 10, .inl (fun _ => 0))), (q7, .inl (cI, 10, .inl (fun _ => 0)))]) H := hP
  have hD : va_D A ([(h0, .inr (6, [.int 0, .int 0, .ref q1, .ref q2, .int 0, .int 0, .int 0, .int 0, .ref q3, .ref q4, .ref q5, .int 10, .ref q6, .ref q7, .null, .null, .null, .int 0, .int 0, .int 0, .int 0, .int 0, .null, .null, .null, .null, .null, .null, .int 0, .int 0, .null, .null, .null, .int 0, .null, .int 0])), (q1, .inl (cJ, 64, .inr (.inl (fun _ => 0)))), (q2, .inl (cI, 120, .inl (fun _ => 0))), (q3, .inl (cI, 10, .inl (fun _ => 0))), (q4, .inl (cI, 10, .inl (fun _ => 0))), (q5, .inl (cI, 10, .inl (fun _ => 0))), (q6, .inl (cI, 10, .inl (fun _ => 0))), (q7, .inl (cI, 10, .inl (fun _ => 0)))]) := hD
  refine lv_aload_n hx hb dX6_init_66 rfl (lv_at hl 0 rfl) ?_
  refine lv_bipush (v := 10) hx hb dX6_init_67 (by decide) ?_
  refine cn_newa (atype := .int) hx hb (hts _ ac_int) (ty := .int) rfl 0 rfl ra_int hK hP hD hS hA (N' := 10) (a0 := (10, .inl (fun _ => 0))) (fun cA => rfl) (by decide) (by decide) (Nat.le_of_ble_eq_true rfl) (Nat.le_of_ble_eq_true rfl) (Nat.le_of_ble_eq_true rfl) dX6_init_69 (fun q8 H hP hD hS => ?_)
  have hP : va_P D classes ([(h0, .inr (6, [.int 0, .int 0, .ref q1, .ref q2, .int 0, .int 0, .int 0, .int 0, .ref q3, .ref q4, .ref q5, .int 10, .ref q6, .ref q7, .null, .null, .null, .int 0, .int 0, .int 0, .int 0, .int 0, .null, .null, .null, .null, .null, .null, .int 0, .int 0, .null, .null, .null, .int 0, .null, .int 0])), (q1, .inl (cJ, 64, .inr (.inl (fun _ => 0)))), (q2, .inl (cI, 120, .inl (fun _ => 0))), (q3, .inl (cI, 10, .inl (fun _ => 0))), (q4, .inl (cI, 10, .inl (fun _ => 0))), (q5, .inl (cI, 10, .inl (fun _ => 0))), (q6, .inl (cI, 10, .inl (fun _ => 0))), (q7, .inl (cI, 10, .inl (fun _ => 0))), (q8, .inl (cI, 10, .inl (fun _ => 0)))]) H := hP
  have hD : va_D A ([(h0, .inr (6, [.int 0, .int 0, .ref q1, .ref q2, .int 0, .int 0, .int 0, .int 0, .ref q3, .ref q4, .ref q5, .int 10, .ref q6, .ref q7, .null, .null, .null, .int 0, .int 0, .int 0, .int 0, .int 0, .null, .null, .null, .null, .null, .null, .int 0, .int 0, .null, .null, .null, .int 0, .null, .int 0])), (q1, .inl (cJ, 64, .inr (.inl (fun _ => 0)))), (q2, .inl (cI, 120, .inl (fun _ => 0))), (q3, .inl (cI, 10, .inl (fun _ => 0))), (q4, .inl (cI, 10, .inl (fun _ => 0))), (q5, .inl (cI, 10, .inl (fun _ => 0))), (q6, .inl (cI, 10, .inl (fun _ => 0))), (q7, .inl (cI, 10, .inl (fun _ => 0))), (q8, .inl (cI, 10, .inl (fun _ => 0)))]) := hD
  refine va_putF (D := D) (ci := 6) (v := .ref q8) (ty := .array .int) (C := RX6) (T := TX6) (N := 36) hx hb hts itX6 tyX6 tyX6_ok nmX6 hown hK hP hD hS 0 rfl rfl 14 (by decide) (hts _ (TBm 907 (by decide +kernel) rfl)) (fun _ h9 => h9) rfl hin rfl (by decide +kernel) rfl rfl (Nat.le_of_ble_eq_true rfl) dX6_init_71 (fun H locs hP hD hS => ?_)
  have hP : va_P D classes ([(h0, .inr (6, [.int 0, .int 0, .ref q1, .ref q2, .int 0, .int 0, .int 0, .int 0, .ref q3, .ref q4, .ref q5, .int 10, .ref q6, .ref q7, .ref q8, .null, .null, .int 0, .int 0, .int 0, .int 0, .int 0, .null, .null, .null, .null, .null, .null, .int 0, .int 0, .null, .null, .null, .int 0, .null, .int 0])), (q1, .inl (cJ, 64, .inr (.inl (fun _ => 0)))), (q2, .inl (cI, 120, .inl (fun _ => 0))), (q3, .inl (cI, 10, .inl (fun _ => 0))), (q4, .inl (cI, 10, .inl (fun _ => 0))), (q5, .inl (cI, 10, .inl (fun _ => 0))), (q6, .inl (cI, 10, .inl (fun _ => 0))), (q7, .inl (cI, 10, .inl (fun _ => 0))), (q8, .inl (cI, 10, .inl (fun _ => 0)))]) H := hP
  have hD : va_D A ([(h0, .inr (6, [.int 0, .int 0, .ref q1, .ref q2, .int 0, .int 0, .int 0, .int 0, .ref q3, .ref q4, .ref q5, .int 10, .ref q6, .ref q7, .ref q8, .null, .null, .int 0, .int 0, .int 0, .int 0, .int 0, .null, .null, .null, .null, .null, .null, .int 0, .int 0, .null, .null, .null, .int 0, .null, .int 0])), (q1, .inl (cJ, 64, .inr (.inl (fun _ => 0)))), (q2, .inl (cI, 120, .inl (fun _ => 0))), (q3, .inl (cI, 10, .inl (fun _ => 0))), (q4, .inl (cI, 10, .inl (fun _ => 0))), (q5, .inl (cI, 10, .inl (fun _ => 0))), (q6, .inl (cI, 10, .inl (fun _ => 0))), (q7, .inl (cI, 10, .inl (fun _ => 0))), (q8, .inl (cI, 10, .inl (fun _ => 0)))]) := hD
  refine lv_aload_n hx hb dX6_init_74 rfl (lv_at hl 0 rfl) ?_
  refine lv_bipush (v := 20) hx hb dX6_init_75 (by decide) ?_
  refine cn_newa (atype := .int) hx hb (hts _ ac_int) (ty := .int) rfl 0 rfl ra_int hK hP hD hS hA (N' := 20) (a0 := (20, .inl (fun _ => 0))) (fun cA => rfl) (by decide) (by decide) (Nat.le_of_ble_eq_true rfl) (Nat.le_of_ble_eq_true rfl) (Nat.le_of_ble_eq_true rfl) dX6_init_77 (fun q9 H hP hD hS => ?_)
  have hP : va_P D classes ([(h0, .inr (6, [.int 0, .int 0, .ref q1, .ref q2, .int 0, .int 0, .int 0, .int 0, .ref q3, .ref q4, .ref q5, .int 10, .ref q6, .ref q7, .ref q8, .null, .null, .int 0, .int 0, .int 0, .int 0, .int 0, .null, .null, .null, .null, .null, .null, .int 0, .int 0, .null, .null, .null, .int 0, .null, .int 0])), (q1, .inl (cJ, 64, .inr (.inl (fun _ => 0)))), (q2, .inl (cI, 120, .inl (fun _ => 0))), (q3, .inl (cI, 10, .inl (fun _ => 0))), (q4, .inl (cI, 10, .inl (fun _ => 0))), (q5, .inl (cI, 10, .inl (fun _ => 0))), (q6, .inl (cI, 10, .inl (fun _ => 0))), (q7, .inl (cI, 10, .inl (fun _ => 0))), (q8, .inl (cI, 10, .inl (fun _ => 0))), (q9, .inl (cI, 20, .inl (fun _ => 0)))]) H := hP
  have hD : va_D A ([(h0, .inr (6, [.int 0, .int 0, .ref q1, .ref q2, .int 0, .int 0, .int 0, .int 0, .ref q3, .ref q4, .ref q5, .int 10, .ref q6, .ref q7, .ref q8, .null, .null, .int 0, .int 0, .int 0, .int 0, .int 0, .null, .null, .null, .null, .null, .null, .int 0, .int 0, .null, .null, .null, .int 0, .null, .int 0])), (q1, .inl (cJ, 64, .inr (.inl (fun _ => 0)))), (q2, .inl (cI, 120, .inl (fun _ => 0))), (q3, .inl (cI, 10, .inl (fun _ => 0))), (q4, .inl (cI, 10, .inl (fun _ => 0))), (q5, .inl (cI, 10, .inl (fun _ => 0))), (q6, .inl (cI, 10, .inl (fun _ => 0))), (q7, .inl (cI, 10, .inl (fun _ => 0))), (q8, .inl (cI, 10, .inl (fun _ => 0))), (q9, .inl (cI, 20, .inl (fun _ => 0)))]) := hD
  refine va_putF (D := D) (ci := 6) (v := .ref q9) (ty := .array .int) (C := RX6) (T := TX6) (N := 36) hx hb hts itX6 tyX6 tyX6_ok nmX6 hown hK hP hD hS 0 rfl rfl 15 (by decide) (hts _ (TBm 908 (by decide +kernel) rfl)) (fun _ h9 => h9) rfl hin rfl (by decide +kernel) rfl rfl (Nat.le_of_ble_eq_true rfl) dX6_init_79 (fun H locs hP hD hS => ?_)
  have hP : va_P D classes ([(h0, .inr (6, [.int 0, .int 0, .ref q1, .ref q2, .int 0, .int 0, .int 0, .int 0, .ref q3, .ref q4, .ref q5, .int 10, .ref q6, .ref q7, .ref q8, .ref q9, .null, .int 0, .int 0, .int 0, .int 0, .int 0, .null, .null, .null, .null, .null, .null, .int 0, .int 0, .null, .null, .null, .int 0, .null, .int 0])), (q1, .inl (cJ, 64, .inr (.inl (fun _ => 0)))), (q2, .inl (cI, 120, .inl (fun _ => 0))), (q3, .inl (cI, 10, .inl (fun _ => 0))), (q4, .inl (cI, 10, .inl (fun _ => 0))), (q5, .inl (cI, 10, .inl (fun _ => 0))), (q6, .inl (cI, 10, .inl (fun _ => 0))), (q7, .inl (cI, 10, .inl (fun _ => 0))), (q8, .inl (cI, 10, .inl (fun _ => 0))), (q9, .inl (cI, 20, .inl (fun _ => 0)))]) H := hP
  have hD : va_D A ([(h0, .inr (6, [.int 0, .int 0, .ref q1, .ref q2, .int 0, .int 0, .int 0, .int 0, .ref q3, .ref q4, .ref q5, .int 10, .ref q6, .ref q7, .ref q8, .ref q9, .null, .int 0, .int 0, .int 0, .int 0, .int 0, .null, .null, .null, .null, .null, .null, .int 0, .int 0, .null, .null, .null, .int 0, .null, .int 0])), (q1, .inl (cJ, 64, .inr (.inl (fun _ => 0)))), (q2, .inl (cI, 120, .inl (fun _ => 0))), (q3, .inl (cI, 10, .inl (fun _ => 0))), (q4, .inl (cI, 10, .inl (fun _ => 0))), (q5, .inl (cI, 10, .inl (fun _ => 0))), (q6, .inl (cI, 10, .inl (fun _ => 0))), (q7, .inl (cI, 10, .inl (fun _ => 0))), (q8, .inl (cI, 10, .inl (fun _ => 0))), (q9, .inl (cI, 20, .inl (fun _ => 0)))]) := hD
  refine lv_aload_n hx hb dX6_init_82 rfl (lv_at hl 0 rfl) ?_
  refine lv_bipush (v := 20) hx hb dX6_init_83 (by decide) ?_
  refine cn_newa (atype := .int) hx hb (hts _ ac_int) (ty := .int) rfl 0 rfl ra_int hK hP hD hS hA (N' := 20) (a0 := (20, .inl (fun _ => 0))) (fun cA => rfl) (by decide) (by decide) (Nat.le_of_ble_eq_true rfl) (Nat.le_of_ble_eq_true rfl) (Nat.le_of_ble_eq_true rfl) dX6_init_85 (fun q10 H hP hD hS => ?_)
  have hP : va_P D classes ([(h0, .inr (6, [.int 0, .int 0, .ref q1, .ref q2, .int 0, .int 0, .int 0, .int 0, .ref q3, .ref q4, .ref q5, .int 10, .ref q6, .ref q7, .ref q8, .ref q9, .null, .int 0, .int 0, .int 0, .int 0, .int 0, .null, .null, .null, .null, .null, .null, .int 0, .int 0, .null, .null, .null, .int 0, .null, .int 0])), (q1, .inl (cJ, 64, .inr (.inl (fun _ => 0)))), (q2, .inl (cI, 120, .inl (fun _ => 0))), (q3, .inl (cI, 10, .inl (fun _ => 0))), (q4, .inl (cI, 10, .inl (fun _ => 0))), (q5, .inl (cI, 10, .inl (fun _ => 0))), (q6, .inl (cI, 10, .inl (fun _ => 0))), (q7, .inl (cI, 10, .inl (fun _ => 0))), (q8, .inl (cI, 10, .inl (fun _ => 0))), (q9, .inl (cI, 20, .inl (fun _ => 0))), (q10, .inl (cI, 20, .inl (fun _ => 0)))]) H := hP
  have hD : va_D A ([(h0, .inr (6, [.int 0, .int 0, .ref q1, .ref q2, .int 0, .int 0, .int 0, .int 0, .ref q3, .ref q4, .ref q5, .int 10, .ref q6, .ref q7, .ref q8, .ref q9, .null, .int 0, .int 0, .int 0, .int 0, .int 0, .null, .null, .null, .null, .null, .null, .int 0, .int 0, .null, .null, .null, .int 0, .null, .int 0])), (q1, .inl (cJ, 64, .inr (.inl (fun _ => 0)))), (q2, .inl (cI, 120, .inl (fun _ => 0))), (q3, .inl (cI, 10, .inl (fun _ => 0))), (q4, .inl (cI, 10, .inl (fun _ => 0))), (q5, .inl (cI, 10, .inl (fun _ => 0))), (q6, .inl (cI, 10, .inl (fun _ => 0))), (q7, .inl (cI, 10, .inl (fun _ => 0))), (q8, .inl (cI, 10, .inl (fun _ => 0))), (q9, .inl (cI, 20, .inl (fun _ => 0))), (q10, .inl (cI, 20, .inl (fun _ => 0)))]) := hD
  refine va_putF (D := D) (ci := 6) (v := .ref q10) (ty := .array .int) (C := RX6) (T := TX6) (N := 36) hx hb hts itX6 tyX6 tyX6_ok nmX6 hown hK hP hD hS 0 rfl rfl 16 (by decide) (hts _ (TBm 909 (by decide +kernel) rfl)) (fun _ h9 => h9) rfl hin rfl (by decide +kernel) rfl rfl (Nat.le_of_ble_eq_true rfl) dX6_init_87 (fun H locs hP hD hS => ?_)
  have hP : va_P D classes ([(h0, .inr (6, [.int 0, .int 0, .ref q1, .ref q2, .int 0, .int 0, .int 0, .int 0, .ref q3, .ref q4, .ref q5, .int 10, .ref q6, .ref q7, .ref q8, .ref q9, .ref q10, .int 0, .int 0, .int 0, .int 0, .int 0, .null, .null, .null, .null, .null, .null, .int 0, .int 0, .null, .null, .null, .int 0, .null, .int 0])), (q1, .inl (cJ, 64, .inr (.inl (fun _ => 0)))), (q2, .inl (cI, 120, .inl (fun _ => 0))), (q3, .inl (cI, 10, .inl (fun _ => 0))), (q4, .inl (cI, 10, .inl (fun _ => 0))), (q5, .inl (cI, 10, .inl (fun _ => 0))), (q6, .inl (cI, 10, .inl (fun _ => 0))), (q7, .inl (cI, 10, .inl (fun _ => 0))), (q8, .inl (cI, 10, .inl (fun _ => 0))), (q9, .inl (cI, 20, .inl (fun _ => 0))), (q10, .inl (cI, 20, .inl (fun _ => 0)))]) H := hP
  have hD : va_D A ([(h0, .inr (6, [.int 0, .int 0, .ref q1, .ref q2, .int 0, .int 0, .int 0, .int 0, .ref q3, .ref q4, .ref q5, .int 10, .ref q6, .ref q7, .ref q8, .ref q9, .ref q10, .int 0, .int 0, .int 0, .int 0, .int 0, .null, .null, .null, .null, .null, .null, .int 0, .int 0, .null, .null, .null, .int 0, .null, .int 0])), (q1, .inl (cJ, 64, .inr (.inl (fun _ => 0)))), (q2, .inl (cI, 120, .inl (fun _ => 0))), (q3, .inl (cI, 10, .inl (fun _ => 0))), (q4, .inl (cI, 10, .inl (fun _ => 0))), (q5, .inl (cI, 10, .inl (fun _ => 0))), (q6, .inl (cI, 10, .inl (fun _ => 0))), (q7, .inl (cI, 10, .inl (fun _ => 0))), (q8, .inl (cI, 10, .inl (fun _ => 0))), (q9, .inl (cI, 20, .inl (fun _ => 0))), (q10, .inl (cI, 20, .inl (fun _ => 0)))]) := hD
  refine lv_aload_n hx hb dX6_init_90 rfl (lv_at hl 0 rfl) ?_
  refine lv_bipush (v := 10) hx hb dX6_init_91 (by decide) ?_
  refine cn_newa (atype := .int) hx hb (hts _ ac_int) (ty := .int) rfl 0 rfl ra_int hK hP hD hS hA (N' := 10) (a0 := (10, .inl (fun _ => 0))) (fun cA => rfl) (by decide) (by decide) (Nat.le_of_ble_eq_true rfl) (Nat.le_of_ble_eq_true rfl) (Nat.le_of_ble_eq_true rfl) dX6_init_93 (fun q11 H hP hD hS => ?_)
  have hP : va_P D classes ([(h0, .inr (6, [.int 0, .int 0, .ref q1, .ref q2, .int 0, .int 0, .int 0, .int 0, .ref q3, .ref q4, .ref q5, .int 10, .ref q6, .ref q7, .ref q8, .ref q9, .ref q10, .int 0, .int 0, .int 0, .int 0, .int 0, .null, .null, .null, .null, .null, .null, .int 0, .int 0, .null, .null, .null, .int 0, .null, .int 0])), (q1, .inl (cJ, 64, .inr (.inl (fun _ => 0)))), (q2, .inl (cI, 120, .inl (fun _ => 0))), (q3, .inl (cI, 10, .inl (fun _ => 0))), (q4, .inl (cI, 10, .inl (fun _ => 0))), (q5, .inl (cI, 10, .inl (fun _ => 0))), (q6, .inl (cI, 10, .inl (fun _ => 0))), (q7, .inl (cI, 10, .inl (fun _ => 0))), (q8, .inl (cI, 10, .inl (fun _ => 0))), (q9, .inl (cI, 20, .inl (fun _ => 0))), (q10, .inl (cI, 20, .inl (fun _ => 0))), (q11, .inl (cI, 10, .inl (fun _ => 0)))]) H := hP
  have hD : va_D A ([(h0, .inr (6, [.int 0, .int 0, .ref q1, .ref q2, .int 0, .int 0, .int 0, .int 0, .ref q3, .ref q4, .ref q5, .int 10, .ref q6, .ref q7, .ref q8, .ref q9, .ref q10, .int 0, .int 0, .int 0, .int 0, .int 0, .null, .null, .null, .null, .null, .null, .int 0, .int 0, .null, .null, .null, .int 0, .null, .int 0])), (q1, .inl (cJ, 64, .inr (.inl (fun _ => 0)))), (q2, .inl (cI, 120, .inl (fun _ => 0))), (q3, .inl (cI, 10, .inl (fun _ => 0))), (q4, .inl (cI, 10, .inl (fun _ => 0))), (q5, .inl (cI, 10, .inl (fun _ => 0))), (q6, .inl (cI, 10, .inl (fun _ => 0))), (q7, .inl (cI, 10, .inl (fun _ => 0))), (q8, .inl (cI, 10, .inl (fun _ => 0))), (q9, .inl (cI, 20, .inl (fun _ => 0))), (q10, .inl (cI, 20, .inl (fun _ => 0))), (q11, .inl (cI, 10, .inl (fun _ => 0)))]) := hD
  refine va_putF (D := D) (ci := 6) (v := .ref q11) (ty := .array .int) (C := RX6) (T := TX6) (N := 36) hx hb hts itX6 tyX6 tyX6_ok nmX6 hown hK hP hD hS 0 rfl rfl 22 (by decide) (hts _ (TBm 915 (by decide +kernel) rfl)) (fun _ h9 => h9) rfl hin rfl (by decide +kernel) rfl rfl (Nat.le_of_ble_eq_true rfl) dX6_init_95 (fun H locs hP hD hS => ?_)
  have hP : va_P D classes ([(h0, .inr (6, [.int 0, .int 0, .ref q1, .ref q2, .int 0, .int 0, .int 0, .int 0, .ref q3, .ref q4, .ref q5, .int 10, .ref q6, .ref q7, .ref q8, .ref q9, .ref q10, .int 0, .int 0, .int 0, .int 0, .int 0, .ref q11, .null, .null, .null, .null, .null, .int 0, .int 0, .null, .null, .null, .int 0, .null, .int 0])), (q1, .inl (cJ, 64, .inr (.inl (fun _ => 0)))), (q2, .inl (cI, 120, .inl (fun _ => 0))), (q3, .inl (cI, 10, .inl (fun _ => 0))), (q4, .inl (cI, 10, .inl (fun _ => 0))), (q5, .inl (cI, 10, .inl (fun _ => 0))), (q6, .inl (cI, 10, .inl (fun _ => 0))), (q7, .inl (cI, 10, .inl (fun _ => 0))), (q8, .inl (cI, 10, .inl (fun _ => 0))), (q9, .inl (cI, 20, .inl (fun _ => 0))), (q10, .inl (cI, 20, .inl (fun _ => 0))), (q11, .inl (cI, 10, .inl (fun _ => 0)))]) H := hP
  have hD : va_D A ([(h0, .inr (6, [.int 0, .int 0, .ref q1, .ref q2, .int 0, .int 0, .int 0, .int 0, .ref q3, .ref q4, .ref q5, .int 10, .ref q6, .ref q7, .ref q8, .ref q9, .ref q10, .int 0, .int 0, .int 0, .int 0, .int 0, .ref q11, .null, .null, .null, .null, .null, .int 0, .int 0, .null, .null, .null, .int 0, .null, .int 0])), (q1, .inl (cJ, 64, .inr (.inl (fun _ => 0)))), (q2, .inl (cI, 120, .inl (fun _ => 0))), (q3, .inl (cI, 10, .inl (fun _ => 0))), (q4, .inl (cI, 10, .inl (fun _ => 0))), (q5, .inl (cI, 10, .inl (fun _ => 0))), (q6, .inl (cI, 10, .inl (fun _ => 0))), (q7, .inl (cI, 10, .inl (fun _ => 0))), (q8, .inl (cI, 10, .inl (fun _ => 0))), (q9, .inl (cI, 20, .inl (fun _ => 0))), (q10, .inl (cI, 20, .inl (fun _ => 0))), (q11, .inl (cI, 10, .inl (fun _ => 0)))]) := hD
  refine lv_aload_n hx hb dX6_init_98 rfl (lv_at hl 0 rfl) ?_
  refine lv_bipush (v := 10) hx hb dX6_init_99 (by decide) ?_
  refine cn_newa (atype := .int) hx hb (hts _ ac_int) (ty := .int) rfl 0 rfl ra_int hK hP hD hS hA (N' := 10) (a0 := (10, .inl (fun _ => 0))) (fun cA => rfl) (by decide) (by decide) (Nat.le_of_ble_eq_true rfl) (Nat.le_of_ble_eq_true rfl) (Nat.le_of_ble_eq_true rfl) dX6_init_101 (fun q12 H hP hD hS => ?_)
  have hP : va_P D classes ([(h0, .inr (6, [.int 0, .int 0, .ref q1, .ref q2, .int 0, .int 0, .int 0, .int 0, .ref q3, .ref q4, .ref q5, .int 10, .ref q6, .ref q7, .ref q8, .ref q9, .ref q10, .int 0, .int 0, .int 0, .int 0, .int 0, .ref q11, .null, .null, .null, .null, .null, .int 0, .int 0, .null, .null, .null, .int 0, .null, .int 0])), (q1, .inl (cJ, 64, .inr (.inl (fun _ => 0)))), (q2, .inl (cI, 120, .inl (fun _ => 0))), (q3, .inl (cI, 10, .inl (fun _ => 0))), (q4, .inl (cI, 10, .inl (fun _ => 0))), (q5, .inl (cI, 10, .inl (fun _ => 0))), (q6, .inl (cI, 10, .inl (fun _ => 0))), (q7, .inl (cI, 10, .inl (fun _ => 0))), (q8, .inl (cI, 10, .inl (fun _ => 0))), (q9, .inl (cI, 20, .inl (fun _ => 0))), (q10, .inl (cI, 20, .inl (fun _ => 0))), (q11, .inl (cI, 10, .inl (fun _ => 0))), (q12, .inl (cI, 10, .inl (fun _ => 0)))]) H := hP
  have hD : va_D A ([(h0, .inr (6, [.int 0, .int 0, .ref q1, .ref q2, .int 0, .int 0, .int 0, .int 0, .ref q3, .ref q4, .ref q5, .int 10, .ref q6, .ref q7, .ref q8, .ref q9, .ref q10, .int 0, .int 0, .int 0, .int 0, .int 0, .ref q11, .null, .null, .null, .null, .null, .int 0, .int 0, .null, .null, .null, .int 0, .null, .int 0])), (q1, .inl (cJ, 64, .inr (.inl (fun _ => 0)))), (q2, .inl (cI, 120, .inl (fun _ => 0))), (q3, .inl (cI, 10, .inl (fun _ => 0))), (q4, .inl (cI, 10, .inl (fun _ => 0))), (q5, .inl (cI, 10, .inl (fun _ => 0))), (q6, .inl (cI, 10, .inl (fun _ => 0))), (q7, .inl (cI, 10, .inl (fun _ => 0))), (q8, .inl (cI, 10, .inl (fun _ => 0))), (q9, .inl (cI, 20, .inl (fun _ => 0))), (q10, .inl (cI, 20, .inl (fun _ => 0))), (q11, .inl (cI, 10, .inl (fun _ => 0))), (q12, .inl (cI, 10, .inl (fun _ => 0)))]) := hD
  refine va_putF (D := D) (ci := 6) (v := .ref q12) (ty := .array .int) (C := RX6) (T := TX6) (N := 36) hx hb hts itX6 tyX6 tyX6_ok nmX6 hown hK hP hD hS 0 rfl rfl 23 (by decide) (hts _ (TBm 916 (by decide +kernel) rfl)) (fun _ h9 => h9) rfl hin rfl (by decide +kernel) rfl rfl (Nat.le_of_ble_eq_true rfl) dX6_init_103 (fun H locs hP hD hS => ?_)
  have hP : va_P D classes ([(h0, .inr (6, [.int 0, .int 0, .ref q1, .ref q2, .int 0, .int 0, .int 0, .int 0, .ref q3, .ref q4, .ref q5, .int 10, .ref q6, .ref q7, .ref q8, .ref q9, .ref q10, .int 0, .int 0, .int 0, .int 0, .int 0, .ref q11, .ref q12, .null, .null, .null, .null, .int 0, .int 0, .null, .null, .null, .int 0, .null, .int 0])), (q1, .inl (cJ, 64, .inr (.inl (fun _ => 0)))), (q2, .inl (cI, 120, .inl (fun _ => 0))), (q3, .inl (cI, 10, .inl (fun _ => 0))), (q4, .inl (cI, 10, .inl (fun _ => 0))), (q5, .inl (cI, 10, .inl (fun _ => 0))), (q6, .inl (cI, 10, .inl (fun _ => 0))), (q7, .inl (cI, 10, .inl (fun _ => 0))), (q8, .inl (cI, 10, .inl (fun _ => 0))), (q9, .inl (cI, 20, .inl (fun _ => 0))), (q10, .inl (cI, 20, .inl (fun _ => 0))), (q11, .inl (cI, 10, .inl (fun _ => 0))), (q12, .inl (cI, 10, .inl (fun _ => 0)))]) H := hP
  have hD : va_D A ([(h0, .inr (6, [.int 0, .int 0, .ref q1, .ref q2, .int 0, .int 0, .int 0, .int 0, .ref q3, .ref q4, .ref q5, .int 10, .ref q6, .ref q7, .ref q8, .ref q9, .ref q10, .int 0, .int 0, .int 0, .int 0, .int 0, .ref q11, .ref q12, .null, .null, .null, .null, .int 0, .int 0, .null, .null, .null, .int 0, .null, .int 0])), (q1, .inl (cJ, 64, .inr (.inl (fun _ => 0)))), (q2, .inl (cI, 120, .inl (fun _ => 0))), (q3, .inl (cI, 10, .inl (fun _ => 0))), (q4, .inl (cI, 10, .inl (fun _ => 0))), (q5, .inl (cI, 10, .inl (fun _ => 0))), (q6, .inl (cI, 10, .inl (fun _ => 0))), (q7, .inl (cI, 10, .inl (fun _ => 0))), (q8, .inl (cI, 10, .inl (fun _ => 0))), (q9, .inl (cI, 20, .inl (fun _ => 0))), (q10, .inl (cI, 20, .inl (fun _ => 0))), (q11, .inl (cI, 10, .inl (fun _ => 0))), (q12, .inl (cI, 10, .inl (fun _ => 0)))]) := hD
  refine lv_aload_n hx hb dX6_init_106 rfl (lv_at hl 0 rfl) ?_
  refine lv_iconst (v := 2) hx hb dX6_init_107 (by decide) ?_
  refine cn_newa (atype := .int) hx hb (hts _ ac_int) (ty := .int) rfl 0 rfl ra_int hK hP hD hS hA (N' := 2) (a0 := (2, .inl (fun _ => 0))) (fun cA => rfl) (by decide) (by decide) (Nat.le_of_ble_eq_true rfl) (Nat.le_of_ble_eq_true rfl) (Nat.le_of_ble_eq_true rfl) dX6_init_108 (fun q13 H hP hD hS => ?_)
  have hP : va_P D classes ([(h0, .inr (6, [.int 0, .int 0, .ref q1, .ref q2, .int 0, .int 0, .int 0, .int 0, .ref q3, .ref q4, .ref q5, .int 10, .ref q6, .ref q7, .ref q8, .ref q9, .ref q10, .int 0, .int 0, .int 0, .int 0, .int 0, .ref q11, .ref q12, .null, .null, .null, .null, .int 0, .int 0, .null, .null, .null, .int 0, .null, .int 0])), (q1, .inl (cJ, 64, .inr (.inl (fun _ => 0)))), (q2, .inl (cI, 120, .inl (fun _ => 0))), (q3, .inl (cI, 10, .inl (fun _ => 0))), (q4, .inl (cI, 10, .inl (fun _ => 0))), (q5, .inl (cI, 10, .inl (fun _ => 0))), (q6, .inl (cI, 10, .inl (fun _ => 0))), (q7, .inl (cI, 10, .inl (fun _ => 0))), (q8, .inl (cI, 10, .inl (fun _ => 0))), (q9, .inl (cI, 20, .inl (fun _ => 0))), (q10, .inl (cI, 20, .inl (fun _ => 0))), (q11, .inl (cI, 10, .inl (fun _ => 0))), (q12, .inl (cI, 10, .inl (fun _ => 0))), (q13, .inl (cI, 2, .inl (fun _ => 0)))]) H := hP
  have hD : va_D A ([(h0, .inr (6, [.int 0, .int 0, .ref q1, .ref q2, .int 0, .int 0, .int 0, .int 0, .ref q3, .ref q4, .ref q5, .int 10, .ref q6, .ref q7, .ref q8, .ref q9, .ref q10, .int 0, .int 0, .int 0, .int 0, .int 0, .ref q11, .ref q12, .null, .null, .null, .null, .int 0, .int 0, .null, .null, .null, .int 0, .null, .int 0])), (q1, .inl (cJ, 64, .inr (.inl (fun _ => 0)))), (q2, .inl (cI, 120, .inl (fun _ => 0))), (q3, .inl (cI, 10, .inl (fun _ => 0))), (q4, .inl (cI, 10, .inl (fun _ => 0))), (q5, .inl (cI, 10, .inl (fun _ => 0))), (q6, .inl (cI, 10, .inl (fun _ => 0))), (q7, .inl (cI, 10, .inl (fun _ => 0))), (q8, .inl (cI, 10, .inl (fun _ => 0))), (q9, .inl (cI, 20, .inl (fun _ => 0))), (q10, .inl (cI, 20, .inl (fun _ => 0))), (q11, .inl (cI, 10, .inl (fun _ => 0))), (q12, .inl (cI, 10, .inl (fun _ => 0))), (q13, .inl (cI, 2, .inl (fun _ => 0)))]) := hD
  refine va_putF (D := D) (ci := 6) (v := .ref q13) (ty := .array .int) (C := RX6) (T := TX6) (N := 36) hx hb hts itX6 tyX6 tyX6_ok nmX6 hown hK hP hD hS 0 rfl rfl 24 (by decide) (hts _ (TBm 917 (by decide +kernel) rfl)) (fun _ h9 => h9) rfl hin rfl (by decide +kernel) rfl rfl (Nat.le_of_ble_eq_true rfl) dX6_init_110 (fun H locs hP hD hS => ?_)
  have hP : va_P D classes ([(h0, .inr (6, [.int 0, .int 0, .ref q1, .ref q2, .int 0, .int 0, .int 0, .int 0, .ref q3, .ref q4, .ref q5, .int 10, .ref q6, .ref q7, .ref q8, .ref q9, .ref q10, .int 0, .int 0, .int 0, .int 0, .int 0, .ref q11, .ref q12, .ref q13, .null, .null, .null, .int 0, .int 0, .null, .null, .null, .int 0, .null, .int 0])), (q1, .inl (cJ, 64, .inr (.inl (fun _ => 0)))), (q2, .inl (cI, 120, .inl (fun _ => 0))), (q3, .inl (cI, 10, .inl (fun _ => 0))), (q4, .inl (cI, 10, .inl (fun _ => 0))), (q5, .inl (cI, 10, .inl (fun _ => 0))), (q6, .inl (cI, 10, .inl (fun _ => 0))), (q7, .inl (cI, 10, .inl (fun _ => 0))), (q8, .inl (cI, 10, .inl (fun _ => 0))), (q9, .inl (cI, 20, .inl (fun _ => 0))), (q10, .inl (cI, 20, .inl (fun _ => 0))), (q11, .inl (cI, 10, .inl (fun _ => 0))), (q12, .inl (cI, 10, .inl (fun _ => 0))), (q13, .inl (cI, 2, .inl (fun _ => 0)))]) H := hP
  have hD : va_D A ([(h0, .inr (6, [.int 0, .int 0, .ref q1, .ref q2, .int 0, .int 0, .int 0, .int 0, .ref q3, .ref q4, .ref q5, .int 10, .ref q6, .ref q7, .ref q8, .ref q9, .ref q10, .int 0, .int 0, .int 0, .int 0, .int 0, .ref q11, .ref q12, .ref q13, .null, .null, .null, .int 0, .int 0, .null, .null, .null, .int 0, .null, .int 0])), (q1, .inl (cJ, 64, .inr (.inl (fun _ => 0)))), (q2, .inl (cI, 120, .inl (fun _ => 0))), (q3, .inl (cI, 10, .inl (fun _ => 0))), (q4, .inl (cI, 10, .inl (fun _ => 0))), (q5, .inl (cI, 10, .inl (fun _ => 0))), (q6, .inl (cI, 10, .inl (fun _ => 0))), (q7, .inl (cI, 10, .inl (fun _ => 0))), (q8, .inl (cI, 10, .inl (fun _ => 0))), (q9, .inl (cI, 20, .inl (fun _ => 0))), (q10, .inl (cI, 20, .inl (fun _ => 0))), (q11, .inl (cI, 10, .inl (fun _ => 0))), (q12, .inl (cI, 10, .inl (fun _ => 0))), (q13, .inl (cI, 2, .inl (fun _ => 0)))]) := hD
  refine lv_aload_n hx hb dX6_init_113 rfl (lv_at hl 0 rfl) ?_
  refine lv_bipush (v := 50) hx hb dX6_init_114 (by decide) ?_
  refine cn_newa (atype := .int) hx hb (hts _ ac_int) (ty := .int) rfl 0 rfl ra_int hK hP hD hS hA (N' := 50) (a0 := (50, .inl (fun _ => 0))) (fun cA => rfl) (by decide) (by decide) (Nat.le_of_ble_eq_true rfl) (Nat.le_of_ble_eq_true rfl) (Nat.le_of_ble_eq_true rfl) dX6_init_116 (fun q14 H hP hD hS => ?_)
  have hP : va_P D classes ([(h0, .inr (6, [.int 0, .int 0, .ref q1, .ref q2, .int 0, .int 0, .int 0, .int 0, .ref q3, .ref q4, .ref q5, .int 10, .ref q6, .ref q7, .ref q8, .ref q9, .ref q10, .int 0, .int 0, .int 0, .int 0, .int 0, .ref q11, .ref q12, .ref q13, .null, .null, .null, .int 0, .int 0, .null, .null, .null, .int 0, .null, .int 0])), (q1, .inl (cJ, 64, .inr (.inl (fun _ => 0)))), (q2, .inl (cI, 120, .inl (fun _ => 0))), (q3, .inl (cI, 10, .inl (fun _ => 0))), (q4, .inl (cI, 10, .inl (fun _ => 0))), (q5, .inl (cI, 10, .inl (fun _ => 0))), (q6, .inl (cI, 10, .inl (fun _ => 0))), (q7, .inl (cI, 10, .inl (fun _ => 0))), (q8, .inl (cI, 10, .inl (fun _ => 0))), (q9, .inl (cI, 20, .inl (fun _ => 0))), (q10, .inl (cI, 20, .inl (fun _ => 0))), (q11, .inl (cI, 10, .inl (fun _ => 0))), (q12, .inl (cI, 10, .inl (fun _ => 0))), (q13, .inl (cI, 2, .inl (fun _ => 0))), (q14, .inl (cI, 50, .inl (fun _ => 0)))]) H := hP
  have hD : va_D A ([(h0, .inr (6, [.int 0, .int 0, .ref q1, .ref q2, .int 0, .int 0, .int 0, .int 0, .ref q3, .ref q4, .ref q5, .int 10, .ref q6, .ref q7, .ref q8, .ref q9, .ref q10, .int 0, .int 0, .int 0, .int 0, .int 0, .ref q11, .ref q12, .ref q13, .null, .null, .null, .int 0, .int 0, .null, .null, .null, .int 0, .null, .int 0])), (q1, .inl (cJ, 64, .inr (.inl (fun _ => 0)))), (q2, .inl (cI, 120, .inl (fun _ => 0))), (q3, .inl (cI, 10, .inl (fun _ => 0))), (q4, .inl (cI, 10, .inl (fun _ => 0))), (q5, .inl (cI, 10, .inl (fun _ => 0))), (q6, .inl (cI, 10, .inl (fun _ => 0))), (q7, .inl (cI, 10, .inl (fun _ => 0))), (q8, .inl (cI, 10, .inl (fun _ => 0))), (q9, .inl (cI, 20, .inl (fun _ => 0))), (q10, .inl (cI, 20, .inl (fun _ => 0))), (q11, .inl (cI, 10, .inl (fun _ => 0))), (q12, .inl (cI, 10, .inl (fun _ => 0))), (q13, .inl (cI, 2, .inl (fun _ => 0))), (q14, .inl (cI, 50, .inl (fun _ => 0)))]) := hD
  refine va_putF (D := D) (ci := 6) (v := .ref q14) (ty := .array .int) (C := RX6) (T := TX6) (N := 36) hx hb hts itX6 tyX6 tyX6_ok nmX6 hown hK hP hD hS 0 rfl rfl 25 (by decide) (hts _ (TBm 918 (by decide +kernel) rfl)) (fun _ h9 => h9) rfl hin rfl (by decide +kernel) rfl rfl (Nat.le_of_ble_eq_true rfl) dX6_init_118 (fun H locs hP hD hS => ?_)
  have hP : va_P D classes ([(h0, .inr (6, [.int 0, .int 0, .ref q1, .ref q2, .int 0, .int 0, .int 0, .int 0, .ref q3, .ref q4, .ref q5, .int 10, .ref q6, .ref q7, .ref q8, .ref q9, .ref q10, .int 0, .int 0, .int 0, .int 0, .int 0, .ref q11, .ref q12, .ref q13, .ref q14, .null, .null, .int 0, .int 0, .null, .null, .null, .int 0, .null, .int 0])), (q1, .inl (cJ, 64, .inr (.inl (fun _ => 0)))), (q2, .inl (cI, 120, .inl (fun _ => 0))), (q3, .inl (cI, 10, .inl (fun _ => 0))), (q4, .inl (cI, 10, .inl (fun _ => 0))), (q5, .inl (cI, 10, .inl (fun _ => 0))), (q6, .inl (cI, 10, .inl (fun _ => 0))), (q7, .inl (cI, 10, .inl (fun _ => 0))), (q8, .inl (cI, 10, .inl (fun _ => 0))), (q9, .inl (cI, 20, .inl (fun _ => 0))), (q10, .inl (cI, 20, .inl (fun _ => 0))), (q11, .inl (cI, 10, .inl (fun _ => 0))), (q12, .inl (cI, 10, .inl (fun _ => 0))), (q13, .inl (cI, 2, .inl (fun _ => 0))), (q14, .inl (cI, 50, .inl (fun _ => 0)))]) H := hP
  have hD : va_D A ([(h0, .inr (6, [.int 0, .int 0, .ref q1, .ref q2, .int 0, .int 0, .int 0, .int 0, .ref q3, .ref q4, .ref q5, .int 10, .ref q6, .ref q7, .ref q8, .ref q9, .ref q10, .int 0, .int 0, .int 0, .int 0, .int 0, .ref q11, .ref q12, .ref q13, .ref q14, .null, .null, .int 0, .int 0, .null, .null, .null, .int 0, .null, .int 0])), (q1, .inl (cJ, 64, .inr (.inl (fun _ => 0)))), (q2, .inl (cI, 120, .inl (fun _ => 0))), (q3, .inl (cI, 10, .inl (fun _ => 0))), (q4, .inl (cI, 10, .inl (fun _ => 0))), (q5, .inl (cI, 10, .inl (fun _ => 0))), (q6, .inl (cI, 10, .inl (fun _ => 0))), (q7, .inl (cI, 10, .inl (fun _ => 0))), (q8, .inl (cI, 10, .inl (fun _ => 0))), (q9, .inl (cI, 20, .inl (fun _ => 0))), (q10, .inl (cI, 20, .inl (fun _ => 0))), (q11, .inl (cI, 10, .inl (fun _ => 0))), (q12, .inl (cI, 10, .inl (fun _ => 0))), (q13, .inl (cI, 2, .inl (fun _ => 0))), (q14, .inl (cI, 50, .inl (fun _ => 0)))]) := hD
  refine lv_aload_n hx hb dX6_init_121 rfl (lv_at hl 0 rfl) ?_
  refine lv_bipush (v := 50) hx hb dX6_init_122 (by decide) ?_
  refine cn_newa (atype := .int) hx hb (hts _ ac_int) (ty := .int) rfl 0 rfl ra_int hK hP hD hS hA (N' := 50) (a0 := (50, .inl (fun _ => 0))) (fun cA => rfl) (by decide) (by decide) (Nat.le_of_ble_eq_true rfl) (Nat.le_of_ble_eq_true rfl) (Nat.le_of_ble_eq_true rfl) dX6_init_124 (fun q15 H hP hD hS => ?_)
  have hP : va_P D classes ([(h0, .inr (6, [.int 0, .int 0, .ref q1, .ref q2, .int 0, .int 0, .int 0, .int 0, .ref q3, .ref q4, .ref q5, .int 10, .ref q6, .ref q7, .ref q8, .ref q9, .ref q10, .int 0, .int 0, .int 0, .int 0, .int 0, .ref q11, .ref q12, .ref q13, .ref q14, .null, .null, .int 0, .int 0, .null, .null, .null, .int 0, .null, .int 0])), (q1, .inl (cJ, 64, .inr (.inl (fun _ => 0)))), (q2, .inl (cI, 120, .inl (fun _ => 0))), (q3, .inl (cI, 10, .inl (fun _ => 0))), (q4, .inl (cI, 10, .inl (fun _ => 0))), (q5, .inl (cI, 10, .inl (fun _ => 0))), (q6, .inl (cI, 10, .inl (fun _ => 0))), (q7, .inl (cI, 10, .inl (fun _ => 0))), (q8, .inl (cI, 10, .inl (fun _ => 0))), (q9, .inl (cI, 20, .inl (fun _ => 0))), (q10, .inl (cI, 20, .inl (fun _ => 0))), (q11, .inl (cI, 10, .inl (fun _ => 0))), (q12, .inl (cI, 10, .inl (fun _ => 0))), (q13, .inl (cI, 2, .inl (fun _ => 0))), (q14, .inl (cI, 50, .inl (fun _ => 0))), (q15, .inl (cI, 50, .inl (fun _ => 0)))]) H := hP
  have hD : va_D A ([(h0, .inr (6, [.int 0, .int 0, .ref q1, .ref q2, .int 0, .int 0, .int 0, .int 0, .ref q3, .ref q4, .ref q5, .int 10, .ref q6, .ref q7, .ref q8, .ref q9, .ref q10, .int 0, .int 0, .int 0, .int 0, .int 0, .ref q11, .ref q12, .ref q13, .ref q14, .null, .null, .int 0, .int 0, .null, .null, .null, .int 0, .null, .int 0])), (q1, .inl (cJ, 64, .inr (.inl (fun _ => 0)))), (q2, .inl (cI, 120, .inl (fun _ => 0))), (q3, .inl (cI, 10, .inl (fun _ => 0))), (q4, .inl (cI, 10, .inl (fun _ => 0))), (q5, .inl (cI, 10, .inl (fun _ => 0))), (q6, .inl (cI, 10, .inl (fun _ => 0))), (q7, .inl (cI, 10, .inl (fun _ => 0))), (q8, .inl (cI, 10, .inl (fun _ => 0))), (q9, .inl (cI, 20, .inl (fun _ => 0))), (q10, .inl (cI, 20, .inl (fun _ => 0))), (q11, .inl (cI, 10, .inl (fun _ => 0))), (q12, .inl (cI, 10, .inl (fun _ => 0))), (q13, .inl (cI, 2, .inl (fun _ => 0))), (q14, .inl (cI, 50, .inl (fun _ => 0))), (q15, .inl (cI, 50, .inl (fun _ => 0)))]) := hD
  refine va_putF (D := D) (ci := 6) (v := .ref q15) (ty := .array .int) (C := RX6) (T := TX6) (N := 36) hx hb hts itX6 tyX6 tyX6_ok nmX6 hown hK hP hD hS 0 rfl rfl 26 (by decide) (hts _ (TBm 919 (by decide +kernel) rfl)) (fun _ h9 => h9) rfl hin rfl (by decide +kernel) rfl rfl (Nat.le_of_ble_eq_true rfl) dX6_init_126 (fun H locs hP hD hS => ?_)
  have hP : va_P D classes ([(h0, .inr (6, [.int 0, .int 0, .ref q1, .ref q2, .int 0, .int 0, .int 0, .int 0, .ref q3, .ref q4, .ref q5, .int 10, .ref q6, .ref q7, .ref q8, .ref q9, .ref q10, .int 0, .int 0, .int 0, .int 0, .int 0, .ref q11, .ref q12, .ref q13, .ref q14, .ref q15, .null, .int 0, .int 0, .null, .null, .null, .int 0, .null, .int 0])), (q1, .inl (cJ, 64, .inr (.inl (fun _ => 0)))), (q2, .inl (cI, 120, .inl (fun _ => 0))), (q3, .inl (cI, 10, .inl (fun _ => 0))), (q4, .inl (cI, 10, .inl (fun _ => 0))), (q5, .inl (cI, 10, .inl (fun _ => 0))), (q6, .inl (cI, 10, .inl (fun _ => 0))), (q7, .inl (cI, 10, .inl (fun _ => 0))), (q8, .inl (cI, 10, .inl (fun _ => 0))), (q9, .inl (cI, 20, .inl (fun _ => 0))), (q10, .inl (cI, 20, .inl (fun _ => 0))), (q11, .inl (cI, 10, .inl (fun _ => 0))), (q12, .inl (cI, 10, .inl (fun _ => 0))), (q13, .inl (cI, 2, .inl (fun _ => 0))), (q14, .inl (cI, 50, .inl (fun _ => 0))), (q15, .inl (cI, 50, .inl (fun _ => 0)))]) H := hP
  have hD : va_D A ([(h0, .inr (6, [.int 0, .int 0, .ref q1, .ref q2, .int 0, .int 0, .int 0, .int 0, .ref q3, .ref q4, .ref q5, .int 10, .ref q6, .ref q7, .ref q8, .ref q9, .ref q10, .int 0, .int 0, .int 0, .int 0, .int 0, .ref q11, .ref q12, .ref q13, .ref q14, .ref q15, .null, .int 0, .int 0, .null, .null, .null, .int 0, .null, .int 0])), (q1, .inl (cJ, 64, .inr (.inl (fun _ => 0)))), (q2, .inl (cI, 120, .inl (fun _ => 0))), (q3, .inl (cI, 10, .inl (fun _ => 0))), (q4, .inl (cI, 10, .inl (fun _ => 0))), (q5, .inl (cI, 10, .inl (fun _ => 0))), (q6, .inl (cI, 10, .inl (fun _ => 0))), (q7, .inl (cI, 10, .inl (fun _ => 0))), (q8, .inl (cI, 10, .inl (fun _ => 0))), (q9, .inl (cI, 20, .inl (fun _ => 0))), (q10, .inl (cI, 20, .inl (fun _ => 0))), (q11, .inl (cI, 10, .inl (fun _ => 0))), (q12, .inl (cI, 10, .inl (fun _ => 0))), (q13, .inl (cI, 2, .inl (fun _ => 0))), (q14, .inl (cI, 50, .inl (fun _ => 0))), (q15, .inl (cI, 50, .inl (fun _ => 0)))]) := hD
  refine lv_aload_n hx hb dX6_init_129 rfl (lv_at hl 0 rfl) ?_
  refine lv_bipush (v := 50) hx hb dX6_init_130 (by decide) ?_
  refine cn_newa (atype := .int) hx hb (hts _ ac_int) (ty := .int) rfl 0 rfl ra_int hK hP hD hS hA (N' := 50) (a0 := (50, .inl (fun _ => 0))) (fun cA => rfl) (by decide) (by decide) (Nat.le_of_ble_eq_true rfl) (Nat.le_of_ble_eq_true rfl) (Nat.le_of_ble_eq_true rfl) dX6_init_132 (fun q16 H hP hD hS => ?_)
  have hP : va_P D classes ([(h0, .inr (6, [.int 0, .int 0, .ref q1, .ref q2, .int 0, .int 0, .int 0, .int 0, .ref q3, .ref q4, .ref q5, .int 10, .ref q6, .ref q7, .ref q8, .ref q9, .ref q10, .int 0, .int 0, .int 0, .int 0, .int 0, .ref q11, .ref q12, .ref q13, .ref q14, .ref q15, .null, .int 0, .int 0, .null, .null, .null, .int 0, .null, .int 0])), (q1, .inl (cJ, 64, .inr (.inl (fun _ => 0)))), (q2, .inl (cI, 120, .inl (fun _ => 0))), (q3, .inl (cI, 10, .inl (fun _ => 0))), (q4, .inl (cI, 10, .inl (fun _ => 0))), (q5, .inl (cI, 10, .inl (fun _ => 0))), (q6, .inl (cI, 10, .inl (fun _ => 0))), (q7, .inl (cI, 10, .inl (fun _ => 0))), (q8, .inl (cI, 10, .inl (fun _ => 0))), (q9, .inl (cI, 20, .inl (fun _ => 0))), (q10, .inl (cI, 20, .inl (fun _ => 0))), (q11, .inl (cI, 10, .inl (fun _ => 0))), (q12, .inl (cI, 10, .inl (fun _ => 0))), (q13, .inl (cI, 2, .inl (fun _ => 0))), (q14, .inl (cI, 50, .inl (fun _ => 0))), (q15, .inl (cI, 50, .inl (fun _ => 0))), (q16, .inl (cI, 50, .inl (fun _ => 0)))]) H := hP
  have hD : va_D A ([(h0, .inr (6, [.int 0, .int 0, .ref q1, .ref q2, .int 0, .int 0, .int 0, .int 0, .ref q3, .ref q4, .ref q5, .int 10, .ref q6, .ref q7, .ref q8, .ref q9, .ref q10, .int 0, .int 0, .int 0, .int 0, .int 0, .ref q11, .ref q12, .ref q13, .ref q14, .ref q15, .null, .int 0, .int 0, .null, .null, .null, .int 0, .null, .int 0])), (q1, .inl (cJ, 64, .inr (.inl (fun _ => 0)))), (q2, .inl (cI, 120, .inl (fun _ => 0))), (q3, .inl (cI, 10, .inl (fun _ => 0))), (q4, .inl (cI, 10, .inl (fun _ => 0))), (q5, .inl (cI, 10, .inl (fun _ => 0))), (q6, .inl (cI, 10, .inl (fun _ => 0))), (q7, .inl (cI, 10, .inl (fun _ => 0))), (q8, .inl (cI, 10, .inl (fun _ => 0))), (q9, .inl (cI, 20, .inl (fun _ => 0))), (q10, .inl (cI, 20, .inl (fun _ => 0))), (q11, .inl (cI, 10, .inl (fun _ => 0))), (q12, .inl (cI, 10, .inl (fun _ => 0))), (q13, .inl (cI, 2, .inl (fun _ => 0))), (q14, .inl (cI, 50, .inl (fun _ => 0))), (q15, .inl (cI, 50, .inl (fun _ => 0))), (q16, .inl (cI, 50, .inl (fun _ => 0)))]) := hD
  refine va_putF (D := D) (ci := 6) (v := .ref q16) (ty := .array .int) (C := RX6) (T := TX6) (N := 36) hx hb hts itX6 tyX6 tyX6_ok nmX6 hown hK hP hD hS 0 rfl rfl 27 (by decide) (hts _ (TBm 920 (by decide +kernel) rfl)) (fun _ h9 => h9) rfl hin rfl (by decide +kernel) rfl rfl (Nat.le_of_ble_eq_true rfl) dX6_init_134 (fun H locs hP hD hS => ?_)
  have hP : va_P D classes ([(h0, .inr (6, [.int 0, .int 0, .ref q1, .ref q2, .int 0, .int 0, .int 0, .int 0, .ref q3, .ref q4, .ref q5, .int 10, .ref q6, .ref q7, .ref q8, .ref q9, .ref q10, .int 0, .int 0, .int 0, .int 0, .int 0, .ref q11, .ref q12, .ref q13, .ref q14, .ref q15, .ref q16, .int 0, .int 0, .null, .null, .null, .int 0, .null, .int 0])), (q1, .inl (cJ, 64, .inr (.inl (fun _ => 0)))), (q2, .inl (cI, 120, .inl (fun _ => 0))), (q3, .inl (cI, 10, .inl (fun _ => 0))), (q4, .inl (cI, 10, .inl (fun _ => 0))), (q5, .inl (cI, 10, .inl (fun _ => 0))), (q6, .inl (cI, 10, .inl (fun _ => 0))), (q7, .inl (cI, 10, .inl (fun _ => 0))), (q8, .inl (cI, 10, .inl (fun _ => 0))), (q9, .inl (cI, 20, .inl (fun _ => 0))), (q10, .inl (cI, 20, .inl (fun _ => 0))), (q11, .inl (cI, 10, .inl (fun _ => 0))), (q12, .inl (cI, 10, .inl (fun _ => 0))), (q13, .inl (cI, 2, .inl (fun _ => 0))), (q14, .inl (cI, 50, .inl (fun _ => 0))), (q15, .inl (cI, 50, .inl (fun _ => 0))), (q16, .inl (cI, 50, .inl (fun _ => 0)))]) H := hP
  have hD : va_D A ([(h0, .inr (6, [.int 0, .int 0, .ref q1, .ref q2, .int 0, .int 0, .int 0, .int 0, .ref q3, .ref q4, .ref q5, .int 10, .ref q6, .ref q7, .ref q8, .ref q9, .ref q10, .int 0, .int 0, .int 0, .int 0, .int 0, .ref q11, .ref q12, .ref q13, .ref q14, .ref q15, .ref q16, .int 0, .int 0, .null, .null, .null, .int 0, .null, .int 0])), (q1, .inl (cJ, 64, .inr (.inl (fun _ => 0)))), (q2, .inl (cI, 120, .inl (fun _ => 0))), (q3, .inl (cI, 10, .inl (fun _ => 0))), (q4, .inl (cI, 10, .inl (fun _ => 0))), (q5, .inl (cI, 10, .inl (fun _ => 0))), (q6, .inl (cI, 10, .inl (fun _ => 0))), (q7, .inl (cI, 10, .inl (fun _ => 0))), (q8, .inl (cI, 10, .inl (fun _ => 0))), (q9, .inl (cI, 20, .inl (fun _ => 0))), (q10, .inl (cI, 20, .inl (fun _ => 0))), (q11, .inl (cI, 10, .inl (fun _ => 0))), (q12, .inl (cI, 10, .inl (fun _ => 0))), (q13, .inl (cI, 2, .inl (fun _ => 0))), (q14, .inl (cI, 50, .inl (fun _ => 0))), (q15, .inl (cI, 50, .inl (fun _ => 0))), (q16, .inl (cI, 50, .inl (fun _ => 0)))]) := hD
  refine lv_aload_n hx hb dX6_init_137 rfl (lv_at hl 0 rfl) ?_
  refine lv_bipush (v := 24) hx hb dX6_init_138 (by decide) ?_
  refine cn_newa (atype := .int) hx hb (hts _ ac_int) (ty := .int) rfl 0 rfl ra_int hK hP hD hS hA (N' := 24) (a0 := (24, .inl (fun _ => 0))) (fun cA => rfl) (by decide) (by decide) (Nat.le_of_ble_eq_true rfl) (Nat.le_of_ble_eq_true rfl) (Nat.le_of_ble_eq_true rfl) dX6_init_140 (fun q17 H hP hD hS => ?_)
  have hP : va_P D classes ([(h0, .inr (6, [.int 0, .int 0, .ref q1, .ref q2, .int 0, .int 0, .int 0, .int 0, .ref q3, .ref q4, .ref q5, .int 10, .ref q6, .ref q7, .ref q8, .ref q9, .ref q10, .int 0, .int 0, .int 0, .int 0, .int 0, .ref q11, .ref q12, .ref q13, .ref q14, .ref q15, .ref q16, .int 0, .int 0, .null, .null, .null, .int 0, .null, .int 0])), (q1, .inl (cJ, 64, .inr (.inl (fun _ => 0)))), (q2, .inl (cI, 120, .inl (fun _ => 0))), (q3, .inl (cI, 10, .inl (fun _ => 0))), (q4, .inl (cI, 10, .inl (fun _ => 0))), (q5, .inl (cI, 10, .inl (fun _ => 0))), (q6, .inl (cI, 10, .inl (fun _ => 0))), (q7, .inl (cI, 10, .inl (fun _ => 0))), (q8, .inl (cI, 10, .inl (fun _ => 0))), (q9, .inl (cI, 20, .inl (fun _ => 0))), (q10, .inl (cI, 20, .inl (fun _ => 0))), (q11, .inl (cI, 10, .inl (fun _ => 0))), (q12, .inl (cI, 10, .inl (fun _ => 0))), (q13, .inl (cI, 2, .inl (fun _ => 0))), (q14, .inl (cI, 50, .inl (fun _ => 0))), (q15, .inl (cI, 50, .inl (fun _ => 0))), (q16, .inl (cI, 50, .inl (fun _ => 0))), (q17, .inl (cI, 24, .inl (fun _ => 0)))]) H := hP
  have hD : va_D A ([(h0, .inr (6, [.int 0, .int 0, .ref q1, .ref q2, .int 0, .int 0, .int 0, .int 0, .ref q3, .ref q4, .ref q5, .int 10, .ref q6, .ref q7, .ref q8, .ref q9, .ref q10, .int 0, .int 0, .int 0, .int 0, .int 0, .ref q11, .ref q12, .ref q13, .ref q14, .ref q15, .ref q16, .int 0, .int 0, .null, .null, .null, .int 0, .null, .int 0])), (q1, .inl (cJ, 64, .inr (.inl (fun _ => 0)))), (q2, .inl (cI, 120, .inl (fun _ => 0))), (q3, .inl (cI, 10, .inl (fun _ => 0))), (q4, .inl (cI, 10, .inl (fun _ => 0))), (q5, .inl (cI, 10, .inl (fun _ => 0))), (q6, .inl (cI, 10, .inl (fun _ => 0))), (q7, .inl (cI, 10, .inl (fun _ => 0))), (q8, .inl (cI, 10, .inl (fun _ => 0))), (q9, .inl (cI, 20, .inl (fun _ => 0))), (q10, .inl (cI, 20, .inl (fun _ => 0))), (q11, .inl (cI, 10, .inl (fun _ => 0))), (q12, .inl (cI, 10, .inl (fun _ => 0))), (q13, .inl (cI, 2, .inl (fun _ => 0))), (q14, .inl (cI, 50, .inl (fun _ => 0))), (q15, .inl (cI, 50, .inl (fun _ => 0))), (q16, .inl (cI, 50, .inl (fun _ => 0))), (q17, .inl (cI, 24, .inl (fun _ => 0)))]) := hD
  refine va_putF (D := D) (ci := 6) (v := .ref q17) (ty := .array .int) (C := RX6) (T := TX6) (N := 36) hx hb hts itX6 tyX6 tyX6_ok nmX6 hown hK hP hD hS 0 rfl rfl 30 (by decide) (hts _ (TBm 923 (by decide +kernel) rfl)) (fun _ h9 => h9) rfl hin rfl (by decide +kernel) rfl rfl (Nat.le_of_ble_eq_true rfl) dX6_init_142 (fun H locs hP hD hS => ?_)
  have hP : va_P D classes ([(h0, .inr (6, [.int 0, .int 0, .ref q1, .ref q2, .int 0, .int 0, .int 0, .int 0, .ref q3, .ref q4, .ref q5, .int 10, .ref q6, .ref q7, .ref q8, .ref q9, .ref q10, .int 0, .int 0, .int 0, .int 0, .int 0, .ref q11, .ref q12, .ref q13, .ref q14, .ref q15, .ref q16, .int 0, .int 0, .ref q17, .null, .null, .int 0, .null, .int 0])), (q1, .inl (cJ, 64, .inr (.inl (fun _ => 0)))), (q2, .inl (cI, 120, .inl (fun _ => 0))), (q3, .inl (cI, 10, .inl (fun _ => 0))), (q4, .inl (cI, 10, .inl (fun _ => 0))), (q5, .inl (cI, 10, .inl (fun _ => 0))), (q6, .inl (cI, 10, .inl (fun _ => 0))), (q7, .inl (cI, 10, .inl (fun _ => 0))), (q8, .inl (cI, 10, .inl (fun _ => 0))), (q9, .inl (cI, 20, .inl (fun _ => 0))), (q10, .inl (cI, 20, .inl (fun _ => 0))), (q11, .inl (cI, 10, .inl (fun _ => 0))), (q12, .inl (cI, 10, .inl (fun _ => 0))), (q13, .inl (cI, 2, .inl (fun _ => 0))), (q14, .inl (cI, 50, .inl (fun _ => 0))), (q15, .inl (cI, 50, .inl (fun _ => 0))), (q16, .inl (cI, 50, .inl (fun _ => 0))), (q17, .inl (cI, 24, .inl (fun _ => 0)))]) H := hP
  have hD : va_D A ([(h0, .inr (6, [.int 0, .int 0, .ref q1, .ref q2, .int 0, .int 0, .int 0, .int 0, .ref q3, .ref q4, .ref q5, .int 10, .ref q6, .ref q7, .ref q8, .ref q9, .ref q10, .int 0, .int 0, .int 0, .int 0, .int 0, .ref q11, .ref q12, .ref q13, .ref q14, .ref q15, .ref q16, .int 0, .int 0, .ref q17, .null, .null, .int 0, .null, .int 0])), (q1, .inl (cJ, 64, .inr (.inl (fun _ => 0)))), (q2, .inl (cI, 120, .inl (fun _ => 0))), (q3, .inl (cI, 10, .inl (fun _ => 0))), (q4, .inl (cI, 10, .inl (fun _ => 0))), (q5, .inl (cI, 10, .inl (fun _ => 0))), (q6, .inl (cI, 10, .inl (fun _ => 0))), (q7, .inl (cI, 10, .inl (fun _ => 0))), (q8, .inl (cI, 10, .inl (fun _ => 0))), (q9, .inl (cI, 20, .inl (fun _ => 0))), (q10, .inl (cI, 20, .inl (fun _ => 0))), (q11, .inl (cI, 10, .inl (fun _ => 0))), (q12, .inl (cI, 10, .inl (fun _ => 0))), (q13, .inl (cI, 2, .inl (fun _ => 0))), (q14, .inl (cI, 50, .inl (fun _ => 0))), (q15, .inl (cI, 50, .inl (fun _ => 0))), (q16, .inl (cI, 50, .inl (fun _ => 0))), (q17, .inl (cI, 24, .inl (fun _ => 0)))]) := hD
  refine lv_aload_n hx hb dX6_init_145 rfl (lv_at hl 0 rfl) ?_
  refine lv_bipush (v := 24) hx hb dX6_init_146 (by decide) ?_
  refine cn_newa (atype := .int) hx hb (hts _ ac_int) (ty := .int) rfl 0 rfl ra_int hK hP hD hS hA (N' := 24) (a0 := (24, .inl (fun _ => 0))) (fun cA => rfl) (by decide) (by decide) (Nat.le_of_ble_eq_true rfl) (Nat.le_of_ble_eq_true rfl) (Nat.le_of_ble_eq_true rfl) dX6_init_148 (fun q18 H hP hD hS => ?_)
  have hP : va_P D classes ([(h0, .inr (6, [.int 0, .int 0, .ref q1, .ref q2, .int 0, .int 0, .int 0, .int 0, .ref q3, .ref q4, .ref q5, .int 10, .ref q6, .ref q7, .ref q8, .ref q9, .ref q10, .int 0, .int 0, .int 0, .int 0, .int 0, .ref q11, .ref q12, .ref q13, .ref q14, .ref q15, .ref q16, .int 0, .int 0, .ref q17, .null, .null, .int 0, .null, .int 0])), (q1, .inl (cJ, 64, .inr (.inl (fun _ => 0)))), (q2, .inl (cI, 120, .inl (fun _ => 0))), (q3, .inl (cI, 10, .inl (fun _ => 0))), (q4, .inl (cI, 10, .inl (fun _ => 0))), (q5, .inl (cI, 10, .inl (fun _ => 0))), (q6, .inl (cI, 10, .inl (fun _ => 0))), (q7, .inl (cI, 10, .inl (fun _ => 0))), (q8, .inl (cI, 10, .inl (fun _ => 0))), (q9, .inl (cI, 20, .inl (fun _ => 0))), (q10, .inl (cI, 20, .inl (fun _ => 0))), (q11, .inl (cI, 10, .inl (fun _ => 0))), (q12, .inl (cI, 10, .inl (fun _ => 0))), (q13, .inl (cI, 2, .inl (fun _ => 0))), (q14, .inl (cI, 50, .inl (fun _ => 0))), (q15, .inl (cI, 50, .inl (fun _ => 0))), (q16, .inl (cI, 50, .inl (fun _ => 0))), (q17, .inl (cI, 24, .inl (fun _ => 0))), (q18, .inl (cI, 24, .inl (fun _ => 0)))]) H := hP
  have hD : va_D A ([(h0, .inr (6, [.int 0, .int 0, .ref q1, .ref q2, .int 0, .int 0, .int 0, .int 0, .ref q3, .ref q4, .ref q5, .int 10, .ref q6, .ref q7, .ref q8, .ref q9, .ref q10, .int 0, .int 0, .int 0, .int 0, .int 0, .ref q11, .ref q12, .ref q13, .ref q14, .ref q15, .ref q16, .int 0, .int 0, .ref q17, .null, .null, .int 0, .null, .int 0])), (q1, .inl (cJ, 64, .inr (.inl (fun _ => 0)))), (q2, .inl (cI, 120, .inl (fun _ => 0))), (q3, .inl (cI, 10, .inl (fun _ => 0))), (q4, .inl (cI, 10, .inl (fun _ => 0))), (q5, .inl (cI, 10, .inl (fun _ => 0))), (q6, .inl (cI, 10, .inl (fun _ => 0))), (q7, .inl (cI, 10, .inl (fun _ => 0))), (q8, .inl (cI, 10, .inl (fun _ => 0))), (q9, .inl (cI, 20, .inl (fun _ => 0))), (q10, .inl (cI, 20, .inl (fun _ => 0))), (q11, .inl (cI, 10, .inl (fun _ => 0))), (q12, .inl (cI, 10, .inl (fun _ => 0))), (q13, .inl (cI, 2, .inl (fun _ => 0))), (q14, .inl (cI, 50, .inl (fun _ => 0))), (q15, .inl (cI, 50, .inl (fun _ => 0))), (q16, .inl (cI, 50, .inl (fun _ => 0))), (q17, .inl (cI, 24, .inl (fun _ => 0))), (q18, .inl (cI, 24, .inl (fun _ => 0)))]) := hD
  refine va_putF (D := D) (ci := 6) (v := .ref q18) (ty := .array .int) (C := RX6) (T := TX6) (N := 36) hx hb hts itX6 tyX6 tyX6_ok nmX6 hown hK hP hD hS 0 rfl rfl 31 (by decide) (hts _ (TBm 924 (by decide +kernel) rfl)) (fun _ h9 => h9) rfl hin rfl (by decide +kernel) rfl rfl (Nat.le_of_ble_eq_true rfl) dX6_init_150 (fun H locs hP hD hS => ?_)
  have hP : va_P D classes ([(h0, .inr (6, [.int 0, .int 0, .ref q1, .ref q2, .int 0, .int 0, .int 0, .int 0, .ref q3, .ref q4, .ref q5, .int 10, .ref q6, .ref q7, .ref q8, .ref q9, .ref q10, .int 0, .int 0, .int 0, .int 0, .int 0, .ref q11, .ref q12, .ref q13, .ref q14, .ref q15, .ref q16, .int 0, .int 0, .ref q17, .ref q18, .null, .int 0, .null, .int 0])), (q1, .inl (cJ, 64, .inr (.inl (fun _ => 0)))), (q2, .inl (cI, 120, .inl (fun _ => 0))), (q3, .inl (cI, 10, .inl (fun _ => 0))), (q4, .inl (cI, 10, .inl (fun _ => 0))), (q5, .inl (cI, 10, .inl (fun _ => 0))), (q6, .inl (cI, 10, .inl (fun _ => 0))), (q7, .inl (cI, 10, .inl (fun _ => 0))), (q8, .inl (cI, 10, .inl (fun _ => 0))), (q9, .inl (cI, 20, .inl (fun _ => 0))), (q10, .inl (cI, 20, .inl (fun _ => 0))), (q11, .inl (cI, 10, .inl (fun _ => 0))), (q12, .inl (cI, 10, .inl (fun _ => 0))), (q13, .inl (cI, 2, .inl (fun _ => 0))), (q14, .inl (cI, 50, .inl (fun _ => 0))), (q15, .inl (cI, 50, .inl (fun _ => 0))), (q16, .inl (cI, 50, .inl (fun _ => 0))), (q17, .inl (cI, 24, .inl (fun _ => 0))), (q18, .inl (cI, 24, .inl (fun _ => 0)))]) H := hP
  have hD : va_D A ([(h0, .inr (6, [.int 0, .int 0, .ref q1, .ref q2, .int 0, .int 0, .int 0, .int 0, .ref q3, .ref q4, .ref q5, .int 10, .ref q6, .ref q7, .ref q8, .ref q9, .ref q10, .int 0, .int 0, .int 0, .int 0, .int 0, .ref q11, .ref q12, .ref q13, .ref q14, .ref q15, .ref q16, .int 0, .int 0, .ref q17, .ref q18, .null, .int 0, .null, .int 0])), (q1, .inl (cJ, 64, .inr (.inl (fun _ => 0)))), (q2, .inl (cI, 120, .inl (fun _ => 0))), (q3, .inl (cI, 10, .inl (fun _ => 0))), (q4, .inl (cI, 10, .inl (fun _ => 0))), (q5, .inl (cI, 10, .inl (fun _ => 0))), (q6, .inl (cI, 10, .inl (fun _ => 0))), (q7, .inl (cI, 10, .inl (fun _ => 0))), (q8, .inl (cI, 10, .inl (fun _ => 0))), (q9, .inl (cI, 20, .inl (fun _ => 0))), (q10, .inl (cI, 20, .inl (fun _ => 0))), (q11, .inl (cI, 10, .inl (fun _ => 0))), (q12, .inl (cI, 10, .inl (fun _ => 0))), (q13, .inl (cI, 2, .inl (fun _ => 0))), (q14, .inl (cI, 50, .inl (fun _ => 0))), (q15, .inl (cI, 50, .inl (fun _ => 0))), (q16, .inl (cI, 50, .inl (fun _ => 0))), (q17, .inl (cI, 24, .inl (fun _ => 0))), (q18, .inl (cI, 24, .inl (fun _ => 0)))]) := hD
  refine lv_aload_n hx hb dX6_init_153 rfl (lv_at hl 0 rfl) ?_
  refine lv_bipush (v := 24) hx hb dX6_init_154 (by decide) ?_
  refine cn_newa (atype := .int) hx hb (hts _ ac_int) (ty := .int) rfl 0 rfl ra_int hK hP hD hS hA (N' := 24) (a0 := (24, .inl (fun _ => 0))) (fun cA => rfl) (by decide) (by decide) (Nat.le_of_ble_eq_true rfl) (Nat.le_of_ble_eq_true rfl) (Nat.le_of_ble_eq_true rfl) dX6_init_156 (fun q19 H hP hD hS => ?_)
  have hP : va_P D classes ([(h0, .inr (6, [.int 0, .int 0, .ref q1, .ref q2, .int 0, .int 0, .int 0, .int 0, .ref q3, .ref q4, .ref q5, .int 10, .ref q6, .ref q7, .ref q8, .ref q9, .ref q10, .int 0, .int 0, .int 0, .int 0, .int 0, .ref q11, .ref q12, .ref q13, .ref q14, .ref q15, .ref q16, .int 0, .int 0, .ref q17, .ref q18, .null, .int 0, .null, .int 0])), (q1, .inl (cJ, 64, .inr (.inl (fun _ => 0)))), (q2, .inl (cI, 120, .inl (fun _ => 0))), (q3, .inl (cI, 10, .inl (fun _ => 0))), (q4, .inl (cI, 10, .inl (fun _ => 0))), (q5, .inl (cI, 10, .inl (fun _ => 0))), (q6, .inl (cI, 10, .inl (fun _ => 0))), (q7, .inl (cI, 10, .inl (fun _ => 0))), (q8, .inl (cI, 10, .inl (fun _ => 0))), (q9, .inl (cI, 20, .inl (fun _ => 0))), (q10, .inl (cI, 20, .inl (fun _ => 0))), (q11, .inl (cI, 10, .inl (fun _ => 0))), (q12, .inl (cI, 10, .inl (fun _ => 0))), (q13, .inl (cI, 2, .inl (fun _ => 0))), (q14, .inl (cI, 50, .inl (fun _ => 0))), (q15, .inl (cI, 50, .inl (fun _ => 0))), (q16, .inl (cI, 50, .inl (fun _ => 0))), (q17, .inl (cI, 24, .inl (fun _ => 0))), (q18, .inl (cI, 24, .inl (fun _ => 0))), (q19, .inl (cI, 24, .inl (fun _ => 0)))]) H := hP
  have hD : va_D A ([(h0, .inr (6, [.int 0, .int 0, .ref q1, .ref q2, .int 0, .int 0, .int 0, .int 0, .ref q3, .ref q4, .ref q5, .int 10, .ref q6, .ref q7, .ref q8, .ref q9, .ref q10, .int 0, .int 0, .int 0, .int 0, .int 0, .ref q11, .ref q12, .ref q13, .ref q14, .ref q15, .ref q16, .int 0, .int 0, .ref q17, .ref q18, .null, .int 0, .null, .int 0])), (q1, .inl (cJ, 64, .inr (.inl (fun _ => 0)))), (q2, .inl (cI, 120, .inl (fun _ => 0))), (q3, .inl (cI, 10, .inl (fun _ => 0))), (q4, .inl (cI, 10, .inl (fun _ => 0))), (q5, .inl (cI, 10, .inl (fun _ => 0))), (q6, .inl (cI, 10, .inl (fun _ => 0))), (q7, .inl (cI, 10, .inl (fun _ => 0))), (q8, .inl (cI, 10, .inl (fun _ => 0))), (q9, .inl (cI, 20, .inl (fun _ => 0))), (q10, .inl (cI, 20, .inl (fun _ => 0))), (q11, .inl (cI, 10, .inl (fun _ => 0))), (q12, .inl (cI, 10, .inl (fun _ => 0))), (q13, .inl (cI, 2, .inl (fun _ => 0))), (q14, .inl (cI, 50, .inl (fun _ => 0))), (q15, .inl (cI, 50, .inl (fun _ => 0))), (q16, .inl (cI, 50, .inl (fun _ => 0))), (q17, .inl (cI, 24, .inl (fun _ => 0))), (q18, .inl (cI, 24, .inl (fun _ => 0))), (q19, .inl (cI, 24, .inl (fun _ => 0)))]) := hD
  refine va_putF (D := D) (ci := 6) (v := .ref q19) (ty := .array .int) (C := RX6) (T := TX6) (N := 36) hx hb hts itX6 tyX6 tyX6_ok nmX6 hown hK hP hD hS 0 rfl rfl 32 (by decide) (hts _ (TBm 925 (by decide +kernel) rfl)) (fun _ h9 => h9) rfl hin rfl (by decide +kernel) rfl rfl (Nat.le_of_ble_eq_true rfl) dX6_init_158 (fun H locs hP hD hS => ?_)
  have hP : va_P D classes ([(h0, .inr (6, [.int 0, .int 0, .ref q1, .ref q2, .int 0, .int 0, .int 0, .int 0, .ref q3, .ref q4, .ref q5, .int 10, .ref q6, .ref q7, .ref q8, .ref q9, .ref q10, .int 0, .int 0, .int 0, .int 0, .int 0, .ref q11, .ref q12, .ref q13, .ref q14, .ref q15, .ref q16, .int 0, .int 0, .ref q17, .ref q18, .ref q19, .int 0, .null, .int 0])), (q1, .inl (cJ, 64, .inr (.inl (fun _ => 0)))), (q2, .inl (cI, 120, .inl (fun _ => 0))), (q3, .inl (cI, 10, .inl (fun _ => 0))), (q4, .inl (cI, 10, .inl (fun _ => 0))), (q5, .inl (cI, 10, .inl (fun _ => 0))), (q6, .inl (cI, 10, .inl (fun _ => 0))), (q7, .inl (cI, 10, .inl (fun _ => 0))), (q8, .inl (cI, 10, .inl (fun _ => 0))), (q9, .inl (cI, 20, .inl (fun _ => 0))), (q10, .inl (cI, 20, .inl (fun _ => 0))), (q11, .inl (cI, 10, .inl (fun _ => 0))), (q12, .inl (cI, 10, .inl (fun _ => 0))), (q13, .inl (cI, 2, .inl (fun _ => 0))), (q14, .inl (cI, 50, .inl (fun _ => 0))), (q15, .inl (cI, 50, .inl (fun _ => 0))), (q16, .inl (cI, 50, .inl (fun _ => 0))), (q17, .inl (cI, 24, .inl (fun _ => 0))), (q18, .inl (cI, 24, .inl (fun _ => 0))), (q19, .inl (cI, 24, .inl (fun _ => 0)))]) H := hP
  have hD : va_D A ([(h0, .inr (6, [.int 0, .int 0, .ref q1, .ref q2, .int 0, .int 0, .int 0, .int 0, .ref q3, .ref q4, .ref q5, .int 10, .ref q6, .ref q7, .ref q8, .ref q9, .ref q10, .int 0, .int 0, .int 0, .int 0, .int 0, .ref q11, .ref q12, .ref q13, .ref q14, .ref q15, .ref q16, .int 0, .int 0, .ref q17, .ref q18, .ref q19, .int 0, .null, .int 0])), (q1, .inl (cJ, 64, .inr (.inl (fun _ => 0)))), (q2, .inl (cI, 120, .inl (fun _ => 0))), (q3, .inl (cI, 10, .inl (fun _ => 0))), (q4, .inl (cI, 10, .inl (fun _ => 0))), (q5, .inl (cI, 10, .inl (fun _ => 0))), (q6, .inl (cI, 10, .inl (fun _ => 0))), (q7, .inl (cI, 10, .inl (fun _ => 0))), (q8, .inl (cI, 10, .inl (fun _ => 0))), (q9, .inl (cI, 20, .inl (fun _ => 0))), (q10, .inl (cI, 20, .inl (fun _ => 0))), (q11, .inl (cI, 10, .inl (fun _ => 0))), (q12, .inl (cI, 10, .inl (fun _ => 0))), (q13, .inl (cI, 2, .inl (fun _ => 0))), (q14, .inl (cI, 50, .inl (fun _ => 0))), (q15, .inl (cI, 50, .inl (fun _ => 0))), (q16, .inl (cI, 50, .inl (fun _ => 0))), (q17, .inl (cI, 24, .inl (fun _ => 0))), (q18, .inl (cI, 24, .inl (fun _ => 0))), (q19, .inl (cI, 24, .inl (fun _ => 0)))]) := hD
  refine lv_aload_n hx hb dX6_init_161 rfl (lv_at hl 0 rfl) ?_
  refine lv_bipush (v := 24) hx hb dX6_init_162 (by decide) ?_
  refine cn_newa (atype := .int) hx hb (hts _ ac_int) (ty := .int) rfl 0 rfl ra_int hK hP hD hS hA (N' := 24) (a0 := (24, .inl (fun _ => 0))) (fun cA => rfl) (by decide) (by decide) (Nat.le_of_ble_eq_true rfl) (Nat.le_of_ble_eq_true rfl) (Nat.le_of_ble_eq_true rfl) dX6_init_164 (fun q20 H hP hD hS => ?_)
  have hP : va_P D classes ([(h0, .inr (6, [.int 0, .int 0, .ref q1, .ref q2, .int 0, .int 0, .int 0, .int 0, .ref q3, .ref q4, .ref q5, .int 10, .ref q6, .ref q7, .ref q8, .ref q9, .ref q10, .int 0, .int 0, .int 0, .int 0, .int 0, .ref q11, .ref q12, .ref q13, .ref q14, .ref q15, .ref q16, .int 0, .int 0, .ref q17, .ref q18, .ref q19, .int 0, .null, .int 0])), (q1, .inl (cJ, 64, .inr (.inl (fun _ => 0)))), (q2, .inl (cI, 120, .inl (fun _ => 0))), (q3, .inl (cI, 10, .inl (fun _ => 0))), (q4, .inl (cI, 10, .inl (fun _ => 0))), (q5, .inl (cI, 10, .inl (fun _ => 0))), (q6, .inl (cI, 10, .inl (fun _ => 0))), (q7, .inl (cI, 10, .inl (fun _ => 0))), (q8, .inl (cI, 10, .inl (fun _ => 0))), (q9, .inl (cI, 20, .inl (fun _ => 0))), (q10, .inl (cI, 20, .inl (fun _ => 0))), (q11, .inl (cI, 10, .inl (fun _ => 0))), (q12, .inl (cI, 10, .inl (fun _ => 0))), (q13, .inl (cI, 2, .inl (fun _ => 0))), (q14, .inl (cI, 50, .inl (fun _ => 0))), (q15, .inl (cI, 50, .inl (fun _ => 0))), (q16, .inl (cI, 50, .inl (fun _ => 0))), (q17, .inl (cI, 24, .inl (fun _ => 0))), (q18, .inl (cI, 24, .inl (fun _ => 0))), (q19, .inl (cI, 24, .inl (fun _ => 0))), (q20, .inl (cI, 24, .inl (fun _ => 0)))]) H := hP
  have hD : va_D A ([(h0, .inr (6, [.int 0, .int 0, .ref q1, .ref q2, .int 0, .int 0, .int 0, .int 0, .ref q3, .ref q4, .ref q5, .int 10, .ref q6, .ref q7, .ref q8, .ref q9, .ref q10, .int 0, .int 0, .int 0, .int 0, .int 0, .ref q11, .ref q12, .ref q13, .ref q14, .ref q15, .ref q16, .int 0, .int 0, .ref q17, .ref q18, .ref q19, .int 0, .null, .int 0])), (q1, .inl (cJ, 64, .inr (.inl (fun _ => 0)))), (q2, .inl (cI, 120, .inl (fun _ => 0))), (q3, .inl (cI, 10, .inl (fun _ => 0))), (q4, .inl (cI, 10, .inl (fun _ => 0))), (q5, .inl (cI, 10, .inl (fun _ => 0))), (q6, .inl (cI, 10, .inl (fun _ => 0))), (q7, .inl (cI, 10, .inl (fun _ => 0))), (q8, .inl (cI, 10, .inl (fun _ => 0))), (q9, .inl (cI, 20, .inl (fun _ => 0))), (q10, .inl (cI, 20, .inl (fun _ => 0))), (q11, .inl (cI, 10, .inl (fun _ => 0))), (q12, .inl (cI, 10, .inl (fun _ => 0))), (q13, .inl (cI, 2, .inl (fun _ => 0))), (q14, .inl (cI, 50, .inl (fun _ => 0))), (q15, .inl (cI, 50, .inl (fun _ => 0))), (q16, .inl (cI, 50, .inl (fun _ => 0))), (q17, .inl (cI, 24, .inl (fun _ => 0))), (q18, .inl (cI, 24, .inl (fun _ => 0))), (q19, .inl (cI, 24, .inl (fun _ => 0))), (q20, .inl (cI, 24, .inl (fun _ => 0)))]) := hD
  refine va_putF (D := D) (ci := 6) (v := .ref q20) (ty := .array .int) (C := RX6) (T := TX6) (N := 36) hx hb hts itX6 tyX6 tyX6_ok nmX6 hown hK hP hD hS 0 rfl rfl 34 (by decide) (hts _ (TBm 927 (by decide +kernel) rfl)) (fun _ h9 => h9) rfl hin rfl (by decide +kernel) rfl rfl (Nat.le_of_ble_eq_true rfl) dX6_init_166 (fun H locs hP hD hS => ?_)
  have hP : va_P D classes ([(h0, .inr (6, [.int 0, .int 0, .ref q1, .ref q2, .int 0, .int 0, .int 0, .int 0, .ref q3, .ref q4, .ref q5, .int 10, .ref q6, .ref q7, .ref q8, .ref q9, .ref q10, .int 0, .int 0, .int 0, .int 0, .int 0, .ref q11, .ref q12, .ref q13, .ref q14, .ref q15, .ref q16, .int 0, .int 0, .ref q17, .ref q18, .ref q19, .int 0, .ref q20, .int 0])), (q1, .inl (cJ, 64, .inr (.inl (fun _ => 0)))), (q2, .inl (cI, 120, .inl (fun _ => 0))), (q3, .inl (cI, 10, .inl (fun _ => 0))), (q4, .inl (cI, 10, .inl (fun _ => 0))), (q5, .inl (cI, 10, .inl (fun _ => 0))), (q6, .inl (cI, 10, .inl (fun _ => 0))), (q7, .inl (cI, 10, .inl (fun _ => 0))), (q8, .inl (cI, 10, .inl (fun _ => 0))), (q9, .inl (cI, 20, .inl (fun _ => 0))), (q10, .inl (cI, 20, .inl (fun _ => 0))), (q11, .inl (cI, 10, .inl (fun _ => 0))), (q12, .inl (cI, 10, .inl (fun _ => 0))), (q13, .inl (cI, 2, .inl (fun _ => 0))), (q14, .inl (cI, 50, .inl (fun _ => 0))), (q15, .inl (cI, 50, .inl (fun _ => 0))), (q16, .inl (cI, 50, .inl (fun _ => 0))), (q17, .inl (cI, 24, .inl (fun _ => 0))), (q18, .inl (cI, 24, .inl (fun _ => 0))), (q19, .inl (cI, 24, .inl (fun _ => 0))), (q20, .inl (cI, 24, .inl (fun _ => 0)))]) H := hP
  have hD : va_D A ([(h0, .inr (6, [.int 0, .int 0, .ref q1, .ref q2, .int 0, .int 0, .int 0, .int 0, .ref q3, .ref q4, .ref q5, .int 10, .ref q6, .ref q7, .ref q8, .ref q9, .ref q10, .int 0, .int 0, .int 0, .int 0, .int 0, .ref q11, .ref q12, .ref q13, .ref q14, .ref q15, .ref q16, .int 0, .int 0, .ref q17, .ref q18, .ref q19, .int 0, .ref q20, .int 0])), (q1, .inl (cJ, 64, .inr (.inl (fun _ => 0)))), (q2, .inl (cI, 120, .inl (fun _ => 0))), (q3, .inl (cI, 10, .inl (fun _ => 0))), (q4, .inl (cI, 10, .inl (fun _ => 0))), (q5, .inl (cI, 10, .inl (fun _ => 0))), (q6, .inl (cI, 10, .inl (fun _ => 0))), (q7, .inl (cI, 10, .inl (fun _ => 0))), (q8, .inl (cI, 10, .inl (fun _ => 0))), (q9, .inl (cI, 20, .inl (fun _ => 0))), (q10, .inl (cI, 20, .inl (fun _ => 0))), (q11, .inl (cI, 10, .inl (fun _ => 0))), (q12, .inl (cI, 10, .inl (fun _ => 0))), (q13, .inl (cI, 2, .inl (fun _ => 0))), (q14, .inl (cI, 50, .inl (fun _ => 0))), (q15, .inl (cI, 50, .inl (fun _ => 0))), (q16, .inl (cI, 50, .inl (fun _ => 0))), (q17, .inl (cI, 24, .inl (fun _ => 0))), (q18, .inl (cI, 24, .inl (fun _ => 0))), (q19, .inl (cI, 24, .inl (fun _ => 0))), (q20, .inl (cI, 24, .inl (fun _ => 0)))]) := hD
  exact W.vret hx hb hr (fun t ht hW => ⟨⟨(fun k => [h0, q1, q2, q3, q4, q5, q6, q7, q8, q9, q10, q11, q12, q13, q14, q15, q16, q17, q18, q19, q20].getD k 0), rfl, rfl, by rw [ht]; exact hP, va_K.moved hW.alike hK, hD⟩, hS.F ht⟩) hS.2.2 dX6_init_169
theorem dX5_init_0 : decode cX5_init 0 = .ok (.aload_n 0, 1) := by decide +kernel
theorem dX5_init_1 : decode cX5_init 1 = .ok (.invokespecial 3, 3) := by decide +kernel
theorem dX5_init_4 : decode cX5_init 4 = .ok (.aload_n 0, 1) := by decide +kernel
theorem dX5_init_5 : decode cX5_init 5 = .ok (.new 9, 3) := by decide +kernel
theorem dX5_init_8 : decode cX5_init 8 = .ok (.dup, 1) := by decide +kernel
theorem dX5_init_9 : decode cX5_init 9 = .ok (.invokespecial 11, 3) := by decide +kernel
theorem dX5_init_12 : decode cX5_init 12 = .ok (.putfield 12, 3) := by decide +kernel
theorem dX5_init_15 : decode cX5_init 15 = .ok (.aload_n 0, 1) := by decide +kernel
theorem dX5_init_16 : decode cX5_init 16 = .ok (.new 16, 3) := by decide +kernel
theorem dX5_init_19 : decode cX5_init 19 = .ok (.dup, 1) := by decide +kernel
theorem dX5_init_20 : decode cX5_init 20 = .ok (.invokespecial 18, 3) := by decide +kernel
theorem dX5_init_23 : decode cX5_init 23 = .ok (.putfield 19, 3) := by decide +kernel
theorem dX5_init_26 : decode cX5_init 26 = .ok (.aload_n 0, 1) := by decide +kernel
theorem dX5_init_27 : decode cX5_init 27 = .ok (.new 23, 3) := by decide +kernel
theorem dX5_init_30 : decode cX5_init 30 = .ok (.dup, 1) := by decide +kernel
theorem dX5_init_31 : decode cX5_init 31 = .ok (.invokespecial 25, 3) := by decide +kernel
theorem dX5_init_34 : decode cX5_init 34 = .ok (.putfield 26, 3) := by decide +kernel
theorem dX5_init_37 : decode cX5_init 37 = .ok (.aload_n 0, 1) := by decide +kernel
theorem dX5_init_38 : decode cX5_init 38 = .ok (.new 23, 3) := by decide +kernel
theorem dX5_init_41 : decode cX5_init 41 = .ok (.dup, 1) := by decide +kernel
theorem dX5_init_42 : decode cX5_init 42 = .ok (.invokespecial 25, 3) := by decide +kernel
theorem dX5_init_45 : decode cX5_init 45 = .ok (.putfield 30, 3) := by decide +kernel
theorem dX5_init_48 : decode cX5_init 48 = .ok (.aload_n 0, 1) := by decide +kernel
theorem dX5_init_49 : decode cX5_init 49 = .ok (.new 33, 3) := by decide +kernel
theorem dX5_init_52 : decode cX5_init 52 = .ok (.dup, 1) := by decide +kernel
theorem dX5_init_53 : decode cX5_init 53 = .ok (.invokespecial 35, 3) := by decide +kernel
theorem dX5_init_56 : decode cX5_init 56 = .ok (.putfield 36, 3) := by decide +kernel
theorem dX5_init_59 : decode cX5_init 59 = .ok (.aload_n 0, 1) := by decide +kernel
theorem dX5_init_60 : decode cX5_init 60 = .ok (.new 33, 3) := by decide +kernel
theorem dX5_init_63 : decode cX5_init 63 = .ok (.dup, 1) := by decide +kernel
theorem dX5_init_64 : decode cX5_init 64 = .ok (.invokespecial 35, 3) := by decide +kernel
theorem dX5_init_67 : decode cX5_init 67 = .ok (.putfield 40, 3) := by decide +kernel
theorem dX5_init_70 : decode cX5_init 70 = .ok (.aload_n 0, 1) := by decide +kernel
theorem dX5_init_71 : decode cX5_init 71 = .ok (.new 43, 3) := by decide +kernel
theorem dX5_init_74 : decode cX5_init 74 = .ok (.dup, 1) := by decide +kernel
theorem dX5_init_75 : decode cX5_init 75 = .ok (.iconst 1, 1) := by decide +kernel
theorem dX5_init_76 : decode cX5_init 76 = .ok (.invokespecial 45, 3) := by decide +kernel
theorem dX5_init_79 : decode cX5_init 79 = .ok (.putfield 48, 3) := by decide +kernel
theorem dX5_init_82 : decode cX5_init 82 = .ok (.aload_n 0, 1) := by decide +kernel
theorem dX5_init_83 : decode cX5_init 83 = .ok (.new 43, 3) := by decide +kernel
theorem dX5_init_86 : decode cX5_init 86 = .ok (.dup, 1) := by decide +kernel
theorem dX5_init_87 : decode cX5_init 87 = .ok (.iconst (-1), 1) := by decide +kernel
theorem dX5_init_88 : decode cX5_init 88 = .ok (.invokespecial 45, 3) := by decide +kernel
theorem dX5_init_91 : decode cX5_init 91 = .ok (.putfield 52, 3) := by decide +kernel
theorem dX5_init_94 : decode cX5_init 94 = .ok (.aload_n 0, 1) := by decide +kernel
theorem dX5_init_95 : decode cX5_init 95 = .ok (.bipush 10, 2) := by decide +kernel
theorem dX5_init_97 : decode cX5_init 97 = .ok (.putfield 55, 3) := by decide +kernel
theorem dX5_init_100 : decode cX5_init 100 = .ok (.return_, 1) := by decide +kernel
abbrev fsX5 : List Value := [.null, .null, .null, .null, .null, .null, .null, .null, .int 0]
theorem dfX5 : ∀ j, j < 9 → defaultValue (tyX5 j) = vp_V fsX5 j := by
  intro j hj
  match j, hj with
  | 0, _ => rfl
  | 1, _ => rfl
  | 2, _ => rfl
  | 3, _ => rfl
  | 4, _ => rfl
  | 5, _ => rfl
  | 6, _ => rfl
  | 7, _ => rfl
  | 8, _ => rfl
  | j + 9, h => exact absurd h (by omega)
theorem CI_X5 : CI0 0 yX5_init cX5_init 1 := ⟨TBm 79 (by decide +kernel) rfl, TBm 95 (by decide +kernel) rfl, ⟨by decide, by decide, by decide +kernel⟩, rfl, TBm 94 (by decide +kernel) rfl⟩
abbrev nwX5 (f : Nat → Nat) (cI cJ cZ : ClassId) : va_W := (f 0, .inr (5, [.ref (f 1), .ref (f 3), .ref (f 5), .ref (f 10), .ref (f 15), .ref (f 20), .ref (f 25), .ref (f 39), .int 10])) :: ((((((((([] : va_W) ++ nwX3 (fun k => f (1 + k)) cI cJ cZ) ++ nwX4 (fun k => f (3 + k)) cI cJ cZ) ++ nwX1 (fun k => f (5 + k)) cI cJ cZ) ++ nwX1 (fun k => f (10 + k)) cI cJ cZ) ++ nwX0 (fun k => f (15 + k)) cI cJ cZ) ++ nwX0 (fun k => f (20 + k)) cI cJ cZ) ++ nwX2 1 (fun k => f (25 + k)) cI cJ cZ) ++ nwX2 (-1) (fun k => f (39 + k)) cI cJ cZ)
def EX5 (U : State) : Prop := va_Nw (.methodLinkNest RX5 11 yX3_init "HeatPinch") U ∧ va_Nw (.methodLinkNest RX5 18 yX4_init "HeatPinch") U ∧ va_Nw (.methodLinkNest RX5 25 yX1_init "HeatPinch") U ∧ va_Nw (.methodLinkNest RX5 35 yX0_init "HeatPinch") U
set_option maxRecDepth 20000 in
set_option maxHeartbeats 4000000 in
theorem iX5 : KI 2 yX5_init cX5_init 1 5 [] 52 821 fsX5 (nwX5) EX5 := by
  intro l D cI cJ cZ h0 sz
  refine Met.ofW (cc := cX5_init) (maxL := 1) (ret := none) (by decide) rfl ?_
  intro p e s m args below meth c s₁ B hml hv
  obtain ⟨rfl, hsz, hP, hK, hD0, hN⟩ := hv
  have hx := B.exec
  have hb := B.bytes
  have hr := B.returns
  have hts0 := atoms_spec (ws := .code yX5_init cX5_init 1 none :: TB) B.pre
  have hts : ∀ w ∈ TB, w.before (Value.ref h0 :: []).toArray s = true := fun w hw => hts0 w (List.mem_cons_of_mem _ hw)
  have hown : s.vm.findClass RX5 = some m.cls := findClass_of_methodNamed B.named
  have hlocks := B.notSynchronized
  have hin : meth.name = "<init>" := (name_of_methodNamed B.named B.method).1
  subst hsz
  have hD := hD0.self (sz := s.heap.size)
  generalize hAe : va_A [(h0, .inr (5, fsX5))] s.heap.size = A at hD ⊢
  have hA : ∀ q : Nat, s.heap.size ≤ q → A q := fun q h => by rw [← hAe]; exact Or.inr h
  have hS : va_S A s.heap s.heap [] := va_S.rf
  have hl := lv_entry (Value.ref h0 :: []) (n := 1) (Nat.le_of_ble_eq_true rfl)
  rw [lg_entry_eq]
  generalize (lg_sl (Value.ref h0 :: []) ++ List.replicate (1 - (lg_sl (Value.ref h0 :: [])).length) Slot.unset).toArray = ls at hl ⊢
  have hl : lv_has ls 1 [(0, .ref h0)] := hl
  refine lv_aload_n hx hb dX5_init_0 rfl (lv_at hl 0 rfl) ?_
  refine W.objInit hx hb hown (hts _ (TBm 96 (by decide +kernel) rfl)) (hts _ oi_m) (hts _ oi_c) rfl (by rw [hml]; exact hl.1) rfl dX5_init_1 (Nat.le_of_ble_eq_true rfl) (Nat.le_of_ble_eq_true rfl) ?_
  refine W.eq (g2 := F0 m 4 ls []) rfl ?_
  refine lv_aload_n hx hb dX5_init_4 rfl (lv_at hl 0 rfl) ?_
  refine va_new (ci := 3) (fs := fsX3) (C := RX3) (T := TX3) (N := 5) hx hb hts itX3 tyX3 tyX3_ok hown (hts _ (TBm 99 (by decide +kernel) rfl)) (hts _ (TBm 100 (by decide +kernel) rfl)) (hts _ (TBm 80 (by decide +kernel) rfl)) hK hP hD hS hA rfl dfX3 (Nat.le_of_ble_eq_true rfl) (Nat.le_of_ble_eq_true rfl) dX5_init_5 (fun q H hP hD hS => ?_)
  refine lv_dup hx hb dX5_init_8 rfl ?_
  refine cn_callN (host := "HeatPinch") (ws := (h0, .inr (5, [.null, .null, .null, .null, .null, .null, .null, .null, .int 0])) :: (([] : va_W))) (w := nwX3) (rest := [.ref q, .ref h0]) ⟨hx, hb, hml, hown, hts⟩ (iX3) (hN.1) CI_X3 ⟨Nat.le_of_ble_eq_true rfl, Nat.le_of_ble_eq_true rfl⟩ ⟨Nat.le_of_ble_eq_true rfl, Nat.le_of_ble_eq_true rfl⟩ hK hP hD hS hA (fun _ _ _ h9 => h9) (fun _ _ => trivial) rfl hl.1 rfl (Nat.le_of_ble_eq_true rfl) dX5_init_9 (fun f0 H locs hf hP hD hS => ?_)
  rw [← hf]
  refine va_putF (D := D) (ci := 5) (v := .ref (f0 0)) (ty := .object "HeatPinch$Text") (C := RX5) (T := TX5) (N := 9) hx hb hts itX5 tyX5 tyX5_ok nmX5 hown hK hP hD hS 0 rfl rfl 0 (by decide) (hts _ (TBm 277 (by decide +kernel) rfl)) (fun _ h9 => h9) rfl hin rfl (by decide +kernel) rfl rfl (Nat.le_of_ble_eq_true rfl) dX5_init_12 (fun H locs hP hD hS => ?_)
  have hP : va_P D classes ((h0, .inr (5, [.ref (f0 0), .null, .null, .null, .null, .null, .null, .null, .int 0])) :: ((([] : va_W) ++ nwX3 f0 cI cJ cZ))) H := hP
  have hD : va_D A ((h0, .inr (5, [.ref (f0 0), .null, .null, .null, .null, .null, .null, .null, .int 0])) :: ((([] : va_W) ++ nwX3 f0 cI cJ cZ))) := hD
  refine lv_aload_n hx hb dX5_init_15 rfl (lv_at hl 0 rfl) ?_
  refine va_new (ci := 4) (fs := fsX4) (C := RX4) (T := TX4) (N := 2) hx hb hts itX4 tyX4 tyX4_ok hown (hts _ (TBm 123 (by decide +kernel) rfl)) (hts _ (TBm 124 (by decide +kernel) rfl)) (hts _ (TBm 81 (by decide +kernel) rfl)) hK hP hD hS hA rfl dfX4 (Nat.le_of_ble_eq_true rfl) (Nat.le_of_ble_eq_true rfl) dX5_init_16 (fun q H hP hD hS => ?_)
  refine lv_dup hx hb dX5_init_19 rfl ?_
  refine cn_callN (host := "HeatPinch") (ws := (h0, .inr (5, [.ref (f0 0), .null, .null, .null, .null, .null, .null, .null, .int 0])) :: ((([] : va_W) ++ nwX3 f0 cI cJ cZ))) (w := nwX4) (rest := [.ref q, .ref h0]) ⟨hx, hb, hml, hown, hts⟩ (iX4) (hN.2.1) CI_X4 ⟨Nat.le_of_ble_eq_true rfl, Nat.le_of_ble_eq_true rfl⟩ ⟨Nat.le_of_ble_eq_true rfl, Nat.le_of_ble_eq_true rfl⟩ hK hP hD hS hA (fun _ _ _ h9 => h9) (fun _ _ => trivial) rfl hl.1 rfl (Nat.le_of_ble_eq_true rfl) dX5_init_20 (fun f1 H locs hf hP hD hS => ?_)
  rw [← hf]
  refine va_putF (D := D) (ci := 5) (v := .ref (f1 0)) (ty := .object "HeatPinch$Told") (C := RX5) (T := TX5) (N := 9) hx hb hts itX5 tyX5 tyX5_ok nmX5 hown hK hP hD hS 0 rfl rfl 1 (by decide) (hts _ (TBm 278 (by decide +kernel) rfl)) (fun _ h9 => h9) rfl hin rfl (by decide +kernel) rfl rfl (Nat.le_of_ble_eq_true rfl) dX5_init_23 (fun H locs hP hD hS => ?_)
  have hP : va_P D classes ((h0, .inr (5, [.ref (f0 0), .ref (f1 0), .null, .null, .null, .null, .null, .null, .int 0])) :: (((([] : va_W) ++ nwX3 f0 cI cJ cZ) ++ nwX4 f1 cI cJ cZ))) H := hP
  have hD : va_D A ((h0, .inr (5, [.ref (f0 0), .ref (f1 0), .null, .null, .null, .null, .null, .null, .int 0])) :: (((([] : va_W) ++ nwX3 f0 cI cJ cZ) ++ nwX4 f1 cI cJ cZ))) := hD
  refine lv_aload_n hx hb dX5_init_26 rfl (lv_at hl 0 rfl) ?_
  refine va_new (ci := 1) (fs := fsX1) (C := RX1) (T := TX1) (N := 5) hx hb hts itX1 tyX1 tyX1_ok hown (hts _ (TBm 139 (by decide +kernel) rfl)) (hts _ (TBm 140 (by decide +kernel) rfl)) (hts _ (TBm 82 (by decide +kernel) rfl)) hK hP hD hS hA rfl dfX1 (Nat.le_of_ble_eq_true rfl) (Nat.le_of_ble_eq_true rfl) dX5_init_27 (fun q H hP hD hS => ?_)
  refine lv_dup hx hb dX5_init_30 rfl ?_
  refine cn_callN (host := "HeatPinch") (ws := (h0, .inr (5, [.ref (f0 0), .ref (f1 0), .null, .null, .null, .null, .null, .null, .int 0])) :: (((([] : va_W) ++ nwX3 f0 cI cJ cZ) ++ nwX4 f1 cI cJ cZ))) (w := nwX1) (rest := [.ref q, .ref h0]) ⟨hx, hb, hml, hown, hts⟩ (iX1) (hN.2.2.1) CI_X1 ⟨Nat.le_of_ble_eq_true rfl, Nat.le_of_ble_eq_true rfl⟩ ⟨Nat.le_of_ble_eq_true rfl, Nat.le_of_ble_eq_true rfl⟩ hK hP hD hS hA (fun _ _ _ h9 => h9) (fun _ _ => trivial) rfl hl.1 rfl (Nat.le_of_ble_eq_true rfl) dX5_init_31 (fun f2 H locs hf hP hD hS => ?_)
  rw [← hf]
  refine va_putF (D := D) (ci := 5) (v := .ref (f2 0)) (ty := .object "HeatPinch$Plant") (C := RX5) (T := TX5) (N := 9) hx hb hts itX5 tyX5 tyX5_ok nmX5 hown hK hP hD hS 0 rfl rfl 2 (by decide) (hts _ (TBm 279 (by decide +kernel) rfl)) (fun _ h9 => h9) rfl hin rfl (by decide +kernel) rfl rfl (Nat.le_of_ble_eq_true rfl) dX5_init_34 (fun H locs hP hD hS => ?_)
  have hP : va_P D classes ((h0, .inr (5, [.ref (f0 0), .ref (f1 0), .ref (f2 0), .null, .null, .null, .null, .null, .int 0])) :: ((((([] : va_W) ++ nwX3 f0 cI cJ cZ) ++ nwX4 f1 cI cJ cZ) ++ nwX1 f2 cI cJ cZ))) H := hP
  have hD : va_D A ((h0, .inr (5, [.ref (f0 0), .ref (f1 0), .ref (f2 0), .null, .null, .null, .null, .null, .int 0])) :: ((((([] : va_W) ++ nwX3 f0 cI cJ cZ) ++ nwX4 f1 cI cJ cZ) ++ nwX1 f2 cI cJ cZ))) := hD
  refine lv_aload_n hx hb dX5_init_37 rfl (lv_at hl 0 rfl) ?_
  refine va_new (ci := 1) (fs := fsX1) (C := RX1) (T := TX1) (N := 5) hx hb hts itX1 tyX1 tyX1_ok hown (hts _ (TBm 139 (by decide +kernel) rfl)) (hts _ (TBm 140 (by decide +kernel) rfl)) (hts _ (TBm 82 (by decide +kernel) rfl)) hK hP hD hS hA rfl dfX1 (Nat.le_of_ble_eq_true rfl) (Nat.le_of_ble_eq_true rfl) dX5_init_38 (fun q H hP hD hS => ?_)
  refine lv_dup hx hb dX5_init_41 rfl ?_
  refine cn_callN (host := "HeatPinch") (ws := (h0, .inr (5, [.ref (f0 0), .ref (f1 0), .ref (f2 0), .null, .null, .null, .null, .null, .int 0])) :: ((((([] : va_W) ++ nwX3 f0 cI cJ cZ) ++ nwX4 f1 cI cJ cZ) ++ nwX1 f2 cI cJ cZ))) (w := nwX1) (rest := [.ref q, .ref h0]) ⟨hx, hb, hml, hown, hts⟩ (iX1) (hN.2.2.1) CI_X1 ⟨Nat.le_of_ble_eq_true rfl, Nat.le_of_ble_eq_true rfl⟩ ⟨Nat.le_of_ble_eq_true rfl, Nat.le_of_ble_eq_true rfl⟩ hK hP hD hS hA (fun _ _ _ h9 => h9) (fun _ _ => trivial) rfl hl.1 rfl (Nat.le_of_ble_eq_true rfl) dX5_init_42 (fun f3 H locs hf hP hD hS => ?_)
  rw [← hf]
  refine va_putF (D := D) (ci := 5) (v := .ref (f3 0)) (ty := .object "HeatPinch$Plant") (C := RX5) (T := TX5) (N := 9) hx hb hts itX5 tyX5 tyX5_ok nmX5 hown hK hP hD hS 0 rfl rfl 3 (by decide) (hts _ (TBm 280 (by decide +kernel) rfl)) (fun _ h9 => h9) rfl hin rfl (by decide +kernel) rfl rfl (Nat.le_of_ble_eq_true rfl) dX5_init_45 (fun H locs hP hD hS => ?_)
  have hP : va_P D classes ((h0, .inr (5, [.ref (f0 0), .ref (f1 0), .ref (f2 0), .ref (f3 0), .null, .null, .null, .null, .int 0])) :: (((((([] : va_W) ++ nwX3 f0 cI cJ cZ) ++ nwX4 f1 cI cJ cZ) ++ nwX1 f2 cI cJ cZ) ++ nwX1 f3 cI cJ cZ))) H := hP
  have hD : va_D A ((h0, .inr (5, [.ref (f0 0), .ref (f1 0), .ref (f2 0), .ref (f3 0), .null, .null, .null, .null, .int 0])) :: (((((([] : va_W) ++ nwX3 f0 cI cJ cZ) ++ nwX4 f1 cI cJ cZ) ++ nwX1 f2 cI cJ cZ) ++ nwX1 f3 cI cJ cZ))) := hD
  refine lv_aload_n hx hb dX5_init_48 rfl (lv_at hl 0 rfl) ?_
  refine va_new (ci := 0) (fs := fsX0) (C := RX0) (T := TX0) (N := 6) hx hb hts itX0 tyX0 tyX0_ok hown (hts _ (TBm 174 (by decide +kernel) rfl)) (hts _ (TBm 175 (by decide +kernel) rfl)) (hts _ (TBm 83 (by decide +kernel) rfl)) hK hP hD hS hA rfl dfX0 (Nat.le_of_ble_eq_true rfl) (Nat.le_of_ble_eq_true rfl) dX5_init_49 (fun q H hP hD hS => ?_)
  refine lv_dup hx hb dX5_init_52 rfl ?_
  refine cn_callN (host := "HeatPinch") (ws := (h0, .inr (5, [.ref (f0 0), .ref (f1 0), .ref (f2 0), .ref (f3 0), .null, .null, .null, .null, .int 0])) :: (((((([] : va_W) ++ nwX3 f0 cI cJ cZ) ++ nwX4 f1 cI cJ cZ) ++ nwX1 f2 cI cJ cZ) ++ nwX1 f3 cI cJ cZ))) (w := nwX0) (rest := [.ref q, .ref h0]) ⟨hx, hb, hml, hown, hts⟩ (iX0) (hN.2.2.2) CI_X0 ⟨Nat.le_of_ble_eq_true rfl, Nat.le_of_ble_eq_true rfl⟩ ⟨Nat.le_of_ble_eq_true rfl, Nat.le_of_ble_eq_true rfl⟩ hK hP hD hS hA (fun _ _ _ h9 => h9) (fun _ _ => trivial) rfl hl.1 rfl (Nat.le_of_ble_eq_true rfl) dX5_init_53 (fun f4 H locs hf hP hD hS => ?_)
  rw [← hf]
  refine va_putF (D := D) (ci := 5) (v := .ref (f4 0)) (ty := .object "HeatPinch$Cascade") (C := RX5) (T := TX5) (N := 9) hx hb hts itX5 tyX5 tyX5_ok nmX5 hown hK hP hD hS 0 rfl rfl 4 (by decide) (hts _ (TBm 281 (by decide +kernel) rfl)) (fun _ h9 => h9) rfl hin rfl (by decide +kernel) rfl rfl (Nat.le_of_ble_eq_true rfl) dX5_init_56 (fun H locs hP hD hS => ?_)
  have hP : va_P D classes ((h0, .inr (5, [.ref (f0 0), .ref (f1 0), .ref (f2 0), .ref (f3 0), .ref (f4 0), .null, .null, .null, .int 0])) :: ((((((([] : va_W) ++ nwX3 f0 cI cJ cZ) ++ nwX4 f1 cI cJ cZ) ++ nwX1 f2 cI cJ cZ) ++ nwX1 f3 cI cJ cZ) ++ nwX0 f4 cI cJ cZ))) H := hP
  have hD : va_D A ((h0, .inr (5, [.ref (f0 0), .ref (f1 0), .ref (f2 0), .ref (f3 0), .ref (f4 0), .null, .null, .null, .int 0])) :: ((((((([] : va_W) ++ nwX3 f0 cI cJ cZ) ++ nwX4 f1 cI cJ cZ) ++ nwX1 f2 cI cJ cZ) ++ nwX1 f3 cI cJ cZ) ++ nwX0 f4 cI cJ cZ))) := hD
  refine lv_aload_n hx hb dX5_init_59 rfl (lv_at hl 0 rfl) ?_
  refine va_new (ci := 0) (fs := fsX0) (C := RX0) (T := TX0) (N := 6) hx hb hts itX0 tyX0 tyX0_ok hown (hts _ (TBm 174 (by decide +kernel) rfl)) (hts _ (TBm 175 (by decide +kernel) rfl)) (hts _ (TBm 83 (by decide +kernel) rfl)) hK hP hD hS hA rfl dfX0 (Nat.le_of_ble_eq_true rfl) (Nat.le_of_ble_eq_true rfl) dX5_init_60 (fun q H hP hD hS => ?_)
  refine lv_dup hx hb dX5_init_63 rfl ?_
  refine cn_callN (host := "HeatPinch") (ws := (h0, .inr (5, [.ref (f0 0), .ref (f1 0), .ref (f2 0), .ref (f3 0), .ref (f4 0), .null, .null, .null, .int 0])) :: ((((((([] : va_W) ++ nwX3 f0 cI cJ cZ) ++ nwX4 f1 cI cJ cZ) ++ nwX1 f2 cI cJ cZ) ++ nwX1 f3 cI cJ cZ) ++ nwX0 f4 cI cJ cZ))) (w := nwX0) (rest := [.ref q, .ref h0]) ⟨hx, hb, hml, hown, hts⟩ (iX0) (hN.2.2.2) CI_X0 ⟨Nat.le_of_ble_eq_true rfl, Nat.le_of_ble_eq_true rfl⟩ ⟨Nat.le_of_ble_eq_true rfl, Nat.le_of_ble_eq_true rfl⟩ hK hP hD hS hA (fun _ _ _ h9 => h9) (fun _ _ => trivial) rfl hl.1 rfl (Nat.le_of_ble_eq_true rfl) dX5_init_64 (fun f5 H locs hf hP hD hS => ?_)
  rw [← hf]
  refine va_putF (D := D) (ci := 5) (v := .ref (f5 0)) (ty := .object "HeatPinch$Cascade") (C := RX5) (T := TX5) (N := 9) hx hb hts itX5 tyX5 tyX5_ok nmX5 hown hK hP hD hS 0 rfl rfl 5 (by decide) (hts _ (TBm 282 (by decide +kernel) rfl)) (fun _ h9 => h9) rfl hin rfl (by decide +kernel) rfl rfl (Nat.le_of_ble_eq_true rfl) dX5_init_67 (fun H locs hP hD hS => ?_)
  have hP : va_P D classes ((h0, .inr (5, [.ref (f0 0), .ref (f1 0), .ref (f2 0), .ref (f3 0), .ref (f4 0), .ref (f5 0), .null, .null, .int 0])) :: (((((((([] : va_W) ++ nwX3 f0 cI cJ cZ) ++ nwX4 f1 cI cJ cZ) ++ nwX1 f2 cI cJ cZ) ++ nwX1 f3 cI cJ cZ) ++ nwX0 f4 cI cJ cZ) ++ nwX0 f5 cI cJ cZ))) H := hP
  have hD : va_D A ((h0, .inr (5, [.ref (f0 0), .ref (f1 0), .ref (f2 0), .ref (f3 0), .ref (f4 0), .ref (f5 0), .null, .null, .int 0])) :: (((((((([] : va_W) ++ nwX3 f0 cI cJ cZ) ++ nwX4 f1 cI cJ cZ) ++ nwX1 f2 cI cJ cZ) ++ nwX1 f3 cI cJ cZ) ++ nwX0 f4 cI cJ cZ) ++ nwX0 f5 cI cJ cZ))) := hD
  refine lv_aload_n hx hb dX5_init_70 rfl (lv_at hl 0 rfl) ?_
  refine va_new (ci := 2) (fs := fsX2) (C := RX2) (T := TX2) (N := 18) hx hb hts itX2 tyX2 tyX2_ok hown (hts _ (TBm 205 (by decide +kernel) rfl)) (hts _ (TBm 206 (by decide +kernel) rfl)) (hts _ (TBm 84 (by decide +kernel) rfl)) hK hP hD hS hA rfl dfX2 (Nat.le_of_ble_eq_true rfl) (Nat.le_of_ble_eq_true rfl) dX5_init_71 (fun q H hP hD hS => ?_)
  refine lv_dup hx hb dX5_init_74 rfl ?_
  refine lv_iconst (v := 1) hx hb dX5_init_75 (by decide) ?_
  refine cn_callI (ws := (h0, .inr (5, [.ref (f0 0), .ref (f1 0), .ref (f2 0), .ref (f3 0), .ref (f4 0), .ref (f5 0), .null, .null, .int 0])) :: (((((((([] : va_W) ++ nwX3 f0 cI cJ cZ) ++ nwX4 f1 cI cJ cZ) ++ nwX1 f2 cI cJ cZ) ++ nwX1 f3 cI cJ cZ) ++ nwX0 f4 cI cJ cZ) ++ nwX0 f5 cI cJ cZ))) (w := nwX2 1) (rest := [.ref q, .ref h0]) ⟨hx, hb, hml, hown, hts⟩ (iX2 1) (TBm 207 (by decide +kernel) rfl) CI_X2 ⟨Nat.le_of_ble_eq_true rfl, Nat.le_of_ble_eq_true rfl⟩ ⟨Nat.le_of_ble_eq_true rfl, Nat.le_of_ble_eq_true rfl⟩ hK hP hD hS hA (fun _ _ _ h9 => h9) (fun _ _ => trivial) rfl hl.1 rfl (Nat.le_of_ble_eq_true rfl) dX5_init_76 (fun f6 H locs hf hP hD hS => ?_)
  rw [← hf]
  refine va_putF (D := D) (ci := 5) (v := .ref (f6 0)) (ty := .object "HeatPinch$Side") (C := RX5) (T := TX5) (N := 9) hx hb hts itX5 tyX5 tyX5_ok nmX5 hown hK hP hD hS 0 rfl rfl 6 (by decide) (hts _ (TBm 283 (by decide +kernel) rfl)) (fun _ h9 => h9) rfl hin rfl (by decide +kernel) rfl rfl (Nat.le_of_ble_eq_true rfl) dX5_init_79 (fun H locs hP hD hS => ?_)
  have hP : va_P D classes ((h0, .inr (5, [.ref (f0 0), .ref (f1 0), .ref (f2 0), .ref (f3 0), .ref (f4 0), .ref (f5 0), .ref (f6 0), .null, .int 0])) :: ((((((((([] : va_W) ++ nwX3 f0 cI cJ cZ) ++ nwX4 f1 cI cJ cZ) ++ nwX1 f2 cI cJ cZ) ++ nwX1 f3 cI cJ cZ) ++ nwX0 f4 cI cJ cZ) ++ nwX0 f5 cI cJ cZ) ++ nwX2 1 f6 cI cJ cZ))) H := hP
  have hD : va_D A ((h0, .inr (5, [.ref (f0 0), .ref (f1 0), .ref (f2 0), .ref (f3 0), .ref (f4 0), .ref (f5 0), .ref (f6 0), .null, .int 0])) :: ((((((((([] : va_W) ++ nwX3 f0 cI cJ cZ) ++ nwX4 f1 cI cJ cZ) ++ nwX1 f2 cI cJ cZ) ++ nwX1 f3 cI cJ cZ) ++ nwX0 f4 cI cJ cZ) ++ nwX0 f5 cI cJ cZ) ++ nwX2 1 f6 cI cJ cZ))) := hD
  refine lv_aload_n hx hb dX5_init_82 rfl (lv_at hl 0 rfl) ?_
  refine va_new (ci := 2) (fs := fsX2) (C := RX2) (T := TX2) (N := 18) hx hb hts itX2 tyX2 tyX2_ok hown (hts _ (TBm 205 (by decide +kernel) rfl)) (hts _ (TBm 206 (by decide +kernel) rfl)) (hts _ (TBm 84 (by decide +kernel) rfl)) hK hP hD hS hA rfl dfX2 (Nat.le_of_ble_eq_true rfl) (Nat.le_of_ble_eq_true rfl) dX5_init_83 (fun q H hP hD hS => ?_)
  refine lv_dup hx hb dX5_init_86 rfl ?_
  refine lv_iconst (v := (-1)) hx hb dX5_init_87 (by decide) ?_
  refine cn_callI (ws := (h0, .inr (5, [.ref (f0 0), .ref (f1 0), .ref (f2 0), .ref (f3 0), .ref (f4 0), .ref (f5 0), .ref (f6 0), .null, .int 0])) :: ((((((((([] : va_W) ++ nwX3 f0 cI cJ cZ) ++ nwX4 f1 cI cJ cZ) ++ nwX1 f2 cI cJ cZ) ++ nwX1 f3 cI cJ cZ) ++ nwX0 f4 cI cJ cZ) ++ nwX0 f5 cI cJ cZ) ++ nwX2 1 f6 cI cJ cZ))) (w := nwX2 (-1)) (rest := [.ref q, .ref h0]) ⟨hx, hb, hml, hown, hts⟩ (iX2 (-1)) (TBm 207 (by decide +kernel) rfl) CI_X2 ⟨Nat.le_of_ble_eq_true rfl, Nat.le_of_ble_eq_true rfl⟩ ⟨Nat.le_of_ble_eq_true rfl, Nat.le_of_ble_eq_true rfl⟩ hK hP hD hS hA (fun _ _ _ h9 => h9) (fun _ _ => trivial) rfl hl.1 rfl (Nat.le_of_ble_eq_true rfl) dX5_init_88 (fun f7 H locs hf hP hD hS => ?_)
  rw [← hf]
  refine va_putF (D := D) (ci := 5) (v := .ref (f7 0)) (ty := .object "HeatPinch$Side") (C := RX5) (T := TX5) (N := 9) hx hb hts itX5 tyX5 tyX5_ok nmX5 hown hK hP hD hS 0 rfl rfl 7 (by decide) (hts _ (TBm 284 (by decide +kernel) rfl)) (fun _ h9 => h9) rfl hin rfl (by decide +kernel) rfl rfl (Nat.le_of_ble_eq_true rfl) dX5_init_91 (fun H locs hP hD hS => ?_)
  have hP : va_P D classes ((h0, .inr (5, [.ref (f0 0), .ref (f1 0), .ref (f2 0), .ref (f3 0), .ref (f4 0), .ref (f5 0), .ref (f6 0), .ref (f7 0), .int 0])) :: (((((((((([] : va_W) ++ nwX3 f0 cI cJ cZ) ++ nwX4 f1 cI cJ cZ) ++ nwX1 f2 cI cJ cZ) ++ nwX1 f3 cI cJ cZ) ++ nwX0 f4 cI cJ cZ) ++ nwX0 f5 cI cJ cZ) ++ nwX2 1 f6 cI cJ cZ) ++ nwX2 (-1) f7 cI cJ cZ))) H := hP
  have hD : va_D A ((h0, .inr (5, [.ref (f0 0), .ref (f1 0), .ref (f2 0), .ref (f3 0), .ref (f4 0), .ref (f5 0), .ref (f6 0), .ref (f7 0), .int 0])) :: (((((((((([] : va_W) ++ nwX3 f0 cI cJ cZ) ++ nwX4 f1 cI cJ cZ) ++ nwX1 f2 cI cJ cZ) ++ nwX1 f3 cI cJ cZ) ++ nwX0 f4 cI cJ cZ) ++ nwX0 f5 cI cJ cZ) ++ nwX2 1 f6 cI cJ cZ) ++ nwX2 (-1) f7 cI cJ cZ))) := hD
  refine lv_aload_n hx hb dX5_init_94 rfl (lv_at hl 0 rfl) ?_
  refine lv_bipush (v := 10) hx hb dX5_init_95 (by decide) ?_
  refine va_put (D := D) (ci := 5) (v := .int 10) (ty := .int) (C := RX5) (T := TX5) (N := 9) hx hb hts itX5 tyX5 tyX5_ok nmX5 hown hK hP hD hS 0 rfl rfl 8 (by decide) (hts _ (TBm 285 (by decide +kernel) rfl)) (fun _ h9 => h9) rfl (by decide +kernel) rfl rfl (Nat.le_of_ble_eq_true rfl) dX5_init_97 (fun H locs hP hD hS => ?_)
  have hP : va_P D classes ((h0, .inr (5, [.ref (f0 0), .ref (f1 0), .ref (f2 0), .ref (f3 0), .ref (f4 0), .ref (f5 0), .ref (f6 0), .ref (f7 0), .int 10])) :: (((((((((([] : va_W) ++ nwX3 f0 cI cJ cZ) ++ nwX4 f1 cI cJ cZ) ++ nwX1 f2 cI cJ cZ) ++ nwX1 f3 cI cJ cZ) ++ nwX0 f4 cI cJ cZ) ++ nwX0 f5 cI cJ cZ) ++ nwX2 1 f6 cI cJ cZ) ++ nwX2 (-1) f7 cI cJ cZ))) H := hP
  have hD : va_D A ((h0, .inr (5, [.ref (f0 0), .ref (f1 0), .ref (f2 0), .ref (f3 0), .ref (f4 0), .ref (f5 0), .ref (f6 0), .ref (f7 0), .int 10])) :: (((((((((([] : va_W) ++ nwX3 f0 cI cJ cZ) ++ nwX4 f1 cI cJ cZ) ++ nwX1 f2 cI cJ cZ) ++ nwX1 f3 cI cJ cZ) ++ nwX0 f4 cI cJ cZ) ++ nwX0 f5 cI cJ cZ) ++ nwX2 1 f6 cI cJ cZ) ++ nwX2 (-1) f7 cI cJ cZ))) := hD
  exact W.vret hx hb hr (fun t ht hW => ⟨⟨(fun k => [h0, f0 0, f0 1, f1 0, f1 1, f2 0, f2 1, f2 2, f2 3, f2 4, f3 0, f3 1, f3 2, f3 3, f3 4, f4 0, f4 1, f4 2, f4 3, f4 4, f5 0, f5 1, f5 2, f5 3, f5 4, f6 0, f6 1, f6 2, f6 3, f6 4, f6 5, f6 6, f6 7, f6 8, f6 9, f6 10, f6 11, f6 12, f6 13, f7 0, f7 1, f7 2, f7 3, f7 4, f7 5, f7 6, f7 7, f7 8, f7 9, f7 10, f7 11, f7 12, f7 13].getD k 0), rfl, rfl, by rw [ht]; exact hP, va_K.moved hW.alike hK, hD⟩, hS.F ht⟩) hS.2.2 dX5_init_100
