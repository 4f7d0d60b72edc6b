/-! the law, from its entry -/
theorem xNw_in : ∀ w ∈ xNw, w ∈ lw_tbl := by decide +kernel
theorem ex_start {b : Nat} {s : State} (hts : ∀ w ∈ lw_tbl, w.before #[Value.ref b] s = true) (hgv : (Jvm.Cond.and given_1 narrow_1).before #[Value.ref b] s = true) : EX (fun q : Nat => s.heap.size ≤ q) s s.heap := by
  have hs := flat_of_before _ hgv
  have hA : ∀ a : Nat, a < s.heap.size → ¬ (fun q : Nat => s.heap.size ≤ q) a := fun a h => Nat.not_le.mpr h
  have hini : (Cond.initialized Bundle.tN).before #[Value.ref b] s = true := hts _ (List.mem_of_getElem? (i := 87) (by decide +kernel))
  refine ⟨vx_Zqof (hts _ (List.mem_of_getElem? (i := 802) (by decide +kernel))) hini (hs _ (by decide +kernel)) hA, vx_Zqof (hts _ (List.mem_of_getElem? (i := 804) (by decide +kernel))) hini (hs _ (by decide +kernel)) hA, ?_, fun w hw => va_Nw.of (xTb w hw) (hts w (xNw_in w hw))⟩
  intro q hq
  have key : ∀ (k : Nat) (tx : String), Cond.stringRef RX5 k tx ∈ lw_tbl → Cond.exactly (.string RX5 k) "java/lang/String" ∈ flatC (Jvm.Cond.and given_1 narrow_1) → ∃ sa, vk_R RX5 k tx sa s := fun k tx h1 h2 => by
    obtain ⟨a, c, cA, kA, q1, -⟩ := Cond.exactly_spec (args := #[Value.ref b]) (first := s) (o := none) (s := s) (idx := []) (hs _ h2)
    exact ⟨a, vk_R.of (hts _ h1) q1⟩
  simp only [strs, List.mem_cons, List.not_mem_nil, or_false] at hq
  rcases hq with rfl | rfl | rfl | rfl
  · exact key _ _ (List.mem_of_getElem? (i := 814) (by decide +kernel)) (by decide +kernel)
  · exact key _ _ (List.mem_of_getElem? (i := 852) (by decide +kernel)) (by decide +kernel)
  · exact key _ _ (List.mem_of_getElem? (i := 861) (by decide +kernel)) (by decide +kernel)
  · exact key _ _ (List.mem_of_getElem? (i := 871) (by decide +kernel)) (by decide +kernel)
theorem kn_start {b : Nat} {s : State} (hts : ∀ w ∈ lw_tbl, w.before #[Value.ref b] s = true) : ∃ (D : va_G) (cI cJ cZ : ClassId), va_K D classes (tys cI cJ cZ) s := by
  obtain ⟨c0, s0, hK0⟩ := u_known (C := RX0) (T := TX0) (N := 6) (n := 6) hts inX0 (hts (.instantiable RX0 6) (List.mem_of_getElem? (i := 175) (by decide +kernel)))
  obtain ⟨c1, s1, hK1⟩ := u_known (C := RX1) (T := TX1) (N := 5) (n := 5) hts inX1 (hts (.instantiable RX1 5) (List.mem_of_getElem? (i := 140) (by decide +kernel)))
  obtain ⟨c2, s2, hK2⟩ := u_known (C := RX2) (T := TX2) (N := 18) (n := 18) hts inX2 (hts (.instantiable RX2 18) (List.mem_of_getElem? (i := 206) (by decide +kernel)))
  obtain ⟨c3, s3, hK3⟩ := u_known (C := RX3) (T := TX3) (N := 5) (n := 5) hts inX3 (hts (.instantiable RX3 5) (List.mem_of_getElem? (i := 100) (by decide +kernel)))
  obtain ⟨c4, s4, hK4⟩ := u_known (C := RX4) (T := TX4) (N := 2) (n := 2) hts inX4 (hts (.instantiable RX4 2) (List.mem_of_getElem? (i := 124) (by decide +kernel)))
  obtain ⟨c5, s5, hK5⟩ := u_known (C := RX5) (T := TX5) (N := 9) (n := 9) hts inX5 (hts (.instantiable RX5 9) (List.mem_of_getElem? (i := 92) (by decide +kernel)))
  obtain ⟨c6, s6, hK6⟩ := u_known (C := RX6) (T := TX6) (N := 36) (n := 36) hts inX6 (hts (.instantiable RX6 36) (List.mem_of_getElem? (i := 888) (by decide +kernel)))
  have aT : ∀ {ty : FieldType} {cA comp : ClassId} {kA : Class}, s.vm.classes[cA]? = some kA → kA.kind = .array comp ty → ArrOfT s cA ty := fun h2 h3 n z => ⟨fun k h => (by cases h), _, h2, _, h3⟩
  obtain ⟨cI, kI, pI, i1, i2, i3⟩ := Cond.arrayClass_spec (hts _ (List.mem_filter.mp ac_int).1)
  obtain ⟨cJ, kJ, pJ, j1, j2, j3⟩ := Cond.arrayClass_spec (hts _ (List.mem_filter.mp ac_long).1)
  obtain ⟨cZ, kZ, pZ, z1, z2, z3⟩ := Cond.arrayClass_spec (hts _ (List.mem_filter.mp ac_boolean).1)
  refine ⟨(fun k => match k with | 0 => c0 | 1 => c1 | 2 => c2 | 3 => c3 | 4 => c4 | 5 => c5 | _ => c6, fun k => match k with | 0 => s0 | 1 => s1 | 2 => s2 | 3 => s3 | 4 => s4 | 5 => s5 | _ => s6), cI, cJ, cZ, ?_, ?_⟩
  · intro k q hq
    match k, hq with
    | 0, hq => cases hq; exact hK0
    | 1, hq => cases hq; exact hK1
    | 2, hq => cases hq; exact hK2
    | 3, hq => cases hq; exact hK3
    | 4, hq => cases hq; exact hK4
    | 5, hq => cases hq; exact hK5
    | 6, hq => cases hq; exact hK6
    | k + 7, hq => simp [classes] at hq
  · intro k q hq
    match k, hq with
    | 0, hq => cases hq; exact ⟨aT i2 i3, i1⟩
    | 1, hq => cases hq; exact ⟨aT j2 j3, j1⟩
    | 2, hq => cases hq; exact ⟨aT z2 z3, z1⟩
    | k + 3, hq => simp at hq
set_option maxHeartbeats 4000000 in
set_option maxRecDepth 100000 in
/-- from the entry, for every script of at most 2560 ints, the law comes to its end with true -/
theorem whole_start {p : Program} {e : Env} {s : State} {m : MethodId} {below : List Frame} {meth : Method} {c : Code} (l : Launch) (hflags : l.flags = flags0) {b L : Nat} {xs : Nat → Int32} (hL : L ≤ 2560) (C0 : lw_At p s m meth c b L xs) : W p l e room_1 s m #[Value.ref b] below meth c s.heap [] 0 0 (lw_Z below #[Value.ref b] s) (entryFrame m ([Value.ref b] : List Value).toArray 8) := by
  obtain ⟨hx, hb, hr, hml, hown, hts, hX, hbl, hlocks, hgv⟩ := id C0
  have htr : l.stackTraces = false := by
    unfold Launch.stackTraces
    rw [hflags]
    decide +kernel
  have htB : ∀ w ∈ TB, w.before #[Value.ref b] s = true := fun w hw => hts w (List.mem_filter.mp hw).1
  have hE := ex_start hts hgv
  obtain ⟨D, cI, cJ, cZ, hK⟩ := kn_start hts
  have hNW : va_Nw NW s := va_Nw.of rfl (hts _ (List.mem_of_getElem? (i := 531) (by decide +kernel)))
  have hEm : ∀ U U' : State, U.vm = U'.vm → EX5 U → EX5 U' := fun U U' h q => ⟨va_Nw.same rfl h q.1, va_Nw.same rfl h q.2.1, va_Nw.same rfl h q.2.2.1, va_Nw.same rfl h q.2.2.2⟩
  have hEs : ∀ U : State, s.WarmedH U.vm → EX5 U := fun U hW => ⟨va_Nw.warmM hW (va_Nw.of rfl (hts _ (List.mem_of_getElem? (i := 101) (by decide +kernel)))), va_Nw.warmM hW (va_Nw.of rfl (hts _ (List.mem_of_getElem? (i := 125) (by decide +kernel)))), va_Nw.warmM hW (va_Nw.of rfl (hts _ (List.mem_of_getElem? (i := 141) (by decide +kernel)))), va_Nw.warmM hW (va_Nw.of rfl (hts _ (List.mem_of_getElem? (i := 176) (by decide +kernel))))⟩
  have hA : ∀ q : Nat, s.heap.size ≤ q → (fun q : Nat => s.heap.size ≤ q) q := fun _ h => h
  have hS : va_S (fun q : Nat => s.heap.size ≤ q) s.heap s.heap [] := va_S.rf
  have hP : va_P D classes [] s.heap := fun k q h => by simp at h
  have hD : va_D (fun q : Nat => s.heap.size ≤ q) [] := ⟨fun i j p q h => by simp at h, fun k q h => by simp at h⟩
  have hl := lv_entry ([.ref b]) (n := 8) (Nat.le_of_ble_eq_true rfl)
  rw [lg_entry_eq]
  generalize (lg_sl ([.ref b]) ++ List.replicate (8 - (lg_sl ([.ref b])).length) Slot.unset).toArray = ls at hl ⊢
  have hl : lv_has ls 8 [(0, .ref b)] := hl
  refine va_new (ci := 5) (fs := fsX5) (C := RX5) (T := TX5) (N := 9) hx hb htB itX5 tyX5 tyX5_ok hown (htB _ (TBm 91 (by decide +kernel) rfl)) (htB _ (TBm 92 (by decide +kernel) rfl)) (htB _ (TBm 79 (by decide +kernel) rfl)) hK hP hD hS hA rfl dfX5 (Nat.le_of_ble_eq_true rfl) (Nat.le_of_ble_eq_true rfl) dL_law_0 (fun q H hP hD hS => ?_)
  refine lv_dup hx hb dL_law_3 rfl ?_
  refine cn_callI (ws := ([] : va_W)) (w := nwX5) (rest := [.ref q]) ⟨hx, hb, hml, hown, htB⟩ iX5 (TBm 93 (by decide +kernel) rfl) CI_X5 ⟨Nat.le_of_ble_eq_true rfl, Nat.le_of_ble_eq_true rfl⟩ ⟨Nat.le_of_ble_eq_true rfl, Nat.le_of_ble_eq_true rfl⟩ hK hP hD hS hA hEm hEs rfl hl.1 rfl (Nat.le_of_ble_eq_true rfl) dL_law_4 (fun f5 H locs hf hP hD hS => ?_)
  rw [← hf]
  refine lv_astore_n (lv' := [(1, .ref (f5 0)), (0, .ref b)]) hx hb dL_law_7 rfl hl (by decide) rfl (fun ls hl => ?_)
  refine va_new (ci := 6) (fs := fsX6) (C := RX6) (T := TX6) (N := 36) hx hb htB itX6 tyX6 tyX6_ok hown (htB _ (TBm 887 (by decide +kernel) rfl)) (htB _ (TBm 888 (by decide +kernel) rfl)) (htB _ (TBm 85 (by decide +kernel) rfl)) hK hP hD hS hA rfl dfX6 (Nat.le_of_ble_eq_true rfl) (Nat.le_of_ble_eq_true rfl) dL_law_8 (fun q H hP hD hS => ?_)
  refine lv_dup hx hb dL_law_11 rfl ?_
  refine cn_callI (ws := ([] : va_W) ++ nwX5 f5 cI cJ cZ) (w := nwX6) (rest := [.ref q]) ⟨hx, hb, hml, hown, htB⟩ iX6 (TBm 889 (by decide +kernel) rfl) CI_X6 ⟨Nat.le_of_ble_eq_true rfl, Nat.le_of_ble_eq_true rfl⟩ ⟨Nat.le_of_ble_eq_true rfl, Nat.le_of_ble_eq_true rfl⟩ hK hP hD hS hA (fun _ _ _ h9 => h9) (fun _ _ => trivial) rfl hl.1 rfl (Nat.le_of_ble_eq_true rfl) dL_law_12 (fun f6 H locs hf hP hD hS => ?_)
  rw [← hf]
  refine lv_astore_n (lv' := [(2, .ref (f6 0)), (1, .ref (f5 0)), (0, .ref b)]) hx hb dL_law_15 rfl hl (by decide) rfl (fun ls hl => ?_)
  refine lv_iconst (v := 1) hx hb dL_law_16 (by decide) ?_
  refine cn_newa (atype := .long) hx hb (htB _ ac_long) (ty := .long) rfl 1 rfl ra_long hK hP hD hS hA (N' := 1) (a0 := (1, .inr (.inl (fun _ => 0)))) (fun cA => rfl) (by decide) (by decide) (Nat.le_of_ble_eq_true rfl) (Nat.le_of_ble_eq_true rfl) (Nat.le_of_ble_eq_true rfl) dL_law_17 (fun q0 H hP hD hS => ?_)
  refine lv_astore_n (lv' := [(3, .ref q0), (2, .ref (f6 0)), (1, .ref (f5 0)), (0, .ref b)]) hx hb dL_law_19 rfl hl (by decide) rfl (fun ls hl => ?_)
  refine lv_iconst (v := nI (5 * 0)) hx hb dL_law_20 (by decide) ?_
  refine lv_istore (lv' := [(4, .int (nI (5 * 0))), (3, .ref q0), (2, .ref (f6 0)), (1, .ref (f5 0)), (0, .ref b)]) hx hb dL_law_21 hl (by decide) rfl (fun ls hl => ?_)
  have hP2 : va_P D classes ((q0, .inl (cJ, 1, .inr (.inl (fun _ => 0)))) :: (nwX5 f5 cI cJ cZ ++ nwX6 f6 cI cJ cZ)) H := cn_rotP hP
  have hD2 : va_D (fun q : Nat => s.heap.size ≤ q) ((q0, .inl (cJ, 1, .inr (.inl (fun _ => 0)))) :: (nwX5 f5 cI cJ cZ ++ nwX6 f6 cI cJ cZ)) := cn_rotD hD
  rw [← wld0 q0 f5 f6 b cI cJ cZ] at hP2 hD2
  refine W.widen (k := 100 + 0) (n := 2000 + 6 * 0) (by decide) (by decide) ?_
  exact law_loop (b := b) (xs := xs) hL L 0 hI SI (fun _ => []) [] [] (by omega) (by omega) Rel0 p l e room_1 s m _ below meth c D cI cJ cZ (adw q0 f5 f6 b) (fun q : Nat => s.heap.size ≤ q) (lw_Z below #[Value.ref b] s) ⟨rfl, rfl, rfl, fun _ => Iff.rfl, hX, hbl, htr, hE, rfl⟩ ⟨hx, hb, hml, hown, htB, hK, fun h => wld_D hD2 h, hr, hlocks, hA, hNW⟩ H locs ls hP2 hS (lv_sub hl [0, 4, 3, 2, 1] rfl)
