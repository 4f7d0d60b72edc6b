-- X6_widest (level 6)
theorem dX6_widest_0 : decode cX6_widest 0 = .ok (.aload_n 0, 1) := by decide +kernel
theorem dX6_widest_1 : decode cX6_widest 1 = .ok (.iconst 0, 1) := by decide +kernel
theorem dX6_widest_2 : decode cX6_widest 2 = .ok (.putfield 1, 3) := by decide +kernel
theorem dX6_widest_5 : decode cX6_widest 5 = .ok (.iload_n 1, 1) := by decide +kernel
theorem dX6_widest_6 : decode cX6_widest 6 = .ok (.ifCond .ge 5, 3) := by decide +kernel
theorem dX6_widest_9 : decode cX6_widest 9 = .ok (.iconst (-1), 1) := by decide +kernel
theorem dX6_widest_10 : decode cX6_widest 10 = .ok (.ireturn, 1) := by decide +kernel
theorem dX6_widest_11 : decode cX6_widest 11 = .ok (.bipush 60, 2) := by decide +kernel
theorem dX6_widest_13 : decode cX6_widest 13 = .ok (.istore_n 2, 1) := by decide +kernel
theorem dX6_widest_14 : decode cX6_widest 14 = .ok (.iload_n 2, 1) := by decide +kernel
theorem dX6_widest_15 : decode cX6_widest 15 = .ok (.ifCond .lt 18, 3) := by decide +kernel
theorem dX6_widest_18 : decode cX6_widest 18 = .ok (.aload_n 0, 1) := by decide +kernel
theorem dX6_widest_19 : decode cX6_widest 19 = .ok (.iload_n 2, 1) := by decide +kernel
theorem dX6_widest_20 : decode cX6_widest 20 = .ok (.invokevirtual 229, 3) := by decide +kernel
theorem dX6_widest_23 : decode cX6_widest 23 = .ok (.iload_n 1, 1) := by decide +kernel
theorem dX6_widest_24 : decode cX6_widest 24 = .ok (.if_icmp .le 9, 3) := by decide +kernel
theorem dX6_widest_27 : decode cX6_widest 27 = .ok (.iinc 2 (-1), 3) := by decide +kernel
theorem dX6_widest_30 : decode cX6_widest 30 = .ok (.goto (-16), 3) := by decide +kernel
theorem dX6_widest_33 : decode cX6_widest 33 = .ok (.iload_n 2, 1) := by decide +kernel
theorem dX6_widest_34 : decode cX6_widest 34 = .ok (.ifCond .ge 6, 3) := by decide +kernel
theorem dX6_widest_37 : decode cX6_widest 37 = .ok (.bipush (-2), 2) := by decide +kernel
theorem dX6_widest_39 : decode cX6_widest 39 = .ok (.ireturn, 1) := by decide +kernel
theorem dX6_widest_40 : decode cX6_widest 40 = .ok (.aload_n 0, 1) := by decide +kernel
theorem dX6_widest_41 : decode cX6_widest 41 = .ok (.iconst 0, 1) := by decide +kernel
theorem dX6_widest_42 : decode cX6_widest 42 = .ok (.putfield 11, 3) := by decide +kernel
theorem dX6_widest_45 : decode cX6_widest 45 = .ok (.aload_n 0, 1) := by decide +kernel
theorem dX6_widest_46 : decode cX6_widest 46 = .ok (.aload_n 0, 1) := by decide +kernel
theorem dX6_widest_47 : decode cX6_widest 47 = .ok (.iload_n 2, 1) := by decide +kernel
theorem dX6_widest_48 : decode cX6_widest 48 = .ok (.invokevirtual 229, 3) := by decide +kernel
theorem dX6_widest_51 : decode cX6_widest 51 = .ok (.i2l, 1) := by decide +kernel
theorem dX6_widest_52 : decode cX6_widest 52 = .ok (.invokevirtual 18, 3) := by decide +kernel
theorem dX6_widest_55 : decode cX6_widest 55 = .ok (.iload_n 2, 1) := by decide +kernel
theorem dX6_widest_56 : decode cX6_widest 56 = .ok (.ireturn, 1) := by decide +kernel
def sX6_widest_c33 (h : Hp) (v2 : Int32) : Option (Int32 × Hp) :=
  if 0 ≤ v2 then (nm (u1 h 54 1 (0 : Int32)) fun h4 => (sX6_fuelBy h4 v2).bind fun q5 => (sX6_enters q5.2 q5.1.toInt64).bind fun q6 => some (v2, q6)) else (some ((-2 : Int32), h))
set_option maxRecDepth 10000 in
theorem vX6_widest_c33 (h : Hp) (v2 : Int32) (q : (Int32 × Hp)) (e : sX6_widest_c33 h v2 = some q) : V (Gs 6 (pI q)) mX6_widest (0, 0) 33 [(0, .ref 54), (2, .int v2)] [] h := by
  unfold sX6_widest_c33 at e
  refine V.ilq dX6_widest_33 (pc' := 34) rfl (j := 1) rfl ?_
  refine V.if_ge dX6_widest_34 (pc' := 37) rfl (tgt := 40) (by decide) (fun c => ?_) (fun c => ?_)
  · rw [if_pos c] at e
    refine V.alq dX6_widest_40 (pc' := 41) rfl (j := 0) rfl ?_
    refine V.iconst dX6_widest_41 (pc' := 42) rfl (v := 0) (by decide) ?_
    obtain ⟨h4, eh4, e⟩ := nm_s e
    refine V.putf dX6_widest_42 (pc' := 45) rfl FP_X6_11 rfl (by decide) rfl eh4 ?_
    refine V.alq dX6_widest_45 (pc' := 46) rfl (j := 0) rfl ?_
    refine V.alq dX6_widest_46 (pc' := 47) rfl (j := 0) rfl ?_
    refine V.ilq dX6_widest_47 (pc' := 48) rfl (j := 1) rfl ?_
    obtain ⟨q5, eq5, e⟩ := bd_s e
    refine V.callVi dX6_widest_48 (pc' := 51) rfl CV_X6_229 (as := [.int v2]) (kX6_fuelBy h4 v2 q5 eq5) (Gs_rm (by decide)) rfl (by decide) rfl (Nat.le_of_ble_eq_true rfl) rfl ?_
    refine V.i2l dX6_widest_51 (pc' := 52) rfl ?_
    obtain ⟨q6, eq6, e⟩ := bd_s e
    refine V.callVv dX6_widest_52 (pc' := 55) rfl CV_X6_18 (as := [.long q5.1.toInt64]) (kX6_enters q5.2 q5.1.toInt64 q6 eq6) (Gs_rm (by decide)) rfl (by decide) rfl (Nat.le_of_ble_eq_true rfl) rfl ?_
    refine V.ilq dX6_widest_55 (pc' := 56) rfl (j := 1) rfl ?_
    exact V.iret dX6_widest_56 rfl (fnI e)
  · rw [if_neg c] at e
    refine V.bipush dX6_widest_37 (pc' := 39) rfl (v := -2) (by decide) ?_
    exact V.iret dX6_widest_39 rfl (fnI e)
def sX6_widest_c14 (k14 : Hp → Int32 → Int32 → Option (Int32 × Hp)) (h : Hp) (v1 : Int32) (v2 : Int32) : Option (Int32 × Hp) :=
  if v2 < 0 then (sX6_widest_c33 h v2) else ((sX6_fuelBy h v2).bind fun q2 => if q2.1 ≤ v1 then (sX6_widest_c33 q2.2 v2) else (nm (v2 + (-1 : Int32)) fun x3 => k14 q2.2 v1 x3))
set_option maxRecDepth 10000 in
theorem vX6_widest_c14 (k14 : Hp → Int32 → Int32 → Option (Int32 × Hp)) (hk14 : ∀ (h : Hp) (v1 : Int32) (v2 : Int32) (q : (Int32 × Hp)), k14 h v1 v2 = some q → V (Gs 6 (pI q)) mX6_widest (0, 0) 14 [(0, .ref 54), (1, .int v1), (2, .int v2)] [] h) (h : Hp) (v1 : Int32) (v2 : Int32) (q : (Int32 × Hp)) (e : sX6_widest_c14 k14 h v1 v2 = some q) : V (Gs 6 (pI q)) mX6_widest (0, 0) 14 [(0, .ref 54), (1, .int v1), (2, .int v2)] [] h := by
  unfold sX6_widest_c14 at e
  refine V.ilq dX6_widest_14 (pc' := 15) rfl (j := 2) rfl ?_
  refine V.if_lt dX6_widest_15 (pc' := 18) rfl (tgt := 33) (by decide) (fun c => ?_) (fun c => ?_)
  · rw [if_pos c] at e
    refine V.pk [0, 2] rfl ?_
    exact vX6_widest_c33 h v2 q e
  · rw [if_neg c] at e
    refine V.alq dX6_widest_18 (pc' := 19) rfl (j := 0) rfl ?_
    refine V.ilq dX6_widest_19 (pc' := 20) rfl (j := 2) rfl ?_
    obtain ⟨q2, eq2, e⟩ := bd_s e
    refine V.callVi dX6_widest_20 (pc' := 23) rfl CV_X6_229 (as := [.int v2]) (kX6_fuelBy h v2 q2 eq2) (Gs_rm (by decide)) rfl (by decide) rfl (Nat.le_of_ble_eq_true rfl) rfl ?_
    refine V.ilq dX6_widest_23 (pc' := 24) rfl (j := 1) rfl ?_
    refine V.ic_le dX6_widest_24 (pc' := 27) rfl (tgt := 33) (by decide) (fun c => ?_) (fun c => ?_)
    · rw [if_pos c] at e
      refine V.pk [0, 2] rfl ?_
      exact vX6_widest_c33 q2.2 v2 q e
    · rw [if_neg c] at e
      obtain ⟨x3, ex3, e⟩ := nm_s e
      refine V.iinc dX6_widest_27 (pc' := 30) rfl (j := 2) rfl (v := -1) (by decide) (by decide) ex3 (L' := [(2, .int x3), (0, .ref 54), (1, .int v1)]) rfl ?_
      refine V.goto dX6_widest_30 (pc' := 14) (by decide) ?_
      refine V.pk [1, 2, 0] rfl ?_
      exact hk14 q2.2 v1 x3 q e
def sX6_widest_b14 : Nat → Hp → Int32 → Int32 → Option (Int32 × Hp)
  | 0 => fun _ _ _ => none
  | n + 1 => sX6_widest_c14 (sX6_widest_b14 n)
theorem vX6_widest_b14 : ∀ (n : Nat) (h : Hp) (v1 : Int32) (v2 : Int32) (q : (Int32 × Hp)), sX6_widest_b14 n h v1 v2 = some q → V (Gs 6 (pI q)) mX6_widest (0, 0) 14 [(0, .ref 54), (1, .int v1), (2, .int v2)] [] h
  | 0 => fun _ _ _ _ e => by cases e
  | n + 1 => fun h v1 v2 q e => vX6_widest_c14 (sX6_widest_b14 n) (vX6_widest_b14 n) h v1 v2 q e
def sX6_widest (h : Hp) (a1 : Int32) : Option (Int32 × Hp) :=
  nm (u1 h 54 0 (0 : Int32)) fun h1 => if 0 ≤ a1 then (sX6_widest_b14 FU h1 a1 (60 : Int32)) else (some ((-1 : Int32), h1))
set_option maxRecDepth 10000 in
theorem kX6_widest (h : Hp) (a1 : Int32) (q : (Int32 × Hp)) (e : sX6_widest h a1 = some q) : K 6 mX6_widest [.ref 54, .int a1] h (pI q) := by
  unfold sX6_widest at e
  refine K.ofV (by decide) rfl (Nat.le_of_ble_eq_true rfl) ?_
  show V (Gs 6 (pI q)) mX6_widest (0, 0) 0 [(0, .ref 54), (1, .int a1)] [] h
  refine V.alq dX6_widest_0 (pc' := 1) rfl (j := 0) rfl ?_
  refine V.iconst dX6_widest_1 (pc' := 2) rfl (v := 0) (by decide) ?_
  obtain ⟨h1, eh1, e⟩ := nm_s e
  refine V.putf dX6_widest_2 (pc' := 5) rfl FP_X6_1 rfl (by decide) rfl eh1 ?_
  refine V.ilq dX6_widest_5 (pc' := 6) rfl (j := 1) rfl ?_
  refine V.if_ge dX6_widest_6 (pc' := 9) rfl (tgt := 11) (by decide) (fun c => ?_) (fun c => ?_)
  · rw [if_pos c] at e
    refine V.bipush dX6_widest_11 (pc' := 13) rfl (v := 60) (by decide) ?_
    refine V.isq dX6_widest_13 (pc' := 14) rfl (by decide) rfl (L' := [(2, .int (60 : Int32)), (0, .ref 54), (1, .int a1)]) rfl ?_
    refine V.pk [1, 2, 0] rfl ?_
    exact vX6_widest_b14 FU h1 a1 (60 : Int32) q e
  · rw [if_neg c] at e
    refine V.iconst dX6_widest_9 (pc' := 10) rfl (v := -1) (by decide) ?_
    exact V.iret dX6_widest_10 rfl (fnI e)

-- X6_without (level 6)
theorem dX6_without_0 : decode cX6_without 0 = .ok (.aload_n 0, 1) := by decide +kernel
theorem dX6_without_1 : decode cX6_without 1 = .ok (.iconst 0, 1) := by decide +kernel
theorem dX6_without_2 : decode cX6_without 2 = .ok (.putfield 1, 3) := by decide +kernel
theorem dX6_without_5 : decode cX6_without 5 = .ok (.aload_n 0, 1) := by decide +kernel
theorem dX6_without_6 : decode cX6_without 6 = .ok (.iload_n 1, 1) := by decide +kernel
theorem dX6_without_7 : decode cX6_without 7 = .ok (.invokevirtual 137, 3) := by decide +kernel
theorem dX6_without_10 : decode cX6_without 10 = .ok (.ifCond .ne 5, 3) := by decide +kernel
theorem dX6_without_13 : decode cX6_without 13 = .ok (.iconst (-1), 1) := by decide +kernel
theorem dX6_without_14 : decode cX6_without 14 = .ok (.ireturn, 1) := by decide +kernel
theorem dX6_without_15 : decode cX6_without 15 = .ok (.aload_n 0, 1) := by decide +kernel
theorem dX6_without_16 : decode cX6_without 16 = .ok (.invokevirtual 209, 3) := by decide +kernel
theorem dX6_without_19 : decode cX6_without 19 = .ok (.aload_n 0, 1) := by decide +kernel
theorem dX6_without_20 : decode cX6_without 20 = .ok (.getfield 200, 3) := by decide +kernel
theorem dX6_without_23 : decode cX6_without 23 = .ok (.istore_n 2, 1) := by decide +kernel
theorem dX6_without_24 : decode cX6_without 24 = .ok (.aload_n 0, 1) := by decide +kernel
theorem dX6_without_25 : decode cX6_without 25 = .ok (.iload_n 1, 1) := by decide +kernel
theorem dX6_without_26 : decode cX6_without 26 = .ok (.invokevirtual 235, 3) := by decide +kernel
theorem dX6_without_29 : decode cX6_without 29 = .ok (.istore_n 3, 1) := by decide +kernel
theorem dX6_without_30 : decode cX6_without 30 = .ok (.aload_n 0, 1) := by decide +kernel
theorem dX6_without_31 : decode cX6_without 31 = .ok (.iconst 0, 1) := by decide +kernel
theorem dX6_without_32 : decode cX6_without 32 = .ok (.putfield 11, 3) := by decide +kernel
theorem dX6_without_35 : decode cX6_without 35 = .ok (.aload_n 0, 1) := by decide +kernel
theorem dX6_without_36 : decode cX6_without 36 = .ok (.aload_n 0, 1) := by decide +kernel
theorem dX6_without_37 : decode cX6_without 37 = .ok (.getfield 232, 3) := by decide +kernel
theorem dX6_without_40 : decode cX6_without 40 = .ok (.i2l, 1) := by decide +kernel
theorem dX6_without_41 : decode cX6_without 41 = .ok (.invokevirtual 18, 3) := by decide +kernel
theorem dX6_without_44 : decode cX6_without 44 = .ok (.aload_n 0, 1) := by decide +kernel
theorem dX6_without_45 : decode cX6_without 45 = .ok (.iload_n 3, 1) := by decide +kernel
theorem dX6_without_46 : decode cX6_without 46 = .ok (.iload_n 2, 1) := by decide +kernel
theorem dX6_without_47 : decode cX6_without 47 = .ok (.isub, 1) := by decide +kernel
theorem dX6_without_48 : decode cX6_without 48 = .ok (.i2l, 1) := by decide +kernel
theorem dX6_without_49 : decode cX6_without 49 = .ok (.invokevirtual 18, 3) := by decide +kernel
theorem dX6_without_52 : decode cX6_without 52 = .ok (.iload_n 3, 1) := by decide +kernel
theorem dX6_without_53 : decode cX6_without 53 = .ok (.ireturn, 1) := by decide +kernel
def sX6_without (h : Hp) (a1 : Int32) : Option (Int32 × Hp) :=
  nm (u1 h 54 0 (0 : Int32)) fun h1 => (sX6_isStream h1 a1).bind fun q2 => if q2.1 = 0 then (some ((-1 : Int32), q2.2)) else ((sX6_works q2.2).bind fun q3 => nm ((q3.1 54 18)) fun x4 => (sX6_fuelWithout q3 a1).bind fun q5 => nm (u1 q5.2 54 1 (0 : Int32)) fun h6 => (sX6_enters h6 ((h6.1 54 20).toInt64)).bind fun q7 => (sX6_enters q7 ((q5.1 - x4).toInt64)).bind fun q8 => some (q5.1, q8))
set_option maxRecDepth 10000 in
theorem kX6_without (h : Hp) (a1 : Int32) (q : (Int32 × Hp)) (e : sX6_without h a1 = some q) : K 6 mX6_without [.ref 54, .int a1] h (pI q) := by
  unfold sX6_without at e
  refine K.ofV (by decide) rfl (Nat.le_of_ble_eq_true rfl) ?_
  show V (Gs 6 (pI q)) mX6_without (0, 0) 0 [(0, .ref 54), (1, .int a1)] [] h
  refine V.alq dX6_without_0 (pc' := 1) rfl (j := 0) rfl ?_
  refine V.iconst dX6_without_1 (pc' := 2) rfl (v := 0) (by decide) ?_
  obtain ⟨h1, eh1, e⟩ := nm_s e
  refine V.putf dX6_without_2 (pc' := 5) rfl FP_X6_1 rfl (by decide) rfl eh1 ?_
  refine V.alq dX6_without_5 (pc' := 6) rfl (j := 0) rfl ?_
  refine V.ilq dX6_without_6 (pc' := 7) rfl (j := 1) rfl ?_
  obtain ⟨q2, eq2, e⟩ := bd_s e
  refine V.callVi dX6_without_7 (pc' := 10) rfl CV_X6_137 (as := [.int a1]) (kX6_isStream h1 a1 q2 eq2) (Gs_rm (by decide)) rfl (by decide) rfl (Nat.le_of_ble_eq_true rfl) rfl ?_
  refine V.if_ne dX6_without_10 (pc' := 13) rfl (tgt := 15) (by decide) (fun c => ?_) (fun c => ?_)
  · rw [if_neg c] at e
    refine V.alq dX6_without_15 (pc' := 16) rfl (j := 0) rfl ?_
    obtain ⟨q3, eq3, e⟩ := bd_s e
    refine V.callVv dX6_without_16 (pc' := 19) rfl CV_X6_209 (as := []) (kX6_works q2.2 q3 eq3) (Gs_rm (by decide)) rfl (by decide) rfl (Nat.le_of_ble_eq_true rfl) rfl ?_
    refine V.alq dX6_without_19 (pc' := 20) rfl (j := 0) rfl ?_
    refine V.getf dX6_without_20 (pc' := 23) rfl FL_X6_200 rfl (by decide) rfl ?_
    obtain ⟨x4, ex4, e⟩ := nm_s e
    refine V.isq dX6_without_23 (pc' := 24) rfl (by decide) ex4 (L' := [(2, .int x4), (0, .ref 54), (1, .int a1)]) rfl ?_
    refine V.alq dX6_without_24 (pc' := 25) rfl (j := 1) rfl ?_
    refine V.ilq dX6_without_25 (pc' := 26) rfl (j := 2) rfl ?_
    obtain ⟨q5, eq5, e⟩ := bd_s e
    refine V.callVi dX6_without_26 (pc' := 29) rfl CV_X6_235 (as := [.int a1]) (kX6_fuelWithout q3 a1 q5 eq5) (Gs_rm (by decide)) rfl (by decide) rfl (Nat.le_of_ble_eq_true rfl) rfl ?_
    refine V.isq dX6_without_29 (pc' := 30) rfl (by decide) rfl (L' := [(3, .int q5.1), (2, .int x4), (0, .ref 54), (1, .int a1)]) rfl ?_
    refine V.alq dX6_without_30 (pc' := 31) rfl (j := 2) rfl ?_
    refine V.iconst dX6_without_31 (pc' := 32) rfl (v := 0) (by decide) ?_
    obtain ⟨h6, eh6, e⟩ := nm_s e
    refine V.putf dX6_without_32 (pc' := 35) rfl FP_X6_11 rfl (by decide) rfl eh6 ?_
    refine V.alq dX6_without_35 (pc' := 36) rfl (j := 2) rfl ?_
    refine V.alq dX6_without_36 (pc' := 37) rfl (j := 2) rfl ?_
    refine V.getf dX6_without_37 (pc' := 40) rfl FL_X6_232 rfl (by decide) rfl ?_
    refine V.i2l dX6_without_40 (pc' := 41) rfl ?_
    obtain ⟨q7, eq7, e⟩ := bd_s e
    refine V.callVv dX6_without_41 (pc' := 44) rfl CV_X6_18 (as := [.long ((h6.1 54 20).toInt64)]) (kX6_enters h6 ((h6.1 54 20).toInt64) q7 eq7) (Gs_rm (by decide)) rfl (by decide) rfl (Nat.le_of_ble_eq_true rfl) rfl ?_
    refine V.alq dX6_without_44 (pc' := 45) rfl (j := 2) rfl ?_
    refine V.ilq dX6_without_45 (pc' := 46) rfl (j := 0) rfl ?_
    refine V.ilq dX6_without_46 (pc' := 47) rfl (j := 1) rfl ?_
    refine V.isub dX6_without_47 (pc' := 48) rfl ?_
    refine V.i2l dX6_without_48 (pc' := 49) rfl ?_
    obtain ⟨q8, eq8, e⟩ := bd_s e
    refine V.callVv dX6_without_49 (pc' := 52) rfl CV_X6_18 (as := [.long ((q5.1 - x4).toInt64)]) (kX6_enters q7 ((q5.1 - x4).toInt64) q8 eq8) (Gs_rm (by decide)) rfl (by decide) rfl (Nat.le_of_ble_eq_true rfl) rfl ?_
    refine V.ilq dX6_without_52 (pc' := 53) rfl (j := 0) rfl ?_
    exact V.iret dX6_without_53 rfl (fnI e)
  · rw [if_pos c] at e
    refine V.iconst dX6_without_13 (pc' := 14) rfl (v := -1) (by decide) ?_
    exact V.iret dX6_without_14 rfl (fnI e)

-- X6_dearest (level 6)
theorem dX6_dearest_0 : decode cX6_dearest 0 = .ok (.aload_n 0, 1) := by decide +kernel
theorem dX6_dearest_1 : decode cX6_dearest 1 = .ok (.iconst 0, 1) := by decide +kernel
theorem dX6_dearest_2 : decode cX6_dearest 2 = .ok (.putfield 1, 3) := by decide +kernel
theorem dX6_dearest_5 : decode cX6_dearest 5 = .ok (.aload_n 0, 1) := by decide +kernel
theorem dX6_dearest_6 : decode cX6_dearest 6 = .ok (.getfield 131, 3) := by decide +kernel
theorem dX6_dearest_9 : decode cX6_dearest 9 = .ok (.ifCond .ne 6, 3) := by decide +kernel
theorem dX6_dearest_12 : decode cX6_dearest 12 = .ok (.bipush (-2), 2) := by decide +kernel
theorem dX6_dearest_14 : decode cX6_dearest 14 = .ok (.ireturn, 1) := by decide +kernel
theorem dX6_dearest_15 : decode cX6_dearest 15 = .ok (.iconst 0, 1) := by decide +kernel
theorem dX6_dearest_16 : decode cX6_dearest 16 = .ok (.istore_n 1, 1) := by decide +kernel
theorem dX6_dearest_17 : decode cX6_dearest 17 = .ok (.iconst 1, 1) := by decide +kernel
theorem dX6_dearest_18 : decode cX6_dearest 18 = .ok (.istore_n 2, 1) := by decide +kernel
theorem dX6_dearest_19 : decode cX6_dearest 19 = .ok (.iload_n 2, 1) := by decide +kernel
theorem dX6_dearest_20 : decode cX6_dearest 20 = .ok (.aload_n 0, 1) := by decide +kernel
theorem dX6_dearest_21 : decode cX6_dearest 21 = .ok (.getfield 131, 3) := by decide +kernel
theorem dX6_dearest_24 : decode cX6_dearest 24 = .ok (.if_icmp .ge 28, 3) := by decide +kernel
theorem dX6_dearest_27 : decode cX6_dearest 27 = .ok (.aload_n 0, 1) := by decide +kernel
theorem dX6_dearest_28 : decode cX6_dearest 28 = .ok (.iload_n 2, 1) := by decide +kernel
theorem dX6_dearest_29 : decode cX6_dearest 29 = .ok (.invokevirtual 235, 3) := by decide +kernel
theorem dX6_dearest_32 : decode cX6_dearest 32 = .ok (.aload_n 0, 1) := by decide +kernel
theorem dX6_dearest_33 : decode cX6_dearest 33 = .ok (.iload_n 1, 1) := by decide +kernel
theorem dX6_dearest_34 : decode cX6_dearest 34 = .ok (.invokevirtual 235, 3) := by decide +kernel
theorem dX6_dearest_37 : decode cX6_dearest 37 = .ok (.if_icmp .ge 7, 3) := by decide +kernel
theorem dX6_dearest_40 : decode cX6_dearest 40 = .ok (.iload_n 2, 1) := by decide +kernel
theorem dX6_dearest_41 : decode cX6_dearest 41 = .ok (.goto 4, 3) := by decide +kernel
theorem dX6_dearest_44 : decode cX6_dearest 44 = .ok (.iload_n 1, 1) := by decide +kernel
theorem dX6_dearest_45 : decode cX6_dearest 45 = .ok (.istore_n 1, 1) := by decide +kernel
theorem dX6_dearest_46 : decode cX6_dearest 46 = .ok (.iinc 2 1, 3) := by decide +kernel
theorem dX6_dearest_49 : decode cX6_dearest 49 = .ok (.goto (-30), 3) := by decide +kernel
theorem dX6_dearest_52 : decode cX6_dearest 52 = .ok (.aload_n 0, 1) := by decide +kernel
theorem dX6_dearest_53 : decode cX6_dearest 53 = .ok (.iconst 0, 1) := by decide +kernel
theorem dX6_dearest_54 : decode cX6_dearest 54 = .ok (.putfield 11, 3) := by decide +kernel
theorem dX6_dearest_57 : decode cX6_dearest 57 = .ok (.aload_n 0, 1) := by decide +kernel
theorem dX6_dearest_58 : decode cX6_dearest 58 = .ok (.aload_n 0, 1) := by decide +kernel
theorem dX6_dearest_59 : decode cX6_dearest 59 = .ok (.iload_n 1, 1) := by decide +kernel
theorem dX6_dearest_60 : decode cX6_dearest 60 = .ok (.invokevirtual 235, 3) := by decide +kernel
theorem dX6_dearest_63 : decode cX6_dearest 63 = .ok (.i2l, 1) := by decide +kernel
theorem dX6_dearest_64 : decode cX6_dearest 64 = .ok (.invokevirtual 18, 3) := by decide +kernel
theorem dX6_dearest_67 : decode cX6_dearest 67 = .ok (.iload_n 1, 1) := by decide +kernel
theorem dX6_dearest_68 : decode cX6_dearest 68 = .ok (.ireturn, 1) := by decide +kernel
def sX6_dearest_c45 (k19 : Hp → Int32 → Int32 → Option (Int32 × Hp)) (h : Hp) (v2 : Int32) (t0 : Int32) : Option (Int32 × Hp) :=
  nm (v2 + (1 : Int32)) fun x7 => k19 h t0 x7
set_option maxRecDepth 10000 in
theorem vX6_dearest_c45 (k19 : Hp → Int32 → Int32 → Option (Int32 × Hp)) (hk19 : ∀ (h : Hp) (v1 : Int32) (v2 : Int32) (q : (Int32 × Hp)), k19 h v1 v2 = some q → V (Gs 6 (pI q)) mX6_dearest (0, 0) 19 [(0, .ref 54), (1, .int v1), (2, .int v2)] [] h) (h : Hp) (v2 : Int32) (t0 : Int32) (q : (Int32 × Hp)) (e : sX6_dearest_c45 k19 h v2 t0 = some q) : V (Gs 6 (pI q)) mX6_dearest (0, 0) 45 [(0, .ref 54), (2, .int v2)] [.int t0] h := by
  unfold sX6_dearest_c45 at e
  refine V.isq dX6_dearest_45 (pc' := 46) rfl (by decide) rfl (L' := [(1, .int t0), (0, .ref 54), (2, .int v2)]) rfl ?_
  obtain ⟨x7, ex7, e⟩ := nm_s e
  refine V.iinc dX6_dearest_46 (pc' := 49) rfl (j := 2) rfl (v := 1) (by decide) (by decide) ex7 (L' := [(2, .int x7), (1, .int t0), (0, .ref 54)]) rfl ?_
  refine V.goto dX6_dearest_49 (pc' := 19) (by decide) ?_
  refine V.pk [2, 1, 0] rfl ?_
  exact hk19 h t0 x7 q e
def sX6_dearest_c19 (k19 : Hp → Int32 → Int32 → Option (Int32 × Hp)) (h : Hp) (v1 : Int32) (v2 : Int32) : Option (Int32 × Hp) :=
  if (h.1 54 7) ≤ v2 then (nm (u1 h 54 1 (0 : Int32)) fun h2 => (sX6_fuelWithout h2 v1).bind fun q3 => (sX6_enters q3.2 q3.1.toInt64).bind fun q4 => some (v1, q4)) else ((sX6_fuelWithout h v2).bind fun q5 => (sX6_fuelWithout q5.2 v1).bind fun q6 => if q6.1 ≤ q5.1 then (sX6_dearest_c45 k19 q6.2 v2 v1) else (sX6_dearest_c45 k19 q6.2 v2 v2))
set_option maxRecDepth 10000 in
theorem vX6_dearest_c19 (k19 : Hp → Int32 → Int32 → Option (Int32 × Hp)) (hk19 : ∀ (h : Hp) (v1 : Int32) (v2 : Int32) (q : (Int32 × Hp)), k19 h v1 v2 = some q → V (Gs 6 (pI q)) mX6_dearest (0, 0) 19 [(0, .ref 54), (1, .int v1), (2, .int v2)] [] h) (h : Hp) (v1 : Int32) (v2 : Int32) (q : (Int32 × Hp)) (e : sX6_dearest_c19 k19 h v1 v2 = some q) : V (Gs 6 (pI q)) mX6_dearest (0, 0) 19 [(0, .ref 54), (1, .int v1), (2, .int v2)] [] h := by
  unfold sX6_dearest_c19 at e
  refine V.ilq dX6_dearest_19 (pc' := 20) rfl (j := 2) rfl ?_
  refine V.alq dX6_dearest_20 (pc' := 21) rfl (j := 0) rfl ?_
  refine V.getf dX6_dearest_21 (pc' := 24) rfl FL_X6_131 rfl (by decide) rfl ?_
  refine V.ic_ge dX6_dearest_24 (pc' := 27) rfl (tgt := 52) (by decide) (fun c => ?_) (fun c => ?_)
  · rw [if_pos c] at e
    refine V.alq dX6_dearest_52 (pc' := 53) rfl (j := 0) rfl ?_
    refine V.iconst dX6_dearest_53 (pc' := 54) rfl (v := 0) (by decide) ?_
    obtain ⟨h2, eh2, e⟩ := nm_s e
    refine V.putf dX6_dearest_54 (pc' := 57) rfl FP_X6_11 rfl (by decide) rfl eh2 ?_
    refine V.alq dX6_dearest_57 (pc' := 58) rfl (j := 0) rfl ?_
    refine V.alq dX6_dearest_58 (pc' := 59) rfl (j := 0) rfl ?_
    refine V.ilq dX6_dearest_59 (pc' := 60) rfl (j := 1) rfl ?_
    obtain ⟨q3, eq3, e⟩ := bd_s e
    refine V.callVi dX6_dearest_60 (pc' := 63) rfl CV_X6_235 (as := [.int v1]) (kX6_fuelWithout h2 v1 q3 eq3) (Gs_rm (by decide)) rfl (by decide) rfl (Nat.le_of_ble_eq_true rfl) rfl ?_
    refine V.i2l dX6_dearest_63 (pc' := 64) rfl ?_
    obtain ⟨q4, eq4, e⟩ := bd_s e
    refine V.callVv dX6_dearest_64 (pc' := 67) rfl CV_X6_18 (as := [.long q3.1.toInt64]) (kX6_enters q3.2 q3.1.toInt64 q4 eq4) (Gs_rm (by decide)) rfl (by decide) rfl (Nat.le_of_ble_eq_true rfl) rfl ?_
    refine V.ilq dX6_dearest_67 (pc' := 68) rfl (j := 1) rfl ?_
    exact V.iret dX6_dearest_68 rfl (fnI e)
  · rw [if_neg c] at e
    refine V.alq dX6_dearest_27 (pc' := 28) rfl (j := 0) rfl ?_
    refine V.ilq dX6_dearest_28 (pc' := 29) rfl (j := 2) rfl ?_
    obtain ⟨q5, eq5, e⟩ := bd_s e
    refine V.callVi dX6_dearest_29 (pc' := 32) rfl CV_X6_235 (as := [.int v2]) (kX6_fuelWithout h v2 q5 eq5) (Gs_rm (by decide)) rfl (by decide) rfl (Nat.le_of_ble_eq_true rfl) rfl ?_
    refine V.alq dX6_dearest_32 (pc' := 33) rfl (j := 0) rfl ?_
    refine V.ilq dX6_dearest_33 (pc' := 34) rfl (j := 1) rfl ?_
    obtain ⟨q6, eq6, e⟩ := bd_s e
    refine V.callVi dX6_dearest_34 (pc' := 37) rfl CV_X6_235 (as := [.int v1]) (kX6_fuelWithout q5.2 v1 q6 eq6) (Gs_rm (by decide)) rfl (by decide) rfl (Nat.le_of_ble_eq_true rfl) rfl ?_
    refine V.ic_ge dX6_dearest_37 (pc' := 40) rfl (tgt := 44) (by decide) (fun c => ?_) (fun c => ?_)
    · rw [if_pos c] at e
      refine V.ilq dX6_dearest_44 (pc' := 45) rfl (j := 1) rfl ?_
      refine V.pk [0, 2] rfl ?_
      exact vX6_dearest_c45 k19 hk19 q6.2 v2 v1 q e
    · rw [if_neg c] at e
      refine V.ilq dX6_dearest_40 (pc' := 41) rfl (j := 2) rfl ?_
      refine V.goto dX6_dearest_41 (pc' := 45) (by decide) ?_
      refine V.pk [0, 2] rfl ?_
      exact vX6_dearest_c45 k19 hk19 q6.2 v2 v2 q e
def sX6_dearest_b19 : Nat → Hp → Int32 → Int32 → Option (Int32 × Hp)
  | 0 => fun _ _ _ => none
  | n + 1 => sX6_dearest_c19 (sX6_dearest_b19 n)
theorem vX6_dearest_b19 : ∀ (n : Nat) (h : Hp) (v1 : Int32) (v2 : Int32) (q : (Int32 × Hp)), sX6_dearest_b19 n h v1 v2 = some q → V (Gs 6 (pI q)) mX6_dearest (0, 0) 19 [(0, .ref 54), (1, .int v1), (2, .int v2)] [] h
  | 0 => fun _ _ _ _ e => by cases e
  | n + 1 => fun h v1 v2 q e => vX6_dearest_c19 (sX6_dearest_b19 n) (vX6_dearest_b19 n) h v1 v2 q e
def sX6_dearest (h : Hp) : Option (Int32 × Hp) :=
  nm (u1 h 54 0 (0 : Int32)) fun h1 => if (h1.1 54 7) = 0 then (some ((-2 : Int32), h1)) else (sX6_dearest_b19 FU h1 (0 : Int32) (1 : Int32))
set_option maxRecDepth 10000 in
theorem kX6_dearest (h : Hp) (q : (Int32 × Hp)) (e : sX6_dearest h = some q) : K 6 mX6_dearest [.ref 54] h (pI q) := by
  unfold sX6_dearest at e
  refine K.ofV (by decide) rfl (Nat.le_of_ble_eq_true rfl) ?_
  show V (Gs 6 (pI q)) mX6_dearest (0, 0) 0 [(0, .ref 54)] [] h
  refine V.alq dX6_dearest_0 (pc' := 1) rfl (j := 0) rfl ?_
  refine V.iconst dX6_dearest_1 (pc' := 2) rfl (v := 0) (by decide) ?_
  obtain ⟨h1, eh1, e⟩ := nm_s e
  refine V.putf dX6_dearest_2 (pc' := 5) rfl FP_X6_1 rfl (by decide) rfl eh1 ?_
  refine V.alq dX6_dearest_5 (pc' := 6) rfl (j := 0) rfl ?_
  refine V.getf dX6_dearest_6 (pc' := 9) rfl FL_X6_131 rfl (by decide) rfl ?_
  refine V.if_ne dX6_dearest_9 (pc' := 12) rfl (tgt := 15) (by decide) (fun c => ?_) (fun c => ?_)
  · rw [if_neg c] at e
    refine V.iconst dX6_dearest_15 (pc' := 16) rfl (v := 0) (by decide) ?_
    refine V.isq dX6_dearest_16 (pc' := 17) rfl (by decide) rfl (L' := [(1, .int (0 : Int32)), (0, .ref 54)]) rfl ?_
    refine V.iconst dX6_dearest_17 (pc' := 18) rfl (v := 1) (by decide) ?_
    refine V.isq dX6_dearest_18 (pc' := 19) rfl (by decide) rfl (L' := [(2, .int (1 : Int32)), (1, .int (0 : Int32)), (0, .ref 54)]) rfl ?_
    refine V.pk [2, 1, 0] rfl ?_
    exact vX6_dearest_b19 FU h1 (0 : Int32) (1 : Int32) q e
  · rw [if_pos c] at e
    refine V.bipush dX6_dearest_12 (pc' := 14) rfl (v := -2) (by decide) ?_
    exact V.iret dX6_dearest_14 rfl (fnI e)

-- X6_arrive (level 6)
theorem dX6_arrive_0 : decode cX6_arrive 0 = .ok (.aload_n 0, 1) := by decide +kernel
theorem dX6_arrive_1 : decode cX6_arrive 1 = .ok (.iconst 0, 1) := by decide +kernel
theorem dX6_arrive_2 : decode cX6_arrive 2 = .ok (.putfield 1, 3) := by decide +kernel
theorem dX6_arrive_5 : decode cX6_arrive 5 = .ok (.iload_n 1, 1) := by decide +kernel
theorem dX6_arrive_6 : decode cX6_arrive 6 = .ok (.invokestatic 253, 3) := by decide +kernel
theorem dX6_arrive_9 : decode cX6_arrive 9 = .ok (.ifCond .ne 5, 3) := by decide +kernel
theorem dX6_arrive_12 : decode cX6_arrive 12 = .ok (.iconst (-1), 1) := by decide +kernel
theorem dX6_arrive_13 : decode cX6_arrive 13 = .ok (.ireturn, 1) := by decide +kernel
theorem dX6_arrive_14 : decode cX6_arrive 14 = .ok (.aload_n 0, 1) := by decide +kernel
theorem dX6_arrive_15 : decode cX6_arrive 15 = .ok (.invokevirtual 256, 3) := by decide +kernel
theorem dX6_arrive_18 : decode cX6_arrive 18 = .ok (.aload_n 0, 1) := by decide +kernel
theorem dX6_arrive_19 : decode cX6_arrive 19 = .ok (.iload_n 1, 1) := by decide +kernel
theorem dX6_arrive_20 : decode cX6_arrive 20 = .ok (.iload_n 1, 1) := by decide +kernel
theorem dX6_arrive_21 : decode cX6_arrive 21 = .ok (.ifCond .ne 7, 3) := by decide +kernel
theorem dX6_arrive_24 : decode cX6_arrive 24 = .ok (.iconst 1, 1) := by decide +kernel
theorem dX6_arrive_25 : decode cX6_arrive 25 = .ok (.goto 4, 3) := by decide +kernel
theorem dX6_arrive_28 : decode cX6_arrive 28 = .ok (.iconst 0, 1) := by decide +kernel
theorem dX6_arrive_29 : decode cX6_arrive 29 = .ok (.aload_n 0, 1) := by decide +kernel
theorem dX6_arrive_30 : decode cX6_arrive 30 = .ok (.getfield 84, 3) := by decide +kernel
theorem dX6_arrive_33 : decode cX6_arrive 33 = .ok (.invokevirtual 259, 3) := by decide +kernel
theorem dX6_arrive_36 : decode cX6_arrive 36 = .ok (.istore_n 2, 1) := by decide +kernel
theorem dX6_arrive_37 : decode cX6_arrive 37 = .ok (.aload_n 0, 1) := by decide +kernel
theorem dX6_arrive_38 : decode cX6_arrive 38 = .ok (.iload_n 1, 1) := by decide +kernel
theorem dX6_arrive_39 : decode cX6_arrive 39 = .ok (.iload_n 1, 1) := by decide +kernel
theorem dX6_arrive_40 : decode cX6_arrive 40 = .ok (.iconst 1, 1) := by decide +kernel
theorem dX6_arrive_41 : decode cX6_arrive 41 = .ok (.if_icmp .ne 7, 3) := by decide +kernel
theorem dX6_arrive_44 : decode cX6_arrive 44 = .ok (.iconst 1, 1) := by decide +kernel
theorem dX6_arrive_45 : decode cX6_arrive 45 = .ok (.goto 4, 3) := by decide +kernel
theorem dX6_arrive_48 : decode cX6_arrive 48 = .ok (.iconst 0, 1) := by decide +kernel
theorem dX6_arrive_49 : decode cX6_arrive 49 = .ok (.aload_n 0, 1) := by decide +kernel
theorem dX6_arrive_50 : decode cX6_arrive 50 = .ok (.getfield 87, 3) := by decide +kernel
theorem dX6_arrive_53 : decode cX6_arrive 53 = .ok (.invokevirtual 259, 3) := by decide +kernel
theorem dX6_arrive_56 : decode cX6_arrive 56 = .ok (.istore_n 3, 1) := by decide +kernel
theorem dX6_arrive_57 : decode cX6_arrive 57 = .ok (.iload_n 2, 1) := by decide +kernel
theorem dX6_arrive_58 : decode cX6_arrive 58 = .ok (.iload_n 3, 1) := by decide +kernel
theorem dX6_arrive_59 : decode cX6_arrive 59 = .ok (.if_icmp .gt 7, 3) := by decide +kernel
theorem dX6_arrive_62 : decode cX6_arrive 62 = .ok (.iconst 1, 1) := by decide +kernel
theorem dX6_arrive_63 : decode cX6_arrive 63 = .ok (.goto 4, 3) := by decide +kernel
theorem dX6_arrive_66 : decode cX6_arrive 66 = .ok (.iconst 0, 1) := by decide +kernel
theorem dX6_arrive_67 : decode cX6_arrive 67 = .ok (.istore 4, 2) := by decide +kernel
theorem dX6_arrive_69 : decode cX6_arrive 69 = .ok (.iload 4, 2) := by decide +kernel
theorem dX6_arrive_71 : decode cX6_arrive 71 = .ok (.istore 5, 2) := by decide +kernel
theorem dX6_arrive_73 : decode cX6_arrive 73 = .ok (.iconst 0, 1) := by decide +kernel
theorem dX6_arrive_74 : decode cX6_arrive 74 = .ok (.istore 6, 2) := by decide +kernel
theorem dX6_arrive_76 : decode cX6_arrive 76 = .ok (.iload 6, 2) := by decide +kernel
theorem dX6_arrive_78 : decode cX6_arrive 78 = .ok (.iload_n 2, 1) := by decide +kernel
theorem dX6_arrive_79 : decode cX6_arrive 79 = .ok (.if_icmp .ge 38, 3) := by decide +kernel
theorem dX6_arrive_82 : decode cX6_arrive 82 = .ok (.iload 5, 2) := by decide +kernel
theorem dX6_arrive_84 : decode cX6_arrive 84 = .ok (.ifCond .eq 33, 3) := by decide +kernel
theorem dX6_arrive_87 : decode cX6_arrive 87 = .ok (.aload_n 0, 1) := by decide +kernel
theorem dX6_arrive_88 : decode cX6_arrive 88 = .ok (.getfield 87, 3) := by decide +kernel
theorem dX6_arrive_91 : decode cX6_arrive 91 = .ok (.iload 6, 2) := by decide +kernel
theorem dX6_arrive_93 : decode cX6_arrive 93 = .ok (.iaload, 1) := by decide +kernel
theorem dX6_arrive_94 : decode cX6_arrive 94 = .ok (.aload_n 0, 1) := by decide +kernel
theorem dX6_arrive_95 : decode cX6_arrive 95 = .ok (.getfield 84, 3) := by decide +kernel
theorem dX6_arrive_98 : decode cX6_arrive 98 = .ok (.iload 6, 2) := by decide +kernel
theorem dX6_arrive_100 : decode cX6_arrive 100 = .ok (.iaload, 1) := by decide +kernel
theorem dX6_arrive_101 : decode cX6_arrive 101 = .ok (.if_icmp .lt 7, 3) := by decide +kernel
theorem dX6_arrive_104 : decode cX6_arrive 104 = .ok (.iconst 1, 1) := by decide +kernel
theorem dX6_arrive_105 : decode cX6_arrive 105 = .ok (.goto 4, 3) := by decide +kernel
theorem dX6_arrive_108 : decode cX6_arrive 108 = .ok (.iconst 0, 1) := by decide +kernel
theorem dX6_arrive_109 : decode cX6_arrive 109 = .ok (.istore 5, 2) := by decide +kernel
theorem dX6_arrive_111 : decode cX6_arrive 111 = .ok (.iinc 6 1, 3) := by decide +kernel
theorem dX6_arrive_114 : decode cX6_arrive 114 = .ok (.goto (-38), 3) := by decide +kernel
theorem dX6_arrive_117 : decode cX6_arrive 117 = .ok (.aload_n 0, 1) := by decide +kernel
theorem dX6_arrive_118 : decode cX6_arrive 118 = .ok (.iconst 0, 1) := by decide +kernel
theorem dX6_arrive_119 : decode cX6_arrive 119 = .ok (.putfield 11, 3) := by decide +kernel
theorem dX6_arrive_122 : decode cX6_arrive 122 = .ok (.aload_n 0, 1) := by decide +kernel
theorem dX6_arrive_123 : decode cX6_arrive 123 = .ok (.iload_n 1, 1) := by decide +kernel
theorem dX6_arrive_124 : decode cX6_arrive 124 = .ok (.ifCond .ne 8, 3) := by decide +kernel
theorem dX6_arrive_127 : decode cX6_arrive 127 = .ok (.iload_n 3, 1) := by decide +kernel
theorem dX6_arrive_128 : decode cX6_arrive 128 = .ok (.i2l, 1) := by decide +kernel
theorem dX6_arrive_129 : decode cX6_arrive 129 = .ok (.goto 5, 3) := by decide +kernel
theorem dX6_arrive_132 : decode cX6_arrive 132 = .ok (.iload_n 2, 1) := by decide +kernel
theorem dX6_arrive_133 : decode cX6_arrive 133 = .ok (.i2l, 1) := by decide +kernel
theorem dX6_arrive_134 : decode cX6_arrive 134 = .ok (.invokevirtual 18, 3) := by decide +kernel
theorem dX6_arrive_137 : decode cX6_arrive 137 = .ok (.aload_n 0, 1) := by decide +kernel
theorem dX6_arrive_138 : decode cX6_arrive 138 = .ok (.iload 4, 2) := by decide +kernel
theorem dX6_arrive_140 : decode cX6_arrive 140 = .ok (.invokestatic 39, 3) := by decide +kernel
theorem dX6_arrive_143 : decode cX6_arrive 143 = .ok (.i2l, 1) := by decide +kernel
theorem dX6_arrive_144 : decode cX6_arrive 144 = .ok (.invokevirtual 18, 3) := by decide +kernel
theorem dX6_arrive_147 : decode cX6_arrive 147 = .ok (.aload_n 0, 1) := by decide +kernel
theorem dX6_arrive_148 : decode cX6_arrive 148 = .ok (.iload 5, 2) := by decide +kernel
theorem dX6_arrive_150 : decode cX6_arrive 150 = .ok (.invokestatic 39, 3) := by decide +kernel
theorem dX6_arrive_153 : decode cX6_arrive 153 = .ok (.i2l, 1) := by decide +kernel
theorem dX6_arrive_154 : decode cX6_arrive 154 = .ok (.invokevirtual 18, 3) := by decide +kernel
theorem dX6_arrive_157 : decode cX6_arrive 157 = .ok (.iload_n 1, 1) := by decide +kernel
theorem dX6_arrive_158 : decode cX6_arrive 158 = .ok (.ifCond .ne 7, 3) := by decide +kernel
theorem dX6_arrive_161 : decode cX6_arrive 161 = .ok (.iload_n 2, 1) := by decide +kernel
theorem dX6_arrive_162 : decode cX6_arrive 162 = .ok (.goto 4, 3) := by decide +kernel
theorem dX6_arrive_165 : decode cX6_arrive 165 = .ok (.iload_n 3, 1) := by decide +kernel
theorem dX6_arrive_166 : decode cX6_arrive 166 = .ok (.ireturn, 1) := by decide +kernel
def sX6_arrive_c109 (k76 : Hp → Int32 → Int32 → Int32 → Int32 → Int32 → Int32 → Option (Int32 × Hp)) (h : Hp) (v1 : Int32) (v2 : Int32) (v3 : Int32) (v4 : Int32) (v6 : Int32) (t0 : Int32) : Option (Int32 × Hp) :=
  nm (v6 + (1 : Int32)) fun x8 => k76 h v1 v2 v3 v4 t0 x8
set_option maxRecDepth 10000 in
theorem vX6_arrive_c109 (k76 : Hp → Int32 → Int32 → Int32 → Int32 → Int32 → Int32 → Option (Int32 × Hp)) (hk76 : ∀ (h : Hp) (v1 : Int32) (v2 : Int32) (v3 : Int32) (v4 : Int32) (v5 : Int32) (v6 : Int32) (q : (Int32 × Hp)), k76 h v1 v2 v3 v4 v5 v6 = some q → V (Gs 6 (pI q)) mX6_arrive (0, 0) 76 [(0, .ref 54), (1, .int v1), (2, .int v2), (3, .int v3), (4, .int v4), (5, .int v5), (6, .int v6)] [] h) (h : Hp) (v1 : Int32) (v2 : Int32) (v3 : Int32) (v4 : Int32) (v6 : Int32) (t0 : Int32) (q : (Int32 × Hp)) (e : sX6_arrive_c109 k76 h v1 v2 v3 v4 v6 t0 = some q) : V (Gs 6 (pI q)) mX6_arrive (0, 0) 109 [(0, .ref 54), (1, .int v1), (2, .int v2), (3, .int v3), (4, .int v4), (6, .int v6)] [.int t0] h := by
  unfold sX6_arrive_c109 at e
  refine V.is dX6_arrive_109 (pc' := 111) rfl (by decide) rfl (L' := [(5, .int t0), (0, .ref 54), (1, .int v1), (2, .int v2), (3, .int v3), (4, .int v4), (6, .int v6)]) rfl ?_
  obtain ⟨x8, ex8, e⟩ := nm_s e
  refine V.iinc dX6_arrive_111 (pc' := 114) rfl (j := 6) rfl (v := 1) (by decide) (by decide) ex8 (L' := [(6, .int x8), (5, .int t0), (0, .ref 54), (1, .int v1), (2, .int v2), (3, .int v3), (4, .int v4)]) rfl ?_
  refine V.goto dX6_arrive_114 (pc' := 76) (by decide) ?_
  refine V.pk [2, 3, 4, 5, 6, 1, 0] rfl ?_
  exact hk76 h v1 v2 v3 v4 t0 x8 q e
def sX6_arrive_c166 (h : Hp) (t0 : Int32) : Option (Int32 × Hp) :=
  some (t0, h)
set_option maxRecDepth 10000 in
theorem vX6_arrive_c166 (h : Hp) (t0 : Int32) (q : (Int32 × Hp)) (e : sX6_arrive_c166 h t0 = some q) : V (Gs 6 (pI q)) mX6_arrive (0, 0) 166 [] [.int t0] h := by
  unfold sX6_arrive_c166 at e
  exact V.iret dX6_arrive_166 rfl (fnI e)
def sX6_arrive_c134 (h : Hp) (v1 : Int32) (v2 : Int32) (v3 : Int32) (v4 : Int32) (v5 : Int32) (t0 : Int64) : Option (Int32 × Hp) :=
  (sX6_enters h t0).bind fun q10 => (sX6_flag q10 v4).bind fun q11 => (sX6_enters q11.2 q11.1.toInt64).bind fun q12 => (sX6_flag q12 v5).bind fun q13 => (sX6_enters q13.2 q13.1.toInt64).bind fun q14 => if v1 = 0 then (sX6_arrive_c166 q14 v2) else (sX6_arrive_c166 q14 v3)
set_option maxRecDepth 10000 in
theorem vX6_arrive_c134 (h : Hp) (v1 : Int32) (v2 : Int32) (v3 : Int32) (v4 : Int32) (v5 : Int32) (t0 : Int64) (q : (Int32 × Hp)) (e : sX6_arrive_c134 h v1 v2 v3 v4 v5 t0 = some q) : V (Gs 6 (pI q)) mX6_arrive (0, 0) 134 [(0, .ref 54), (1, .int v1), (2, .int v2), (3, .int v3), (4, .int v4), (5, .int v5)] [.long t0, .ref 54] h := by
  unfold sX6_arrive_c134 at e
  obtain ⟨q10, eq10, e⟩ := bd_s e
  refine V.callVv dX6_arrive_134 (pc' := 137) rfl CV_X6_18 (as := [.long t0]) (kX6_enters h t0 q10 eq10) (Gs_rm (by decide)) rfl (by decide) rfl (Nat.le_of_ble_eq_true rfl) rfl ?_
  refine V.alq dX6_arrive_137 (pc' := 138) rfl (j := 0) rfl ?_
  refine V.il dX6_arrive_138 (pc' := 140) rfl (j := 4) rfl ?_
  obtain ⟨q11, eq11, e⟩ := bd_s e
  refine V.callSi dX6_arrive_140 (pc' := 143) rfl CS_X6_39 (as := [.int v4]) (kX6_flag q10 v4 q11 eq11) (Gs_rm (by decide)) rfl (Nat.le_of_ble_eq_true rfl) rfl ?_
  refine V.i2l dX6_arrive_143 (pc' := 144) rfl ?_
  obtain ⟨q12, eq12, e⟩ := bd_s e
  refine V.callVv dX6_arrive_144 (pc' := 147) rfl CV_X6_18 (as := [.long q11.1.toInt64]) (kX6_enters q11.2 q11.1.toInt64 q12 eq12) (Gs_rm (by decide)) rfl (by decide) rfl (Nat.le_of_ble_eq_true rfl) rfl ?_
  refine V.alq dX6_arrive_147 (pc' := 148) rfl (j := 0) rfl ?_
  refine V.il dX6_arrive_148 (pc' := 150) rfl (j := 5) rfl ?_
  obtain ⟨q13, eq13, e⟩ := bd_s e
  refine V.callSi dX6_arrive_150 (pc' := 153) rfl CS_X6_39 (as := [.int v5]) (kX6_flag q12 v5 q13 eq13) (Gs_rm (by decide)) rfl (Nat.le_of_ble_eq_true rfl) rfl ?_
  refine V.i2l dX6_arrive_153 (pc' := 154) rfl ?_
  obtain ⟨q14, eq14, e⟩ := bd_s e
  refine V.callVv dX6_arrive_154 (pc' := 157) rfl CV_X6_18 (as := [.long q13.1.toInt64]) (kX6_enters q13.2 q13.1.toInt64 q14 eq14) (Gs_rm (by decide)) rfl (by decide) rfl (Nat.le_of_ble_eq_true rfl) rfl ?_
  refine V.ilq dX6_arrive_157 (pc' := 158) rfl (j := 1) rfl ?_
  refine V.if_ne dX6_arrive_158 (pc' := 161) rfl (tgt := 165) (by decide) (fun c => ?_) (fun c => ?_)
  · rw [if_neg c] at e
    refine V.ilq dX6_arrive_165 (pc' := 166) rfl (j := 3) rfl ?_
    refine V.pk [] rfl ?_
    exact vX6_arrive_c166 q14 v3 q e
  · rw [if_pos c] at e
    refine V.ilq dX6_arrive_161 (pc' := 162) rfl (j := 2) rfl ?_
    refine V.goto dX6_arrive_162 (pc' := 166) (by decide) ?_
    refine V.pk [] rfl ?_
    exact vX6_arrive_c166 q14 v2 q e
def sX6_arrive_c117 (h : Hp) (v1 : Int32) (v2 : Int32) (v3 : Int32) (v4 : Int32) (v5 : Int32) : Option (Int32 × Hp) :=
  nm (u1 h 54 1 (0 : Int32)) fun h9 => if v1 = 0 then (sX6_arrive_c134 h9 v1 v2 v3 v4 v5 v3.toInt64) else (sX6_arrive_c134 h9 v1 v2 v3 v4 v5 v2.toInt64)
set_option maxRecDepth 10000 in
theorem vX6_arrive_c117 (h : Hp) (v1 : Int32) (v2 : Int32) (v3 : Int32) (v4 : Int32) (v5 : Int32) (q : (Int32 × Hp)) (e : sX6_arrive_c117 h v1 v2 v3 v4 v5 = some q) : V (Gs 6 (pI q)) mX6_arrive (0, 0) 117 [(0, .ref 54), (1, .int v1), (2, .int v2), (3, .int v3), (4, .int v4), (5, .int v5)] [] h := by
  unfold sX6_arrive_c117 at e
  refine V.alq dX6_arrive_117 (pc' := 118) rfl (j := 0) rfl ?_
  refine V.iconst dX6_arrive_118 (pc' := 119) rfl (v := 0) (by decide) ?_
  obtain ⟨h9, eh9, e⟩ := nm_s e
  refine V.putf dX6_arrive_119 (pc' := 122) rfl FP_X6_11 rfl (by decide) rfl eh9 ?_
  refine V.alq dX6_arrive_122 (pc' := 123) rfl (j := 0) rfl ?_
  refine V.ilq dX6_arrive_123 (pc' := 124) rfl (j := 1) rfl ?_
  refine V.if_ne dX6_arrive_124 (pc' := 127) rfl (tgt := 132) (by decide) (fun c => ?_) (fun c => ?_)
  · rw [if_neg c] at e
    refine V.ilq dX6_arrive_132 (pc' := 133) rfl (j := 2) rfl ?_
    refine V.i2l dX6_arrive_133 (pc' := 134) rfl ?_
    exact vX6_arrive_c134 h9 v1 v2 v3 v4 v5 v2.toInt64 q e
  · rw [if_pos c] at e
    refine V.ilq dX6_arrive_127 (pc' := 128) rfl (j := 3) rfl ?_
    refine V.i2l dX6_arrive_128 (pc' := 129) rfl ?_
    refine V.goto dX6_arrive_129 (pc' := 134) (by decide) ?_
    exact vX6_arrive_c134 h9 v1 v2 v3 v4 v5 v3.toInt64 q e
def sX6_arrive_c76 (k76 : Hp → Int32 → Int32 → Int32 → Int32 → Int32 → Int32 → Option (Int32 × Hp)) (h : Hp) (v1 : Int32) (v2 : Int32) (v3 : Int32) (v4 : Int32) (v5 : Int32) (v6 : Int32) : Option (Int32 × Hp) :=
  if v2 ≤ v6 then (sX6_arrive_c117 h v1 v2 v3 v4 v5) else (if v5 = 0 then (sX6_arrive_c117 h v1 v2 v3 v4 v5) else (gd (inb v6 10) (gd (inb v6 10) (if (h.1 66 v6.toNatClampNeg) < (h.1 65 v6.toNatClampNeg) then (sX6_arrive_c109 k76 h v1 v2 v3 v4 v6 (0 : Int32)) else (sX6_arrive_c109 k76 h v1 v2 v3 v4 v6 (1 : Int32))))))
set_option maxRecDepth 10000 in
theorem vX6_arrive_c76 (k76 : Hp → Int32 → Int32 → Int32 → Int32 → Int32 → Int32 → Option (Int32 × Hp)) (hk76 : ∀ (h : Hp) (v1 : Int32) (v2 : Int32) (v3 : Int32) (v4 : Int32) (v5 : Int32) (v6 : Int32) (q : (Int32 × Hp)), k76 h v1 v2 v3 v4 v5 v6 = some q → V (Gs 6 (pI q)) mX6_arrive (0, 0) 76 [(0, .ref 54), (1, .int v1), (2, .int v2), (3, .int v3), (4, .int v4), (5, .int v5), (6, .int v6)] [] h) (h : Hp) (v1 : Int32) (v2 : Int32) (v3 : Int32) (v4 : Int32) (v5 : Int32) (v6 : Int32) (q : (Int32 × Hp)) (e : sX6_arrive_c76 k76 h v1 v2 v3 v4 v5 v6 = some q) : V (Gs 6 (pI q)) mX6_arrive (0, 0) 76 [(0, .ref 54), (1, .int v1), (2, .int v2), (3, .int v3), (4, .int v4), (5, .int v5), (6, .int v6)] [] h := by
  unfold sX6_arrive_c76 at e
  refine V.il dX6_arrive_76 (pc' := 78) rfl (j := 6) rfl ?_
  refine V.ilq dX6_arrive_78 (pc' := 79) rfl (j := 2) rfl ?_
  refine V.ic_ge dX6_arrive_79 (pc' := 82) rfl (tgt := 117) (by decide) (fun c => ?_) (fun c => ?_)
  · rw [if_pos c] at e
    refine V.pk [0, 1, 2, 3, 4, 5] rfl ?_
    exact vX6_arrive_c117 h v1 v2 v3 v4 v5 q e
  · rw [if_neg c] at e
    refine V.il dX6_arrive_82 (pc' := 84) rfl (j := 5) rfl ?_
    refine V.if_eq dX6_arrive_84 (pc' := 87) rfl (tgt := 117) (by decide) (fun c => ?_) (fun c => ?_)
    · rw [if_pos c] at e
      refine V.pk [0, 1, 2, 3, 4, 5] rfl ?_
      exact vX6_arrive_c117 h v1 v2 v3 v4 v5 q e
    · rw [if_neg c] at e
      refine V.alq dX6_arrive_87 (pc' := 88) rfl (j := 0) rfl ?_
      refine V.getr dX6_arrive_88 (pc' := 91) rfl FL_X6_87 rfl (by decide) rfl (r' := 66) rfl ?_
      refine V.il dX6_arrive_91 (pc' := 93) rfl (j := 6) rfl ?_
      obtain ⟨c6, e⟩ := gd_s e
      refine V.iald dX6_arrive_93 (pc' := 94) rfl rfl rfl (inb_t c6) ?_
      refine V.alq dX6_arrive_94 (pc' := 95) rfl (j := 0) rfl ?_
      refine V.getr dX6_arrive_95 (pc' := 98) rfl FL_X6_84 rfl (by decide) rfl (r' := 65) rfl ?_
      refine V.il dX6_arrive_98 (pc' := 100) rfl (j := 6) rfl ?_
      obtain ⟨c7, e⟩ := gd_s e
      refine V.iald dX6_arrive_100 (pc' := 101) rfl rfl rfl (inb_t c7) ?_
      refine V.ic_lt dX6_arrive_101 (pc' := 104) rfl (tgt := 108) (by decide) (fun c => ?_) (fun c => ?_)
      · rw [if_pos c] at e
        refine V.iconst dX6_arrive_108 (pc' := 109) rfl (v := 0) (by decide) ?_
        refine V.pk [0, 1, 2, 3, 4, 6] rfl ?_
        exact vX6_arrive_c109 k76 hk76 h v1 v2 v3 v4 v6 (0 : Int32) q e
      · rw [if_neg c] at e
        refine V.iconst dX6_arrive_104 (pc' := 105) rfl (v := 1) (by decide) ?_
        refine V.goto dX6_arrive_105 (pc' := 109) (by decide) ?_
        refine V.pk [0, 1, 2, 3, 4, 6] rfl ?_
        exact vX6_arrive_c109 k76 hk76 h v1 v2 v3 v4 v6 (1 : Int32) q e
def sX6_arrive_b76 : Nat → Hp → Int32 → Int32 → Int32 → Int32 → Int32 → Int32 → Option (Int32 × Hp)
  | 0 => fun _ _ _ _ _ _ _ => none
  | n + 1 => sX6_arrive_c76 (sX6_arrive_b76 n)
theorem vX6_arrive_b76 : ∀ (n : Nat) (h : Hp) (v1 : Int32) (v2 : Int32) (v3 : Int32) (v4 : Int32) (v5 : Int32) (v6 : Int32) (q : (Int32 × Hp)), sX6_arrive_b76 n h v1 v2 v3 v4 v5 v6 = some q → V (Gs 6 (pI q)) mX6_arrive (0, 0) 76 [(0, .ref 54), (1, .int v1), (2, .int v2), (3, .int v3), (4, .int v4), (5, .int v5), (6, .int v6)] [] h
  | 0 => fun _ _ _ _ _ _ _ _ e => by cases e
  | n + 1 => fun h v1 v2 v3 v4 v5 v6 q e => vX6_arrive_c76 (sX6_arrive_b76 n) (vX6_arrive_b76 n) h v1 v2 v3 v4 v5 v6 q e
def sX6_arrive_c67 (h : Hp) (v1 : Int32) (v2 : Int32) (v3 : Int32) (t0 : Int32) : Option (Int32 × Hp) :=
  sX6_arrive_b76 FU h v1 v2 v3 t0 t0 (0 : Int32)
set_option maxRecDepth 10000 in
theorem vX6_arrive_c67 (h : Hp) (v1 : Int32) (v2 : Int32) (v3 : Int32) (t0 : Int32) (q : (Int32 × Hp)) (e : sX6_arrive_c67 h v1 v2 v3 t0 = some q) : V (Gs 6 (pI q)) mX6_arrive (0, 0) 67 [(0, .ref 54), (1, .int v1), (2, .int v2), (3, .int v3)] [.int t0] h := by
  unfold sX6_arrive_c67 at e
  refine V.is dX6_arrive_67 (pc' := 69) rfl (by decide) rfl (L' := [(4, .int t0), (0, .ref 54), (1, .int v1), (2, .int v2), (3, .int v3)]) rfl ?_
  refine V.il dX6_arrive_69 (pc' := 71) rfl (j := 0) rfl ?_
  refine V.is dX6_arrive_71 (pc' := 73) rfl (by decide) rfl (L' := [(5, .int t0), (4, .int t0), (0, .ref 54), (1, .int v1), (2, .int v2), (3, .int v3)]) rfl ?_
  refine V.iconst dX6_arrive_73 (pc' := 74) rfl (v := 0) (by decide) ?_
  refine V.is dX6_arrive_74 (pc' := 76) rfl (by decide) rfl (L' := [(6, .int (0 : Int32)), (5, .int t0), (4, .int t0), (0, .ref 54), (1, .int v1), (2, .int v2), (3, .int v3)]) rfl ?_
  refine V.pk [3, 4, 5, 6, 2, 1, 0] rfl ?_
  exact vX6_arrive_b76 FU h v1 v2 v3 t0 t0 (0 : Int32) q e
def sX6_arrive_c49 (h : Hp) (v1 : Int32) (v2 : Int32) (t0 : Int32) (t1 : Int32) : Option (Int32 × Hp) :=
  (sX6_laysArriving h t1 t0 66).bind fun q5 => if q5.1 < v2 then (sX6_arrive_c67 q5.2 v1 v2 q5.1 (0 : Int32)) else (sX6_arrive_c67 q5.2 v1 v2 q5.1 (1 : Int32))
set_option maxRecDepth 10000 in
theorem vX6_arrive_c49 (h : Hp) (v1 : Int32) (v2 : Int32) (t0 : Int32) (t1 : Int32) (q : (Int32 × Hp)) (e : sX6_arrive_c49 h v1 v2 t0 t1 = some q) : V (Gs 6 (pI q)) mX6_arrive (0, 0) 49 [(0, .ref 54), (1, .int v1), (2, .int v2)] [.int t0, .int t1, .ref 54] h := by
  unfold sX6_arrive_c49 at e
  refine V.alq dX6_arrive_49 (pc' := 50) rfl (j := 0) rfl ?_
  refine V.getr dX6_arrive_50 (pc' := 53) rfl FL_X6_87 rfl (by decide) rfl (r' := 66) rfl ?_
  obtain ⟨q5, eq5, e⟩ := bd_s e
  refine V.callVi dX6_arrive_53 (pc' := 56) rfl CV_X6_259 (as := [.int t1, .int t0, .ref 66]) (kX6_laysArriving h t1 t0 66 q5 eq5) (Gs_rm (by decide)) rfl (by decide) rfl (Nat.le_of_ble_eq_true rfl) rfl ?_
  refine V.isq dX6_arrive_56 (pc' := 57) rfl (by decide) rfl (L' := [(3, .int q5.1), (0, .ref 54), (1, .int v1), (2, .int v2)]) rfl ?_
  refine V.ilq dX6_arrive_57 (pc' := 58) rfl (j := 3) rfl ?_
  refine V.ilq dX6_arrive_58 (pc' := 59) rfl (j := 0) rfl ?_
  refine V.ic_gt dX6_arrive_59 (pc' := 62) rfl (tgt := 66) (by decide) (fun c => ?_) (fun c => ?_)
  · rw [if_pos c] at e
    refine V.iconst dX6_arrive_66 (pc' := 67) rfl (v := 0) (by decide) ?_
    refine V.pk [1, 2, 3, 0] rfl ?_
    exact vX6_arrive_c67 q5.2 v1 v2 q5.1 (0 : Int32) q e
  · rw [if_neg c] at e
    refine V.iconst dX6_arrive_62 (pc' := 63) rfl (v := 1) (by decide) ?_
    refine V.goto dX6_arrive_63 (pc' := 67) (by decide) ?_
    refine V.pk [1, 2, 3, 0] rfl ?_
    exact vX6_arrive_c67 q5.2 v1 v2 q5.1 (1 : Int32) q e
def sX6_arrive_c29 (h : Hp) (v1 : Int32) (t0 : Int32) (t1 : Int32) : Option (Int32 × Hp) :=
  (sX6_laysArriving h t1 t0 65).bind fun q4 => if v1 = (1 : Int32) then (sX6_arrive_c49 q4.2 v1 q4.1 (1 : Int32) v1) else (sX6_arrive_c49 q4.2 v1 q4.1 (0 : Int32) v1)
set_option maxRecDepth 10000 in
theorem vX6_arrive_c29 (h : Hp) (v1 : Int32) (t0 : Int32) (t1 : Int32) (q : (Int32 × Hp)) (e : sX6_arrive_c29 h v1 t0 t1 = some q) : V (Gs 6 (pI q)) mX6_arrive (0, 0) 29 [(0, .ref 54), (1, .int v1)] [.int t0, .int t1, .ref 54] h := by
  unfold sX6_arrive_c29 at e
  refine V.alq dX6_arrive_29 (pc' := 30) rfl (j := 0) rfl ?_
  refine V.getr dX6_arrive_30 (pc' := 33) rfl FL_X6_84 rfl (by decide) rfl (r' := 65) rfl ?_
  obtain ⟨q4, eq4, e⟩ := bd_s e
  refine V.callVi dX6_arrive_33 (pc' := 36) rfl CV_X6_259 (as := [.int t1, .int t0, .ref 65]) (kX6_laysArriving h t1 t0 65 q4 eq4) (Gs_rm (by decide)) rfl (by decide) rfl (Nat.le_of_ble_eq_true rfl) rfl ?_
  refine V.isq dX6_arrive_36 (pc' := 37) rfl (by decide) rfl (L' := [(2, .int q4.1), (0, .ref 54), (1, .int v1)]) rfl ?_
  refine V.alq dX6_arrive_37 (pc' := 38) rfl (j := 1) rfl ?_
  refine V.ilq dX6_arrive_38 (pc' := 39) rfl (j := 2) rfl ?_
  refine V.ilq dX6_arrive_39 (pc' := 40) rfl (j := 2) rfl ?_
  refine V.iconst dX6_arrive_40 (pc' := 41) rfl (v := 1) (by decide) ?_
  refine V.ic_ne dX6_arrive_41 (pc' := 44) rfl (tgt := 48) (by decide) (fun c => ?_) (fun c => ?_)
  · rw [if_neg c] at e
    refine V.iconst dX6_arrive_48 (pc' := 49) rfl (v := 0) (by decide) ?_
    refine V.pk [1, 2, 0] rfl ?_
    exact vX6_arrive_c49 q4.2 v1 q4.1 (0 : Int32) v1 q e
  · rw [if_pos c] at e
    refine V.iconst dX6_arrive_44 (pc' := 45) rfl (v := 1) (by decide) ?_
    refine V.goto dX6_arrive_45 (pc' := 49) (by decide) ?_
    refine V.pk [1, 2, 0] rfl ?_
    exact vX6_arrive_c49 q4.2 v1 q4.1 (1 : Int32) v1 q e
def sX6_arrive (h : Hp) (a1 : Int32) : Option (Int32 × Hp) :=
  nm (u1 h 54 0 (0 : Int32)) fun h1 => (sX6_isSide h1 a1).bind fun q2 => if q2.1 = 0 then (some ((-1 : Int32), q2.2)) else ((sX6_finds q2.2).bind fun q3 => if a1 = 0 then (sX6_arrive_c29 q3 a1 (1 : Int32) a1) else (sX6_arrive_c29 q3 a1 (0 : Int32) a1))
set_option maxRecDepth 10000 in
theorem kX6_arrive (h : Hp) (a1 : Int32) (q : (Int32 × Hp)) (e : sX6_arrive h a1 = some q) : K 6 mX6_arrive [.ref 54, .int a1] h (pI q) := by
  unfold sX6_arrive at e
  refine K.ofV (by decide) rfl (Nat.le_of_ble_eq_true rfl) ?_
  show V (Gs 6 (pI q)) mX6_arrive (0, 0) 0 [(0, .ref 54), (1, .int a1)] [] h
  refine V.alq dX6_arrive_0 (pc' := 1) rfl (j := 0) rfl ?_
  refine V.iconst dX6_arrive_1 (pc' := 2) rfl (v := 0) (by decide) ?_
  obtain ⟨h1, eh1, e⟩ := nm_s e
  refine V.putf dX6_arrive_2 (pc' := 5) rfl FP_X6_1 rfl (by decide) rfl eh1 ?_
  refine V.ilq dX6_arrive_5 (pc' := 6) rfl (j := 1) rfl ?_
  obtain ⟨q2, eq2, e⟩ := bd_s e
  refine V.callSi dX6_arrive_6 (pc' := 9) rfl CS_X6_253 (as := [.int a1]) (kX6_isSide h1 a1 q2 eq2) (Gs_rm (by decide)) rfl (Nat.le_of_ble_eq_true rfl) rfl ?_
  refine V.if_ne dX6_arrive_9 (pc' := 12) rfl (tgt := 14) (by decide) (fun c => ?_) (fun c => ?_)
  · rw [if_neg c] at e
    refine V.alq dX6_arrive_14 (pc' := 15) rfl (j := 0) rfl ?_
    obtain ⟨q3, eq3, e⟩ := bd_s e
    refine V.callVv dX6_arrive_15 (pc' := 18) rfl CV_X6_256 (as := []) (kX6_finds q2.2 q3 eq3) (Gs_rm (by decide)) rfl (by decide) rfl (Nat.le_of_ble_eq_true rfl) rfl ?_
    refine V.alq dX6_arrive_18 (pc' := 19) rfl (j := 0) rfl ?_
    refine V.ilq dX6_arrive_19 (pc' := 20) rfl (j := 1) rfl ?_
    refine V.ilq dX6_arrive_20 (pc' := 21) rfl (j := 1) rfl ?_
    refine V.if_ne dX6_arrive_21 (pc' := 24) rfl (tgt := 28) (by decide) (fun c => ?_) (fun c => ?_)
    · rw [if_neg c] at e
      refine V.iconst dX6_arrive_28 (pc' := 29) rfl (v := 0) (by decide) ?_
      exact vX6_arrive_c29 q3 a1 (0 : Int32) a1 q e
    · rw [if_pos c] at e
      refine V.iconst dX6_arrive_24 (pc' := 25) rfl (v := 1) (by decide) ?_
      refine V.goto dX6_arrive_25 (pc' := 29) (by decide) ?_
      exact vX6_arrive_c29 q3 a1 (1 : Int32) a1 q e
  · rw [if_pos c] at e
    refine V.iconst dX6_arrive_12 (pc' := 13) rfl (v := -1) (by decide) ?_
    exact V.iret dX6_arrive_13 rfl (fnI e)

-- X6_range (level 6)
theorem dX6_range_0 : decode cX6_range 0 = .ok (.aload_n 0, 1) := by decide +kernel
theorem dX6_range_1 : decode cX6_range 1 = .ok (.iconst 0, 1) := by decide +kernel
theorem dX6_range_2 : decode cX6_range 2 = .ok (.putfield 1, 3) := by decide +kernel
theorem dX6_range_5 : decode cX6_range 5 = .ok (.iload_n 1, 1) := by decide +kernel
theorem dX6_range_6 : decode cX6_range 6 = .ok (.invokestatic 253, 3) := by decide +kernel
theorem dX6_range_9 : decode cX6_range 9 = .ok (.ifCond .eq 11, 3) := by decide +kernel
theorem dX6_range_12 : decode cX6_range 12 = .ok (.aload_n 0, 1) := by decide +kernel
theorem dX6_range_13 : decode cX6_range 13 = .ok (.iload_n 2, 1) := by decide +kernel
theorem dX6_range_14 : decode cX6_range 14 = .ok (.invokevirtual 137, 3) := by decide +kernel
theorem dX6_range_17 : decode cX6_range 17 = .ok (.ifCond .ne 5, 3) := by decide +kernel
theorem dX6_range_20 : decode cX6_range 20 = .ok (.iconst (-1), 1) := by decide +kernel
theorem dX6_range_21 : decode cX6_range 21 = .ok (.ireturn, 1) := by decide +kernel
theorem dX6_range_22 : decode cX6_range 22 = .ok (.aload_n 0, 1) := by decide +kernel
theorem dX6_range_23 : decode cX6_range 23 = .ok (.invokevirtual 256, 3) := by decide +kernel
theorem dX6_range_26 : decode cX6_range 26 = .ok (.aload_n 0, 1) := by decide +kernel
theorem dX6_range_27 : decode cX6_range 27 = .ok (.iload_n 1, 1) := by decide +kernel
theorem dX6_range_28 : decode cX6_range 28 = .ok (.iload_n 2, 1) := by decide +kernel
theorem dX6_range_29 : decode cX6_range 29 = .ok (.invokevirtual 250, 3) := by decide +kernel
theorem dX6_range_32 : decode cX6_range 32 = .ok (.ifCond .le 7, 3) := by decide +kernel
theorem dX6_range_35 : decode cX6_range 35 = .ok (.iconst 1, 1) := by decide +kernel
theorem dX6_range_36 : decode cX6_range 36 = .ok (.goto 4, 3) := by decide +kernel
theorem dX6_range_39 : decode cX6_range 39 = .ok (.iconst 0, 1) := by decide +kernel
theorem dX6_range_40 : decode cX6_range 40 = .ok (.istore_n 3, 1) := by decide +kernel
theorem dX6_range_41 : decode cX6_range 41 = .ok (.aload_n 0, 1) := by decide +kernel
theorem dX6_range_42 : decode cX6_range 42 = .ok (.iconst 0, 1) := by decide +kernel
theorem dX6_range_43 : decode cX6_range 43 = .ok (.putfield 11, 3) := by decide +kernel
theorem dX6_range_46 : decode cX6_range 46 = .ok (.aload_n 0, 1) := by decide +kernel
theorem dX6_range_47 : decode cX6_range 47 = .ok (.iload_n 3, 1) := by decide +kernel
theorem dX6_range_48 : decode cX6_range 48 = .ok (.ifCond .eq 13, 3) := by decide +kernel
theorem dX6_range_51 : decode cX6_range 51 = .ok (.aload_n 0, 1) := by decide +kernel
theorem dX6_range_52 : decode cX6_range 52 = .ok (.iload_n 1, 1) := by decide +kernel
theorem dX6_range_53 : decode cX6_range 53 = .ok (.iload_n 2, 1) := by decide +kernel
theorem dX6_range_54 : decode cX6_range 54 = .ok (.invokevirtual 247, 3) := by decide +kernel
theorem dX6_range_57 : decode cX6_range 57 = .ok (.i2l, 1) := by decide +kernel
theorem dX6_range_58 : decode cX6_range 58 = .ok (.goto 4, 3) := by decide +kernel
theorem dX6_range_61 : decode cX6_range 61 = .ok (.lconst 0, 1) := by decide +kernel
theorem dX6_range_62 : decode cX6_range 62 = .ok (.invokevirtual 18, 3) := by decide +kernel
theorem dX6_range_65 : decode cX6_range 65 = .ok (.aload_n 0, 1) := by decide +kernel
theorem dX6_range_66 : decode cX6_range 66 = .ok (.iload_n 3, 1) := by decide +kernel
theorem dX6_range_67 : decode cX6_range 67 = .ok (.ifCond .eq 13, 3) := by decide +kernel
theorem dX6_range_70 : decode cX6_range 70 = .ok (.aload_n 0, 1) := by decide +kernel
theorem dX6_range_71 : decode cX6_range 71 = .ok (.iload_n 1, 1) := by decide +kernel
theorem dX6_range_72 : decode cX6_range 72 = .ok (.iload_n 2, 1) := by decide +kernel
theorem dX6_range_73 : decode cX6_range 73 = .ok (.invokevirtual 244, 3) := by decide +kernel
theorem dX6_range_76 : decode cX6_range 76 = .ok (.i2l, 1) := by decide +kernel
theorem dX6_range_77 : decode cX6_range 77 = .ok (.goto 4, 3) := by decide +kernel
theorem dX6_range_80 : decode cX6_range 80 = .ok (.lconst 0, 1) := by decide +kernel
theorem dX6_range_81 : decode cX6_range 81 = .ok (.invokevirtual 18, 3) := by decide +kernel
theorem dX6_range_84 : decode cX6_range 84 = .ok (.aload_n 0, 1) := by decide +kernel
theorem dX6_range_85 : decode cX6_range 85 = .ok (.aload_n 0, 1) := by decide +kernel
theorem dX6_range_86 : decode cX6_range 86 = .ok (.iload_n 1, 1) := by decide +kernel
theorem dX6_range_87 : decode cX6_range 87 = .ok (.iload_n 2, 1) := by decide +kernel
theorem dX6_range_88 : decode cX6_range 88 = .ok (.invokevirtual 250, 3) := by decide +kernel
theorem dX6_range_91 : decode cX6_range 91 = .ok (.i2l, 1) := by decide +kernel
theorem dX6_range_92 : decode cX6_range 92 = .ok (.invokevirtual 18, 3) := by decide +kernel
theorem dX6_range_95 : decode cX6_range 95 = .ok (.aload_n 0, 1) := by decide +kernel
theorem dX6_range_96 : decode cX6_range 96 = .ok (.aload_n 0, 1) := by decide +kernel
theorem dX6_range_97 : decode cX6_range 97 = .ok (.iload_n 1, 1) := by decide +kernel
theorem dX6_range_98 : decode cX6_range 98 = .ok (.iload_n 2, 1) := by decide +kernel
theorem dX6_range_99 : decode cX6_range 99 = .ok (.invokevirtual 270, 3) := by decide +kernel
theorem dX6_range_102 : decode cX6_range 102 = .ok (.i2l, 1) := by decide +kernel
theorem dX6_range_103 : decode cX6_range 103 = .ok (.invokevirtual 18, 3) := by decide +kernel
theorem dX6_range_106 : decode cX6_range 106 = .ok (.iload_n 3, 1) := by decide +kernel
theorem dX6_range_107 : decode cX6_range 107 = .ok (.invokestatic 39, 3) := by decide +kernel
theorem dX6_range_110 : decode cX6_range 110 = .ok (.ireturn, 1) := by decide +kernel
def sX6_range_c20 (h : Hp) : Option (Int32 × Hp) :=
  some ((-1 : Int32), h)
set_option maxRecDepth 10000 in
theorem vX6_range_c20 (h : Hp) (q : (Int32 × Hp)) (e : sX6_range_c20 h = some q) : V (Gs 6 (pI q)) mX6_range (0, 0) 20 [] [] h := by
  unfold sX6_range_c20 at e
  refine V.iconst dX6_range_20 (pc' := 21) rfl (v := -1) (by decide) ?_
  exact V.iret dX6_range_21 rfl (fnI e)
def sX6_range_c81 (h : Hp) (v1 : Int32) (v2 : Int32) (v3 : Int32) (t0 : Int64) : Option (Int32 × Hp) :=
  (sX6_enters h t0).bind fun q10 => (sX6_heat q10 v1 v2).bind fun q11 => (sX6_enters q11.2 q11.1.toInt64).bind fun q12 => (sX6_rest q12 v1 v2).bind fun q13 => (sX6_enters q13.2 q13.1.toInt64).bind fun q14 => (sX6_flag q14 v3).bind fun q15 => some (q15.1, q15.2)
set_option maxRecDepth 10000 in
theorem vX6_range_c81 (h : Hp) (v1 : Int32) (v2 : Int32) (v3 : Int32) (t0 : Int64) (q : (Int32 × Hp)) (e : sX6_range_c81 h v1 v2 v3 t0 = some q) : V (Gs 6 (pI q)) mX6_range (0, 0) 81 [(0, .ref 54), (1, .int v1), (2, .int v2), (3, .int v3)] [.long t0, .ref 54] h := by
  unfold sX6_range_c81 at e
  obtain ⟨q10, eq10, e⟩ := bd_s e
  refine V.callVv dX6_range_81 (pc' := 84) rfl CV_X6_18 (as := [.long t0]) (kX6_enters h t0 q10 eq10) (Gs_rm (by decide)) rfl (by decide) rfl (Nat.le_of_ble_eq_true rfl) rfl ?_
  refine V.alq dX6_range_84 (pc' := 85) rfl (j := 0) rfl ?_
  refine V.alq dX6_range_85 (pc' := 86) rfl (j := 0) rfl ?_
  refine V.ilq dX6_range_86 (pc' := 87) rfl (j := 1) rfl ?_
  refine V.ilq dX6_range_87 (pc' := 88) rfl (j := 2) rfl ?_
  obtain ⟨q11, eq11, e⟩ := bd_s e
  refine V.callVi dX6_range_88 (pc' := 91) rfl CV_X6_250 (as := [.int v1, .int v2]) (kX6_heat q10 v1 v2 q11 eq11) (Gs_rm (by decide)) rfl (by decide) rfl (Nat.le_of_ble_eq_true rfl) rfl ?_
  refine V.i2l dX6_range_91 (pc' := 92) rfl ?_
  obtain ⟨q12, eq12, e⟩ := bd_s e
  refine V.callVv dX6_range_92 (pc' := 95) rfl CV_X6_18 (as := [.long q11.1.toInt64]) (kX6_enters q11.2 q11.1.toInt64 q12 eq12) (Gs_rm (by decide)) rfl (by decide) rfl (Nat.le_of_ble_eq_true rfl) rfl ?_
  refine V.alq dX6_range_95 (pc' := 96) rfl (j := 0) rfl ?_
  refine V.alq dX6_range_96 (pc' := 97) rfl (j := 0) rfl ?_
  refine V.ilq dX6_range_97 (pc' := 98) rfl (j := 1) rfl ?_
  refine V.ilq dX6_range_98 (pc' := 99) rfl (j := 2) rfl ?_
  obtain ⟨q13, eq13, e⟩ := bd_s e
  refine V.callVi dX6_range_99 (pc' := 102) rfl CV_X6_270 (as := [.int v1, .int v2]) (kX6_rest q12 v1 v2 q13 eq13) (Gs_rm (by decide)) rfl (by decide) rfl (Nat.le_of_ble_eq_true rfl) rfl ?_
  refine V.i2l dX6_range_102 (pc' := 103) rfl ?_
  obtain ⟨q14, eq14, e⟩ := bd_s e
  refine V.callVv dX6_range_103 (pc' := 106) rfl CV_X6_18 (as := [.long q13.1.toInt64]) (kX6_enters q13.2 q13.1.toInt64 q14 eq14) (Gs_rm (by decide)) rfl (by decide) rfl (Nat.le_of_ble_eq_true rfl) rfl ?_
  refine V.ilq dX6_range_106 (pc' := 107) rfl (j := 3) rfl ?_
  obtain ⟨q15, eq15, e⟩ := bd_s e
  refine V.callSi dX6_range_107 (pc' := 110) rfl CS_X6_39 (as := [.int v3]) (kX6_flag q14 v3 q15 eq15) (Gs_rm (by decide)) rfl (Nat.le_of_ble_eq_true rfl) rfl ?_
  exact V.iret dX6_range_110 rfl (fnI e)
def sX6_range_c62 (h : Hp) (v1 : Int32) (v2 : Int32) (v3 : Int32) (t0 : Int64) : Option (Int32 × Hp) :=
  (sX6_enters h t0).bind fun q8 => if v3 = 0 then (sX6_range_c81 q8 v1 v2 v3 (0 : Int64)) else ((sX6_far q8 v1 v2).bind fun q9 => sX6_range_c81 q9.2 v1 v2 v3 q9.1.toInt64)
set_option maxRecDepth 10000 in
theorem vX6_range_c62 (h : Hp) (v1 : Int32) (v2 : Int32) (v3 : Int32) (t0 : Int64) (q : (Int32 × Hp)) (e : sX6_range_c62 h v1 v2 v3 t0 = some q) : V (Gs 6 (pI q)) mX6_range (0, 0) 62 [(0, .ref 54), (1, .int v1), (2, .int v2), (3, .int v3)] [.long t0, .ref 54] h := by
  unfold sX6_range_c62 at e
  obtain ⟨q8, eq8, e⟩ := bd_s e
  refine V.callVv dX6_range_62 (pc' := 65) rfl CV_X6_18 (as := [.long t0]) (kX6_enters h t0 q8 eq8) (Gs_rm (by decide)) rfl (by decide) rfl (Nat.le_of_ble_eq_true rfl) rfl ?_
  refine V.alq dX6_range_65 (pc' := 66) rfl (j := 0) rfl ?_
  refine V.ilq dX6_range_66 (pc' := 67) rfl (j := 3) rfl ?_
  refine V.if_eq dX6_range_67 (pc' := 70) rfl (tgt := 80) (by decide) (fun c => ?_) (fun c => ?_)
  · rw [if_pos c] at e
    refine V.lconst dX6_range_80 (pc' := 81) rfl (v := 0) (by decide) ?_
    exact vX6_range_c81 q8 v1 v2 v3 (0 : Int64) q e
  · rw [if_neg c] at e
    refine V.alq dX6_range_70 (pc' := 71) rfl (j := 0) rfl ?_
    refine V.ilq dX6_range_71 (pc' := 72) rfl (j := 1) rfl ?_
    refine V.ilq dX6_range_72 (pc' := 73) rfl (j := 2) rfl ?_
    obtain ⟨q9, eq9, e⟩ := bd_s e
    refine V.callVi dX6_range_73 (pc' := 76) rfl CV_X6_244 (as := [.int v1, .int v2]) (kX6_far q8 v1 v2 q9 eq9) (Gs_rm (by decide)) rfl (by decide) rfl (Nat.le_of_ble_eq_true rfl) rfl ?_
    refine V.i2l dX6_range_76 (pc' := 77) rfl ?_
    refine V.goto dX6_range_77 (pc' := 81) (by decide) ?_
    exact vX6_range_c81 q9.2 v1 v2 v3 q9.1.toInt64 q e
def sX6_range_c40 (h : Hp) (v1 : Int32) (v2 : Int32) (t0 : Int32) : Option (Int32 × Hp) :=
  nm (u1 h 54 1 (0 : Int32)) fun h6 => if t0 = 0 then (sX6_range_c62 h6 v1 v2 t0 (0 : Int64)) else ((sX6_near h6 v1 v2).bind fun q7 => sX6_range_c62 q7.2 v1 v2 t0 q7.1.toInt64)
set_option maxRecDepth 10000 in
theorem vX6_range_c40 (h : Hp) (v1 : Int32) (v2 : Int32) (t0 : Int32) (q : (Int32 × Hp)) (e : sX6_range_c40 h v1 v2 t0 = some q) : V (Gs 6 (pI q)) mX6_range (0, 0) 40 [(0, .ref 54), (1, .int v1), (2, .int v2)] [.int t0] h := by
  unfold sX6_range_c40 at e
  refine V.isq dX6_range_40 (pc' := 41) rfl (by decide) rfl (L' := [(3, .int t0), (0, .ref 54), (1, .int v1), (2, .int v2)]) rfl ?_
  refine V.alq dX6_range_41 (pc' := 42) rfl (j := 1) rfl ?_
  refine V.iconst dX6_range_42 (pc' := 43) rfl (v := 0) (by decide) ?_
  obtain ⟨h6, eh6, e⟩ := nm_s e
  refine V.putf dX6_range_43 (pc' := 46) rfl FP_X6_11 rfl (by decide) rfl eh6 ?_
  refine V.alq dX6_range_46 (pc' := 47) rfl (j := 1) rfl ?_
  refine V.ilq dX6_range_47 (pc' := 48) rfl (j := 0) rfl ?_
  refine V.if_eq dX6_range_48 (pc' := 51) rfl (tgt := 61) (by decide) (fun c => ?_) (fun c => ?_)
  · rw [if_pos c] at e
    refine V.lconst dX6_range_61 (pc' := 62) rfl (v := 0) (by decide) ?_
    refine V.pk [1, 2, 3, 0] rfl ?_
    exact vX6_range_c62 h6 v1 v2 t0 (0 : Int64) q e
  · rw [if_neg c] at e
    refine V.alq dX6_range_51 (pc' := 52) rfl (j := 1) rfl ?_
    refine V.ilq dX6_range_52 (pc' := 53) rfl (j := 2) rfl ?_
    refine V.ilq dX6_range_53 (pc' := 54) rfl (j := 3) rfl ?_
    obtain ⟨q7, eq7, e⟩ := bd_s e
    refine V.callVi dX6_range_54 (pc' := 57) rfl CV_X6_247 (as := [.int v1, .int v2]) (kX6_near h6 v1 v2 q7 eq7) (Gs_rm (by decide)) rfl (by decide) rfl (Nat.le_of_ble_eq_true rfl) rfl ?_
    refine V.i2l dX6_range_57 (pc' := 58) rfl ?_
    refine V.goto dX6_range_58 (pc' := 62) (by decide) ?_
    refine V.pk [1, 2, 3, 0] rfl ?_
    exact vX6_range_c62 q7.2 v1 v2 t0 q7.1.toInt64 q e
def sX6_range (h : Hp) (a1 : Int32) (a2 : Int32) : Option (Int32 × Hp) :=
  nm (u1 h 54 0 (0 : Int32)) fun h1 => (sX6_isSide h1 a1).bind fun q2 => if q2.1 = 0 then (sX6_range_c20 q2.2) else ((sX6_isStream q2.2 a2).bind fun q3 => if q3.1 = 0 then (sX6_range_c20 q3.2) else ((sX6_finds q3.2).bind fun q4 => (sX6_heat q4 a1 a2).bind fun q5 => if q5.1 ≤ 0 then (sX6_range_c40 q5.2 a1 a2 (0 : Int32)) else (sX6_range_c40 q5.2 a1 a2 (1 : Int32))))
set_option maxRecDepth 10000 in
theorem kX6_range (h : Hp) (a1 : Int32) (a2 : Int32) (q : (Int32 × Hp)) (e : sX6_range h a1 a2 = some q) : K 6 mX6_range [.ref 54, .int a1, .int a2] h (pI q) := by
  unfold sX6_range at e
  refine K.ofV (by decide) rfl (Nat.le_of_ble_eq_true rfl) ?_
  show V (Gs 6 (pI q)) mX6_range (0, 0) 0 [(0, .ref 54), (1, .int a1), (2, .int a2)] [] h
  refine V.alq dX6_range_0 (pc' := 1) rfl (j := 0) rfl ?_
  refine V.iconst dX6_range_1 (pc' := 2) rfl (v := 0) (by decide) ?_
  obtain ⟨h1, eh1, e⟩ := nm_s e
  refine V.putf dX6_range_2 (pc' := 5) rfl FP_X6_1 rfl (by decide) rfl eh1 ?_
  refine V.ilq dX6_range_5 (pc' := 6) rfl (j := 1) rfl ?_
  obtain ⟨q2, eq2, e⟩ := bd_s e
  refine V.callSi dX6_range_6 (pc' := 9) rfl CS_X6_253 (as := [.int a1]) (kX6_isSide h1 a1 q2 eq2) (Gs_rm (by decide)) rfl (Nat.le_of_ble_eq_true rfl) rfl ?_
  refine V.if_eq dX6_range_9 (pc' := 12) rfl (tgt := 20) (by decide) (fun c => ?_) (fun c => ?_)
  · rw [if_pos c] at e
    refine V.pk [] rfl ?_
    exact vX6_range_c20 q2.2 q e
  · rw [if_neg c] at e
    refine V.alq dX6_range_12 (pc' := 13) rfl (j := 0) rfl ?_
    refine V.ilq dX6_range_13 (pc' := 14) rfl (j := 2) rfl ?_
    obtain ⟨q3, eq3, e⟩ := bd_s e
    refine V.callVi dX6_range_14 (pc' := 17) rfl CV_X6_137 (as := [.int a2]) (kX6_isStream q2.2 a2 q3 eq3) (Gs_rm (by decide)) rfl (by decide) rfl (Nat.le_of_ble_eq_true rfl) rfl ?_
    refine V.if_ne dX6_range_17 (pc' := 20) rfl (tgt := 22) (by decide) (fun c => ?_) (fun c => ?_)
    · rw [if_neg c] at e
      refine V.alq dX6_range_22 (pc' := 23) rfl (j := 0) rfl ?_
      obtain ⟨q4, eq4, e⟩ := bd_s e
      refine V.callVv dX6_range_23 (pc' := 26) rfl CV_X6_256 (as := []) (kX6_finds q3.2 q4 eq4) (Gs_rm (by decide)) rfl (by decide) rfl (Nat.le_of_ble_eq_true rfl) rfl ?_
      refine V.alq dX6_range_26 (pc' := 27) rfl (j := 0) rfl ?_
      refine V.ilq dX6_range_27 (pc' := 28) rfl (j := 1) rfl ?_
      refine V.ilq dX6_range_28 (pc' := 29) rfl (j := 2) rfl ?_
      obtain ⟨q5, eq5, e⟩ := bd_s e
      refine V.callVi dX6_range_29 (pc' := 32) rfl CV_X6_250 (as := [.int a1, .int a2]) (kX6_heat q4 a1 a2 q5 eq5) (Gs_rm (by decide)) rfl (by decide) rfl (Nat.le_of_ble_eq_true rfl) rfl ?_
      refine V.if_le dX6_range_32 (pc' := 35) rfl (tgt := 39) (by decide) (fun c => ?_) (fun c => ?_)
      · rw [if_pos c] at e
        refine V.iconst dX6_range_39 (pc' := 40) rfl (v := 0) (by decide) ?_
        exact vX6_range_c40 q5.2 a1 a2 (0 : Int32) q e
      · rw [if_neg c] at e
        refine V.iconst dX6_range_35 (pc' := 36) rfl (v := 1) (by decide) ?_
        refine V.goto dX6_range_36 (pc' := 40) (by decide) ?_
        exact vX6_range_c40 q5.2 a1 a2 (1 : Int32) q e
    · rw [if_pos c] at e
      refine V.pk [] rfl ?_
      exact vX6_range_c20 q3.2 q e

-- X6_keeps (level 6)
theorem dX6_keeps_0 : decode cX6_keeps 0 = .ok (.iload_n 1, 1) := by decide +kernel
theorem dX6_keeps_1 : decode cX6_keeps 1 = .ok (.iload_n 2, 1) := by decide +kernel
theorem dX6_keeps_2 : decode cX6_keeps 2 = .ok (.invokestatic 263, 3) := by decide +kernel
theorem dX6_keeps_5 : decode cX6_keeps 5 = .ok (.istore 4, 2) := by decide +kernel
theorem dX6_keeps_7 : decode cX6_keeps 7 = .ok (.aload_n 0, 1) := by decide +kernel
theorem dX6_keeps_8 : decode cX6_keeps 8 = .ok (.iload_n 1, 1) := by decide +kernel
theorem dX6_keeps_9 : decode cX6_keeps 9 = .ok (.iload_n 2, 1) := by decide +kernel
theorem dX6_keeps_10 : decode cX6_keeps 10 = .ok (.iload_n 3, 1) := by decide +kernel
theorem dX6_keeps_11 : decode cX6_keeps 11 = .ok (.invokevirtual 281, 3) := by decide +kernel
theorem dX6_keeps_14 : decode cX6_keeps 14 = .ok (.aload_n 0, 1) := by decide +kernel
theorem dX6_keeps_15 : decode cX6_keeps 15 = .ok (.aload_n 0, 1) := by decide +kernel
theorem dX6_keeps_16 : decode cX6_keeps 16 = .ok (.getfield 93, 3) := by decide +kernel
theorem dX6_keeps_19 : decode cX6_keeps 19 = .ok (.iload 4, 2) := by decide +kernel
theorem dX6_keeps_21 : decode cX6_keeps 21 = .ok (.iaload, 1) := by decide +kernel
theorem dX6_keeps_22 : decode cX6_keeps 22 = .ok (.aload_n 0, 1) := by decide +kernel
theorem dX6_keeps_23 : decode cX6_keeps 23 = .ok (.getfield 96, 3) := by decide +kernel
theorem dX6_keeps_26 : decode cX6_keeps 26 = .ok (.iload 4, 2) := by decide +kernel
theorem dX6_keeps_28 : decode cX6_keeps 28 = .ok (.iaload, 1) := by decide +kernel
theorem dX6_keeps_29 : decode cX6_keeps 29 = .ok (.invokevirtual 285, 3) := by decide +kernel
theorem dX6_keeps_32 : decode cX6_keeps 32 = .ok (.lcmp, 1) := by decide +kernel
theorem dX6_keeps_33 : decode cX6_keeps 33 = .ok (.ifCond .lt 7, 3) := by decide +kernel
theorem dX6_keeps_36 : decode cX6_keeps 36 = .ok (.iconst 1, 1) := by decide +kernel
theorem dX6_keeps_37 : decode cX6_keeps 37 = .ok (.goto 4, 3) := by decide +kernel
theorem dX6_keeps_40 : decode cX6_keeps 40 = .ok (.iconst 0, 1) := by decide +kernel
theorem dX6_keeps_41 : decode cX6_keeps 41 = .ok (.ireturn, 1) := by decide +kernel
def sX6_keeps_c41 (h : Hp) (t0 : Int32) : Option (Int32 × Hp) :=
  gd (zb t0) (some (t0, h))
set_option maxRecDepth 10000 in
theorem vX6_keeps_c41 (h : Hp) (t0 : Int32) (q : (Int32 × Hp)) (e : sX6_keeps_c41 h t0 = some q) : V (Gs 6 (pI q)) mX6_keeps (0, 0) 41 [] [.int t0] h := by
  unfold sX6_keeps_c41 at e
  obtain ⟨c6, e⟩ := gd_s e
  exact V.zret dX6_keeps_41 rfl (zb_t c6) (fnI e)
def sX6_keeps (h : Hp) (a1 : Int32) (a2 : Int32) (a3 : Int32) : Option (Int32 × Hp) :=
  (sX6_place h a1 a2).bind fun q1 => (sX6_widthAt q1.2 a1 a2 a3).bind fun q2 => gd (inb q1.1 50) (gd (inb q1.1 50) ((sX6_least q2.2 (q2.2.1 68 q1.1.toNatClampNeg) (q2.2.1 69 q1.1.toNatClampNeg)).bind fun q5 => if (lg_cmp q2.1 q5.1) < 0 then (sX6_keeps_c41 q5.2 (0 : Int32)) else (sX6_keeps_c41 q5.2 (1 : Int32))))
set_option maxRecDepth 10000 in
theorem kX6_keeps (h : Hp) (a1 : Int32) (a2 : Int32) (a3 : Int32) (q : (Int32 × Hp)) (e : sX6_keeps h a1 a2 a3 = some q) : K 6 mX6_keeps [.ref 54, .int a1, .int a2, .int a3] h (pI q) := by
  unfold sX6_keeps at e
  refine K.ofV (by decide) rfl (Nat.le_of_ble_eq_true rfl) ?_
  show V (Gs 6 (pI q)) mX6_keeps (0, 0) 0 [(0, .ref 54), (1, .int a1), (2, .int a2), (3, .int a3)] [] h
  refine V.ilq dX6_keeps_0 (pc' := 1) rfl (j := 1) rfl ?_
  refine V.ilq dX6_keeps_1 (pc' := 2) rfl (j := 2) rfl ?_
  obtain ⟨q1, eq1, e⟩ := bd_s e
  refine V.callSi dX6_keeps_2 (pc' := 5) rfl CS_X6_263 (as := [.int a1, .int a2]) (kX6_place h a1 a2 q1 eq1) (Gs_rm (by decide)) rfl (Nat.le_of_ble_eq_true rfl) rfl ?_
  refine V.is dX6_keeps_5 (pc' := 7) rfl (by decide) rfl (L' := [(4, .int q1.1), (0, .ref 54), (1, .int a1), (2, .int a2), (3, .int a3)]) rfl ?_
  refine V.alq dX6_keeps_7 (pc' := 8) rfl (j := 1) rfl ?_
  refine V.ilq dX6_keeps_8 (pc' := 9) rfl (j := 2) rfl ?_
  refine V.ilq dX6_keeps_9 (pc' := 10) rfl (j := 3) rfl ?_
  refine V.ilq dX6_keeps_10 (pc' := 11) rfl (j := 4) rfl ?_
  obtain ⟨q2, eq2, e⟩ := bd_s e
  refine V.callVl dX6_keeps_11 (pc' := 14) rfl CV_X6_281 (as := [.int a1, .int a2, .int a3]) (kX6_widthAt q1.2 a1 a2 a3 q2 eq2) (Gs_rm (by decide)) rfl (by decide) rfl (Nat.le_of_ble_eq_true rfl) rfl ?_
  refine V.alq dX6_keeps_14 (pc' := 15) rfl (j := 1) rfl ?_
  refine V.alq dX6_keeps_15 (pc' := 16) rfl (j := 1) rfl ?_
  refine V.getr dX6_keeps_16 (pc' := 19) rfl FL_X6_93 rfl (by decide) rfl (r' := 68) rfl ?_
  refine V.il dX6_keeps_19 (pc' := 21) rfl (j := 0) rfl ?_
  obtain ⟨c3, e⟩ := gd_s e
  refine V.iald dX6_keeps_21 (pc' := 22) rfl rfl rfl (inb_t c3) ?_
  refine V.alq dX6_keeps_22 (pc' := 23) rfl (j := 1) rfl ?_
  refine V.getr dX6_keeps_23 (pc' := 26) rfl FL_X6_96 rfl (by decide) rfl (r' := 69) rfl ?_
  refine V.il dX6_keeps_26 (pc' := 28) rfl (j := 0) rfl ?_
  obtain ⟨c4, e⟩ := gd_s e
  refine V.iald dX6_keeps_28 (pc' := 29) rfl rfl rfl (inb_t c4) ?_
  obtain ⟨q5, eq5, e⟩ := bd_s e
  refine V.callVl dX6_keeps_29 (pc' := 32) rfl CV_X6_285 (as := [.int (q2.2.1 68 q1.1.toNatClampNeg), .int (q2.2.1 69 q1.1.toNatClampNeg)]) (kX6_least q2.2 (q2.2.1 68 q1.1.toNatClampNeg) (q2.2.1 69 q1.1.toNatClampNeg) q5 eq5) (Gs_rm (by decide)) rfl (by decide) rfl (Nat.le_of_ble_eq_true rfl) rfl ?_
  refine V.lcmp dX6_keeps_32 (pc' := 33) rfl ?_
  refine V.if_lt dX6_keeps_33 (pc' := 36) rfl (tgt := 40) (by decide) (fun c => ?_) (fun c => ?_)
  · rw [if_pos c] at e
    refine V.iconst dX6_keeps_40 (pc' := 41) rfl (v := 0) (by decide) ?_
    refine V.pk [] rfl ?_
    exact vX6_keeps_c41 q5.2 (0 : Int32) q e
  · rw [if_neg c] at e
    refine V.iconst dX6_keeps_36 (pc' := 37) rfl (v := 1) (by decide) ?_
    refine V.goto dX6_keeps_37 (pc' := 41) (by decide) ?_
    refine V.pk [] rfl ?_
    exact vX6_keeps_c41 q5.2 (1 : Int32) q e

-- X6_mostOf (level 6)
theorem dX6_mostOf_0 : decode cX6_mostOf 0 = .ok (.aload_n 0, 1) := by decide +kernel
theorem dX6_mostOf_1 : decode cX6_mostOf 1 = .ok (.iload_n 1, 1) := by decide +kernel
theorem dX6_mostOf_2 : decode cX6_mostOf 2 = .ok (.iload_n 2, 1) := by decide +kernel
theorem dX6_mostOf_3 : decode cX6_mostOf 3 = .ok (.iload_n 3, 1) := by decide +kernel
theorem dX6_mostOf_4 : decode cX6_mostOf 4 = .ok (.aload_n 0, 1) := by decide +kernel
theorem dX6_mostOf_5 : decode cX6_mostOf 5 = .ok (.iload_n 1, 1) := by decide +kernel
theorem dX6_mostOf_6 : decode cX6_mostOf 6 = .ok (.iload_n 2, 1) := by decide +kernel
theorem dX6_mostOf_7 : decode cX6_mostOf 7 = .ok (.aload_n 0, 1) := by decide +kernel
theorem dX6_mostOf_8 : decode cX6_mostOf 8 = .ok (.getfield 90, 3) := by decide +kernel
theorem dX6_mostOf_11 : decode cX6_mostOf 11 = .ok (.iload_n 1, 1) := by decide +kernel
theorem dX6_mostOf_12 : decode cX6_mostOf 12 = .ok (.iaload, 1) := by decide +kernel
theorem dX6_mostOf_13 : decode cX6_mostOf 13 = .ok (.invokevirtual 266, 3) := by decide +kernel
theorem dX6_mostOf_16 : decode cX6_mostOf 16 = .ok (.aload_n 0, 1) := by decide +kernel
theorem dX6_mostOf_17 : decode cX6_mostOf 17 = .ok (.iload_n 1, 1) := by decide +kernel
theorem dX6_mostOf_18 : decode cX6_mostOf 18 = .ok (.iload_n 3, 1) := by decide +kernel
theorem dX6_mostOf_19 : decode cX6_mostOf 19 = .ok (.aload_n 0, 1) := by decide +kernel
theorem dX6_mostOf_20 : decode cX6_mostOf 20 = .ok (.getfield 90, 3) := by decide +kernel
theorem dX6_mostOf_23 : decode cX6_mostOf 23 = .ok (.iload_n 1, 1) := by decide +kernel
theorem dX6_mostOf_24 : decode cX6_mostOf 24 = .ok (.iaload, 1) := by decide +kernel
theorem dX6_mostOf_25 : decode cX6_mostOf 25 = .ok (.invokevirtual 266, 3) := by decide +kernel
theorem dX6_mostOf_28 : decode cX6_mostOf 28 = .ok (.invokevirtual 273, 3) := by decide +kernel
theorem dX6_mostOf_31 : decode cX6_mostOf 31 = .ok (.aload_n 0, 1) := by decide +kernel
theorem dX6_mostOf_32 : decode cX6_mostOf 32 = .ok (.iload_n 2, 1) := by decide +kernel
theorem dX6_mostOf_33 : decode cX6_mostOf 33 = .ok (.iload_n 3, 1) := by decide +kernel
theorem dX6_mostOf_34 : decode cX6_mostOf 34 = .ok (.invokevirtual 285, 3) := by decide +kernel
theorem dX6_mostOf_37 : decode cX6_mostOf 37 = .ok (.lsub, 1) := by decide +kernel
theorem dX6_mostOf_38 : decode cX6_mostOf 38 = .ok (.lstore 4, 2) := by decide +kernel
theorem dX6_mostOf_40 : decode cX6_mostOf 40 = .ok (.lload 4, 2) := by decide +kernel
theorem dX6_mostOf_42 : decode cX6_mostOf 42 = .ok (.lconst 0, 1) := by decide +kernel
theorem dX6_mostOf_43 : decode cX6_mostOf 43 = .ok (.lcmp, 1) := by decide +kernel
theorem dX6_mostOf_44 : decode cX6_mostOf 44 = .ok (.ifCond .ge 5, 3) := by decide +kernel
theorem dX6_mostOf_47 : decode cX6_mostOf 47 = .ok (.iconst 0, 1) := by decide +kernel
theorem dX6_mostOf_48 : decode cX6_mostOf 48 = .ok (.ireturn, 1) := by decide +kernel
theorem dX6_mostOf_49 : decode cX6_mostOf 49 = .ok (.aload_n 0, 1) := by decide +kernel
theorem dX6_mostOf_50 : decode cX6_mostOf 50 = .ok (.iload_n 1, 1) := by decide +kernel
theorem dX6_mostOf_51 : decode cX6_mostOf 51 = .ok (.iload_n 2, 1) := by decide +kernel
theorem dX6_mostOf_52 : decode cX6_mostOf 52 = .ok (.invokevirtual 270, 3) := by decide +kernel
theorem dX6_mostOf_55 : decode cX6_mostOf 55 = .ok (.aload_n 0, 1) := by decide +kernel
theorem dX6_mostOf_56 : decode cX6_mostOf 56 = .ok (.iload_n 1, 1) := by decide +kernel
theorem dX6_mostOf_57 : decode cX6_mostOf 57 = .ok (.iload_n 3, 1) := by decide +kernel
theorem dX6_mostOf_58 : decode cX6_mostOf 58 = .ok (.invokevirtual 270, 3) := by decide +kernel
theorem dX6_mostOf_61 : decode cX6_mostOf 61 = .ok (.invokestatic 168, 3) := by decide +kernel
theorem dX6_mostOf_64 : decode cX6_mostOf 64 = .ok (.istore 6, 2) := by decide +kernel
theorem dX6_mostOf_66 : decode cX6_mostOf 66 = .ok (.aload_n 0, 1) := by decide +kernel
theorem dX6_mostOf_67 : decode cX6_mostOf 67 = .ok (.getfield 63, 3) := by decide +kernel
theorem dX6_mostOf_70 : decode cX6_mostOf 70 = .ok (.iload_n 2, 1) := by decide +kernel
theorem dX6_mostOf_71 : decode cX6_mostOf 71 = .ok (.iaload, 1) := by decide +kernel
theorem dX6_mostOf_72 : decode cX6_mostOf 72 = .ok (.aload_n 0, 1) := by decide +kernel
theorem dX6_mostOf_73 : decode cX6_mostOf 73 = .ok (.getfield 63, 3) := by decide +kernel
theorem dX6_mostOf_76 : decode cX6_mostOf 76 = .ok (.iload_n 3, 1) := by decide +kernel
theorem dX6_mostOf_77 : decode cX6_mostOf 77 = .ok (.iaload, 1) := by decide +kernel
theorem dX6_mostOf_78 : decode cX6_mostOf 78 = .ok (.isub, 1) := by decide +kernel
theorem dX6_mostOf_79 : decode cX6_mostOf 79 = .ok (.iload_n 1, 1) := by decide +kernel
theorem dX6_mostOf_80 : decode cX6_mostOf 80 = .ok (.ifCond .ne 7, 3) := by decide +kernel
theorem dX6_mostOf_83 : decode cX6_mostOf 83 = .ok (.iconst 1, 1) := by decide +kernel
theorem dX6_mostOf_84 : decode cX6_mostOf 84 = .ok (.goto 4, 3) := by decide +kernel
theorem dX6_mostOf_87 : decode cX6_mostOf 87 = .ok (.iconst (-1), 1) := by decide +kernel
theorem dX6_mostOf_88 : decode cX6_mostOf 88 = .ok (.imul, 1) := by decide +kernel
theorem dX6_mostOf_89 : decode cX6_mostOf 89 = .ok (.istore 7, 2) := by decide +kernel
theorem dX6_mostOf_91 : decode cX6_mostOf 91 = .ok (.iload 7, 2) := by decide +kernel
theorem dX6_mostOf_93 : decode cX6_mostOf 93 = .ok (.ifCond .le 19, 3) := by decide +kernel
theorem dX6_mostOf_96 : decode cX6_mostOf 96 = .ok (.iload 6, 2) := by decide +kernel
theorem dX6_mostOf_98 : decode cX6_mostOf 98 = .ok (.i2l, 1) := by decide +kernel
theorem dX6_mostOf_99 : decode cX6_mostOf 99 = .ok (.lload 4, 2) := by decide +kernel
theorem dX6_mostOf_101 : decode cX6_mostOf 101 = .ok (.iload 7, 2) := by decide +kernel
theorem dX6_mostOf_103 : decode cX6_mostOf 103 = .ok (.i2l, 1) := by decide +kernel
theorem dX6_mostOf_104 : decode cX6_mostOf 104 = .ok (.ldiv, 1) := by decide +kernel
theorem dX6_mostOf_105 : decode cX6_mostOf 105 = .ok (.invokestatic 299, 3) := by decide +kernel
theorem dX6_mostOf_108 : decode cX6_mostOf 108 = .ok (.l2i, 1) := by decide +kernel
theorem dX6_mostOf_109 : decode cX6_mostOf 109 = .ok (.goto 5, 3) := by decide +kernel
theorem dX6_mostOf_112 : decode cX6_mostOf 112 = .ok (.iload 6, 2) := by decide +kernel
theorem dX6_mostOf_114 : decode cX6_mostOf 114 = .ok (.ireturn, 1) := by decide +kernel
def sX6_mostOf_c114 (h : Hp) (t0 : Int32) : Option (Int32 × Hp) :=
  some (t0, h)
set_option maxRecDepth 10000 in
theorem vX6_mostOf_c114 (h : Hp) (t0 : Int32) (q : (Int32 × Hp)) (e : sX6_mostOf_c114 h t0 = some q) : V (Gs 6 (pI q)) mX6_mostOf (0, 0) 114 [] [.int t0] h := by
  unfold sX6_mostOf_c114 at e
  exact V.iret dX6_mostOf_114 rfl (fnI e)
def sX6_mostOf_c88 (h : Hp) (v4 : Int64) (v6 : Int32) (t0 : Int32) (t1 : Int32) : Option (Int32 × Hp) :=
  nm ((t1 * t0)) fun x13 => if x13 ≤ 0 then (sX6_mostOf_c114 h v6) else (gd (nzL x13.toInt64) (sX6_mostOf_c114 h ((lmin v6.toInt64 (v4 / x13.toInt64)).toInt32)))
set_option maxRecDepth 10000 in
theorem vX6_mostOf_c88 (h : Hp) (v4 : Int64) (v6 : Int32) (t0 : Int32) (t1 : Int32) (q : (Int32 × Hp)) (e : sX6_mostOf_c88 h v4 v6 t0 t1 = some q) : V (Gs 6 (pI q)) mX6_mostOf (0, 0) 88 [(4, .long v4), (6, .int v6)] [.int t0, .int t1] h := by
  unfold sX6_mostOf_c88 at e
  refine V.imul dX6_mostOf_88 (pc' := 89) rfl ?_
  obtain ⟨x13, ex13, e⟩ := nm_s e
  refine V.is dX6_mostOf_89 (pc' := 91) rfl (by decide) ex13 (L' := [(7, .int x13), (4, .long v4), (6, .int v6)]) rfl ?_
  refine V.il dX6_mostOf_91 (pc' := 93) rfl (j := 0) rfl ?_
  refine V.if_le dX6_mostOf_93 (pc' := 96) rfl (tgt := 112) (by decide) (fun c => ?_) (fun c => ?_)
  · rw [if_pos c] at e
    refine V.il dX6_mostOf_112 (pc' := 114) rfl (j := 2) rfl ?_
    refine V.pk [] rfl ?_
    exact vX6_mostOf_c114 h v6 q e
  · rw [if_neg c] at e
    refine V.il dX6_mostOf_96 (pc' := 98) rfl (j := 2) rfl ?_
    refine V.i2l dX6_mostOf_98 (pc' := 99) rfl ?_
    refine V.ll dX6_mostOf_99 (pc' := 101) rfl (j := 1) rfl ?_
    refine V.il dX6_mostOf_101 (pc' := 103) rfl (j := 0) rfl ?_
    refine V.i2l dX6_mostOf_103 (pc' := 104) rfl ?_
    obtain ⟨c14, e⟩ := gd_s e
    refine V.ldiv dX6_mostOf_104 (pc' := 105) rfl (nzL_t c14) ?_
    refine V.mminL dX6_mostOf_105 (pc' := 108) rfl (Gs_rm (by decide)) ML_X6_299 MS_lmin MI_Math MC_lmin (Nat.le_of_ble_eq_true rfl) ?_
    refine V.l2i dX6_mostOf_108 (pc' := 109) rfl ?_
    refine V.goto dX6_mostOf_109 (pc' := 114) (by decide) ?_
    refine V.pk [] rfl ?_
    exact vX6_mostOf_c114 h ((lmin v6.toInt64 (v4 / x13.toInt64)).toInt32) q e
def sX6_mostOf (h : Hp) (a1 : Int32) (a2 : Int32) (a3 : Int32) : Option (Int32 × Hp) :=
  gd (inb a1 2) ((sX6_used h a1 a2 (h.1 67 a1.toNatClampNeg)).bind fun q2 => gd (inb a1 2) ((sX6_used q2.2 a1 a3 (q2.2.1 67 a1.toNatClampNeg)).bind fun q4 => (sX6_width q4.2 a1 a2 a3 q2.1 q4.1).bind fun q5 => (sX6_least q5.2 a2 a3).bind fun q6 => nm ((q5.1 - q6.1)) fun x7 => if 0 ≤ (lg_cmp x7 (0 : Int64)) then ((sX6_rest q6.2 a1 a2).bind fun q8 => (sX6_rest q8.2 a1 a3).bind fun q9 => nm ((imin q8.1 q9.1)) fun x10 => gd (inb a2 10) (gd (inb a3 10) (if a1 = 0 then (sX6_mostOf_c88 q9.2 x7 x10 (1 : Int32) ((q9.2.1 59 a2.toNatClampNeg) - (q9.2.1 59 a3.toNatClampNeg))) else (sX6_mostOf_c88 q9.2 x7 x10 (-1 : Int32) ((q9.2.1 59 a2.toNatClampNeg) - (q9.2.1 59 a3.toNatClampNeg)))))) else (some ((0 : Int32), q6.2))))
set_option maxRecDepth 10000 in
theorem kX6_mostOf (h : Hp) (a1 : Int32) (a2 : Int32) (a3 : Int32) (q : (Int32 × Hp)) (e : sX6_mostOf h a1 a2 a3 = some q) : K 6 mX6_mostOf [.ref 54, .int a1, .int a2, .int a3] h (pI q) := by
  unfold sX6_mostOf at e
  refine K.ofV (by decide) rfl (Nat.le_of_ble_eq_true rfl) ?_
  show V (Gs 6 (pI q)) mX6_mostOf (0, 0) 0 [(0, .ref 54), (1, .int a1), (2, .int a2), (3, .int a3)] [] h
  refine V.alq dX6_mostOf_0 (pc' := 1) rfl (j := 0) rfl ?_
  refine V.ilq dX6_mostOf_1 (pc' := 2) rfl (j := 1) rfl ?_
  refine V.ilq dX6_mostOf_2 (pc' := 3) rfl (j := 2) rfl ?_
  refine V.ilq dX6_mostOf_3 (pc' := 4) rfl (j := 3) rfl ?_
  refine V.alq dX6_mostOf_4 (pc' := 5) rfl (j := 0) rfl ?_
  refine V.ilq dX6_mostOf_5 (pc' := 6) rfl (j := 1) rfl ?_
  refine V.ilq dX6_mostOf_6 (pc' := 7) rfl (j := 2) rfl ?_
  refine V.alq dX6_mostOf_7 (pc' := 8) rfl (j := 0) rfl ?_
  refine V.getr dX6_mostOf_8 (pc' := 11) rfl FL_X6_90 rfl (by decide) rfl (r' := 67) rfl ?_
  refine V.ilq dX6_mostOf_11 (pc' := 12) rfl (j := 1) rfl ?_
  obtain ⟨c1, e⟩ := gd_s e
  refine V.iald dX6_mostOf_12 (pc' := 13) rfl rfl rfl (inb_t c1) ?_
  obtain ⟨q2, eq2, e⟩ := bd_s e
  refine V.callVi dX6_mostOf_13 (pc' := 16) rfl CV_X6_266 (as := [.int a1, .int a2, .int (h.1 67 a1.toNatClampNeg)]) (kX6_used h a1 a2 (h.1 67 a1.toNatClampNeg) q2 eq2) (Gs_rm (by decide)) rfl (by decide) rfl (Nat.le_of_ble_eq_true rfl) rfl ?_
  refine V.alq dX6_mostOf_16 (pc' := 17) rfl (j := 0) rfl ?_
  refine V.ilq dX6_mostOf_17 (pc' := 18) rfl (j := 1) rfl ?_
  refine V.ilq dX6_mostOf_18 (pc' := 19) rfl (j := 3) rfl ?_
  refine V.alq dX6_mostOf_19 (pc' := 20) rfl (j := 0) rfl ?_
  refine V.getr dX6_mostOf_20 (pc' := 23) rfl FL_X6_90 rfl (by decide) rfl (r' := 67) rfl ?_
  refine V.ilq dX6_mostOf_23 (pc' := 24) rfl (j := 1) rfl ?_
  obtain ⟨c3, e⟩ := gd_s e
  refine V.iald dX6_mostOf_24 (pc' := 25) rfl rfl rfl (inb_t c3) ?_
  obtain ⟨q4, eq4, e⟩ := bd_s e
  refine V.callVi dX6_mostOf_25 (pc' := 28) rfl CV_X6_266 (as := [.int a1, .int a3, .int (q2.2.1 67 a1.toNatClampNeg)]) (kX6_used q2.2 a1 a3 (q2.2.1 67 a1.toNatClampNeg) q4 eq4) (Gs_rm (by decide)) rfl (by decide) rfl (Nat.le_of_ble_eq_true rfl) rfl ?_
  obtain ⟨q5, eq5, e⟩ := bd_s e
  refine V.callVl dX6_mostOf_28 (pc' := 31) rfl CV_X6_273 (as := [.int a1, .int a2, .int a3, .int q2.1, .int q4.1]) (kX6_width q4.2 a1 a2 a3 q2.1 q4.1 q5 eq5) (Gs_rm (by decide)) rfl (by decide) rfl (Nat.le_of_ble_eq_true rfl) rfl ?_
  refine V.alq dX6_mostOf_31 (pc' := 32) rfl (j := 0) rfl ?_
  refine V.ilq dX6_mostOf_32 (pc' := 33) rfl (j := 2) rfl ?_
  refine V.ilq dX6_mostOf_33 (pc' := 34) rfl (j := 3) rfl ?_
  obtain ⟨q6, eq6, e⟩ := bd_s e
  refine V.callVl dX6_mostOf_34 (pc' := 37) rfl CV_X6_285 (as := [.int a2, .int a3]) (kX6_least q5.2 a2 a3 q6 eq6) (Gs_rm (by decide)) rfl (by decide) rfl (Nat.le_of_ble_eq_true rfl) rfl ?_
  refine V.lsub dX6_mostOf_37 (pc' := 38) rfl ?_
  obtain ⟨x7, ex7, e⟩ := nm_s e
  refine V.ls dX6_mostOf_38 (pc' := 40) rfl (by decide) ex7 (L' := [(4, .long x7), (0, .ref 54), (1, .int a1), (2, .int a2), (3, .int a3)]) rfl ?_
  refine V.ll dX6_mostOf_40 (pc' := 42) rfl (j := 0) rfl ?_
  refine V.lconst dX6_mostOf_42 (pc' := 43) rfl (v := 0) (by decide) ?_
  refine V.lcmp dX6_mostOf_43 (pc' := 44) rfl ?_
  refine V.if_ge dX6_mostOf_44 (pc' := 47) rfl (tgt := 49) (by decide) (fun c => ?_) (fun c => ?_)
  · rw [if_pos c] at e
    refine V.alq dX6_mostOf_49 (pc' := 50) rfl (j := 1) rfl ?_
    refine V.ilq dX6_mostOf_50 (pc' := 51) rfl (j := 2) rfl ?_
    refine V.ilq dX6_mostOf_51 (pc' := 52) rfl (j := 3) rfl ?_
    obtain ⟨q8, eq8, e⟩ := bd_s e
    refine V.callVi dX6_mostOf_52 (pc' := 55) rfl CV_X6_270 (as := [.int a1, .int a2]) (kX6_rest q6.2 a1 a2 q8 eq8) (Gs_rm (by decide)) rfl (by decide) rfl (Nat.le_of_ble_eq_true rfl) rfl ?_
    refine V.alq dX6_mostOf_55 (pc' := 56) rfl (j := 1) rfl ?_
    refine V.ilq dX6_mostOf_56 (pc' := 57) rfl (j := 2) rfl ?_
    refine V.ilq dX6_mostOf_57 (pc' := 58) rfl (j := 4) rfl ?_
    obtain ⟨q9, eq9, e⟩ := bd_s e
    refine V.callVi dX6_mostOf_58 (pc' := 61) rfl CV_X6_270 (as := [.int a1, .int a3]) (kX6_rest q8.2 a1 a3 q9 eq9) (Gs_rm (by decide)) rfl (by decide) rfl (Nat.le_of_ble_eq_true rfl) rfl ?_
    refine V.mmin dX6_mostOf_61 (pc' := 64) rfl (Gs_rm (by decide)) ML_X6_168 MS_imin MI_Math MC_imin (Nat.le_of_ble_eq_true rfl) ?_
    obtain ⟨x10, ex10, e⟩ := nm_s e
    refine V.is dX6_mostOf_64 (pc' := 66) rfl (by decide) ex10 (L' := [(6, .int x10), (4, .long x7), (0, .ref 54), (1, .int a1), (2, .int a2), (3, .int a3)]) rfl ?_
    refine V.alq dX6_mostOf_66 (pc' := 67) rfl (j := 2) rfl ?_
    refine V.getr dX6_mostOf_67 (pc' := 70) rfl FL_X6_63 rfl (by decide) rfl (r' := 59) rfl ?_
    refine V.ilq dX6_mostOf_70 (pc' := 71) rfl (j := 4) rfl ?_
    obtain ⟨c11, e⟩ := gd_s e
    refine V.iald dX6_mostOf_71 (pc' := 72) rfl rfl rfl (inb_t c11) ?_
    refine V.alq dX6_mostOf_72 (pc' := 73) rfl (j := 2) rfl ?_
    refine V.getr dX6_mostOf_73 (pc' := 76) rfl FL_X6_63 rfl (by decide) rfl (r' := 59) rfl ?_
    refine V.ilq dX6_mostOf_76 (pc' := 77) rfl (j := 5) rfl ?_
    obtain ⟨c12, e⟩ := gd_s e
    refine V.iald dX6_mostOf_77 (pc' := 78) rfl rfl rfl (inb_t c12) ?_
    refine V.isub dX6_mostOf_78 (pc' := 79) rfl ?_
    refine V.ilq dX6_mostOf_79 (pc' := 80) rfl (j := 3) rfl ?_
    refine V.if_ne dX6_mostOf_80 (pc' := 83) rfl (tgt := 87) (by decide) (fun c => ?_) (fun c => ?_)
    · rw [if_neg c] at e
      refine V.iconst dX6_mostOf_87 (pc' := 88) rfl (v := -1) (by decide) ?_
      refine V.pk [1, 0] rfl ?_
      exact vX6_mostOf_c88 q9.2 x7 x10 (-1 : Int32) ((q9.2.1 59 a2.toNatClampNeg) - (q9.2.1 59 a3.toNatClampNeg)) q e
    · rw [if_pos c] at e
      refine V.iconst dX6_mostOf_83 (pc' := 84) rfl (v := 1) (by decide) ?_
      refine V.goto dX6_mostOf_84 (pc' := 88) (by decide) ?_
      refine V.pk [1, 0] rfl ?_
      exact vX6_mostOf_c88 q9.2 x7 x10 (1 : Int32) ((q9.2.1 59 a2.toNatClampNeg) - (q9.2.1 59 a3.toNatClampNeg)) q e
  · rw [if_neg c] at e
    refine V.iconst dX6_mostOf_47 (pc' := 48) rfl (v := 0) (by decide) ?_
    exact V.iret dX6_mostOf_48 rfl (fnI e)

-- X6_rests (level 6)
theorem dX6_rests_0 : decode cX6_rests 0 = .ok (.iconst 0, 1) := by decide +kernel
theorem dX6_rests_1 : decode cX6_rests 1 = .ok (.istore_n 3, 1) := by decide +kernel
theorem dX6_rests_2 : decode cX6_rests 2 = .ok (.iconst 0, 1) := by decide +kernel
theorem dX6_rests_3 : decode cX6_rests 3 = .ok (.istore 4, 2) := by decide +kernel
theorem dX6_rests_5 : decode cX6_rests 5 = .ok (.iload 4, 2) := by decide +kernel
theorem dX6_rests_7 : decode cX6_rests 7 = .ok (.aload_n 0, 1) := by decide +kernel
theorem dX6_rests_8 : decode cX6_rests 8 = .ok (.getfield 131, 3) := by decide +kernel
theorem dX6_rests_11 : decode cX6_rests 11 = .ok (.if_icmp .ge 33, 3) := by decide +kernel
theorem dX6_rests_14 : decode cX6_rests 14 = .ok (.iload_n 3, 1) := by decide +kernel
theorem dX6_rests_15 : decode cX6_rests 15 = .ok (.aload_n 0, 1) := by decide +kernel
theorem dX6_rests_16 : decode cX6_rests 16 = .ok (.iload 4, 2) := by decide +kernel
theorem dX6_rests_18 : decode cX6_rests 18 = .ok (.invokevirtual 144, 3) := by decide +kernel
theorem dX6_rests_21 : decode cX6_rests 21 = .ok (.iload_n 2, 1) := by decide +kernel
theorem dX6_rests_22 : decode cX6_rests 22 = .ok (.if_icmp .ne 13, 3) := by decide +kernel
theorem dX6_rests_25 : decode cX6_rests 25 = .ok (.aload_n 0, 1) := by decide +kernel
theorem dX6_rests_26 : decode cX6_rests 26 = .ok (.iload_n 1, 1) := by decide +kernel
theorem dX6_rests_27 : decode cX6_rests 27 = .ok (.iload 4, 2) := by decide +kernel
theorem dX6_rests_29 : decode cX6_rests 29 = .ok (.invokevirtual 270, 3) := by decide +kernel
theorem dX6_rests_32 : decode cX6_rests 32 = .ok (.goto 4, 3) := by decide +kernel
theorem dX6_rests_35 : decode cX6_rests 35 = .ok (.iconst 0, 1) := by decide +kernel
theorem dX6_rests_36 : decode cX6_rests 36 = .ok (.iadd, 1) := by decide +kernel
theorem dX6_rests_37 : decode cX6_rests 37 = .ok (.istore_n 3, 1) := by decide +kernel
theorem dX6_rests_38 : decode cX6_rests 38 = .ok (.iinc 4 1, 3) := by decide +kernel
theorem dX6_rests_41 : decode cX6_rests 41 = .ok (.goto (-36), 3) := by decide +kernel
theorem dX6_rests_44 : decode cX6_rests 44 = .ok (.iload_n 3, 1) := by decide +kernel
theorem dX6_rests_45 : decode cX6_rests 45 = .ok (.ireturn, 1) := by decide +kernel
def sX6_rests_c36 (k5 : Hp → Int32 → Int32 → Int32 → Int32 → Option (Int32 × Hp)) (h : Hp) (v1 : Int32) (v2 : Int32) (v4 : Int32) (t0 : Int32) (t1 : Int32) : Option (Int32 × Hp) :=
  nm ((t1 + t0)) fun x3 => nm (v4 + (1 : Int32)) fun x4 => k5 h v1 v2 x3 x4
set_option maxRecDepth 10000 in
theorem vX6_rests_c36 (k5 : Hp → Int32 → Int32 → Int32 → Int32 → Option (Int32 × Hp)) (hk5 : ∀ (h : Hp) (v1 : Int32) (v2 : Int32) (v3 : Int32) (v4 : Int32) (q : (Int32 × Hp)), k5 h v1 v2 v3 v4 = some q → V (Gs 6 (pI q)) mX6_rests (0, 0) 5 [(0, .ref 54), (1, .int v1), (2, .int v2), (3, .int v3), (4, .int v4)] [] h) (h : Hp) (v1 : Int32) (v2 : Int32) (v4 : Int32) (t0 : Int32) (t1 : Int32) (q : (Int32 × Hp)) (e : sX6_rests_c36 k5 h v1 v2 v4 t0 t1 = some q) : V (Gs 6 (pI q)) mX6_rests (0, 0) 36 [(0, .ref 54), (1, .int v1), (2, .int v2), (4, .int v4)] [.int t0, .int t1] h := by
  unfold sX6_rests_c36 at e
  refine V.iadd dX6_rests_36 (pc' := 37) rfl ?_
  obtain ⟨x3, ex3, e⟩ := nm_s e
  refine V.isq dX6_rests_37 (pc' := 38) rfl (by decide) ex3 (L' := [(3, .int x3), (0, .ref 54), (1, .int v1), (2, .int v2), (4, .int v4)]) rfl ?_
  obtain ⟨x4, ex4, e⟩ := nm_s e
  refine V.iinc dX6_rests_38 (pc' := 41) rfl (j := 4) rfl (v := 1) (by decide) (by decide) ex4 (L' := [(4, .int x4), (3, .int x3), (0, .ref 54), (1, .int v1), (2, .int v2)]) rfl ?_
  refine V.goto dX6_rests_41 (pc' := 5) (by decide) ?_
  refine V.pk [2, 3, 4, 1, 0] rfl ?_
  exact hk5 h v1 v2 x3 x4 q e
def sX6_rests_c5 (k5 : Hp → Int32 → Int32 → Int32 → Int32 → Option (Int32 × Hp)) (h : Hp) (v1 : Int32) (v2 : Int32) (v3 : Int32) (v4 : Int32) : Option (Int32 × Hp) :=
  if (h.1 54 7) ≤ v4 then (some (v3, h)) else ((sX6_isHot h v4).bind fun q1 => if q1.1 = v2 then ((sX6_rest q1.2 v1 v4).bind fun q2 => sX6_rests_c36 k5 q2.2 v1 v2 v4 q2.1 v3) else (sX6_rests_c36 k5 q1.2 v1 v2 v4 (0 : Int32) v3))
set_option maxRecDepth 10000 in
theorem vX6_rests_c5 (k5 : Hp → Int32 → Int32 → Int32 → Int32 → Option (Int32 × Hp)) (hk5 : ∀ (h : Hp) (v1 : Int32) (v2 : Int32) (v3 : Int32) (v4 : Int32) (q : (Int32 × Hp)), k5 h v1 v2 v3 v4 = some q → V (Gs 6 (pI q)) mX6_rests (0, 0) 5 [(0, .ref 54), (1, .int v1), (2, .int v2), (3, .int v3), (4, .int v4)] [] h) (h : Hp) (v1 : Int32) (v2 : Int32) (v3 : Int32) (v4 : Int32) (q : (Int32 × Hp)) (e : sX6_rests_c5 k5 h v1 v2 v3 v4 = some q) : V (Gs 6 (pI q)) mX6_rests (0, 0) 5 [(0, .ref 54), (1, .int v1), (2, .int v2), (3, .int v3), (4, .int v4)] [] h := by
  unfold sX6_rests_c5 at e
  refine V.il dX6_rests_5 (pc' := 7) rfl (j := 4) rfl ?_
  refine V.alq dX6_rests_7 (pc' := 8) rfl (j := 0) rfl ?_
  refine V.getf dX6_rests_8 (pc' := 11) rfl FL_X6_131 rfl (by decide) rfl ?_
  refine V.ic_ge dX6_rests_11 (pc' := 14) rfl (tgt := 44) (by decide) (fun c => ?_) (fun c => ?_)
  · rw [if_pos c] at e
    refine V.ilq dX6_rests_44 (pc' := 45) rfl (j := 3) rfl ?_
    exact V.iret dX6_rests_45 rfl (fnI e)
  · rw [if_neg c] at e
    refine V.ilq dX6_rests_14 (pc' := 15) rfl (j := 3) rfl ?_
    refine V.alq dX6_rests_15 (pc' := 16) rfl (j := 0) rfl ?_
    refine V.il dX6_rests_16 (pc' := 18) rfl (j := 4) rfl ?_
    obtain ⟨q1, eq1, e⟩ := bd_s e
    refine V.callVi dX6_rests_18 (pc' := 21) rfl CV_X6_144 (as := [.int v4]) (kX6_isHot h v4 q1 eq1) (Gs_rm (by decide)) rfl (by decide) rfl (Nat.le_of_ble_eq_true rfl) rfl ?_
    refine V.ilq dX6_rests_21 (pc' := 22) rfl (j := 2) rfl ?_
    refine V.ic_ne dX6_rests_22 (pc' := 25) rfl (tgt := 35) (by decide) (fun c => ?_) (fun c => ?_)
    · rw [if_neg c] at e
      refine V.iconst dX6_rests_35 (pc' := 36) rfl (v := 0) (by decide) ?_
      refine V.pk [0, 1, 2, 4] rfl ?_
      exact vX6_rests_c36 k5 hk5 q1.2 v1 v2 v4 (0 : Int32) v3 q e
    · rw [if_pos c] at e
      refine V.alq dX6_rests_25 (pc' := 26) rfl (j := 0) rfl ?_
      refine V.ilq dX6_rests_26 (pc' := 27) rfl (j := 1) rfl ?_
      refine V.il dX6_rests_27 (pc' := 29) rfl (j := 4) rfl ?_
      obtain ⟨q2, eq2, e⟩ := bd_s e
      refine V.callVi dX6_rests_29 (pc' := 32) rfl CV_X6_270 (as := [.int v1, .int v4]) (kX6_rest q1.2 v1 v4 q2 eq2) (Gs_rm (by decide)) rfl (by decide) rfl (Nat.le_of_ble_eq_true rfl) rfl ?_
      refine V.goto dX6_rests_32 (pc' := 36) (by decide) ?_
      refine V.pk [0, 1, 2, 4] rfl ?_
      exact vX6_rests_c36 k5 hk5 q2.2 v1 v2 v4 q2.1 v3 q e
def sX6_rests_b5 : Nat → Hp → Int32 → Int32 → Int32 → Int32 → Option (Int32 × Hp)
  | 0 => fun _ _ _ _ _ => none
  | n + 1 => sX6_rests_c5 (sX6_rests_b5 n)
theorem vX6_rests_b5 : ∀ (n : Nat) (h : Hp) (v1 : Int32) (v2 : Int32) (v3 : Int32) (v4 : Int32) (q : (Int32 × Hp)), sX6_rests_b5 n h v1 v2 v3 v4 = some q → V (Gs 6 (pI q)) mX6_rests (0, 0) 5 [(0, .ref 54), (1, .int v1), (2, .int v2), (3, .int v3), (4, .int v4)] [] h
  | 0 => fun _ _ _ _ _ _ e => by cases e
  | n + 1 => fun h v1 v2 v3 v4 q e => vX6_rests_c5 (sX6_rests_b5 n) (vX6_rests_b5 n) h v1 v2 v3 v4 q e
def sX6_rests (h : Hp) (a1 : Int32) (a2 : Int32) : Option (Int32 × Hp) :=
  sX6_rests_b5 FU h a1 a2 (0 : Int32) (0 : Int32)
set_option maxRecDepth 10000 in
theorem kX6_rests (h : Hp) (a1 : Int32) (a2 : Int32) (q : (Int32 × Hp)) (e : sX6_rests h a1 a2 = some q) : K 6 mX6_rests [.ref 54, .int a1, .int a2] h (pI q) := by
  unfold sX6_rests at e
  refine K.ofV (by decide) rfl (Nat.le_of_ble_eq_true rfl) ?_
  show V (Gs 6 (pI q)) mX6_rests (0, 0) 0 [(0, .ref 54), (1, .int a1), (2, .int a2)] [] h
  refine V.iconst dX6_rests_0 (pc' := 1) rfl (v := 0) (by decide) ?_
  refine V.isq dX6_rests_1 (pc' := 2) rfl (by decide) rfl (L' := [(3, .int (0 : Int32)), (0, .ref 54), (1, .int a1), (2, .int a2)]) rfl ?_
  refine V.iconst dX6_rests_2 (pc' := 3) rfl (v := 0) (by decide) ?_
  refine V.is dX6_rests_3 (pc' := 5) rfl (by decide) rfl (L' := [(4, .int (0 : Int32)), (3, .int (0 : Int32)), (0, .ref 54), (1, .int a1), (2, .int a2)]) rfl ?_
  refine V.pk [2, 3, 4, 1, 0] rfl ?_
  exact vX6_rests_b5 FU h a1 a2 (0 : Int32) (0 : Int32) q e

-- X6_match (level 6)
theorem dX6_match_0 : decode cX6_match 0 = .ok (.aload_n 0, 1) := by decide +kernel
theorem dX6_match_1 : decode cX6_match 1 = .ok (.aload_n 0, 1) := by decide +kernel
theorem dX6_match_2 : decode cX6_match 2 = .ok (.iload_n 1, 1) := by decide +kernel
theorem dX6_match_3 : decode cX6_match 3 = .ok (.iload_n 2, 1) := by decide +kernel
theorem dX6_match_4 : decode cX6_match 4 = .ok (.invokevirtual 317, 3) := by decide +kernel
theorem dX6_match_7 : decode cX6_match 7 = .ok (.ifCond .eq 15, 3) := by decide +kernel
theorem dX6_match_10 : decode cX6_match 10 = .ok (.iload_n 3, 1) := by decide +kernel
theorem dX6_match_11 : decode cX6_match 11 = .ok (.i2l, 1) := by decide +kernel
theorem dX6_match_12 : decode cX6_match 12 = .ok (.lconst 0, 1) := by decide +kernel
theorem dX6_match_13 : decode cX6_match 13 = .ok (.ldc2_w 140, 3) := by decide +kernel
theorem dX6_match_16 : decode cX6_match 16 = .ok (.invokestatic 29, 3) := by decide +kernel
theorem dX6_match_19 : decode cX6_match 19 = .ok (.ifCond .ne 7, 3) := by decide +kernel
theorem dX6_match_22 : decode cX6_match 22 = .ok (.iconst 1, 1) := by decide +kernel
theorem dX6_match_23 : decode cX6_match 23 = .ok (.goto 4, 3) := by decide +kernel
theorem dX6_match_26 : decode cX6_match 26 = .ok (.iconst 0, 1) := by decide +kernel
theorem dX6_match_27 : decode cX6_match 27 = .ok (.invokestatic 39, 3) := by decide +kernel
theorem dX6_match_30 : decode cX6_match 30 = .ok (.putfield 1, 3) := by decide +kernel
theorem dX6_match_33 : decode cX6_match 33 = .ok (.aload_n 0, 1) := by decide +kernel
theorem dX6_match_34 : decode cX6_match 34 = .ok (.getfield 1, 3) := by decide +kernel
theorem dX6_match_37 : decode cX6_match 37 = .ok (.iconst 1, 1) := by decide +kernel
theorem dX6_match_38 : decode cX6_match 38 = .ok (.if_icmp .ne 5, 3) := by decide +kernel
theorem dX6_match_41 : decode cX6_match 41 = .ok (.iconst 0, 1) := by decide +kernel
theorem dX6_match_42 : decode cX6_match 42 = .ok (.ireturn, 1) := by decide +kernel
theorem dX6_match_43 : decode cX6_match 43 = .ok (.aload_n 0, 1) := by decide +kernel
theorem dX6_match_44 : decode cX6_match 44 = .ok (.invokevirtual 256, 3) := by decide +kernel
theorem dX6_match_47 : decode cX6_match 47 = .ok (.iload_n 1, 1) := by decide +kernel
theorem dX6_match_48 : decode cX6_match 48 = .ok (.iload_n 2, 1) := by decide +kernel
theorem dX6_match_49 : decode cX6_match 49 = .ok (.invokestatic 263, 3) := by decide +kernel
theorem dX6_match_52 : decode cX6_match 52 = .ok (.istore 4, 2) := by decide +kernel
theorem dX6_match_54 : decode cX6_match 54 = .ok (.aload_n 0, 1) := by decide +kernel
theorem dX6_match_55 : decode cX6_match 55 = .ok (.iconst 0, 1) := by decide +kernel
theorem dX6_match_56 : decode cX6_match 56 = .ok (.putfield 11, 3) := by decide +kernel
theorem dX6_match_59 : decode cX6_match 59 = .ok (.aload_n 0, 1) := by decide +kernel
theorem dX6_match_60 : decode cX6_match 60 = .ok (.aload_n 0, 1) := by decide +kernel
theorem dX6_match_61 : decode cX6_match 61 = .ok (.iload_n 1, 1) := by decide +kernel
theorem dX6_match_62 : decode cX6_match 62 = .ok (.iload_n 2, 1) := by decide +kernel
theorem dX6_match_63 : decode cX6_match 63 = .ok (.iconst 0, 1) := by decide +kernel
theorem dX6_match_64 : decode cX6_match 64 = .ok (.invokevirtual 281, 3) := by decide +kernel
theorem dX6_match_67 : decode cX6_match 67 = .ok (.aload_n 0, 1) := by decide +kernel
theorem dX6_match_68 : decode cX6_match 68 = .ok (.aload_n 0, 1) := by decide +kernel
theorem dX6_match_69 : decode cX6_match 69 = .ok (.getfield 93, 3) := by decide +kernel
theorem dX6_match_72 : decode cX6_match 72 = .ok (.iload 4, 2) := by decide +kernel
theorem dX6_match_74 : decode cX6_match 74 = .ok (.iaload, 1) := by decide +kernel
theorem dX6_match_75 : decode cX6_match 75 = .ok (.aload_n 0, 1) := by decide +kernel
theorem dX6_match_76 : decode cX6_match 76 = .ok (.getfield 96, 3) := by decide +kernel
theorem dX6_match_79 : decode cX6_match 79 = .ok (.iload 4, 2) := by decide +kernel
theorem dX6_match_81 : decode cX6_match 81 = .ok (.iaload, 1) := by decide +kernel
theorem dX6_match_82 : decode cX6_match 82 = .ok (.invokevirtual 277, 3) := by decide +kernel
theorem dX6_match_85 : decode cX6_match 85 = .ok (.invokevirtual 225, 3) := by decide +kernel
theorem dX6_match_88 : decode cX6_match 88 = .ok (.aload_n 0, 1) := by decide +kernel
theorem dX6_match_89 : decode cX6_match 89 = .ok (.aload_n 0, 1) := by decide +kernel
theorem dX6_match_90 : decode cX6_match 90 = .ok (.iload_n 1, 1) := by decide +kernel
theorem dX6_match_91 : decode cX6_match 91 = .ok (.iload_n 2, 1) := by decide +kernel
theorem dX6_match_92 : decode cX6_match 92 = .ok (.iconst 1, 1) := by decide +kernel
theorem dX6_match_93 : decode cX6_match 93 = .ok (.invokevirtual 281, 3) := by decide +kernel
theorem dX6_match_96 : decode cX6_match 96 = .ok (.aload_n 0, 1) := by decide +kernel
theorem dX6_match_97 : decode cX6_match 97 = .ok (.aload_n 0, 1) := by decide +kernel
theorem dX6_match_98 : decode cX6_match 98 = .ok (.getfield 93, 3) := by decide +kernel
theorem dX6_match_101 : decode cX6_match 101 = .ok (.iload 4, 2) := by decide +kernel
theorem dX6_match_103 : decode cX6_match 103 = .ok (.iaload, 1) := by decide +kernel
theorem dX6_match_104 : decode cX6_match 104 = .ok (.aload_n 0, 1) := by decide +kernel
theorem dX6_match_105 : decode cX6_match 105 = .ok (.getfield 96, 3) := by decide +kernel
theorem dX6_match_108 : decode cX6_match 108 = .ok (.iload 4, 2) := by decide +kernel
theorem dX6_match_110 : decode cX6_match 110 = .ok (.iaload, 1) := by decide +kernel
theorem dX6_match_111 : decode cX6_match 111 = .ok (.invokevirtual 277, 3) := by decide +kernel
theorem dX6_match_114 : decode cX6_match 114 = .ok (.invokevirtual 225, 3) := by decide +kernel
theorem dX6_match_117 : decode cX6_match 117 = .ok (.iload_n 3, 1) := by decide +kernel
theorem dX6_match_118 : decode cX6_match 118 = .ok (.ifCond .ne 13, 3) := by decide +kernel
theorem dX6_match_121 : decode cX6_match 121 = .ok (.aload_n 0, 1) := by decide +kernel
theorem dX6_match_122 : decode cX6_match 122 = .ok (.getfield 93, 3) := by decide +kernel
theorem dX6_match_125 : decode cX6_match 125 = .ok (.iload 4, 2) := by decide +kernel
theorem dX6_match_127 : decode cX6_match 127 = .ok (.iaload, 1) := by decide +kernel
theorem dX6_match_128 : decode cX6_match 128 = .ok (.goto 25, 3) := by decide +kernel
theorem dX6_match_131 : decode cX6_match 131 = .ok (.iload_n 3, 1) := by decide +kernel
theorem dX6_match_132 : decode cX6_match 132 = .ok (.iconst 1, 1) := by decide +kernel
theorem dX6_match_133 : decode cX6_match 133 = .ok (.if_icmp .ne 13, 3) := by decide +kernel
theorem dX6_match_136 : decode cX6_match 136 = .ok (.aload_n 0, 1) := by decide +kernel
theorem dX6_match_137 : decode cX6_match 137 = .ok (.getfield 96, 3) := by decide +kernel
theorem dX6_match_140 : decode cX6_match 140 = .ok (.iload 4, 2) := by decide +kernel
theorem dX6_match_142 : decode cX6_match 142 = .ok (.iaload, 1) := by decide +kernel
theorem dX6_match_143 : decode cX6_match 143 = .ok (.goto 10, 3) := by decide +kernel
theorem dX6_match_146 : decode cX6_match 146 = .ok (.aload_n 0, 1) := by decide +kernel
theorem dX6_match_147 : decode cX6_match 147 = .ok (.getfield 99, 3) := by decide +kernel
theorem dX6_match_150 : decode cX6_match 150 = .ok (.iload 4, 2) := by decide +kernel
theorem dX6_match_152 : decode cX6_match 152 = .ok (.iaload, 1) := by decide +kernel
theorem dX6_match_153 : decode cX6_match 153 = .ok (.ireturn, 1) := by decide +kernel
def sX6_match_c153 (h : Hp) (t0 : Int32) : Option (Int32 × Hp) :=
  some (t0, h)
set_option maxRecDepth 10000 in
theorem vX6_match_c153 (h : Hp) (t0 : Int32) (q : (Int32 × Hp)) (e : sX6_match_c153 h t0 = some q) : V (Gs 6 (pI q)) mX6_match (0, 0) 153 [] [.int t0] h := by
  unfold sX6_match_c153 at e
  exact V.iret dX6_match_153 rfl (fnI e)
def sX6_match_c27 (h : Hp) (v1 : Int32) (v2 : Int32) (v3 : Int32) (t0 : Int32) : Option (Int32 × Hp) :=
  (sX6_flag h t0).bind fun q3 => nm (u1 q3.2 54 0 q3.1) fun h4 => if (h4.1 54 0) = (1 : Int32) then (some ((0 : Int32), h4)) else ((sX6_finds h4).bind fun q5 => (sX6_place q5 v1 v2).bind fun q6 => nm (u1 q6.2 54 1 (0 : Int32)) fun h7 => (sX6_widthAt h7 v1 v2 (0 : Int32)).bind fun q8 => gd (inb q6.1 50) (gd (inb q6.1 50) ((sX6_under q8.2 (q8.2.1 68 q6.1.toNatClampNeg) (q8.2.1 69 q6.1.toNatClampNeg)).bind fun q11 => (sX6_entersPart q11.2 q8.1 q11.1).bind fun q12 => (sX6_widthAt q12 v1 v2 (1 : Int32)).bind fun q13 => gd (inb q6.1 50) (gd (inb q6.1 50) ((sX6_under q13.2 (q13.2.1 68 q6.1.toNatClampNeg) (q13.2.1 69 q6.1.toNatClampNeg)).bind fun q16 => (sX6_entersPart q16.2 q13.1 q16.1).bind fun q17 => if v3 = 0 then (gd (inb q6.1 50) (sX6_match_c153 q17 (q17.1 68 q6.1.toNatClampNeg))) else (if v3 = (1 : Int32) then (gd (inb q6.1 50) (sX6_match_c153 q17 (q17.1 69 q6.1.toNatClampNeg))) else (gd (inb q6.1 50) (sX6_match_c153 q17 (q17.1 70 q6.1.toNatClampNeg)))))))))
set_option maxRecDepth 10000 in
theorem vX6_match_c27 (h : Hp) (v1 : Int32) (v2 : Int32) (v3 : Int32) (t0 : Int32) (q : (Int32 × Hp)) (e : sX6_match_c27 h v1 v2 v3 t0 = some q) : V (Gs 6 (pI q)) mX6_match (0, 0) 27 [(0, .ref 54), (1, .int v1), (2, .int v2), (3, .int v3)] [.int t0, .ref 54] h := by
  unfold sX6_match_c27 at e
  obtain ⟨q3, eq3, e⟩ := bd_s e
  refine V.callSi dX6_match_27 (pc' := 30) rfl CS_X6_39 (as := [.int t0]) (kX6_flag h t0 q3 eq3) (Gs_rm (by decide)) rfl (Nat.le_of_ble_eq_true rfl) rfl ?_
  obtain ⟨h4, eh4, e⟩ := nm_s e
  refine V.putf dX6_match_30 (pc' := 33) rfl FP_X6_1 rfl (by decide) rfl eh4 ?_
  refine V.alq dX6_match_33 (pc' := 34) rfl (j := 0) rfl ?_
  refine V.getf dX6_match_34 (pc' := 37) rfl FL_X6_1 rfl (by decide) rfl ?_
  refine V.iconst dX6_match_37 (pc' := 38) rfl (v := 1) (by decide) ?_
  refine V.ic_ne dX6_match_38 (pc' := 41) rfl (tgt := 43) (by decide) (fun c => ?_) (fun c => ?_)
  · rw [if_neg c] at e
    refine V.alq dX6_match_43 (pc' := 44) rfl (j := 0) rfl ?_
    obtain ⟨q5, eq5, e⟩ := bd_s e
    refine V.callVv dX6_match_44 (pc' := 47) rfl CV_X6_256 (as := []) (kX6_finds h4 q5 eq5) (Gs_rm (by decide)) rfl (by decide) rfl (Nat.le_of_ble_eq_true rfl) rfl ?_
    refine V.ilq dX6_match_47 (pc' := 48) rfl (j := 1) rfl ?_
    refine V.ilq dX6_match_48 (pc' := 49) rfl (j := 2) rfl ?_
    obtain ⟨q6, eq6, e⟩ := bd_s e
    refine V.callSi dX6_match_49 (pc' := 52) rfl CS_X6_263 (as := [.int v1, .int v2]) (kX6_place q5 v1 v2 q6 eq6) (Gs_rm (by decide)) rfl (Nat.le_of_ble_eq_true rfl) rfl ?_
    refine V.is dX6_match_52 (pc' := 54) rfl (by decide) rfl (L' := [(4, .int q6.1), (0, .ref 54), (1, .int v1), (2, .int v2), (3, .int v3)]) rfl ?_
    refine V.alq dX6_match_54 (pc' := 55) rfl (j := 1) rfl ?_
    refine V.iconst dX6_match_55 (pc' := 56) rfl (v := 0) (by decide) ?_
    obtain ⟨h7, eh7, e⟩ := nm_s e
    refine V.putf dX6_match_56 (pc' := 59) rfl FP_X6_11 rfl (by decide) rfl eh7 ?_
    refine V.alq dX6_match_59 (pc' := 60) rfl (j := 1) rfl ?_
    refine V.alq dX6_match_60 (pc' := 61) rfl (j := 1) rfl ?_
    refine V.ilq dX6_match_61 (pc' := 62) rfl (j := 2) rfl ?_
    refine V.ilq dX6_match_62 (pc' := 63) rfl (j := 3) rfl ?_
    refine V.iconst dX6_match_63 (pc' := 64) rfl (v := 0) (by decide) ?_
    obtain ⟨q8, eq8, e⟩ := bd_s e
    refine V.callVl dX6_match_64 (pc' := 67) rfl CV_X6_281 (as := [.int v1, .int v2, .int (0 : Int32)]) (kX6_widthAt h7 v1 v2 (0 : Int32) q8 eq8) (Gs_rm (by decide)) rfl (by decide) rfl (Nat.le_of_ble_eq_true rfl) rfl ?_
    refine V.alq dX6_match_67 (pc' := 68) rfl (j := 1) rfl ?_
    refine V.alq dX6_match_68 (pc' := 69) rfl (j := 1) rfl ?_
    refine V.getr dX6_match_69 (pc' := 72) rfl FL_X6_93 rfl (by decide) rfl (r' := 68) rfl ?_
    refine V.il dX6_match_72 (pc' := 74) rfl (j := 0) rfl ?_
    obtain ⟨c9, e⟩ := gd_s e
    refine V.iald dX6_match_74 (pc' := 75) rfl rfl rfl (inb_t c9) ?_
    refine V.alq dX6_match_75 (pc' := 76) rfl (j := 1) rfl ?_
    refine V.getr dX6_match_76 (pc' := 79) rfl FL_X6_96 rfl (by decide) rfl (r' := 69) rfl ?_
    refine V.il dX6_match_79 (pc' := 81) rfl (j := 0) rfl ?_
    obtain ⟨c10, e⟩ := gd_s e
    refine V.iald dX6_match_81 (pc' := 82) rfl rfl rfl (inb_t c10) ?_
    obtain ⟨q11, eq11, e⟩ := bd_s e
    refine V.callVl dX6_match_82 (pc' := 85) rfl CV_X6_277 (as := [.int (q8.2.1 68 q6.1.toNatClampNeg), .int (q8.2.1 69 q6.1.toNatClampNeg)]) (kX6_under q8.2 (q8.2.1 68 q6.1.toNatClampNeg) (q8.2.1 69 q6.1.toNatClampNeg) q11 eq11) (Gs_rm (by decide)) rfl (by decide) rfl (Nat.le_of_ble_eq_true rfl) rfl ?_
    obtain ⟨q12, eq12, e⟩ := bd_s e
    refine V.callVv dX6_match_85 (pc' := 88) rfl CV_X6_225 (as := [.long q8.1, .long q11.1]) (kX6_entersPart q11.2 q8.1 q11.1 q12 eq12) (Gs_rm (by decide)) rfl (by decide) rfl (Nat.le_of_ble_eq_true rfl) rfl ?_
    refine V.alq dX6_match_88 (pc' := 89) rfl (j := 1) rfl ?_
    refine V.alq dX6_match_89 (pc' := 90) rfl (j := 1) rfl ?_
    refine V.ilq dX6_match_90 (pc' := 91) rfl (j := 2) rfl ?_
    refine V.ilq dX6_match_91 (pc' := 92) rfl (j := 3) rfl ?_
    refine V.iconst dX6_match_92 (pc' := 93) rfl (v := 1) (by decide) ?_
    obtain ⟨q13, eq13, e⟩ := bd_s e
    refine V.callVl dX6_match_93 (pc' := 96) rfl CV_X6_281 (as := [.int v1, .int v2, .int (1 : Int32)]) (kX6_widthAt q12 v1 v2 (1 : Int32) q13 eq13) (Gs_rm (by decide)) rfl (by decide) rfl (Nat.le_of_ble_eq_true rfl) rfl ?_
    refine V.alq dX6_match_96 (pc' := 97) rfl (j := 1) rfl ?_
    refine V.alq dX6_match_97 (pc' := 98) rfl (j := 1) rfl ?_
    refine V.getr dX6_match_98 (pc' := 101) rfl FL_X6_93 rfl (by decide) rfl (r' := 68) rfl ?_
    refine V.il dX6_match_101 (pc' := 103) rfl (j := 0) rfl ?_
    obtain ⟨c14, e⟩ := gd_s e
    refine V.iald dX6_match_103 (pc' := 104) rfl rfl rfl (inb_t c14) ?_
    refine V.alq dX6_match_104 (pc' := 105) rfl (j := 1) rfl ?_
    refine V.getr dX6_match_105 (pc' := 108) rfl FL_X6_96 rfl (by decide) rfl (r' := 69) rfl ?_
    refine V.il dX6_match_108 (pc' := 110) rfl (j := 0) rfl ?_
    obtain ⟨c15, e⟩ := gd_s e
    refine V.iald dX6_match_110 (pc' := 111) rfl rfl rfl (inb_t c15) ?_
    obtain ⟨q16, eq16, e⟩ := bd_s e
    refine V.callVl dX6_match_111 (pc' := 114) rfl CV_X6_277 (as := [.int (q13.2.1 68 q6.1.toNatClampNeg), .int (q13.2.1 69 q6.1.toNatClampNeg)]) (kX6_under q13.2 (q13.2.1 68 q6.1.toNatClampNeg) (q13.2.1 69 q6.1.toNatClampNeg) q16 eq16) (Gs_rm (by decide)) rfl (by decide) rfl (Nat.le_of_ble_eq_true rfl) rfl ?_
    obtain ⟨q17, eq17, e⟩ := bd_s e
    refine V.callVv dX6_match_114 (pc' := 117) rfl CV_X6_225 (as := [.long q13.1, .long q16.1]) (kX6_entersPart q16.2 q13.1 q16.1 q17 eq17) (Gs_rm (by decide)) rfl (by decide) rfl (Nat.le_of_ble_eq_true rfl) rfl ?_
    refine V.ilq dX6_match_117 (pc' := 118) rfl (j := 4) rfl ?_
    refine V.if_ne dX6_match_118 (pc' := 121) rfl (tgt := 131) (by decide) (fun c => ?_) (fun c => ?_)
    · rw [if_neg c] at e
      refine V.ilq dX6_match_131 (pc' := 132) rfl (j := 4) rfl ?_
      refine V.iconst dX6_match_132 (pc' := 133) rfl (v := 1) (by decide) ?_
      refine V.ic_ne dX6_match_133 (pc' := 136) rfl (tgt := 146) (by decide) (fun c => ?_) (fun c => ?_)
      · rw [if_neg c] at e
        refine V.alq dX6_match_146 (pc' := 147) rfl (j := 1) rfl ?_
        refine V.getr dX6_match_147 (pc' := 150) rfl FL_X6_99 rfl (by decide) rfl (r' := 70) rfl ?_
        refine V.il dX6_match_150 (pc' := 152) rfl (j := 0) rfl ?_
        obtain ⟨c18, e⟩ := gd_s e
        refine V.iald dX6_match_152 (pc' := 153) rfl rfl rfl (inb_t c18) ?_
        refine V.pk [] rfl ?_
        exact vX6_match_c153 q17 (q17.1 70 q6.1.toNatClampNeg) q e
      · rw [if_pos c] at e
        refine V.alq dX6_match_136 (pc' := 137) rfl (j := 1) rfl ?_
        refine V.getr dX6_match_137 (pc' := 140) rfl FL_X6_96 rfl (by decide) rfl (r' := 69) rfl ?_
        refine V.il dX6_match_140 (pc' := 142) rfl (j := 0) rfl ?_
        obtain ⟨c19, e⟩ := gd_s e
        refine V.iald dX6_match_142 (pc' := 143) rfl rfl rfl (inb_t c19) ?_
        refine V.goto dX6_match_143 (pc' := 153) (by decide) ?_
        refine V.pk [] rfl ?_
        exact vX6_match_c153 q17 (q17.1 69 q6.1.toNatClampNeg) q e
    · rw [if_pos c] at e
      refine V.alq dX6_match_121 (pc' := 122) rfl (j := 1) rfl ?_
      refine V.getr dX6_match_122 (pc' := 125) rfl FL_X6_93 rfl (by decide) rfl (r' := 68) rfl ?_
      refine V.il dX6_match_125 (pc' := 127) rfl (j := 0) rfl ?_
      obtain ⟨c20, e⟩ := gd_s e
      refine V.iald dX6_match_127 (pc' := 128) rfl rfl rfl (inb_t c20) ?_
      refine V.goto dX6_match_128 (pc' := 153) (by decide) ?_
      refine V.pk [] rfl ?_
      exact vX6_match_c153 q17 (q17.1 68 q6.1.toNatClampNeg) q e
  · rw [if_pos c] at e
    refine V.iconst dX6_match_41 (pc' := 42) rfl (v := 0) (by decide) ?_
    exact V.iret dX6_match_42 rfl (fnI e)
def sX6_match_c22 (h : Hp) (v1 : Int32) (v2 : Int32) (v3 : Int32) : Option (Int32 × Hp) :=
  sX6_match_c27 h v1 v2 v3 (1 : Int32)
set_option maxRecDepth 10000 in
theorem vX6_match_c22 (h : Hp) (v1 : Int32) (v2 : Int32) (v3 : Int32) (q : (Int32 × Hp)) (e : sX6_match_c22 h v1 v2 v3 = some q) : V (Gs 6 (pI q)) mX6_match (0, 0) 22 [(0, .ref 54), (1, .int v1), (2, .int v2), (3, .int v3)] [.ref 54] h := by
  unfold sX6_match_c22 at e
  refine V.iconst dX6_match_22 (pc' := 23) rfl (v := 1) (by decide) ?_
  refine V.goto dX6_match_23 (pc' := 27) (by decide) ?_
  exact vX6_match_c27 h v1 v2 v3 (1 : Int32) q e
def sX6_match (h : Hp) (a1 : Int32) (a2 : Int32) (a3 : Int32) : Option (Int32 × Hp) :=
  (sX6_isMatch h a1 a2).bind fun q1 => if q1.1 = 0 then (sX6_match_c22 q1.2 a1 a2 a3) else ((sX6_in q1.2 a3.toInt64 (0 : Int64) (2 : Int64)).bind fun q2 => if q2.1 = 0 then (sX6_match_c22 q2.2 a1 a2 a3) else (sX6_match_c27 q2.2 a1 a2 a3 (0 : Int32)))
set_option maxRecDepth 10000 in
theorem kX6_match (h : Hp) (a1 : Int32) (a2 : Int32) (a3 : Int32) (q : (Int32 × Hp)) (e : sX6_match h a1 a2 a3 = some q) : K 6 mX6_match [.ref 54, .int a1, .int a2, .int a3] h (pI q) := by
  unfold sX6_match at e
  refine K.ofV (by decide) rfl (Nat.le_of_ble_eq_true rfl) ?_
  show V (Gs 6 (pI q)) mX6_match (0, 0) 0 [(0, .ref 54), (1, .int a1), (2, .int a2), (3, .int a3)] [] h
  refine V.alq dX6_match_0 (pc' := 1) rfl (j := 0) rfl ?_
  refine V.alq dX6_match_1 (pc' := 2) rfl (j := 0) rfl ?_
  refine V.ilq dX6_match_2 (pc' := 3) rfl (j := 1) rfl ?_
  refine V.ilq dX6_match_3 (pc' := 4) rfl (j := 2) rfl ?_
  obtain ⟨q1, eq1, e⟩ := bd_s e
  refine V.callVi dX6_match_4 (pc' := 7) rfl CV_X6_317 (as := [.int a1, .int a2]) (kX6_isMatch h a1 a2 q1 eq1) (Gs_rm (by decide)) rfl (by decide) rfl (Nat.le_of_ble_eq_true rfl) rfl ?_
  refine V.if_eq dX6_match_7 (pc' := 10) rfl (tgt := 22) (by decide) (fun c => ?_) (fun c => ?_)
  · rw [if_pos c] at e
    exact vX6_match_c22 q1.2 a1 a2 a3 q e
  · rw [if_neg c] at e
    refine V.ilq dX6_match_10 (pc' := 11) rfl (j := 3) rfl ?_
    refine V.i2l dX6_match_11 (pc' := 12) rfl ?_
    refine V.lconst dX6_match_12 (pc' := 13) rfl (v := 0) (by decide) ?_
    refine V.ldc2 dX6_match_13 (pc' := 16) rfl (v := 2) (TBm 1048 (by decide +kernel) rfl) ?_
    obtain ⟨q2, eq2, e⟩ := bd_s e
    refine V.callSi dX6_match_16 (pc' := 19) rfl CS_X6_29 (as := [.long a3.toInt64, .long (0 : Int64), .long (2 : Int64)]) (kX6_in q1.2 a3.toInt64 (0 : Int64) (2 : Int64) q2 eq2) (Gs_rm (by decide)) rfl (Nat.le_of_ble_eq_true rfl) rfl ?_
    refine V.if_ne dX6_match_19 (pc' := 22) rfl (tgt := 26) (by decide) (fun c => ?_) (fun c => ?_)
    · rw [if_neg c] at e
      refine V.iconst dX6_match_26 (pc' := 27) rfl (v := 0) (by decide) ?_
      exact vX6_match_c27 q2.2 a1 a2 a3 (0 : Int32) q e
    · rw [if_pos c] at e
      exact vX6_match_c22 q2.2 a1 a2 a3 q e

-- X6_areaOf (level 6)
theorem dX6_areaOf_0 : decode cX6_areaOf 0 = .ok (.iload_n 1, 1) := by decide +kernel
theorem dX6_areaOf_1 : decode cX6_areaOf 1 = .ok (.iload_n 2, 1) := by decide +kernel
theorem dX6_areaOf_2 : decode cX6_areaOf 2 = .ok (.invokestatic 263, 3) := by decide +kernel
theorem dX6_areaOf_5 : decode cX6_areaOf 5 = .ok (.istore_n 3, 1) := by decide +kernel
theorem dX6_areaOf_6 : decode cX6_areaOf 6 = .ok (.aload_n 0, 1) := by decide +kernel
theorem dX6_areaOf_7 : decode cX6_areaOf 7 = .ok (.iload_n 1, 1) := by decide +kernel
theorem dX6_areaOf_8 : decode cX6_areaOf 8 = .ok (.iload_n 2, 1) := by decide +kernel
theorem dX6_areaOf_9 : decode cX6_areaOf 9 = .ok (.iconst 0, 1) := by decide +kernel
theorem dX6_areaOf_10 : decode cX6_areaOf 10 = .ok (.invokevirtual 281, 3) := by decide +kernel
theorem dX6_areaOf_13 : decode cX6_areaOf 13 = .ok (.aload_n 0, 1) := by decide +kernel
theorem dX6_areaOf_14 : decode cX6_areaOf 14 = .ok (.iload_n 1, 1) := by decide +kernel
theorem dX6_areaOf_15 : decode cX6_areaOf 15 = .ok (.iload_n 2, 1) := by decide +kernel
theorem dX6_areaOf_16 : decode cX6_areaOf 16 = .ok (.iconst 1, 1) := by decide +kernel
theorem dX6_areaOf_17 : decode cX6_areaOf 17 = .ok (.invokevirtual 281, 3) := by decide +kernel
theorem dX6_areaOf_20 : decode cX6_areaOf 20 = .ok (.ladd, 1) := by decide +kernel
theorem dX6_areaOf_21 : decode cX6_areaOf 21 = .ok (.lstore 4, 2) := by decide +kernel
theorem dX6_areaOf_23 : decode cX6_areaOf 23 = .ok (.ldc2_w 140, 3) := by decide +kernel
theorem dX6_areaOf_26 : decode cX6_areaOf 26 = .ok (.aload_n 0, 1) := by decide +kernel
theorem dX6_areaOf_27 : decode cX6_areaOf 27 = .ok (.getfield 99, 3) := by decide +kernel
theorem dX6_areaOf_30 : decode cX6_areaOf 30 = .ok (.iload_n 3, 1) := by decide +kernel
theorem dX6_areaOf_31 : decode cX6_areaOf 31 = .ok (.iaload, 1) := by decide +kernel
theorem dX6_areaOf_32 : decode cX6_areaOf 32 = .ok (.i2l, 1) := by decide +kernel
theorem dX6_areaOf_33 : decode cX6_areaOf 33 = .ok (.lmul, 1) := by decide +kernel
theorem dX6_areaOf_34 : decode cX6_areaOf 34 = .ok (.aload_n 0, 1) := by decide +kernel
theorem dX6_areaOf_35 : decode cX6_areaOf 35 = .ok (.aload_n 0, 1) := by decide +kernel
theorem dX6_areaOf_36 : decode cX6_areaOf 36 = .ok (.getfield 93, 3) := by decide +kernel
theorem dX6_areaOf_39 : decode cX6_areaOf 39 = .ok (.iload_n 3, 1) := by decide +kernel
theorem dX6_areaOf_40 : decode cX6_areaOf 40 = .ok (.iaload, 1) := by decide +kernel
theorem dX6_areaOf_41 : decode cX6_areaOf 41 = .ok (.aload_n 0, 1) := by decide +kernel
theorem dX6_areaOf_42 : decode cX6_areaOf 42 = .ok (.getfield 96, 3) := by decide +kernel
theorem dX6_areaOf_45 : decode cX6_areaOf 45 = .ok (.iload_n 3, 1) := by decide +kernel
theorem dX6_areaOf_46 : decode cX6_areaOf 46 = .ok (.iaload, 1) := by decide +kernel
theorem dX6_areaOf_47 : decode cX6_areaOf 47 = .ok (.invokevirtual 277, 3) := by decide +kernel
theorem dX6_areaOf_50 : decode cX6_areaOf 50 = .ok (.lmul, 1) := by decide +kernel
theorem dX6_areaOf_51 : decode cX6_areaOf 51 = .ok (.lstore 6, 2) := by decide +kernel
theorem dX6_areaOf_53 : decode cX6_areaOf 53 = .ok (.lload 4, 2) := by decide +kernel
theorem dX6_areaOf_55 : decode cX6_areaOf 55 = .ok (.lconst 0, 1) := by decide +kernel
theorem dX6_areaOf_56 : decode cX6_areaOf 56 = .ok (.lcmp, 1) := by decide +kernel
theorem dX6_areaOf_57 : decode cX6_areaOf 57 = .ok (.ifCond .ne 8, 3) := by decide +kernel
theorem dX6_areaOf_60 : decode cX6_areaOf 60 = .ok (.bipush (-2), 2) := by decide +kernel
theorem dX6_areaOf_62 : decode cX6_areaOf 62 = .ok (.goto 14, 3) := by decide +kernel
theorem dX6_areaOf_65 : decode cX6_areaOf 65 = .ok (.lload 6, 2) := by decide +kernel
theorem dX6_areaOf_67 : decode cX6_areaOf 67 = .ok (.lload 4, 2) := by decide +kernel
theorem dX6_areaOf_69 : decode cX6_areaOf 69 = .ok (.ladd, 1) := by decide +kernel
theorem dX6_areaOf_70 : decode cX6_areaOf 70 = .ok (.lconst 1, 1) := by decide +kernel
theorem dX6_areaOf_71 : decode cX6_areaOf 71 = .ok (.lsub, 1) := by decide +kernel
theorem dX6_areaOf_72 : decode cX6_areaOf 72 = .ok (.lload 4, 2) := by decide +kernel
theorem dX6_areaOf_74 : decode cX6_areaOf 74 = .ok (.ldiv, 1) := by decide +kernel
theorem dX6_areaOf_75 : decode cX6_areaOf 75 = .ok (.l2i, 1) := by decide +kernel
theorem dX6_areaOf_76 : decode cX6_areaOf 76 = .ok (.ireturn, 1) := by decide +kernel
def sX6_areaOf_c76 (h : Hp) (t0 : Int32) : Option (Int32 × Hp) :=
  some (t0, h)
set_option maxRecDepth 10000 in
theorem vX6_areaOf_c76 (h : Hp) (t0 : Int32) (q : (Int32 × Hp)) (e : sX6_areaOf_c76 h t0 = some q) : V (Gs 6 (pI q)) mX6_areaOf (0, 0) 76 [] [.int t0] h := by
  unfold sX6_areaOf_c76 at e
  exact V.iret dX6_areaOf_76 rfl (fnI e)
def sX6_areaOf (h : Hp) (a1 : Int32) (a2 : Int32) : Option (Int32 × Hp) :=
  (sX6_place h a1 a2).bind fun q1 => (sX6_widthAt q1.2 a1 a2 (0 : Int32)).bind fun q2 => (sX6_widthAt q2.2 a1 a2 (1 : Int32)).bind fun q3 => nm ((q2.1 + q3.1)) fun x4 => gd (inb q1.1 50) (gd (inb q1.1 50) (gd (inb q1.1 50) ((sX6_under q3.2 (q3.2.1 68 q1.1.toNatClampNeg) (q3.2.1 69 q1.1.toNatClampNeg)).bind fun q8 => nm ((((2 : Int64) * (q3.2.1 70 q1.1.toNatClampNeg).toInt64) * q8.1)) fun x9 => if (lg_cmp x4 (0 : Int64)) = 0 then (sX6_areaOf_c76 q8.2 (-2 : Int32)) else (gd (nzL x4) (sX6_areaOf_c76 q8.2 ((((x9 + x4) - (1 : Int64)) / x4).toInt32))))))
set_option maxRecDepth 10000 in
theorem kX6_areaOf (h : Hp) (a1 : Int32) (a2 : Int32) (q : (Int32 × Hp)) (e : sX6_areaOf h a1 a2 = some q) : K 6 mX6_areaOf [.ref 54, .int a1, .int a2] h (pI q) := by
  unfold sX6_areaOf at e
  refine K.ofV (by decide) rfl (Nat.le_of_ble_eq_true rfl) ?_
  show V (Gs 6 (pI q)) mX6_areaOf (0, 0) 0 [(0, .ref 54), (1, .int a1), (2, .int a2)] [] h
  refine V.ilq dX6_areaOf_0 (pc' := 1) rfl (j := 1) rfl ?_
  refine V.ilq dX6_areaOf_1 (pc' := 2) rfl (j := 2) rfl ?_
  obtain ⟨q1, eq1, e⟩ := bd_s e
  refine V.callSi dX6_areaOf_2 (pc' := 5) rfl CS_X6_263 (as := [.int a1, .int a2]) (kX6_place h a1 a2 q1 eq1) (Gs_rm (by decide)) rfl (Nat.le_of_ble_eq_true rfl) rfl ?_
  refine V.isq dX6_areaOf_5 (pc' := 6) rfl (by decide) rfl (L' := [(3, .int q1.1), (0, .ref 54), (1, .int a1), (2, .int a2)]) rfl ?_
  refine V.alq dX6_areaOf_6 (pc' := 7) rfl (j := 1) rfl ?_
  refine V.ilq dX6_areaOf_7 (pc' := 8) rfl (j := 2) rfl ?_
  refine V.ilq dX6_areaOf_8 (pc' := 9) rfl (j := 3) rfl ?_
  refine V.iconst dX6_areaOf_9 (pc' := 10) rfl (v := 0) (by decide) ?_
  obtain ⟨q2, eq2, e⟩ := bd_s e
  refine V.callVl dX6_areaOf_10 (pc' := 13) rfl CV_X6_281 (as := [.int a1, .int a2, .int (0 : Int32)]) (kX6_widthAt q1.2 a1 a2 (0 : Int32) q2 eq2) (Gs_rm (by decide)) rfl (by decide) rfl (Nat.le_of_ble_eq_true rfl) rfl ?_
  refine V.alq dX6_areaOf_13 (pc' := 14) rfl (j := 1) rfl ?_
  refine V.ilq dX6_areaOf_14 (pc' := 15) rfl (j := 2) rfl ?_
  refine V.ilq dX6_areaOf_15 (pc' := 16) rfl (j := 3) rfl ?_
  refine V.iconst dX6_areaOf_16 (pc' := 17) rfl (v := 1) (by decide) ?_
  obtain ⟨q3, eq3, e⟩ := bd_s e
  refine V.callVl dX6_areaOf_17 (pc' := 20) rfl CV_X6_281 (as := [.int a1, .int a2, .int (1 : Int32)]) (kX6_widthAt q2.2 a1 a2 (1 : Int32) q3 eq3) (Gs_rm (by decide)) rfl (by decide) rfl (Nat.le_of_ble_eq_true rfl) rfl ?_
  refine V.ladd dX6_areaOf_20 (pc' := 21) rfl ?_
  obtain ⟨x4, ex4, e⟩ := nm_s e
  refine V.ls dX6_areaOf_21 (pc' := 23) rfl (by decide) ex4 (L' := [(4, .long x4), (3, .int q1.1), (0, .ref 54), (1, .int a1), (2, .int a2)]) rfl ?_
  refine V.ldc2 dX6_areaOf_23 (pc' := 26) rfl (v := 2) (TBm 1048 (by decide +kernel) rfl) ?_
  refine V.alq dX6_areaOf_26 (pc' := 27) rfl (j := 2) rfl ?_
  refine V.getr dX6_areaOf_27 (pc' := 30) rfl FL_X6_99 rfl (by decide) rfl (r' := 70) rfl ?_
  refine V.ilq dX6_areaOf_30 (pc' := 31) rfl (j := 1) rfl ?_
  obtain ⟨c5, e⟩ := gd_s e
  refine V.iald dX6_areaOf_31 (pc' := 32) rfl rfl rfl (inb_t c5) ?_
  refine V.i2l dX6_areaOf_32 (pc' := 33) rfl ?_
  refine V.lmul dX6_areaOf_33 (pc' := 34) rfl ?_
  refine V.alq dX6_areaOf_34 (pc' := 35) rfl (j := 2) rfl ?_
  refine V.alq dX6_areaOf_35 (pc' := 36) rfl (j := 2) rfl ?_
  refine V.getr dX6_areaOf_36 (pc' := 39) rfl FL_X6_93 rfl (by decide) rfl (r' := 68) rfl ?_
  refine V.ilq dX6_areaOf_39 (pc' := 40) rfl (j := 1) rfl ?_
  obtain ⟨c6, e⟩ := gd_s e
  refine V.iald dX6_areaOf_40 (pc' := 41) rfl rfl rfl (inb_t c6) ?_
  refine V.alq dX6_areaOf_41 (pc' := 42) rfl (j := 2) rfl ?_
  refine V.getr dX6_areaOf_42 (pc' := 45) rfl FL_X6_96 rfl (by decide) rfl (r' := 69) rfl ?_
  refine V.ilq dX6_areaOf_45 (pc' := 46) rfl (j := 1) rfl ?_
  obtain ⟨c7, e⟩ := gd_s e
  refine V.iald dX6_areaOf_46 (pc' := 47) rfl rfl rfl (inb_t c7) ?_
  obtain ⟨q8, eq8, e⟩ := bd_s e
  refine V.callVl dX6_areaOf_47 (pc' := 50) rfl CV_X6_277 (as := [.int (q3.2.1 68 q1.1.toNatClampNeg), .int (q3.2.1 69 q1.1.toNatClampNeg)]) (kX6_under q3.2 (q3.2.1 68 q1.1.toNatClampNeg) (q3.2.1 69 q1.1.toNatClampNeg) q8 eq8) (Gs_rm (by decide)) rfl (by decide) rfl (Nat.le_of_ble_eq_true rfl) rfl ?_
  refine V.lmul dX6_areaOf_50 (pc' := 51) rfl ?_
  obtain ⟨x9, ex9, e⟩ := nm_s e
  refine V.ls dX6_areaOf_51 (pc' := 53) rfl (by decide) ex9 (L' := [(6, .long x9), (4, .long x4), (3, .int q1.1), (0, .ref 54), (1, .int a1), (2, .int a2)]) rfl ?_
  refine V.ll dX6_areaOf_53 (pc' := 55) rfl (j := 1) rfl ?_
  refine V.lconst dX6_areaOf_55 (pc' := 56) rfl (v := 0) (by decide) ?_
  refine V.lcmp dX6_areaOf_56 (pc' := 57) rfl ?_
  refine V.if_ne dX6_areaOf_57 (pc' := 60) rfl (tgt := 65) (by decide) (fun c => ?_) (fun c => ?_)
  · rw [if_neg c] at e
    refine V.ll dX6_areaOf_65 (pc' := 67) rfl (j := 0) rfl ?_
    refine V.ll dX6_areaOf_67 (pc' := 69) rfl (j := 1) rfl ?_
    refine V.ladd dX6_areaOf_69 (pc' := 70) rfl ?_
    refine V.lconst dX6_areaOf_70 (pc' := 71) rfl (v := 1) (by decide) ?_
    refine V.lsub dX6_areaOf_71 (pc' := 72) rfl ?_
    refine V.ll dX6_areaOf_72 (pc' := 74) rfl (j := 1) rfl ?_
    obtain ⟨c10, e⟩ := gd_s e
    refine V.ldiv dX6_areaOf_74 (pc' := 75) rfl (nzL_t c10) ?_
    refine V.l2i dX6_areaOf_75 (pc' := 76) rfl ?_
    refine V.pk [] rfl ?_
    exact vX6_areaOf_c76 q8.2 ((((x9 + x4) - (1 : Int64)) / x4).toInt32) q e
  · rw [if_pos c] at e
    refine V.bipush dX6_areaOf_60 (pc' := 62) rfl (v := -2) (by decide) ?_
    refine V.goto dX6_areaOf_62 (pc' := 76) (by decide) ?_
    refine V.pk [] rfl ?_
    exact vX6_areaOf_c76 q8.2 (-2 : Int32) q e

-- X6_firstBad (level 7)
theorem dX6_firstBad_0 : decode cX6_firstBad 0 = .ok (.iconst 0, 1) := by decide +kernel
theorem dX6_firstBad_1 : decode cX6_firstBad 1 = .ok (.istore_n 2, 1) := by decide +kernel
theorem dX6_firstBad_2 : decode cX6_firstBad 2 = .ok (.iload_n 2, 1) := by decide +kernel
theorem dX6_firstBad_3 : decode cX6_firstBad 3 = .ok (.aload_n 0, 1) := by decide +kernel
theorem dX6_firstBad_4 : decode cX6_firstBad 4 = .ok (.getfield 90, 3) := by decide +kernel
theorem dX6_firstBad_7 : decode cX6_firstBad 7 = .ok (.iload_n 1, 1) := by decide +kernel
theorem dX6_firstBad_8 : decode cX6_firstBad 8 = .ok (.iaload, 1) := by decide +kernel
theorem dX6_firstBad_9 : decode cX6_firstBad 9 = .ok (.if_icmp .ge 31, 3) := by decide +kernel
theorem dX6_firstBad_12 : decode cX6_firstBad 12 = .ok (.aload_n 0, 1) := by decide +kernel
theorem dX6_firstBad_13 : decode cX6_firstBad 13 = .ok (.iload_n 1, 1) := by decide +kernel
theorem dX6_firstBad_14 : decode cX6_firstBad 14 = .ok (.iload_n 2, 1) := by decide +kernel
theorem dX6_firstBad_15 : decode cX6_firstBad 15 = .ok (.iconst 0, 1) := by decide +kernel
theorem dX6_firstBad_16 : decode cX6_firstBad 16 = .ok (.invokevirtual 288, 3) := by decide +kernel
theorem dX6_firstBad_19 : decode cX6_firstBad 19 = .ok (.ifCond .eq 13, 3) := by decide +kernel
theorem dX6_firstBad_22 : decode cX6_firstBad 22 = .ok (.aload_n 0, 1) := by decide +kernel
theorem dX6_firstBad_23 : decode cX6_firstBad 23 = .ok (.iload_n 1, 1) := by decide +kernel
theorem dX6_firstBad_24 : decode cX6_firstBad 24 = .ok (.iload_n 2, 1) := by decide +kernel
theorem dX6_firstBad_25 : decode cX6_firstBad 25 = .ok (.iconst 1, 1) := by decide +kernel
theorem dX6_firstBad_26 : decode cX6_firstBad 26 = .ok (.invokevirtual 288, 3) := by decide +kernel
theorem dX6_firstBad_29 : decode cX6_firstBad 29 = .ok (.ifCond .ne 5, 3) := by decide +kernel
theorem dX6_firstBad_32 : decode cX6_firstBad 32 = .ok (.iload_n 2, 1) := by decide +kernel
theorem dX6_firstBad_33 : decode cX6_firstBad 33 = .ok (.ireturn, 1) := by decide +kernel
theorem dX6_firstBad_34 : decode cX6_firstBad 34 = .ok (.iinc 2 1, 3) := by decide +kernel
theorem dX6_firstBad_37 : decode cX6_firstBad 37 = .ok (.goto (-35), 3) := by decide +kernel
theorem dX6_firstBad_40 : decode cX6_firstBad 40 = .ok (.iconst (-1), 1) := by decide +kernel
theorem dX6_firstBad_41 : decode cX6_firstBad 41 = .ok (.ireturn, 1) := by decide +kernel
def sX6_firstBad_c32 (h : Hp) (v2 : Int32) : Option (Int32 × Hp) :=
  some (v2, h)
set_option maxRecDepth 10000 in
theorem vX6_firstBad_c32 (h : Hp) (v2 : Int32) (q : (Int32 × Hp)) (e : sX6_firstBad_c32 h v2 = some q) : V (Gs 7 (pI q)) mX6_firstBad (0, 0) 32 [(2, .int v2)] [] h := by
  unfold sX6_firstBad_c32 at e
  refine V.ilq dX6_firstBad_32 (pc' := 33) rfl (j := 0) rfl ?_
  exact V.iret dX6_firstBad_33 rfl (fnI e)
def sX6_firstBad_c2 (k2 : Hp → Int32 → Int32 → Option (Int32 × Hp)) (h : Hp) (v1 : Int32) (v2 : Int32) : Option (Int32 × Hp) :=
  gd (inb v1 2) (if (h.1 67 v1.toNatClampNeg) ≤ v2 then (some ((-1 : Int32), h)) else ((sX6_keeps h v1 v2 (0 : Int32)).bind fun q2 => if q2.1 = 0 then (sX6_firstBad_c32 q2.2 v2) else ((sX6_keeps q2.2 v1 v2 (1 : Int32)).bind fun q3 => if q3.1 = 0 then (sX6_firstBad_c32 q3.2 v2) else (nm (v2 + (1 : Int32)) fun x4 => k2 q3.2 v1 x4))))
set_option maxRecDepth 10000 in
theorem vX6_firstBad_c2 (k2 : Hp → Int32 → Int32 → Option (Int32 × Hp)) (hk2 : ∀ (h : Hp) (v1 : Int32) (v2 : Int32) (q : (Int32 × Hp)), k2 h v1 v2 = some q → V (Gs 7 (pI q)) mX6_firstBad (0, 0) 2 [(0, .ref 54), (1, .int v1), (2, .int v2)] [] h) (h : Hp) (v1 : Int32) (v2 : Int32) (q : (Int32 × Hp)) (e : sX6_firstBad_c2 k2 h v1 v2 = some q) : V (Gs 7 (pI q)) mX6_firstBad (0, 0) 2 [(0, .ref 54), (1, .int v1), (2, .int v2)] [] h := by
  unfold sX6_firstBad_c2 at e
  refine V.ilq dX6_firstBad_2 (pc' := 3) rfl (j := 2) rfl ?_
  refine V.alq dX6_firstBad_3 (pc' := 4) rfl (j := 0) rfl ?_
  refine V.getr dX6_firstBad_4 (pc' := 7) rfl FL_X6_90 rfl (by decide) rfl (r' := 67) rfl ?_
  refine V.ilq dX6_firstBad_7 (pc' := 8) rfl (j := 1) rfl ?_
  obtain ⟨c1, e⟩ := gd_s e
  refine V.iald dX6_firstBad_8 (pc' := 9) rfl rfl rfl (inb_t c1) ?_
  refine V.ic_ge dX6_firstBad_9 (pc' := 12) rfl (tgt := 40) (by decide) (fun c => ?_) (fun c => ?_)
  · rw [if_pos c] at e
    refine V.iconst dX6_firstBad_40 (pc' := 41) rfl (v := -1) (by decide) ?_
    exact V.iret dX6_firstBad_41 rfl (fnI e)
  · rw [if_neg c] at e
    refine V.alq dX6_firstBad_12 (pc' := 13) rfl (j := 0) rfl ?_
    refine V.ilq dX6_firstBad_13 (pc' := 14) rfl (j := 1) rfl ?_
    refine V.ilq dX6_firstBad_14 (pc' := 15) rfl (j := 2) rfl ?_
    refine V.iconst dX6_firstBad_15 (pc' := 16) rfl (v := 0) (by decide) ?_
    obtain ⟨q2, eq2, e⟩ := bd_s e
    refine V.callVi dX6_firstBad_16 (pc' := 19) rfl CV_X6_288 (as := [.int v1, .int v2, .int (0 : Int32)]) (kX6_keeps h v1 v2 (0 : Int32) q2 eq2) (Gs_rm (by decide)) rfl (by decide) rfl (Nat.le_of_ble_eq_true rfl) rfl ?_
    refine V.if_eq dX6_firstBad_19 (pc' := 22) rfl (tgt := 32) (by decide) (fun c => ?_) (fun c => ?_)
    · rw [if_pos c] at e
      refine V.pk [2] rfl ?_
      exact vX6_firstBad_c32 q2.2 v2 q e
    · rw [if_neg c] at e
      refine V.alq dX6_firstBad_22 (pc' := 23) rfl (j := 0) rfl ?_
      refine V.ilq dX6_firstBad_23 (pc' := 24) rfl (j := 1) rfl ?_
      refine V.ilq dX6_firstBad_24 (pc' := 25) rfl (j := 2) rfl ?_
      refine V.iconst dX6_firstBad_25 (pc' := 26) rfl (v := 1) (by decide) ?_
      obtain ⟨q3, eq3, e⟩ := bd_s e
      refine V.callVi dX6_firstBad_26 (pc' := 29) rfl CV_X6_288 (as := [.int v1, .int v2, .int (1 : Int32)]) (kX6_keeps q2.2 v1 v2 (1 : Int32) q3 eq3) (Gs_rm (by decide)) rfl (by decide) rfl (Nat.le_of_ble_eq_true rfl) rfl ?_
      refine V.if_ne dX6_firstBad_29 (pc' := 32) rfl (tgt := 34) (by decide) (fun c => ?_) (fun c => ?_)
      · rw [if_neg c] at e
        obtain ⟨x4, ex4, e⟩ := nm_s e
        refine V.iinc dX6_firstBad_34 (pc' := 37) rfl (j := 2) rfl (v := 1) (by decide) (by decide) ex4 (L' := [(2, .int x4), (0, .ref 54), (1, .int v1)]) rfl ?_
        refine V.goto dX6_firstBad_37 (pc' := 2) (by decide) ?_
        refine V.pk [1, 2, 0] rfl ?_
        exact hk2 q3.2 v1 x4 q e
      · rw [if_pos c] at e
        refine V.pk [2] rfl ?_
        exact vX6_firstBad_c32 q3.2 v2 q e
def sX6_firstBad_b2 : Nat → Hp → Int32 → Int32 → Option (Int32 × Hp)
  | 0 => fun _ _ _ => none
  | n + 1 => sX6_firstBad_c2 (sX6_firstBad_b2 n)
theorem vX6_firstBad_b2 : ∀ (n : Nat) (h : Hp) (v1 : Int32) (v2 : Int32) (q : (Int32 × Hp)), sX6_firstBad_b2 n h v1 v2 = some q → V (Gs 7 (pI q)) mX6_firstBad (0, 0) 2 [(0, .ref 54), (1, .int v1), (2, .int v2)] [] h
  | 0 => fun _ _ _ _ e => by cases e
  | n + 1 => fun h v1 v2 q e => vX6_firstBad_c2 (sX6_firstBad_b2 n) (vX6_firstBad_b2 n) h v1 v2 q e
def sX6_firstBad (h : Hp) (a1 : Int32) : Option (Int32 × Hp) :=
  sX6_firstBad_b2 FU h a1 (0 : Int32)
set_option maxRecDepth 10000 in
theorem kX6_firstBad (h : Hp) (a1 : Int32) (q : (Int32 × Hp)) (e : sX6_firstBad h a1 = some q) : K 7 mX6_firstBad [.ref 54, .int a1] h (pI q) := by
  unfold sX6_firstBad at e
  refine K.ofV (by decide) rfl (Nat.le_of_ble_eq_true rfl) ?_
  show V (Gs 7 (pI q)) mX6_firstBad (0, 0) 0 [(0, .ref 54), (1, .int a1)] [] h
  refine V.iconst dX6_firstBad_0 (pc' := 1) rfl (v := 0) (by decide) ?_
  refine V.isq dX6_firstBad_1 (pc' := 2) rfl (by decide) rfl (L' := [(2, .int (0 : Int32)), (0, .ref 54), (1, .int a1)]) rfl ?_
  refine V.pk [1, 2, 0] rfl ?_
  exact vX6_firstBad_b2 FU h a1 (0 : Int32) q e

-- X6_joins (level 7)
theorem dX6_joins_0 : decode cX6_joins 0 = .ok (.aload_n 0, 1) := by decide +kernel
theorem dX6_joins_1 : decode cX6_joins 1 = .ok (.iconst 0, 1) := by decide +kernel
theorem dX6_joins_2 : decode cX6_joins 2 = .ok (.putfield 1, 3) := by decide +kernel
theorem dX6_joins_5 : decode cX6_joins 5 = .ok (.aload_n 0, 1) := by decide +kernel
theorem dX6_joins_6 : decode cX6_joins 6 = .ok (.invokevirtual 256, 3) := by decide +kernel
theorem dX6_joins_9 : decode cX6_joins 9 = .ok (.aload_n 0, 1) := by decide +kernel
theorem dX6_joins_10 : decode cX6_joins 10 = .ok (.iload_n 1, 1) := by decide +kernel
theorem dX6_joins_11 : decode cX6_joins 11 = .ok (.iload_n 2, 1) := by decide +kernel
theorem dX6_joins_12 : decode cX6_joins 12 = .ok (.iload_n 3, 1) := by decide +kernel
theorem dX6_joins_13 : decode cX6_joins 13 = .ok (.invokevirtual 292, 3) := by decide +kernel
theorem dX6_joins_16 : decode cX6_joins 16 = .ok (.ifCond .eq 9, 3) := by decide +kernel
theorem dX6_joins_19 : decode cX6_joins 19 = .ok (.iload 4, 2) := by decide +kernel
theorem dX6_joins_21 : decode cX6_joins 21 = .ok (.iconst 1, 1) := by decide +kernel
theorem dX6_joins_22 : decode cX6_joins 22 = .ok (.if_icmp .ge 5, 3) := by decide +kernel
theorem dX6_joins_25 : decode cX6_joins 25 = .ok (.iconst (-1), 1) := by decide +kernel
theorem dX6_joins_26 : decode cX6_joins 26 = .ok (.ireturn, 1) := by decide +kernel
theorem dX6_joins_27 : decode cX6_joins 27 = .ok (.aload_n 0, 1) := by decide +kernel
theorem dX6_joins_28 : decode cX6_joins 28 = .ok (.getfield 90, 3) := by decide +kernel
theorem dX6_joins_31 : decode cX6_joins 31 = .ok (.iload_n 1, 1) := by decide +kernel
theorem dX6_joins_32 : decode cX6_joins 32 = .ok (.iaload, 1) := by decide +kernel
theorem dX6_joins_33 : decode cX6_joins 33 = .ok (.bipush 24, 2) := by decide +kernel
theorem dX6_joins_35 : decode cX6_joins 35 = .ok (.if_icmp .ne 6, 3) := by decide +kernel
theorem dX6_joins_38 : decode cX6_joins 38 = .ok (.bipush (-2), 2) := by decide +kernel
theorem dX6_joins_40 : decode cX6_joins 40 = .ok (.ireturn, 1) := by decide +kernel
theorem dX6_joins_41 : decode cX6_joins 41 = .ok (.iload 4, 2) := by decide +kernel
theorem dX6_joins_43 : decode cX6_joins 43 = .ok (.aload_n 0, 1) := by decide +kernel
theorem dX6_joins_44 : decode cX6_joins 44 = .ok (.iload_n 1, 1) := by decide +kernel
theorem dX6_joins_45 : decode cX6_joins 45 = .ok (.iload_n 2, 1) := by decide +kernel
theorem dX6_joins_46 : decode cX6_joins 46 = .ok (.invokevirtual 270, 3) := by decide +kernel
theorem dX6_joins_49 : decode cX6_joins 49 = .ok (.if_icmp .gt 14, 3) := by decide +kernel
theorem dX6_joins_52 : decode cX6_joins 52 = .ok (.iload 4, 2) := by decide +kernel
theorem dX6_joins_54 : decode cX6_joins 54 = .ok (.aload_n 0, 1) := by decide +kernel
theorem dX6_joins_55 : decode cX6_joins 55 = .ok (.iload_n 1, 1) := by decide +kernel
theorem dX6_joins_56 : decode cX6_joins 56 = .ok (.iload_n 3, 1) := by decide +kernel
theorem dX6_joins_57 : decode cX6_joins 57 = .ok (.invokevirtual 270, 3) := by decide +kernel
theorem dX6_joins_60 : decode cX6_joins 60 = .ok (.if_icmp .le 6, 3) := by decide +kernel
theorem dX6_joins_63 : decode cX6_joins 63 = .ok (.bipush (-3), 2) := by decide +kernel
theorem dX6_joins_65 : decode cX6_joins 65 = .ok (.ireturn, 1) := by decide +kernel
theorem dX6_joins_66 : decode cX6_joins 66 = .ok (.aload_n 0, 1) := by decide +kernel
theorem dX6_joins_67 : decode cX6_joins 67 = .ok (.getfield 90, 3) := by decide +kernel
theorem dX6_joins_70 : decode cX6_joins 70 = .ok (.iload_n 1, 1) := by decide +kernel
theorem dX6_joins_71 : decode cX6_joins 71 = .ok (.iaload, 1) := by decide +kernel
theorem dX6_joins_72 : decode cX6_joins 72 = .ok (.istore 5, 2) := by decide +kernel
theorem dX6_joins_74 : decode cX6_joins 74 = .ok (.aload_n 0, 1) := by decide +kernel
theorem dX6_joins_75 : decode cX6_joins 75 = .ok (.iload_n 1, 1) := by decide +kernel
theorem dX6_joins_76 : decode cX6_joins 76 = .ok (.iload_n 2, 1) := by decide +kernel
theorem dX6_joins_77 : decode cX6_joins 77 = .ok (.iload_n 3, 1) := by decide +kernel
theorem dX6_joins_78 : decode cX6_joins 78 = .ok (.iload 4, 2) := by decide +kernel
theorem dX6_joins_80 : decode cX6_joins 80 = .ok (.invokevirtual 295, 3) := by decide +kernel
theorem dX6_joins_83 : decode cX6_joins 83 = .ok (.aload_n 0, 1) := by decide +kernel
theorem dX6_joins_84 : decode cX6_joins 84 = .ok (.iload_n 1, 1) := by decide +kernel
theorem dX6_joins_85 : decode cX6_joins 85 = .ok (.iload 5, 2) := by decide +kernel
theorem dX6_joins_87 : decode cX6_joins 87 = .ok (.iconst 0, 1) := by decide +kernel
theorem dX6_joins_88 : decode cX6_joins 88 = .ok (.invokevirtual 288, 3) := by decide +kernel
theorem dX6_joins_91 : decode cX6_joins 91 = .ok (.ifCond .ne 6, 3) := by decide +kernel
theorem dX6_joins_94 : decode cX6_joins 94 = .ok (.bipush (-4), 2) := by decide +kernel
theorem dX6_joins_96 : decode cX6_joins 96 = .ok (.ireturn, 1) := by decide +kernel
theorem dX6_joins_97 : decode cX6_joins 97 = .ok (.aload_n 0, 1) := by decide +kernel
theorem dX6_joins_98 : decode cX6_joins 98 = .ok (.iload_n 1, 1) := by decide +kernel
theorem dX6_joins_99 : decode cX6_joins 99 = .ok (.iload 5, 2) := by decide +kernel
theorem dX6_joins_101 : decode cX6_joins 101 = .ok (.iconst 1, 1) := by decide +kernel
theorem dX6_joins_102 : decode cX6_joins 102 = .ok (.invokevirtual 288, 3) := by decide +kernel
theorem dX6_joins_105 : decode cX6_joins 105 = .ok (.ifCond .ne 6, 3) := by decide +kernel
theorem dX6_joins_108 : decode cX6_joins 108 = .ok (.bipush (-5), 2) := by decide +kernel
theorem dX6_joins_110 : decode cX6_joins 110 = .ok (.ireturn, 1) := by decide +kernel
theorem dX6_joins_111 : decode cX6_joins 111 = .ok (.aload_n 0, 1) := by decide +kernel
theorem dX6_joins_112 : decode cX6_joins 112 = .ok (.getfield 90, 3) := by decide +kernel
theorem dX6_joins_115 : decode cX6_joins 115 = .ok (.iload_n 1, 1) := by decide +kernel
theorem dX6_joins_116 : decode cX6_joins 116 = .ok (.dup2, 1) := by decide +kernel
theorem dX6_joins_117 : decode cX6_joins 117 = .ok (.iaload, 1) := by decide +kernel
theorem dX6_joins_118 : decode cX6_joins 118 = .ok (.iconst 1, 1) := by decide +kernel
theorem dX6_joins_119 : decode cX6_joins 119 = .ok (.iadd, 1) := by decide +kernel
theorem dX6_joins_120 : decode cX6_joins 120 = .ok (.iastore, 1) := by decide +kernel
theorem dX6_joins_121 : decode cX6_joins 121 = .ok (.aload_n 0, 1) := by decide +kernel
theorem dX6_joins_122 : decode cX6_joins 122 = .ok (.iconst 0, 1) := by decide +kernel
theorem dX6_joins_123 : decode cX6_joins 123 = .ok (.putfield 11, 3) := by decide +kernel
theorem dX6_joins_126 : decode cX6_joins 126 = .ok (.aload_n 0, 1) := by decide +kernel
theorem dX6_joins_127 : decode cX6_joins 127 = .ok (.aload_n 0, 1) := by decide +kernel
theorem dX6_joins_128 : decode cX6_joins 128 = .ok (.iload_n 1, 1) := by decide +kernel
theorem dX6_joins_129 : decode cX6_joins 129 = .ok (.iload_n 2, 1) := by decide +kernel
theorem dX6_joins_130 : decode cX6_joins 130 = .ok (.invokevirtual 270, 3) := by decide +kernel
theorem dX6_joins_133 : decode cX6_joins 133 = .ok (.i2l, 1) := by decide +kernel
theorem dX6_joins_134 : decode cX6_joins 134 = .ok (.invokevirtual 18, 3) := by decide +kernel
theorem dX6_joins_137 : decode cX6_joins 137 = .ok (.aload_n 0, 1) := by decide +kernel
theorem dX6_joins_138 : decode cX6_joins 138 = .ok (.aload_n 0, 1) := by decide +kernel
theorem dX6_joins_139 : decode cX6_joins 139 = .ok (.iload_n 1, 1) := by decide +kernel
theorem dX6_joins_140 : decode cX6_joins 140 = .ok (.iload_n 3, 1) := by decide +kernel
theorem dX6_joins_141 : decode cX6_joins 141 = .ok (.invokevirtual 270, 3) := by decide +kernel
theorem dX6_joins_144 : decode cX6_joins 144 = .ok (.i2l, 1) := by decide +kernel
theorem dX6_joins_145 : decode cX6_joins 145 = .ok (.invokevirtual 18, 3) := by decide +kernel
theorem dX6_joins_148 : decode cX6_joins 148 = .ok (.iload 5, 2) := by decide +kernel
theorem dX6_joins_150 : decode cX6_joins 150 = .ok (.ireturn, 1) := by decide +kernel
def sX6_joins_c25 (h : Hp) : Option (Int32 × Hp) :=
  some ((-1 : Int32), h)
set_option maxRecDepth 10000 in
theorem vX6_joins_c25 (h : Hp) (q : (Int32 × Hp)) (e : sX6_joins_c25 h = some q) : V (Gs 7 (pI q)) mX6_joins (0, 0) 25 [] [] h := by
  unfold sX6_joins_c25 at e
  refine V.iconst dX6_joins_25 (pc' := 26) rfl (v := -1) (by decide) ?_
  exact V.iret dX6_joins_26 rfl (fnI e)
def sX6_joins_c63 (h : Hp) : Option (Int32 × Hp) :=
  some ((-3 : Int32), h)
set_option maxRecDepth 10000 in
theorem vX6_joins_c63 (h : Hp) (q : (Int32 × Hp)) (e : sX6_joins_c63 h = some q) : V (Gs 7 (pI q)) mX6_joins (0, 0) 63 [] [] h := by
  unfold sX6_joins_c63 at e
  refine V.bipush dX6_joins_63 (pc' := 65) rfl (v := -3) (by decide) ?_
  exact V.iret dX6_joins_65 rfl (fnI e)
def sX6_joins (h : Hp) (a1 : Int32) (a2 : Int32) (a3 : Int32) (a4 : Int32) : Option (Int32 × Hp) :=
  nm (u1 h 54 0 (0 : Int32)) fun h1 => (sX6_finds h1).bind fun q2 => (sX6_areThere q2 a1 a2 a3).bind fun q3 => if q3.1 = 0 then (sX6_joins_c25 q3.2) else (if (1 : Int32) ≤ a4 then (gd (inb a1 2) (if (q3.2.1 67 a1.toNatClampNeg) = (24 : Int32) then (some ((-2 : Int32), q3.2)) else ((sX6_rest q3.2 a1 a2).bind fun q5 => if q5.1 < a4 then (sX6_joins_c63 q5.2) else ((sX6_rest q5.2 a1 a3).bind fun q6 => if a4 ≤ q6.1 then (gd (inb a1 2) (nm ((q6.2.1 67 a1.toNatClampNeg)) fun x8 => (sX6_laysMatch q6.2 a1 a2 a3 a4).bind fun q9 => (sX6_keeps q9 a1 x8 (0 : Int32)).bind fun q10 => if q10.1 = 0 then (some ((-4 : Int32), q10.2)) else ((sX6_keeps q10.2 a1 x8 (1 : Int32)).bind fun q11 => if q11.1 = 0 then (some ((-5 : Int32), q11.2)) else (gd (inb a1 2) (gd (inb a1 2) (nm (u1 q11.2 67 a1.toNatClampNeg ((q11.2.1 67 a1.toNatClampNeg) + (1 : Int32))) fun h14 => nm (u1 h14 54 1 (0 : Int32)) fun h15 => (sX6_rest h15 a1 a2).bind fun q16 => (sX6_enters q16.2 q16.1.toInt64).bind fun q17 => (sX6_rest q17 a1 a3).bind fun q18 => (sX6_enters q18.2 q18.1.toInt64).bind fun q19 => some (x8, q19))))))) else (sX6_joins_c63 q6.2))))) else (sX6_joins_c25 q3.2))
set_option maxRecDepth 10000 in
theorem kX6_joins (h : Hp) (a1 : Int32) (a2 : Int32) (a3 : Int32) (a4 : Int32) (q : (Int32 × Hp)) (e : sX6_joins h a1 a2 a3 a4 = some q) : K 7 mX6_joins [.ref 54, .int a1, .int a2, .int a3, .int a4] h (pI q) := by
  unfold sX6_joins at e
  refine K.ofV (by decide) rfl (Nat.le_of_ble_eq_true rfl) ?_
  show V (Gs 7 (pI q)) mX6_joins (0, 0) 0 [(0, .ref 54), (1, .int a1), (2, .int a2), (3, .int a3), (4, .int a4)] [] h
  refine V.alq dX6_joins_0 (pc' := 1) rfl (j := 0) rfl ?_
  refine V.iconst dX6_joins_1 (pc' := 2) rfl (v := 0) (by decide) ?_
  obtain ⟨h1, eh1, e⟩ := nm_s e
  refine V.putf dX6_joins_2 (pc' := 5) rfl FP_X6_1 rfl (by decide) rfl eh1 ?_
  refine V.alq dX6_joins_5 (pc' := 6) rfl (j := 0) rfl ?_
  obtain ⟨q2, eq2, e⟩ := bd_s e
  refine V.callVv dX6_joins_6 (pc' := 9) rfl CV_X6_256 (as := []) (kX6_finds h1 q2 eq2) (Gs_rm (by decide)) rfl (by decide) rfl (Nat.le_of_ble_eq_true rfl) rfl ?_
  refine V.alq dX6_joins_9 (pc' := 10) rfl (j := 0) rfl ?_
  refine V.ilq dX6_joins_10 (pc' := 11) rfl (j := 1) rfl ?_
  refine V.ilq dX6_joins_11 (pc' := 12) rfl (j := 2) rfl ?_
  refine V.ilq dX6_joins_12 (pc' := 13) rfl (j := 3) rfl ?_
  obtain ⟨q3, eq3, e⟩ := bd_s e
  refine V.callVi dX6_joins_13 (pc' := 16) rfl CV_X6_292 (as := [.int a1, .int a2, .int a3]) (kX6_areThere q2 a1 a2 a3 q3 eq3) (Gs_rm (by decide)) rfl (by decide) rfl (Nat.le_of_ble_eq_true rfl) rfl ?_
  refine V.if_eq dX6_joins_16 (pc' := 19) rfl (tgt := 25) (by decide) (fun c => ?_) (fun c => ?_)
  · rw [if_pos c] at e
    refine V.pk [] rfl ?_
    exact vX6_joins_c25 q3.2 q e
  · rw [if_neg c] at e
    refine V.il dX6_joins_19 (pc' := 21) rfl (j := 4) rfl ?_
    refine V.iconst dX6_joins_21 (pc' := 22) rfl (v := 1) (by decide) ?_
    refine V.ic_ge dX6_joins_22 (pc' := 25) rfl (tgt := 27) (by decide) (fun c => ?_) (fun c => ?_)
    · rw [if_pos c] at e
      refine V.alq dX6_joins_27 (pc' := 28) rfl (j := 0) rfl ?_
      refine V.getr dX6_joins_28 (pc' := 31) rfl FL_X6_90 rfl (by decide) rfl (r' := 67) rfl ?_
      refine V.ilq dX6_joins_31 (pc' := 32) rfl (j := 1) rfl ?_
      obtain ⟨c4, e⟩ := gd_s e
      refine V.iald dX6_joins_32 (pc' := 33) rfl rfl rfl (inb_t c4) ?_
      refine V.bipush dX6_joins_33 (pc' := 35) rfl (v := 24) (by decide) ?_
      refine V.ic_ne dX6_joins_35 (pc' := 38) rfl (tgt := 41) (by decide) (fun c => ?_) (fun c => ?_)
      · rw [if_neg c] at e
        refine V.il dX6_joins_41 (pc' := 43) rfl (j := 4) rfl ?_
        refine V.alq dX6_joins_43 (pc' := 44) rfl (j := 0) rfl ?_
        refine V.ilq dX6_joins_44 (pc' := 45) rfl (j := 1) rfl ?_
        refine V.ilq dX6_joins_45 (pc' := 46) rfl (j := 2) rfl ?_
        obtain ⟨q5, eq5, e⟩ := bd_s e
        refine V.callVi dX6_joins_46 (pc' := 49) rfl CV_X6_270 (as := [.int a1, .int a2]) (kX6_rest q3.2 a1 a2 q5 eq5) (Gs_rm (by decide)) rfl (by decide) rfl (Nat.le_of_ble_eq_true rfl) rfl ?_
        refine V.ic_gt dX6_joins_49 (pc' := 52) rfl (tgt := 63) (by decide) (fun c => ?_) (fun c => ?_)
        · rw [if_pos c] at e
          refine V.pk [] rfl ?_
          exact vX6_joins_c63 q5.2 q e
        · rw [if_neg c] at e
          refine V.il dX6_joins_52 (pc' := 54) rfl (j := 4) rfl ?_
          refine V.alq dX6_joins_54 (pc' := 55) rfl (j := 0) rfl ?_
          refine V.ilq dX6_joins_55 (pc' := 56) rfl (j := 1) rfl ?_
          refine V.ilq dX6_joins_56 (pc' := 57) rfl (j := 3) rfl ?_
          obtain ⟨q6, eq6, e⟩ := bd_s e
          refine V.callVi dX6_joins_57 (pc' := 60) rfl CV_X6_270 (as := [.int a1, .int a3]) (kX6_rest q5.2 a1 a3 q6 eq6) (Gs_rm (by decide)) rfl (by decide) rfl (Nat.le_of_ble_eq_true rfl) rfl ?_
          refine V.ic_le dX6_joins_60 (pc' := 63) rfl (tgt := 66) (by decide) (fun c => ?_) (fun c => ?_)
          · rw [if_pos c] at e
            refine V.alq dX6_joins_66 (pc' := 67) rfl (j := 0) rfl ?_
            refine V.getr dX6_joins_67 (pc' := 70) rfl FL_X6_90 rfl (by decide) rfl (r' := 67) rfl ?_
            refine V.ilq dX6_joins_70 (pc' := 71) rfl (j := 1) rfl ?_
            obtain ⟨c7, e⟩ := gd_s e
            refine V.iald dX6_joins_71 (pc' := 72) rfl rfl rfl (inb_t c7) ?_
            obtain ⟨x8, ex8, e⟩ := nm_s e
            refine V.is dX6_joins_72 (pc' := 74) rfl (by decide) ex8 (L' := [(5, .int x8), (0, .ref 54), (1, .int a1), (2, .int a2), (3, .int a3), (4, .int a4)]) rfl ?_
            refine V.alq dX6_joins_74 (pc' := 75) rfl (j := 1) rfl ?_
            refine V.ilq dX6_joins_75 (pc' := 76) rfl (j := 2) rfl ?_
            refine V.ilq dX6_joins_76 (pc' := 77) rfl (j := 3) rfl ?_
            refine V.ilq dX6_joins_77 (pc' := 78) rfl (j := 4) rfl ?_
            refine V.il dX6_joins_78 (pc' := 80) rfl (j := 5) rfl ?_
            obtain ⟨q9, eq9, e⟩ := bd_s e
            refine V.callVv dX6_joins_80 (pc' := 83) rfl CV_X6_295 (as := [.int a1, .int a2, .int a3, .int a4]) (kX6_laysMatch q6.2 a1 a2 a3 a4 q9 eq9) (Gs_rm (by decide)) rfl (by decide) rfl (Nat.le_of_ble_eq_true rfl) rfl ?_
            refine V.alq dX6_joins_83 (pc' := 84) rfl (j := 1) rfl ?_
            refine V.ilq dX6_joins_84 (pc' := 85) rfl (j := 2) rfl ?_
            refine V.il dX6_joins_85 (pc' := 87) rfl (j := 0) rfl ?_
            refine V.iconst dX6_joins_87 (pc' := 88) rfl (v := 0) (by decide) ?_
            obtain ⟨q10, eq10, e⟩ := bd_s e
            refine V.callVi dX6_joins_88 (pc' := 91) rfl CV_X6_288 (as := [.int a1, .int x8, .int (0 : Int32)]) (kX6_keeps q9 a1 x8 (0 : Int32) q10 eq10) (Gs_rm (by decide)) rfl (by decide) rfl (Nat.le_of_ble_eq_true rfl) rfl ?_
            refine V.if_ne dX6_joins_91 (pc' := 94) rfl (tgt := 97) (by decide) (fun c => ?_) (fun c => ?_)
            · rw [if_neg c] at e
              refine V.alq dX6_joins_97 (pc' := 98) rfl (j := 1) rfl ?_
              refine V.ilq dX6_joins_98 (pc' := 99) rfl (j := 2) rfl ?_
              refine V.il dX6_joins_99 (pc' := 101) rfl (j := 0) rfl ?_
              refine V.iconst dX6_joins_101 (pc' := 102) rfl (v := 1) (by decide) ?_
              obtain ⟨q11, eq11, e⟩ := bd_s e
              refine V.callVi dX6_joins_102 (pc' := 105) rfl CV_X6_288 (as := [.int a1, .int x8, .int (1 : Int32)]) (kX6_keeps q10.2 a1 x8 (1 : Int32) q11 eq11) (Gs_rm (by decide)) rfl (by decide) rfl (Nat.le_of_ble_eq_true rfl) rfl ?_
              refine V.if_ne dX6_joins_105 (pc' := 108) rfl (tgt := 111) (by decide) (fun c => ?_) (fun c => ?_)
              · rw [if_neg c] at e
                refine V.alq dX6_joins_111 (pc' := 112) rfl (j := 1) rfl ?_
                refine V.getr dX6_joins_112 (pc' := 115) rfl FL_X6_90 rfl (by decide) rfl (r' := 67) rfl ?_
                refine V.ilq dX6_joins_115 (pc' := 116) rfl (j := 2) rfl ?_
                refine V.dup2 dX6_joins_116 (pc' := 117) rfl rfl rfl ?_
                obtain ⟨c12, e⟩ := gd_s e
                refine V.iald dX6_joins_117 (pc' := 118) rfl rfl rfl (inb_t c12) ?_
                refine V.iconst dX6_joins_118 (pc' := 119) rfl (v := 1) (by decide) ?_
                refine V.iadd dX6_joins_119 (pc' := 120) rfl ?_
                obtain ⟨c13, e⟩ := gd_s e
                obtain ⟨h14, eh14, e⟩ := nm_s e
                refine V.iast dX6_joins_120 (pc' := 121) rfl rfl rfl (inb_t c13) eh14 ?_
                refine V.alq dX6_joins_121 (pc' := 122) rfl (j := 1) rfl ?_
                refine V.iconst dX6_joins_122 (pc' := 123) rfl (v := 0) (by decide) ?_
                obtain ⟨h15, eh15, e⟩ := nm_s e
                refine V.putf dX6_joins_123 (pc' := 126) rfl FP_X6_11 rfl (by decide) rfl eh15 ?_
                refine V.alq dX6_joins_126 (pc' := 127) rfl (j := 1) rfl ?_
                refine V.alq dX6_joins_127 (pc' := 128) rfl (j := 1) rfl ?_
                refine V.ilq dX6_joins_128 (pc' := 129) rfl (j := 2) rfl ?_
                refine V.ilq dX6_joins_129 (pc' := 130) rfl (j := 3) rfl ?_
                obtain ⟨q16, eq16, e⟩ := bd_s e
                refine V.callVi dX6_joins_130 (pc' := 133) rfl CV_X6_270 (as := [.int a1, .int a2]) (kX6_rest h15 a1 a2 q16 eq16) (Gs_rm (by decide)) rfl (by decide) rfl (Nat.le_of_ble_eq_true rfl) rfl ?_
                refine V.i2l dX6_joins_133 (pc' := 134) rfl ?_
                obtain ⟨q17, eq17, e⟩ := bd_s e
                refine V.callVv dX6_joins_134 (pc' := 137) rfl CV_X6_18 (as := [.long q16.1.toInt64]) (kX6_enters q16.2 q16.1.toInt64 q17 eq17) (Gs_rm (by decide)) rfl (by decide) rfl (Nat.le_of_ble_eq_true rfl) rfl ?_
                refine V.alq dX6_joins_137 (pc' := 138) rfl (j := 1) rfl ?_
                refine V.alq dX6_joins_138 (pc' := 139) rfl (j := 1) rfl ?_
                refine V.ilq dX6_joins_139 (pc' := 140) rfl (j := 2) rfl ?_
                refine V.ilq dX6_joins_140 (pc' := 141) rfl (j := 4) rfl ?_
                obtain ⟨q18, eq18, e⟩ := bd_s e
                refine V.callVi dX6_joins_141 (pc' := 144) rfl CV_X6_270 (as := [.int a1, .int a3]) (kX6_rest q17 a1 a3 q18 eq18) (Gs_rm (by decide)) rfl (by decide) rfl (Nat.le_of_ble_eq_true rfl) rfl ?_
                refine V.i2l dX6_joins_144 (pc' := 145) rfl ?_
                obtain ⟨q19, eq19, e⟩ := bd_s e
                refine V.callVv dX6_joins_145 (pc' := 148) rfl CV_X6_18 (as := [.long q18.1.toInt64]) (kX6_enters q18.2 q18.1.toInt64 q19 eq19) (Gs_rm (by decide)) rfl (by decide) rfl (Nat.le_of_ble_eq_true rfl) rfl ?_
                refine V.il dX6_joins_148 (pc' := 150) rfl (j := 0) rfl ?_
                exact V.iret dX6_joins_150 rfl (fnI e)
              · rw [if_pos c] at e
                refine V.bipush dX6_joins_108 (pc' := 110) rfl (v := -5) (by decide) ?_
                exact V.iret dX6_joins_110 rfl (fnI e)
            · rw [if_pos c] at e
              refine V.bipush dX6_joins_94 (pc' := 96) rfl (v := -4) (by decide) ?_
              exact V.iret dX6_joins_96 rfl (fnI e)
          · rw [if_neg c] at e
            refine V.pk [] rfl ?_
            exact vX6_joins_c63 q6.2 q e
      · rw [if_pos c] at e
        refine V.bipush dX6_joins_38 (pc' := 40) rfl (v := -2) (by decide) ?_
        exact V.iret dX6_joins_40 rfl (fnI e)
    · rw [if_neg c] at e
      refine V.pk [] rfl ?_
      exact vX6_joins_c25 q3.2 q e

-- X6_most (level 7)
theorem dX6_most_0 : decode cX6_most 0 = .ok (.aload_n 0, 1) := by decide +kernel
theorem dX6_most_1 : decode cX6_most 1 = .ok (.iconst 0, 1) := by decide +kernel
theorem dX6_most_2 : decode cX6_most 2 = .ok (.putfield 1, 3) := by decide +kernel
theorem dX6_most_5 : decode cX6_most 5 = .ok (.aload_n 0, 1) := by decide +kernel
theorem dX6_most_6 : decode cX6_most 6 = .ok (.invokevirtual 256, 3) := by decide +kernel
theorem dX6_most_9 : decode cX6_most 9 = .ok (.aload_n 0, 1) := by decide +kernel
theorem dX6_most_10 : decode cX6_most 10 = .ok (.iload_n 1, 1) := by decide +kernel
theorem dX6_most_11 : decode cX6_most 11 = .ok (.iload_n 2, 1) := by decide +kernel
theorem dX6_most_12 : decode cX6_most 12 = .ok (.iload_n 3, 1) := by decide +kernel
theorem dX6_most_13 : decode cX6_most 13 = .ok (.invokevirtual 292, 3) := by decide +kernel
theorem dX6_most_16 : decode cX6_most 16 = .ok (.ifCond .eq 13, 3) := by decide +kernel
theorem dX6_most_19 : decode cX6_most 19 = .ok (.aload_n 0, 1) := by decide +kernel
theorem dX6_most_20 : decode cX6_most 20 = .ok (.iload_n 1, 1) := by decide +kernel
theorem dX6_most_21 : decode cX6_most 21 = .ok (.iload_n 2, 1) := by decide +kernel
theorem dX6_most_22 : decode cX6_most 22 = .ok (.iload_n 3, 1) := by decide +kernel
theorem dX6_most_23 : decode cX6_most 23 = .ok (.invokevirtual 301, 3) := by decide +kernel
theorem dX6_most_26 : decode cX6_most 26 = .ok (.goto 4, 3) := by decide +kernel
theorem dX6_most_29 : decode cX6_most 29 = .ok (.iconst (-1), 1) := by decide +kernel
theorem dX6_most_30 : decode cX6_most 30 = .ok (.ireturn, 1) := by decide +kernel
def sX6_most_c30 (h : Hp) (t0 : Int32) : Option (Int32 × Hp) :=
  some (t0, h)
set_option maxRecDepth 10000 in
theorem vX6_most_c30 (h : Hp) (t0 : Int32) (q : (Int32 × Hp)) (e : sX6_most_c30 h t0 = some q) : V (Gs 7 (pI q)) mX6_most (0, 0) 30 [] [.int t0] h := by
  unfold sX6_most_c30 at e
  exact V.iret dX6_most_30 rfl (fnI e)
def sX6_most (h : Hp) (a1 : Int32) (a2 : Int32) (a3 : Int32) : Option (Int32 × Hp) :=
  nm (u1 h 54 0 (0 : Int32)) fun h1 => (sX6_finds h1).bind fun q2 => (sX6_areThere q2 a1 a2 a3).bind fun q3 => if q3.1 = 0 then (sX6_most_c30 q3.2 (-1 : Int32)) else ((sX6_mostOf q3.2 a1 a2 a3).bind fun q4 => sX6_most_c30 q4.2 q4.1)
set_option maxRecDepth 10000 in
theorem kX6_most (h : Hp) (a1 : Int32) (a2 : Int32) (a3 : Int32) (q : (Int32 × Hp)) (e : sX6_most h a1 a2 a3 = some q) : K 7 mX6_most [.ref 54, .int a1, .int a2, .int a3] h (pI q) := by
  unfold sX6_most at e
  refine K.ofV (by decide) rfl (Nat.le_of_ble_eq_true rfl) ?_
  show V (Gs 7 (pI q)) mX6_most (0, 0) 0 [(0, .ref 54), (1, .int a1), (2, .int a2), (3, .int a3)] [] h
  refine V.alq dX6_most_0 (pc' := 1) rfl (j := 0) rfl ?_
  refine V.iconst dX6_most_1 (pc' := 2) rfl (v := 0) (by decide) ?_
  obtain ⟨h1, eh1, e⟩ := nm_s e
  refine V.putf dX6_most_2 (pc' := 5) rfl FP_X6_1 rfl (by decide) rfl eh1 ?_
  refine V.alq dX6_most_5 (pc' := 6) rfl (j := 0) rfl ?_
  obtain ⟨q2, eq2, e⟩ := bd_s e
  refine V.callVv dX6_most_6 (pc' := 9) rfl CV_X6_256 (as := []) (kX6_finds h1 q2 eq2) (Gs_rm (by decide)) rfl (by decide) rfl (Nat.le_of_ble_eq_true rfl) rfl ?_
  refine V.alq dX6_most_9 (pc' := 10) rfl (j := 0) rfl ?_
  refine V.ilq dX6_most_10 (pc' := 11) rfl (j := 1) rfl ?_
  refine V.ilq dX6_most_11 (pc' := 12) rfl (j := 2) rfl ?_
  refine V.ilq dX6_most_12 (pc' := 13) rfl (j := 3) rfl ?_
  obtain ⟨q3, eq3, e⟩ := bd_s e
  refine V.callVi dX6_most_13 (pc' := 16) rfl CV_X6_292 (as := [.int a1, .int a2, .int a3]) (kX6_areThere q2 a1 a2 a3 q3 eq3) (Gs_rm (by decide)) rfl (by decide) rfl (Nat.le_of_ble_eq_true rfl) rfl ?_
  refine V.if_eq dX6_most_16 (pc' := 19) rfl (tgt := 29) (by decide) (fun c => ?_) (fun c => ?_)
  · rw [if_pos c] at e
    refine V.iconst dX6_most_29 (pc' := 30) rfl (v := -1) (by decide) ?_
    refine V.pk [] rfl ?_
    exact vX6_most_c30 q3.2 (-1 : Int32) q e
  · rw [if_neg c] at e
    refine V.alq dX6_most_19 (pc' := 20) rfl (j := 0) rfl ?_
    refine V.ilq dX6_most_20 (pc' := 21) rfl (j := 1) rfl ?_
    refine V.ilq dX6_most_21 (pc' := 22) rfl (j := 2) rfl ?_
    refine V.ilq dX6_most_22 (pc' := 23) rfl (j := 3) rfl ?_
    obtain ⟨q4, eq4, e⟩ := bd_s e
    refine V.callVi dX6_most_23 (pc' := 26) rfl CV_X6_301 (as := [.int a1, .int a2, .int a3]) (kX6_mostOf q3.2 a1 a2 a3 q4 eq4) (Gs_rm (by decide)) rfl (by decide) rfl (Nat.le_of_ble_eq_true rfl) rfl ?_
    refine V.goto dX6_most_26 (pc' := 30) (by decide) ?_
    refine V.pk [] rfl ?_
    exact vX6_most_c30 q4.2 q4.1 q e

-- X6_findsBest (level 7)
theorem dX6_findsBest_0 : decode cX6_findsBest 0 = .ok (.iconst 0, 1) := by decide +kernel
theorem dX6_findsBest_1 : decode cX6_findsBest 1 = .ok (.istore_n 2, 1) := by decide +kernel
theorem dX6_findsBest_2 : decode cX6_findsBest 2 = .ok (.iconst 0, 1) := by decide +kernel
theorem dX6_findsBest_3 : decode cX6_findsBest 3 = .ok (.istore_n 3, 1) := by decide +kernel
theorem dX6_findsBest_4 : decode cX6_findsBest 4 = .ok (.iload_n 3, 1) := by decide +kernel
theorem dX6_findsBest_5 : decode cX6_findsBest 5 = .ok (.aload_n 0, 1) := by decide +kernel
theorem dX6_findsBest_6 : decode cX6_findsBest 6 = .ok (.getfield 131, 3) := by decide +kernel
theorem dX6_findsBest_9 : decode cX6_findsBest 9 = .ok (.if_icmp .ge 72, 3) := by decide +kernel
theorem dX6_findsBest_12 : decode cX6_findsBest 12 = .ok (.iconst 0, 1) := by decide +kernel
theorem dX6_findsBest_13 : decode cX6_findsBest 13 = .ok (.istore 4, 2) := by decide +kernel
theorem dX6_findsBest_15 : decode cX6_findsBest 15 = .ok (.iload 4, 2) := by decide +kernel
theorem dX6_findsBest_17 : decode cX6_findsBest 17 = .ok (.aload_n 0, 1) := by decide +kernel
theorem dX6_findsBest_18 : decode cX6_findsBest 18 = .ok (.getfield 131, 3) := by decide +kernel
theorem dX6_findsBest_21 : decode cX6_findsBest 21 = .ok (.if_icmp .ge 54, 3) := by decide +kernel
theorem dX6_findsBest_24 : decode cX6_findsBest 24 = .ok (.aload_n 0, 1) := by decide +kernel
theorem dX6_findsBest_25 : decode cX6_findsBest 25 = .ok (.iload_n 1, 1) := by decide +kernel
theorem dX6_findsBest_26 : decode cX6_findsBest 26 = .ok (.iload_n 3, 1) := by decide +kernel
theorem dX6_findsBest_27 : decode cX6_findsBest 27 = .ok (.iload 4, 2) := by decide +kernel
theorem dX6_findsBest_29 : decode cX6_findsBest 29 = .ok (.invokevirtual 292, 3) := by decide +kernel
theorem dX6_findsBest_32 : decode cX6_findsBest 32 = .ok (.ifCond .eq 14, 3) := by decide +kernel
theorem dX6_findsBest_35 : decode cX6_findsBest 35 = .ok (.aload_n 0, 1) := by decide +kernel
theorem dX6_findsBest_36 : decode cX6_findsBest 36 = .ok (.iload_n 1, 1) := by decide +kernel
theorem dX6_findsBest_37 : decode cX6_findsBest 37 = .ok (.iload_n 3, 1) := by decide +kernel
theorem dX6_findsBest_38 : decode cX6_findsBest 38 = .ok (.iload 4, 2) := by decide +kernel
theorem dX6_findsBest_40 : decode cX6_findsBest 40 = .ok (.invokevirtual 301, 3) := by decide +kernel
theorem dX6_findsBest_43 : decode cX6_findsBest 43 = .ok (.goto 4, 3) := by decide +kernel
theorem dX6_findsBest_46 : decode cX6_findsBest 46 = .ok (.iconst 0, 1) := by decide +kernel
theorem dX6_findsBest_47 : decode cX6_findsBest 47 = .ok (.istore 5, 2) := by decide +kernel
theorem dX6_findsBest_49 : decode cX6_findsBest 49 = .ok (.iload 5, 2) := by decide +kernel
theorem dX6_findsBest_51 : decode cX6_findsBest 51 = .ok (.iload_n 2, 1) := by decide +kernel
theorem dX6_findsBest_52 : decode cX6_findsBest 52 = .ok (.if_icmp .le 17, 3) := by decide +kernel
theorem dX6_findsBest_55 : decode cX6_findsBest 55 = .ok (.iload 5, 2) := by decide +kernel
theorem dX6_findsBest_57 : decode cX6_findsBest 57 = .ok (.istore_n 2, 1) := by decide +kernel
theorem dX6_findsBest_58 : decode cX6_findsBest 58 = .ok (.aload_n 0, 1) := by decide +kernel
theorem dX6_findsBest_59 : decode cX6_findsBest 59 = .ok (.iload_n 3, 1) := by decide +kernel
theorem dX6_findsBest_60 : decode cX6_findsBest 60 = .ok (.putfield 304, 3) := by decide +kernel
theorem dX6_findsBest_63 : decode cX6_findsBest 63 = .ok (.aload_n 0, 1) := by decide +kernel
theorem dX6_findsBest_64 : decode cX6_findsBest 64 = .ok (.iload 4, 2) := by decide +kernel
theorem dX6_findsBest_66 : decode cX6_findsBest 66 = .ok (.putfield 307, 3) := by decide +kernel
theorem dX6_findsBest_69 : decode cX6_findsBest 69 = .ok (.iinc 4 1, 3) := by decide +kernel
theorem dX6_findsBest_72 : decode cX6_findsBest 72 = .ok (.goto (-57), 3) := by decide +kernel
theorem dX6_findsBest_75 : decode cX6_findsBest 75 = .ok (.iinc 3 1, 3) := by decide +kernel
theorem dX6_findsBest_78 : decode cX6_findsBest 78 = .ok (.goto (-74), 3) := by decide +kernel
theorem dX6_findsBest_81 : decode cX6_findsBest 81 = .ok (.iload_n 2, 1) := by decide +kernel
theorem dX6_findsBest_82 : decode cX6_findsBest 82 = .ok (.ireturn, 1) := by decide +kernel
def sX6_findsBest_c69 (k4 : Hp → Int32 → Int32 → Int32 → Option (Int32 × Hp)) (k15 : Hp → Int32 → Int32 → Int32 → Int32 → Option (Int32 × Hp)) (h : Hp) (v1 : Int32) (v2 : Int32) (v3 : Int32) (v4 : Int32) : Option (Int32 × Hp) :=
  nm (v4 + (1 : Int32)) fun x6 => k15 h v1 v2 v3 x6
set_option maxRecDepth 10000 in
theorem vX6_findsBest_c69 (k4 : Hp → Int32 → Int32 → Int32 → Option (Int32 × Hp)) (hk4 : ∀ (h : Hp) (v1 : Int32) (v2 : Int32) (v3 : Int32) (q : (Int32 × Hp)), k4 h v1 v2 v3 = some q → V (Gs 7 (pI q)) mX6_findsBest (0, 0) 4 [(0, .ref 54), (1, .int v1), (2, .int v2), (3, .int v3)] [] h) (k15 : Hp → Int32 → Int32 → Int32 → Int32 → Option (Int32 × Hp)) (hk15 : ∀ (h : Hp) (v1 : Int32) (v2 : Int32) (v3 : Int32) (v4 : Int32) (q : (Int32 × Hp)), k15 h v1 v2 v3 v4 = some q → V (Gs 7 (pI q)) mX6_findsBest (0, 0) 15 [(0, .ref 54), (1, .int v1), (2, .int v2), (3, .int v3), (4, .int v4)] [] h) (h : Hp) (v1 : Int32) (v2 : Int32) (v3 : Int32) (v4 : Int32) (q : (Int32 × Hp)) (e : sX6_findsBest_c69 k4 k15 h v1 v2 v3 v4 = some q) : V (Gs 7 (pI q)) mX6_findsBest (0, 0) 69 [(0, .ref 54), (1, .int v1), (2, .int v2), (3, .int v3), (4, .int v4)] [] h := by
  unfold sX6_findsBest_c69 at e
  obtain ⟨x6, ex6, e⟩ := nm_s e
  refine V.iinc dX6_findsBest_69 (pc' := 72) rfl (j := 4) rfl (v := 1) (by decide) (by decide) ex6 (L' := [(4, .int x6), (0, .ref 54), (1, .int v1), (2, .int v2), (3, .int v3)]) rfl ?_
  refine V.goto dX6_findsBest_72 (pc' := 15) (by decide) ?_
  refine V.pk [1, 2, 3, 4, 0] rfl ?_
  exact hk15 h v1 v2 v3 x6 q e
def sX6_findsBest_c47 (k4 : Hp → Int32 → Int32 → Int32 → Option (Int32 × Hp)) (k15 : Hp → Int32 → Int32 → Int32 → Int32 → Option (Int32 × Hp)) (h : Hp) (v1 : Int32) (v2 : Int32) (v3 : Int32) (v4 : Int32) (t0 : Int32) : Option (Int32 × Hp) :=
  if t0 ≤ v2 then (sX6_findsBest_c69 k4 k15 h v1 v2 v3 v4) else (nm (u1 h 54 28 v3) fun h4 => nm (u1 h4 54 29 v4) fun h5 => sX6_findsBest_c69 k4 k15 h5 v1 t0 v3 v4)
set_option maxRecDepth 10000 in
theorem vX6_findsBest_c47 (k4 : Hp → Int32 → Int32 → Int32 → Option (Int32 × Hp)) (hk4 : ∀ (h : Hp) (v1 : Int32) (v2 : Int32) (v3 : Int32) (q : (Int32 × Hp)), k4 h v1 v2 v3 = some q → V (Gs 7 (pI q)) mX6_findsBest (0, 0) 4 [(0, .ref 54), (1, .int v1), (2, .int v2), (3, .int v3)] [] h) (k15 : Hp → Int32 → Int32 → Int32 → Int32 → Option (Int32 × Hp)) (hk15 : ∀ (h : Hp) (v1 : Int32) (v2 : Int32) (v3 : Int32) (v4 : Int32) (q : (Int32 × Hp)), k15 h v1 v2 v3 v4 = some q → V (Gs 7 (pI q)) mX6_findsBest (0, 0) 15 [(0, .ref 54), (1, .int v1), (2, .int v2), (3, .int v3), (4, .int v4)] [] h) (h : Hp) (v1 : Int32) (v2 : Int32) (v3 : Int32) (v4 : Int32) (t0 : Int32) (q : (Int32 × Hp)) (e : sX6_findsBest_c47 k4 k15 h v1 v2 v3 v4 t0 = some q) : V (Gs 7 (pI q)) mX6_findsBest (0, 0) 47 [(0, .ref 54), (1, .int v1), (2, .int v2), (3, .int v3), (4, .int v4)] [.int t0] h := by
  unfold sX6_findsBest_c47 at e
  refine V.is dX6_findsBest_47 (pc' := 49) rfl (by decide) rfl (L' := [(5, .int t0), (0, .ref 54), (1, .int v1), (2, .int v2), (3, .int v3), (4, .int v4)]) rfl ?_
  refine V.il dX6_findsBest_49 (pc' := 51) rfl (j := 0) rfl ?_
  refine V.ilq dX6_findsBest_51 (pc' := 52) rfl (j := 3) rfl ?_
  refine V.ic_le dX6_findsBest_52 (pc' := 55) rfl (tgt := 69) (by decide) (fun c => ?_) (fun c => ?_)
  · rw [if_pos c] at e
    refine V.pk [1, 2, 3, 4, 5] rfl ?_
    exact vX6_findsBest_c69 k4 hk4 k15 hk15 h v1 v2 v3 v4 q e
  · rw [if_neg c] at e
    refine V.il dX6_findsBest_55 (pc' := 57) rfl (j := 0) rfl ?_
    refine V.isq dX6_findsBest_57 (pc' := 58) rfl (by decide) rfl (L' := [(2, .int t0), (5, .int t0), (0, .ref 54), (1, .int v1), (3, .int v3), (4, .int v4)]) rfl ?_
    refine V.alq dX6_findsBest_58 (pc' := 59) rfl (j := 2) rfl ?_
    refine V.ilq dX6_findsBest_59 (pc' := 60) rfl (j := 4) rfl ?_
    obtain ⟨h4, eh4, e⟩ := nm_s e
    refine V.putf dX6_findsBest_60 (pc' := 63) rfl FP_X6_304 rfl (by decide) rfl eh4 ?_
    refine V.alq dX6_findsBest_63 (pc' := 64) rfl (j := 2) rfl ?_
    refine V.il dX6_findsBest_64 (pc' := 66) rfl (j := 5) rfl ?_
    obtain ⟨h5, eh5, e⟩ := nm_s e
    refine V.putf dX6_findsBest_66 (pc' := 69) rfl FP_X6_307 rfl (by decide) rfl eh5 ?_
    refine V.pk [2, 3, 0, 4, 5] rfl ?_
    exact vX6_findsBest_c69 k4 hk4 k15 hk15 h5 v1 t0 v3 v4 q e
def sX6_findsBest_c15 (k4 : Hp → Int32 → Int32 → Int32 → Option (Int32 × Hp)) (k15 : Hp → Int32 → Int32 → Int32 → Int32 → Option (Int32 × Hp)) (h : Hp) (v1 : Int32) (v2 : Int32) (v3 : Int32) (v4 : Int32) : Option (Int32 × Hp) :=
  if (h.1 54 7) ≤ v4 then (nm (v3 + (1 : Int32)) fun x1 => k4 h v1 v2 x1) else ((sX6_areThere h v1 v3 v4).bind fun q2 => if q2.1 = 0 then (sX6_findsBest_c47 k4 k15 q2.2 v1 v2 v3 v4 (0 : Int32)) else ((sX6_mostOf q2.2 v1 v3 v4).bind fun q3 => sX6_findsBest_c47 k4 k15 q3.2 v1 v2 v3 v4 q3.1))
set_option maxRecDepth 10000 in
theorem vX6_findsBest_c15 (k4 : Hp → Int32 → Int32 → Int32 → Option (Int32 × Hp)) (hk4 : ∀ (h : Hp) (v1 : Int32) (v2 : Int32) (v3 : Int32) (q : (Int32 × Hp)), k4 h v1 v2 v3 = some q → V (Gs 7 (pI q)) mX6_findsBest (0, 0) 4 [(0, .ref 54), (1, .int v1), (2, .int v2), (3, .int v3)] [] h) (k15 : Hp → Int32 → Int32 → Int32 → Int32 → Option (Int32 × Hp)) (hk15 : ∀ (h : Hp) (v1 : Int32) (v2 : Int32) (v3 : Int32) (v4 : Int32) (q : (Int32 × Hp)), k15 h v1 v2 v3 v4 = some q → V (Gs 7 (pI q)) mX6_findsBest (0, 0) 15 [(0, .ref 54), (1, .int v1), (2, .int v2), (3, .int v3), (4, .int v4)] [] h) (h : Hp) (v1 : Int32) (v2 : Int32) (v3 : Int32) (v4 : Int32) (q : (Int32 × Hp)) (e : sX6_findsBest_c15 k4 k15 h v1 v2 v3 v4 = some q) : V (Gs 7 (pI q)) mX6_findsBest (0, 0) 15 [(0, .ref 54), (1, .int v1), (2, .int v2), (3, .int v3), (4, .int v4)] [] h := by
  unfold sX6_findsBest_c15 at e
  refine V.il dX6_findsBest_15 (pc' := 17) rfl (j := 4) rfl ?_
  refine V.alq dX6_findsBest_17 (pc' := 18) rfl (j := 0) rfl ?_
  refine V.getf dX6_findsBest_18 (pc' := 21) rfl FL_X6_131 rfl (by decide) rfl ?_
  refine V.ic_ge dX6_findsBest_21 (pc' := 24) rfl (tgt := 75) (by decide) (fun c => ?_) (fun c => ?_)
  · rw [if_pos c] at e
    obtain ⟨x1, ex1, e⟩ := nm_s e
    refine V.iinc dX6_findsBest_75 (pc' := 78) rfl (j := 3) rfl (v := 1) (by decide) (by decide) ex1 (L' := [(3, .int x1), (0, .ref 54), (1, .int v1), (2, .int v2), (4, .int v4)]) rfl ?_
    refine V.goto dX6_findsBest_78 (pc' := 4) (by decide) ?_
    refine V.pk [1, 2, 3, 0] rfl ?_
    exact hk4 h v1 v2 x1 q e
  · rw [if_neg c] at e
    refine V.alq dX6_findsBest_24 (pc' := 25) rfl (j := 0) rfl ?_
    refine V.ilq dX6_findsBest_25 (pc' := 26) rfl (j := 1) rfl ?_
    refine V.ilq dX6_findsBest_26 (pc' := 27) rfl (j := 3) rfl ?_
    refine V.il dX6_findsBest_27 (pc' := 29) rfl (j := 4) rfl ?_
    obtain ⟨q2, eq2, e⟩ := bd_s e
    refine V.callVi dX6_findsBest_29 (pc' := 32) rfl CV_X6_292 (as := [.int v1, .int v3, .int v4]) (kX6_areThere h v1 v3 v4 q2 eq2) (Gs_rm (by decide)) rfl (by decide) rfl (Nat.le_of_ble_eq_true rfl) rfl ?_
    refine V.if_eq dX6_findsBest_32 (pc' := 35) rfl (tgt := 46) (by decide) (fun c => ?_) (fun c => ?_)
    · rw [if_pos c] at e
      refine V.iconst dX6_findsBest_46 (pc' := 47) rfl (v := 0) (by decide) ?_
      exact vX6_findsBest_c47 k4 hk4 k15 hk15 q2.2 v1 v2 v3 v4 (0 : Int32) q e
    · rw [if_neg c] at e
      refine V.alq dX6_findsBest_35 (pc' := 36) rfl (j := 0) rfl ?_
      refine V.ilq dX6_findsBest_36 (pc' := 37) rfl (j := 1) rfl ?_
      refine V.ilq dX6_findsBest_37 (pc' := 38) rfl (j := 3) rfl ?_
      refine V.il dX6_findsBest_38 (pc' := 40) rfl (j := 4) rfl ?_
      obtain ⟨q3, eq3, e⟩ := bd_s e
      refine V.callVi dX6_findsBest_40 (pc' := 43) rfl CV_X6_301 (as := [.int v1, .int v3, .int v4]) (kX6_mostOf q2.2 v1 v3 v4 q3 eq3) (Gs_rm (by decide)) rfl (by decide) rfl (Nat.le_of_ble_eq_true rfl) rfl ?_
      refine V.goto dX6_findsBest_43 (pc' := 47) (by decide) ?_
      exact vX6_findsBest_c47 k4 hk4 k15 hk15 q3.2 v1 v2 v3 v4 q3.1 q e
def sX6_findsBest_b15 (k4 : Hp → Int32 → Int32 → Int32 → Option (Int32 × Hp)) : Nat → Hp → Int32 → Int32 → Int32 → Int32 → Option (Int32 × Hp)
  | 0 => fun _ _ _ _ _ => none
  | n + 1 => sX6_findsBest_c15 k4 (sX6_findsBest_b15 k4 n)
theorem vX6_findsBest_b15 (k4 : Hp → Int32 → Int32 → Int32 → Option (Int32 × Hp)) (hk4 : ∀ (h : Hp) (v1 : Int32) (v2 : Int32) (v3 : Int32) (q : (Int32 × Hp)), k4 h v1 v2 v3 = some q → V (Gs 7 (pI q)) mX6_findsBest (0, 0) 4 [(0, .ref 54), (1, .int v1), (2, .int v2), (3, .int v3)] [] h) : ∀ (n : Nat) (h : Hp) (v1 : Int32) (v2 : Int32) (v3 : Int32) (v4 : Int32) (q : (Int32 × Hp)), sX6_findsBest_b15 k4 n h v1 v2 v3 v4 = some q → V (Gs 7 (pI q)) mX6_findsBest (0, 0) 15 [(0, .ref 54), (1, .int v1), (2, .int v2), (3, .int v3), (4, .int v4)] [] h
  | 0 => fun _ _ _ _ _ _ e => by cases e
  | n + 1 => fun h v1 v2 v3 v4 q e => vX6_findsBest_c15 k4 hk4 (sX6_findsBest_b15 k4 n) (vX6_findsBest_b15 k4 hk4 n) h v1 v2 v3 v4 q e
def sX6_findsBest_c4 (k4 : Hp → Int32 → Int32 → Int32 → Option (Int32 × Hp)) (h : Hp) (v1 : Int32) (v2 : Int32) (v3 : Int32) : Option (Int32 × Hp) :=
  if (h.1 54 7) ≤ v3 then (some (v2, h)) else (sX6_findsBest_b15 k4 FU h v1 v2 v3 (0 : Int32))
set_option maxRecDepth 10000 in
theorem vX6_findsBest_c4 (k4 : Hp → Int32 → Int32 → Int32 → Option (Int32 × Hp)) (hk4 : ∀ (h : Hp) (v1 : Int32) (v2 : Int32) (v3 : Int32) (q : (Int32 × Hp)), k4 h v1 v2 v3 = some q → V (Gs 7 (pI q)) mX6_findsBest (0, 0) 4 [(0, .ref 54), (1, .int v1), (2, .int v2), (3, .int v3)] [] h) (h : Hp) (v1 : Int32) (v2 : Int32) (v3 : Int32) (q : (Int32 × Hp)) (e : sX6_findsBest_c4 k4 h v1 v2 v3 = some q) : V (Gs 7 (pI q)) mX6_findsBest (0, 0) 4 [(0, .ref 54), (1, .int v1), (2, .int v2), (3, .int v3)] [] h := by
  unfold sX6_findsBest_c4 at e
  refine V.ilq dX6_findsBest_4 (pc' := 5) rfl (j := 3) rfl ?_
  refine V.alq dX6_findsBest_5 (pc' := 6) rfl (j := 0) rfl ?_
  refine V.getf dX6_findsBest_6 (pc' := 9) rfl FL_X6_131 rfl (by decide) rfl ?_
  refine V.ic_ge dX6_findsBest_9 (pc' := 12) rfl (tgt := 81) (by decide) (fun c => ?_) (fun c => ?_)
  · rw [if_pos c] at e
    refine V.ilq dX6_findsBest_81 (pc' := 82) rfl (j := 2) rfl ?_
    exact V.iret dX6_findsBest_82 rfl (fnI e)
  · rw [if_neg c] at e
    refine V.iconst dX6_findsBest_12 (pc' := 13) rfl (v := 0) (by decide) ?_
    refine V.is dX6_findsBest_13 (pc' := 15) rfl (by decide) rfl (L' := [(4, .int (0 : Int32)), (0, .ref 54), (1, .int v1), (2, .int v2), (3, .int v3)]) rfl ?_
    refine V.pk [1, 2, 3, 4, 0] rfl ?_
    exact vX6_findsBest_b15 k4 hk4 FU h v1 v2 v3 (0 : Int32) q e
def sX6_findsBest_b4 : Nat → Hp → Int32 → Int32 → Int32 → Option (Int32 × Hp)
  | 0 => fun _ _ _ _ => none
  | n + 1 => sX6_findsBest_c4 (sX6_findsBest_b4 n)
theorem vX6_findsBest_b4 : ∀ (n : Nat) (h : Hp) (v1 : Int32) (v2 : Int32) (v3 : Int32) (q : (Int32 × Hp)), sX6_findsBest_b4 n h v1 v2 v3 = some q → V (Gs 7 (pI q)) mX6_findsBest (0, 0) 4 [(0, .ref 54), (1, .int v1), (2, .int v2), (3, .int v3)] [] h
  | 0 => fun _ _ _ _ _ e => by cases e
  | n + 1 => fun h v1 v2 v3 q e => vX6_findsBest_c4 (sX6_findsBest_b4 n) (vX6_findsBest_b4 n) h v1 v2 v3 q e
def sX6_findsBest (h : Hp) (a1 : Int32) : Option (Int32 × Hp) :=
  sX6_findsBest_b4 FU h a1 (0 : Int32) (0 : Int32)
set_option maxRecDepth 10000 in
theorem kX6_findsBest (h : Hp) (a1 : Int32) (q : (Int32 × Hp)) (e : sX6_findsBest h a1 = some q) : K 7 mX6_findsBest [.ref 54, .int a1] h (pI q) := by
  unfold sX6_findsBest at e
  refine K.ofV (by decide) rfl (Nat.le_of_ble_eq_true rfl) ?_
  show V (Gs 7 (pI q)) mX6_findsBest (0, 0) 0 [(0, .ref 54), (1, .int a1)] [] h
  refine V.iconst dX6_findsBest_0 (pc' := 1) rfl (v := 0) (by decide) ?_
  refine V.isq dX6_findsBest_1 (pc' := 2) rfl (by decide) rfl (L' := [(2, .int (0 : Int32)), (0, .ref 54), (1, .int a1)]) rfl ?_
  refine V.iconst dX6_findsBest_2 (pc' := 3) rfl (v := 0) (by decide) ?_
  refine V.isq dX6_findsBest_3 (pc' := 4) rfl (by decide) rfl (L' := [(3, .int (0 : Int32)), (2, .int (0 : Int32)), (0, .ref 54), (1, .int a1)]) rfl ?_
  refine V.pk [2, 3, 1, 0] rfl ?_
  exact vX6_findsBest_b4 FU h a1 (0 : Int32) (0 : Int32) q e

-- X6_area (level 7)
theorem dX6_area_0 : decode cX6_area 0 = .ok (.aload_n 0, 1) := by decide +kernel
theorem dX6_area_1 : decode cX6_area 1 = .ok (.iconst 0, 1) := by decide +kernel
theorem dX6_area_2 : decode cX6_area 2 = .ok (.putfield 1, 3) := by decide +kernel
theorem dX6_area_5 : decode cX6_area 5 = .ok (.aload_n 0, 1) := by decide +kernel
theorem dX6_area_6 : decode cX6_area 6 = .ok (.iload_n 1, 1) := by decide +kernel
theorem dX6_area_7 : decode cX6_area 7 = .ok (.iload_n 2, 1) := by decide +kernel
theorem dX6_area_8 : decode cX6_area 8 = .ok (.invokevirtual 317, 3) := by decide +kernel
theorem dX6_area_11 : decode cX6_area 11 = .ok (.ifCond .ne 5, 3) := by decide +kernel
theorem dX6_area_14 : decode cX6_area 14 = .ok (.iconst (-1), 1) := by decide +kernel
theorem dX6_area_15 : decode cX6_area 15 = .ok (.ireturn, 1) := by decide +kernel
theorem dX6_area_16 : decode cX6_area 16 = .ok (.aload_n 0, 1) := by decide +kernel
theorem dX6_area_17 : decode cX6_area 17 = .ok (.invokevirtual 256, 3) := by decide +kernel
theorem dX6_area_20 : decode cX6_area 20 = .ok (.aload_n 0, 1) := by decide +kernel
theorem dX6_area_21 : decode cX6_area 21 = .ok (.iload_n 1, 1) := by decide +kernel
theorem dX6_area_22 : decode cX6_area 22 = .ok (.iload_n 2, 1) := by decide +kernel
theorem dX6_area_23 : decode cX6_area 23 = .ok (.invokevirtual 321, 3) := by decide +kernel
theorem dX6_area_26 : decode cX6_area 26 = .ok (.ireturn, 1) := by decide +kernel
def sX6_area (h : Hp) (a1 : Int32) (a2 : Int32) : Option (Int32 × Hp) :=
  nm (u1 h 54 0 (0 : Int32)) fun h1 => (sX6_isMatch h1 a1 a2).bind fun q2 => if q2.1 = 0 then (some ((-1 : Int32), q2.2)) else ((sX6_finds q2.2).bind fun q3 => (sX6_areaOf q3 a1 a2).bind fun q4 => some (q4.1, q4.2))
set_option maxRecDepth 10000 in
theorem kX6_area (h : Hp) (a1 : Int32) (a2 : Int32) (q : (Int32 × Hp)) (e : sX6_area h a1 a2 = some q) : K 7 mX6_area [.ref 54, .int a1, .int a2] h (pI q) := by
  unfold sX6_area at e
  refine K.ofV (by decide) rfl (Nat.le_of_ble_eq_true rfl) ?_
  show V (Gs 7 (pI q)) mX6_area (0, 0) 0 [(0, .ref 54), (1, .int a1), (2, .int a2)] [] h
  refine V.alq dX6_area_0 (pc' := 1) rfl (j := 0) rfl ?_
  refine V.iconst dX6_area_1 (pc' := 2) rfl (v := 0) (by decide) ?_
  obtain ⟨h1, eh1, e⟩ := nm_s e
  refine V.putf dX6_area_2 (pc' := 5) rfl FP_X6_1 rfl (by decide) rfl eh1 ?_
  refine V.alq dX6_area_5 (pc' := 6) rfl (j := 0) rfl ?_
  refine V.ilq dX6_area_6 (pc' := 7) rfl (j := 1) rfl ?_
  refine V.ilq dX6_area_7 (pc' := 8) rfl (j := 2) rfl ?_
  obtain ⟨q2, eq2, e⟩ := bd_s e
  refine V.callVi dX6_area_8 (pc' := 11) rfl CV_X6_317 (as := [.int a1, .int a2]) (kX6_isMatch h1 a1 a2 q2 eq2) (Gs_rm (by decide)) rfl (by decide) rfl (Nat.le_of_ble_eq_true rfl) rfl ?_
  refine V.if_ne dX6_area_11 (pc' := 14) rfl (tgt := 16) (by decide) (fun c => ?_) (fun c => ?_)
  · rw [if_neg c] at e
    refine V.alq dX6_area_16 (pc' := 17) rfl (j := 0) rfl ?_
    obtain ⟨q3, eq3, e⟩ := bd_s e
    refine V.callVv dX6_area_17 (pc' := 20) rfl CV_X6_256 (as := []) (kX6_finds q2.2 q3 eq3) (Gs_rm (by decide)) rfl (by decide) rfl (Nat.le_of_ble_eq_true rfl) rfl ?_
    refine V.alq dX6_area_20 (pc' := 21) rfl (j := 0) rfl ?_
    refine V.ilq dX6_area_21 (pc' := 22) rfl (j := 1) rfl ?_
    refine V.ilq dX6_area_22 (pc' := 23) rfl (j := 2) rfl ?_
    obtain ⟨q4, eq4, e⟩ := bd_s e
    refine V.callVi dX6_area_23 (pc' := 26) rfl CV_X6_321 (as := [.int a1, .int a2]) (kX6_areaOf q3 a1 a2 q4 eq4) (Gs_rm (by decide)) rfl (by decide) rfl (Nat.le_of_ble_eq_true rfl) rfl ?_
    exact V.iret dX6_area_26 rfl (fnI e)
  · rw [if_pos c] at e
    refine V.iconst dX6_area_14 (pc' := 15) rfl (v := -1) (by decide) ?_
    exact V.iret dX6_area_15 rfl (fnI e)

-- X6_total (level 7)
theorem dX6_total_0 : decode cX6_total 0 = .ok (.aload_n 0, 1) := by decide +kernel
theorem dX6_total_1 : decode cX6_total 1 = .ok (.iconst 0, 1) := by decide +kernel
theorem dX6_total_2 : decode cX6_total 2 = .ok (.putfield 1, 3) := by decide +kernel
theorem dX6_total_5 : decode cX6_total 5 = .ok (.aload_n 0, 1) := by decide +kernel
theorem dX6_total_6 : decode cX6_total 6 = .ok (.invokevirtual 256, 3) := by decide +kernel
theorem dX6_total_9 : decode cX6_total 9 = .ok (.iconst 0, 1) := by decide +kernel
theorem dX6_total_10 : decode cX6_total 10 = .ok (.istore_n 1, 1) := by decide +kernel
theorem dX6_total_11 : decode cX6_total 11 = .ok (.iconst 0, 1) := by decide +kernel
theorem dX6_total_12 : decode cX6_total 12 = .ok (.istore_n 2, 1) := by decide +kernel
theorem dX6_total_13 : decode cX6_total 13 = .ok (.iconst (-1), 1) := by decide +kernel
theorem dX6_total_14 : decode cX6_total 14 = .ok (.istore_n 3, 1) := by decide +kernel
theorem dX6_total_15 : decode cX6_total 15 = .ok (.iconst 0, 1) := by decide +kernel
theorem dX6_total_16 : decode cX6_total 16 = .ok (.istore 4, 2) := by decide +kernel
theorem dX6_total_18 : decode cX6_total 18 = .ok (.iconst 0, 1) := by decide +kernel
theorem dX6_total_19 : decode cX6_total 19 = .ok (.istore 5, 2) := by decide +kernel
theorem dX6_total_21 : decode cX6_total 21 = .ok (.iload 5, 2) := by decide +kernel
theorem dX6_total_23 : decode cX6_total 23 = .ok (.iconst 2, 1) := by decide +kernel
theorem dX6_total_24 : decode cX6_total 24 = .ok (.if_icmp .ge 94, 3) := by decide +kernel
theorem dX6_total_27 : decode cX6_total 27 = .ok (.iconst 0, 1) := by decide +kernel
theorem dX6_total_28 : decode cX6_total 28 = .ok (.istore 6, 2) := by decide +kernel
theorem dX6_total_30 : decode cX6_total 30 = .ok (.iload 6, 2) := by decide +kernel
theorem dX6_total_32 : decode cX6_total 32 = .ok (.aload_n 0, 1) := by decide +kernel
theorem dX6_total_33 : decode cX6_total 33 = .ok (.getfield 90, 3) := by decide +kernel
theorem dX6_total_36 : decode cX6_total 36 = .ok (.iload 5, 2) := by decide +kernel
theorem dX6_total_38 : decode cX6_total 38 = .ok (.iaload, 1) := by decide +kernel
theorem dX6_total_39 : decode cX6_total 39 = .ok (.if_icmp .ge 73, 3) := by decide +kernel
theorem dX6_total_42 : decode cX6_total 42 = .ok (.aload_n 0, 1) := by decide +kernel
theorem dX6_total_43 : decode cX6_total 43 = .ok (.iload 5, 2) := by decide +kernel
theorem dX6_total_45 : decode cX6_total 45 = .ok (.iload 6, 2) := by decide +kernel
theorem dX6_total_47 : decode cX6_total 47 = .ok (.invokevirtual 321, 3) := by decide +kernel
theorem dX6_total_50 : decode cX6_total 50 = .ok (.istore 7, 2) := by decide +kernel
theorem dX6_total_52 : decode cX6_total 52 = .ok (.iload_n 2, 1) := by decide +kernel
theorem dX6_total_53 : decode cX6_total 53 = .ok (.iload 7, 2) := by decide +kernel
theorem dX6_total_55 : decode cX6_total 55 = .ok (.ifCond .ge 7, 3) := by decide +kernel
theorem dX6_total_58 : decode cX6_total 58 = .ok (.iconst 1, 1) := by decide +kernel
theorem dX6_total_59 : decode cX6_total 59 = .ok (.goto 4, 3) := by decide +kernel
theorem dX6_total_62 : decode cX6_total 62 = .ok (.iconst 0, 1) := by decide +kernel
theorem dX6_total_63 : decode cX6_total 63 = .ok (.invokestatic 39, 3) := by decide +kernel
theorem dX6_total_66 : decode cX6_total 66 = .ok (.iadd, 1) := by decide +kernel
theorem dX6_total_67 : decode cX6_total 67 = .ok (.istore_n 2, 1) := by decide +kernel
theorem dX6_total_68 : decode cX6_total 68 = .ok (.iload_n 1, 1) := by decide +kernel
theorem dX6_total_69 : decode cX6_total 69 = .ok (.iconst 0, 1) := by decide +kernel
theorem dX6_total_70 : decode cX6_total 70 = .ok (.iload 7, 2) := by decide +kernel
theorem dX6_total_72 : decode cX6_total 72 = .ok (.invokestatic 173, 3) := by decide +kernel
theorem dX6_total_75 : decode cX6_total 75 = .ok (.iadd, 1) := by decide +kernel
theorem dX6_total_76 : decode cX6_total 76 = .ok (.istore_n 1, 1) := by decide +kernel
theorem dX6_total_77 : decode cX6_total 77 = .ok (.iload 7, 2) := by decide +kernel
theorem dX6_total_79 : decode cX6_total 79 = .ok (.iload 4, 2) := by decide +kernel
theorem dX6_total_81 : decode cX6_total 81 = .ok (.if_icmp .le 14, 3) := by decide +kernel
theorem dX6_total_84 : decode cX6_total 84 = .ok (.bipush 100, 2) := by decide +kernel
theorem dX6_total_86 : decode cX6_total 86 = .ok (.iload 5, 2) := by decide +kernel
theorem dX6_total_88 : decode cX6_total 88 = .ok (.imul, 1) := by decide +kernel
theorem dX6_total_89 : decode cX6_total 89 = .ok (.iload 6, 2) := by decide +kernel
theorem dX6_total_91 : decode cX6_total 91 = .ok (.iadd, 1) := by decide +kernel
theorem dX6_total_92 : decode cX6_total 92 = .ok (.goto 4, 3) := by decide +kernel
theorem dX6_total_95 : decode cX6_total 95 = .ok (.iload_n 3, 1) := by decide +kernel
theorem dX6_total_96 : decode cX6_total 96 = .ok (.istore_n 3, 1) := by decide +kernel
theorem dX6_total_97 : decode cX6_total 97 = .ok (.iload 4, 2) := by decide +kernel
theorem dX6_total_99 : decode cX6_total 99 = .ok (.iload 7, 2) := by decide +kernel
theorem dX6_total_101 : decode cX6_total 101 = .ok (.invokestatic 173, 3) := by decide +kernel
theorem dX6_total_104 : decode cX6_total 104 = .ok (.istore 4, 2) := by decide +kernel
theorem dX6_total_106 : decode cX6_total 106 = .ok (.iinc 6 1, 3) := by decide +kernel
theorem dX6_total_109 : decode cX6_total 109 = .ok (.goto (-79), 3) := by decide +kernel
theorem dX6_total_112 : decode cX6_total 112 = .ok (.iinc 5 1, 3) := by decide +kernel
theorem dX6_total_115 : decode cX6_total 115 = .ok (.goto (-94), 3) := by decide +kernel
theorem dX6_total_118 : decode cX6_total 118 = .ok (.aload_n 0, 1) := by decide +kernel
theorem dX6_total_119 : decode cX6_total 119 = .ok (.iconst 0, 1) := by decide +kernel
theorem dX6_total_120 : decode cX6_total 120 = .ok (.putfield 11, 3) := by decide +kernel
theorem dX6_total_123 : decode cX6_total 123 = .ok (.aload_n 0, 1) := by decide +kernel
theorem dX6_total_124 : decode cX6_total 124 = .ok (.iload_n 2, 1) := by decide +kernel
theorem dX6_total_125 : decode cX6_total 125 = .ok (.i2l, 1) := by decide +kernel
theorem dX6_total_126 : decode cX6_total 126 = .ok (.invokevirtual 18, 3) := by decide +kernel
theorem dX6_total_129 : decode cX6_total 129 = .ok (.aload_n 0, 1) := by decide +kernel
theorem dX6_total_130 : decode cX6_total 130 = .ok (.iload_n 3, 1) := by decide +kernel
theorem dX6_total_131 : decode cX6_total 131 = .ok (.i2l, 1) := by decide +kernel
theorem dX6_total_132 : decode cX6_total 132 = .ok (.invokevirtual 18, 3) := by decide +kernel
theorem dX6_total_135 : decode cX6_total 135 = .ok (.iload_n 1, 1) := by decide +kernel
theorem dX6_total_136 : decode cX6_total 136 = .ok (.ireturn, 1) := by decide +kernel
def sX6_total_c96 (k21 : Hp → Int32 → Int32 → Int32 → Int32 → Int32 → Option (Int32 × Hp)) (k30 : Hp → Int32 → Int32 → Int32 → Int32 → Int32 → Int32 → Option (Int32 × Hp)) (h : Hp) (v1 : Int32) (v2 : Int32) (v4 : Int32) (v5 : Int32) (v6 : Int32) (v7 : Int32) (t0 : Int32) : Option (Int32 × Hp) :=
  nm ((imax v4 v7)) fun x12 => nm (v6 + (1 : Int32)) fun x13 => k30 h v1 v2 t0 x12 v5 x13
set_option maxRecDepth 10000 in
theorem vX6_total_c96 (k21 : Hp → Int32 → Int32 → Int32 → Int32 → Int32 → Option (Int32 × Hp)) (hk21 : ∀ (h : Hp) (v1 : Int32) (v2 : Int32) (v3 : Int32) (v4 : Int32) (v5 : Int32) (q : (Int32 × Hp)), k21 h v1 v2 v3 v4 v5 = some q → V (Gs 7 (pI q)) mX6_total (0, 0) 21 [(0, .ref 54), (1, .int v1), (2, .int v2), (3, .int v3), (4, .int v4), (5, .int v5)] [] h) (k30 : Hp → Int32 → Int32 → Int32 → Int32 → Int32 → Int32 → Option (Int32 × Hp)) (hk30 : ∀ (h : Hp) (v1 : Int32) (v2 : Int32) (v3 : Int32) (v4 : Int32) (v5 : Int32) (v6 : Int32) (q : (Int32 × Hp)), k30 h v1 v2 v3 v4 v5 v6 = some q → V (Gs 7 (pI q)) mX6_total (0, 0) 30 [(0, .ref 54), (1, .int v1), (2, .int v2), (3, .int v3), (4, .int v4), (5, .int v5), (6, .int v6)] [] h) (h : Hp) (v1 : Int32) (v2 : Int32) (v4 : Int32) (v5 : Int32) (v6 : Int32) (v7 : Int32) (t0 : Int32) (q : (Int32 × Hp)) (e : sX6_total_c96 k21 k30 h v1 v2 v4 v5 v6 v7 t0 = some q) : V (Gs 7 (pI q)) mX6_total (0, 0) 96 [(0, .ref 54), (1, .int v1), (2, .int v2), (4, .int v4), (5, .int v5), (6, .int v6), (7, .int v7)] [.int t0] h := by
  unfold sX6_total_c96 at e
  refine V.isq dX6_total_96 (pc' := 97) rfl (by decide) rfl (L' := [(3, .int t0), (0, .ref 54), (1, .int v1), (2, .int v2), (4, .int v4), (5, .int v5), (6, .int v6), (7, .int v7)]) rfl ?_
  refine V.il dX6_total_97 (pc' := 99) rfl (j := 4) rfl ?_
  refine V.il dX6_total_99 (pc' := 101) rfl (j := 7) rfl ?_
  refine V.mmax dX6_total_101 (pc' := 104) rfl (Gs_rm (by decide)) ML_X6_173 MS_imax MI_Math MC_imax (Nat.le_of_ble_eq_true rfl) ?_
  obtain ⟨x12, ex12, e⟩ := nm_s e
  refine V.is dX6_total_104 (pc' := 106) rfl (by decide) ex12 (L' := [(4, .int x12), (3, .int t0), (0, .ref 54), (1, .int v1), (2, .int v2), (5, .int v5), (6, .int v6), (7, .int v7)]) rfl ?_
  obtain ⟨x13, ex13, e⟩ := nm_s e
  refine V.iinc dX6_total_106 (pc' := 109) rfl (j := 6) rfl (v := 1) (by decide) (by decide) ex13 (L' := [(6, .int x13), (4, .int x12), (3, .int t0), (0, .ref 54), (1, .int v1), (2, .int v2), (5, .int v5), (7, .int v7)]) rfl ?_
  refine V.goto dX6_total_109 (pc' := 30) (by decide) ?_
  refine V.pk [3, 4, 5, 2, 1, 6, 0] rfl ?_
  exact hk30 h v1 v2 t0 x12 v5 x13 q e
def sX6_total_c63 (k21 : Hp → Int32 → Int32 → Int32 → Int32 → Int32 → Option (Int32 × Hp)) (k30 : Hp → Int32 → Int32 → Int32 → Int32 → Int32 → Int32 → Option (Int32 × Hp)) (h : Hp) (v1 : Int32) (v3 : Int32) (v4 : Int32) (v5 : Int32) (v6 : Int32) (v7 : Int32) (t0 : Int32) (t1 : Int32) : Option (Int32 × Hp) :=
  (sX6_flag h t0).bind fun q9 => nm ((t1 + q9.1)) fun x10 => nm ((v1 + (imax (0 : Int32) v7))) fun x11 => if v7 ≤ v4 then (sX6_total_c96 k21 k30 q9.2 x11 x10 v4 v5 v6 v7 v3) else (sX6_total_c96 k21 k30 q9.2 x11 x10 v4 v5 v6 v7 (((100 : Int32) * v5) + v6))
set_option maxRecDepth 10000 in
theorem vX6_total_c63 (k21 : Hp → Int32 → Int32 → Int32 → Int32 → Int32 → Option (Int32 × Hp)) (hk21 : ∀ (h : Hp) (v1 : Int32) (v2 : Int32) (v3 : Int32) (v4 : Int32) (v5 : Int32) (q : (Int32 × Hp)), k21 h v1 v2 v3 v4 v5 = some q → V (Gs 7 (pI q)) mX6_total (0, 0) 21 [(0, .ref 54), (1, .int v1), (2, .int v2), (3, .int v3), (4, .int v4), (5, .int v5)] [] h) (k30 : Hp → Int32 → Int32 → Int32 → Int32 → Int32 → Int32 → Option (Int32 × Hp)) (hk30 : ∀ (h : Hp) (v1 : Int32) (v2 : Int32) (v3 : Int32) (v4 : Int32) (v5 : Int32) (v6 : Int32) (q : (Int32 × Hp)), k30 h v1 v2 v3 v4 v5 v6 = some q → V (Gs 7 (pI q)) mX6_total (0, 0) 30 [(0, .ref 54), (1, .int v1), (2, .int v2), (3, .int v3), (4, .int v4), (5, .int v5), (6, .int v6)] [] h) (h : Hp) (v1 : Int32) (v3 : Int32) (v4 : Int32) (v5 : Int32) (v6 : Int32) (v7 : Int32) (t0 : Int32) (t1 : Int32) (q : (Int32 × Hp)) (e : sX6_total_c63 k21 k30 h v1 v3 v4 v5 v6 v7 t0 t1 = some q) : V (Gs 7 (pI q)) mX6_total (0, 0) 63 [(0, .ref 54), (1, .int v1), (3, .int v3), (4, .int v4), (5, .int v5), (6, .int v6), (7, .int v7)] [.int t0, .int t1] h := by
  unfold sX6_total_c63 at e
  obtain ⟨q9, eq9, e⟩ := bd_s e
  refine V.callSi dX6_total_63 (pc' := 66) rfl CS_X6_39 (as := [.int t0]) (kX6_flag h t0 q9 eq9) (Gs_rm (by decide)) rfl (Nat.le_of_ble_eq_true rfl) rfl ?_
  refine V.iadd dX6_total_66 (pc' := 67) rfl ?_
  obtain ⟨x10, ex10, e⟩ := nm_s e
  refine V.isq dX6_total_67 (pc' := 68) rfl (by decide) ex10 (L' := [(2, .int x10), (0, .ref 54), (1, .int v1), (3, .int v3), (4, .int v4), (5, .int v5), (6, .int v6), (7, .int v7)]) rfl ?_
  refine V.ilq dX6_total_68 (pc' := 69) rfl (j := 2) rfl ?_
  refine V.iconst dX6_total_69 (pc' := 70) rfl (v := 0) (by decide) ?_
  refine V.il dX6_total_70 (pc' := 72) rfl (j := 7) rfl ?_
  refine V.mmax dX6_total_72 (pc' := 75) rfl (Gs_rm (by decide)) ML_X6_173 MS_imax MI_Math MC_imax (Nat.le_of_ble_eq_true rfl) ?_
  refine V.iadd dX6_total_75 (pc' := 76) rfl ?_
  obtain ⟨x11, ex11, e⟩ := nm_s e
  refine V.isq dX6_total_76 (pc' := 77) rfl (by decide) ex11 (L' := [(1, .int x11), (2, .int x10), (0, .ref 54), (3, .int v3), (4, .int v4), (5, .int v5), (6, .int v6), (7, .int v7)]) rfl ?_
  refine V.il dX6_total_77 (pc' := 79) rfl (j := 7) rfl ?_
  refine V.il dX6_total_79 (pc' := 81) rfl (j := 4) rfl ?_
  refine V.ic_le dX6_total_81 (pc' := 84) rfl (tgt := 95) (by decide) (fun c => ?_) (fun c => ?_)
  · rw [if_pos c] at e
    refine V.ilq dX6_total_95 (pc' := 96) rfl (j := 3) rfl ?_
    refine V.pk [2, 0, 1, 4, 5, 6, 7] rfl ?_
    exact vX6_total_c96 k21 hk21 k30 hk30 q9.2 x11 x10 v4 v5 v6 v7 v3 q e
  · rw [if_neg c] at e
    refine V.bipush dX6_total_84 (pc' := 86) rfl (v := 100) (by decide) ?_
    refine V.il dX6_total_86 (pc' := 88) rfl (j := 5) rfl ?_
    refine V.imul dX6_total_88 (pc' := 89) rfl ?_
    refine V.il dX6_total_89 (pc' := 91) rfl (j := 6) rfl ?_
    refine V.iadd dX6_total_91 (pc' := 92) rfl ?_
    refine V.goto dX6_total_92 (pc' := 96) (by decide) ?_
    refine V.pk [2, 0, 1, 4, 5, 6, 7] rfl ?_
    exact vX6_total_c96 k21 hk21 k30 hk30 q9.2 x11 x10 v4 v5 v6 v7 (((100 : Int32) * v5) + v6) q e
def sX6_total_c30 (k21 : Hp → Int32 → Int32 → Int32 → Int32 → Int32 → Option (Int32 × Hp)) (k30 : Hp → Int32 → Int32 → Int32 → Int32 → Int32 → Int32 → Option (Int32 × Hp)) (h : Hp) (v1 : Int32) (v2 : Int32) (v3 : Int32) (v4 : Int32) (v5 : Int32) (v6 : Int32) : Option (Int32 × Hp) :=
  gd (inb v5 2) (if (h.1 67 v5.toNatClampNeg) ≤ v6 then (nm (v5 + (1 : Int32)) fun x7 => k21 h v1 v2 v3 v4 x7) else ((sX6_areaOf h v5 v6).bind fun q8 => if 0 ≤ q8.1 then (sX6_total_c63 k21 k30 q8.2 v1 v3 v4 v5 v6 q8.1 (0 : Int32) v2) else (sX6_total_c63 k21 k30 q8.2 v1 v3 v4 v5 v6 q8.1 (1 : Int32) v2)))
set_option maxRecDepth 10000 in
theorem vX6_total_c30 (k21 : Hp → Int32 → Int32 → Int32 → Int32 → Int32 → Option (Int32 × Hp)) (hk21 : ∀ (h : Hp) (v1 : Int32) (v2 : Int32) (v3 : Int32) (v4 : Int32) (v5 : Int32) (q : (Int32 × Hp)), k21 h v1 v2 v3 v4 v5 = some q → V (Gs 7 (pI q)) mX6_total (0, 0) 21 [(0, .ref 54), (1, .int v1), (2, .int v2), (3, .int v3), (4, .int v4), (5, .int v5)] [] h) (k30 : Hp → Int32 → Int32 → Int32 → Int32 → Int32 → Int32 → Option (Int32 × Hp)) (hk30 : ∀ (h : Hp) (v1 : Int32) (v2 : Int32) (v3 : Int32) (v4 : Int32) (v5 : Int32) (v6 : Int32) (q : (Int32 × Hp)), k30 h v1 v2 v3 v4 v5 v6 = some q → V (Gs 7 (pI q)) mX6_total (0, 0) 30 [(0, .ref 54), (1, .int v1), (2, .int v2), (3, .int v3), (4, .int v4), (5, .int v5), (6, .int v6)] [] h) (h : Hp) (v1 : Int32) (v2 : Int32) (v3 : Int32) (v4 : Int32) (v5 : Int32) (v6 : Int32) (q : (Int32 × Hp)) (e : sX6_total_c30 k21 k30 h v1 v2 v3 v4 v5 v6 = some q) : V (Gs 7 (pI q)) mX6_total (0, 0) 30 [(0, .ref 54), (1, .int v1), (2, .int v2), (3, .int v3), (4, .int v4), (5, .int v5), (6, .int v6)] [] h := by
  unfold sX6_total_c30 at e
  refine V.il dX6_total_30 (pc' := 32) rfl (j := 6) rfl ?_
  refine V.alq dX6_total_32 (pc' := 33) rfl (j := 0) rfl ?_
  refine V.getr dX6_total_33 (pc' := 36) rfl FL_X6_90 rfl (by decide) rfl (r' := 67) rfl ?_
  refine V.il dX6_total_36 (pc' := 38) rfl (j := 5) rfl ?_
  obtain ⟨c6, e⟩ := gd_s e
  refine V.iald dX6_total_38 (pc' := 39) rfl rfl rfl (inb_t c6) ?_
  refine V.ic_ge dX6_total_39 (pc' := 42) rfl (tgt := 112) (by decide) (fun c => ?_) (fun c => ?_)
  · rw [if_pos c] at e
    obtain ⟨x7, ex7, e⟩ := nm_s e
    refine V.iinc dX6_total_112 (pc' := 115) rfl (j := 5) rfl (v := 1) (by decide) (by decide) ex7 (L' := [(5, .int x7), (0, .ref 54), (1, .int v1), (2, .int v2), (3, .int v3), (4, .int v4), (6, .int v6)]) rfl ?_
    refine V.goto dX6_total_115 (pc' := 21) (by decide) ?_
    refine V.pk [1, 2, 3, 4, 5, 0] rfl ?_
    exact hk21 h v1 v2 v3 v4 x7 q e
  · rw [if_neg c] at e
    refine V.alq dX6_total_42 (pc' := 43) rfl (j := 0) rfl ?_
    refine V.il dX6_total_43 (pc' := 45) rfl (j := 5) rfl ?_
    refine V.il dX6_total_45 (pc' := 47) rfl (j := 6) rfl ?_
    obtain ⟨q8, eq8, e⟩ := bd_s e
    refine V.callVi dX6_total_47 (pc' := 50) rfl CV_X6_321 (as := [.int v5, .int v6]) (kX6_areaOf h v5 v6 q8 eq8) (Gs_rm (by decide)) rfl (by decide) rfl (Nat.le_of_ble_eq_true rfl) rfl ?_
    refine V.is dX6_total_50 (pc' := 52) rfl (by decide) rfl (L' := [(7, .int q8.1), (0, .ref 54), (1, .int v1), (2, .int v2), (3, .int v3), (4, .int v4), (5, .int v5), (6, .int v6)]) rfl ?_
    refine V.ilq dX6_total_52 (pc' := 53) rfl (j := 3) rfl ?_
    refine V.il dX6_total_53 (pc' := 55) rfl (j := 0) rfl ?_
    refine V.if_ge dX6_total_55 (pc' := 58) rfl (tgt := 62) (by decide) (fun c => ?_) (fun c => ?_)
    · rw [if_pos c] at e
      refine V.iconst dX6_total_62 (pc' := 63) rfl (v := 0) (by decide) ?_
      refine V.pk [1, 2, 4, 5, 6, 7, 0] rfl ?_
      exact vX6_total_c63 k21 hk21 k30 hk30 q8.2 v1 v3 v4 v5 v6 q8.1 (0 : Int32) v2 q e
    · rw [if_neg c] at e
      refine V.iconst dX6_total_58 (pc' := 59) rfl (v := 1) (by decide) ?_
      refine V.goto dX6_total_59 (pc' := 63) (by decide) ?_
      refine V.pk [1, 2, 4, 5, 6, 7, 0] rfl ?_
      exact vX6_total_c63 k21 hk21 k30 hk30 q8.2 v1 v3 v4 v5 v6 q8.1 (1 : Int32) v2 q e
def sX6_total_b30 (k21 : Hp → Int32 → Int32 → Int32 → Int32 → Int32 → Option (Int32 × Hp)) : Nat → Hp → Int32 → Int32 → Int32 → Int32 → Int32 → Int32 → Option (Int32 × Hp)
  | 0 => fun _ _ _ _ _ _ _ => none
  | n + 1 => sX6_total_c30 k21 (sX6_total_b30 k21 n)
theorem vX6_total_b30 (k21 : Hp → Int32 → Int32 → Int32 → Int32 → Int32 → Option (Int32 × Hp)) (hk21 : ∀ (h : Hp) (v1 : Int32) (v2 : Int32) (v3 : Int32) (v4 : Int32) (v5 : Int32) (q : (Int32 × Hp)), k21 h v1 v2 v3 v4 v5 = some q → V (Gs 7 (pI q)) mX6_total (0, 0) 21 [(0, .ref 54), (1, .int v1), (2, .int v2), (3, .int v3), (4, .int v4), (5, .int v5)] [] h) : ∀ (n : Nat) (h : Hp) (v1 : Int32) (v2 : Int32) (v3 : Int32) (v4 : Int32) (v5 : Int32) (v6 : Int32) (q : (Int32 × Hp)), sX6_total_b30 k21 n h v1 v2 v3 v4 v5 v6 = some q → V (Gs 7 (pI q)) mX6_total (0, 0) 30 [(0, .ref 54), (1, .int v1), (2, .int v2), (3, .int v3), (4, .int v4), (5, .int v5), (6, .int v6)] [] h
  | 0 => fun _ _ _ _ _ _ _ _ e => by cases e
  | n + 1 => fun h v1 v2 v3 v4 v5 v6 q e => vX6_total_c30 k21 hk21 (sX6_total_b30 k21 n) (vX6_total_b30 k21 hk21 n) h v1 v2 v3 v4 v5 v6 q e
def sX6_total_c21 (k21 : Hp → Int32 → Int32 → Int32 → Int32 → Int32 → Option (Int32 × Hp)) (h : Hp) (v1 : Int32) (v2 : Int32) (v3 : Int32) (v4 : Int32) (v5 : Int32) : Option (Int32 × Hp) :=
  if (2 : Int32) ≤ v5 then (nm (u1 h 54 1 (0 : Int32)) fun h3 => (sX6_enters h3 v2.toInt64).bind fun q4 => (sX6_enters q4 v3.toInt64).bind fun q5 => some (v1, q5)) else (sX6_total_b30 k21 FU h v1 v2 v3 v4 v5 (0 : Int32))
set_option maxRecDepth 10000 in
theorem vX6_total_c21 (k21 : Hp → Int32 → Int32 → Int32 → Int32 → Int32 → Option (Int32 × Hp)) (hk21 : ∀ (h : Hp) (v1 : Int32) (v2 : Int32) (v3 : Int32) (v4 : Int32) (v5 : Int32) (q : (Int32 × Hp)), k21 h v1 v2 v3 v4 v5 = some q → V (Gs 7 (pI q)) mX6_total (0, 0) 21 [(0, .ref 54), (1, .int v1), (2, .int v2), (3, .int v3), (4, .int v4), (5, .int v5)] [] h) (h : Hp) (v1 : Int32) (v2 : Int32) (v3 : Int32) (v4 : Int32) (v5 : Int32) (q : (Int32 × Hp)) (e : sX6_total_c21 k21 h v1 v2 v3 v4 v5 = some q) : V (Gs 7 (pI q)) mX6_total (0, 0) 21 [(0, .ref 54), (1, .int v1), (2, .int v2), (3, .int v3), (4, .int v4), (5, .int v5)] [] h := by
  unfold sX6_total_c21 at e
  refine V.il dX6_total_21 (pc' := 23) rfl (j := 5) rfl ?_
  refine V.iconst dX6_total_23 (pc' := 24) rfl (v := 2) (by decide) ?_
  refine V.ic_ge dX6_total_24 (pc' := 27) rfl (tgt := 118) (by decide) (fun c => ?_) (fun c => ?_)
  · rw [if_pos c] at e
    refine V.alq dX6_total_118 (pc' := 119) rfl (j := 0) rfl ?_
    refine V.iconst dX6_total_119 (pc' := 120) rfl (v := 0) (by decide) ?_
    obtain ⟨h3, eh3, e⟩ := nm_s e
    refine V.putf dX6_total_120 (pc' := 123) rfl FP_X6_11 rfl (by decide) rfl eh3 ?_
    refine V.alq dX6_total_123 (pc' := 124) rfl (j := 0) rfl ?_
    refine V.ilq dX6_total_124 (pc' := 125) rfl (j := 2) rfl ?_
    refine V.i2l dX6_total_125 (pc' := 126) rfl ?_
    obtain ⟨q4, eq4, e⟩ := bd_s e
    refine V.callVv dX6_total_126 (pc' := 129) rfl CV_X6_18 (as := [.long v2.toInt64]) (kX6_enters h3 v2.toInt64 q4 eq4) (Gs_rm (by decide)) rfl (by decide) rfl (Nat.le_of_ble_eq_true rfl) rfl ?_
    refine V.alq dX6_total_129 (pc' := 130) rfl (j := 0) rfl ?_
    refine V.ilq dX6_total_130 (pc' := 131) rfl (j := 3) rfl ?_
    refine V.i2l dX6_total_131 (pc' := 132) rfl ?_
    obtain ⟨q5, eq5, e⟩ := bd_s e
    refine V.callVv dX6_total_132 (pc' := 135) rfl CV_X6_18 (as := [.long v3.toInt64]) (kX6_enters q4 v3.toInt64 q5 eq5) (Gs_rm (by decide)) rfl (by decide) rfl (Nat.le_of_ble_eq_true rfl) rfl ?_
    refine V.ilq dX6_total_135 (pc' := 136) rfl (j := 1) rfl ?_
    exact V.iret dX6_total_136 rfl (fnI e)
  · rw [if_neg c] at e
    refine V.iconst dX6_total_27 (pc' := 28) rfl (v := 0) (by decide) ?_
    refine V.is dX6_total_28 (pc' := 30) rfl (by decide) rfl (L' := [(6, .int (0 : Int32)), (0, .ref 54), (1, .int v1), (2, .int v2), (3, .int v3), (4, .int v4), (5, .int v5)]) rfl ?_
    refine V.pk [1, 2, 3, 4, 5, 6, 0] rfl ?_
    exact vX6_total_b30 k21 hk21 FU h v1 v2 v3 v4 v5 (0 : Int32) q e
def sX6_total_b21 : Nat → Hp → Int32 → Int32 → Int32 → Int32 → Int32 → Option (Int32 × Hp)
  | 0 => fun _ _ _ _ _ _ => none
  | n + 1 => sX6_total_c21 (sX6_total_b21 n)
theorem vX6_total_b21 : ∀ (n : Nat) (h : Hp) (v1 : Int32) (v2 : Int32) (v3 : Int32) (v4 : Int32) (v5 : Int32) (q : (Int32 × Hp)), sX6_total_b21 n h v1 v2 v3 v4 v5 = some q → V (Gs 7 (pI q)) mX6_total (0, 0) 21 [(0, .ref 54), (1, .int v1), (2, .int v2), (3, .int v3), (4, .int v4), (5, .int v5)] [] h
  | 0 => fun _ _ _ _ _ _ _ e => by cases e
  | n + 1 => fun h v1 v2 v3 v4 v5 q e => vX6_total_c21 (sX6_total_b21 n) (vX6_total_b21 n) h v1 v2 v3 v4 v5 q e
def sX6_total (h : Hp) : Option (Int32 × Hp) :=
  nm (u1 h 54 0 (0 : Int32)) fun h1 => (sX6_finds h1).bind fun q2 => sX6_total_b21 FU q2 (0 : Int32) (0 : Int32) (-1 : Int32) (0 : Int32) (0 : Int32)
set_option maxRecDepth 10000 in
theorem kX6_total (h : Hp) (q : (Int32 × Hp)) (e : sX6_total h = some q) : K 7 mX6_total [.ref 54] h (pI q) := by
  unfold sX6_total at e
  refine K.ofV (by decide) rfl (Nat.le_of_ble_eq_true rfl) ?_
  show V (Gs 7 (pI q)) mX6_total (0, 0) 0 [(0, .ref 54)] [] h
  refine V.alq dX6_total_0 (pc' := 1) rfl (j := 0) rfl ?_
  refine V.iconst dX6_total_1 (pc' := 2) rfl (v := 0) (by decide) ?_
  obtain ⟨h1, eh1, e⟩ := nm_s e
  refine V.putf dX6_total_2 (pc' := 5) rfl FP_X6_1 rfl (by decide) rfl eh1 ?_
  refine V.alq dX6_total_5 (pc' := 6) rfl (j := 0) rfl ?_
  obtain ⟨q2, eq2, e⟩ := bd_s e
  refine V.callVv dX6_total_6 (pc' := 9) rfl CV_X6_256 (as := []) (kX6_finds h1 q2 eq2) (Gs_rm (by decide)) rfl (by decide) rfl (Nat.le_of_ble_eq_true rfl) rfl ?_
  refine V.iconst dX6_total_9 (pc' := 10) rfl (v := 0) (by decide) ?_
  refine V.isq dX6_total_10 (pc' := 11) rfl (by decide) rfl (L' := [(1, .int (0 : Int32)), (0, .ref 54)]) rfl ?_
  refine V.iconst dX6_total_11 (pc' := 12) rfl (v := 0) (by decide) ?_
  refine V.isq dX6_total_12 (pc' := 13) rfl (by decide) rfl (L' := [(2, .int (0 : Int32)), (1, .int (0 : Int32)), (0, .ref 54)]) rfl ?_
  refine V.iconst dX6_total_13 (pc' := 14) rfl (v := -1) (by decide) ?_
  refine V.isq dX6_total_14 (pc' := 15) rfl (by decide) rfl (L' := [(3, .int (-1 : Int32)), (2, .int (0 : Int32)), (1, .int (0 : Int32)), (0, .ref 54)]) rfl ?_
  refine V.iconst dX6_total_15 (pc' := 16) rfl (v := 0) (by decide) ?_
  refine V.is dX6_total_16 (pc' := 18) rfl (by decide) rfl (L' := [(4, .int (0 : Int32)), (3, .int (-1 : Int32)), (2, .int (0 : Int32)), (1, .int (0 : Int32)), (0, .ref 54)]) rfl ?_
  refine V.iconst dX6_total_18 (pc' := 19) rfl (v := 0) (by decide) ?_
  refine V.is dX6_total_19 (pc' := 21) rfl (by decide) rfl (L' := [(5, .int (0 : Int32)), (4, .int (0 : Int32)), (3, .int (-1 : Int32)), (2, .int (0 : Int32)), (1, .int (0 : Int32)), (0, .ref 54)]) rfl ?_
  refine V.pk [5, 4, 3, 2, 1, 0] rfl ?_
  exact vX6_total_b21 FU q2 (0 : Int32) (0 : Int32) (-1 : Int32) (0 : Int32) (0 : Int32) q e

-- X6_left (level 7)
theorem dX6_left_0 : decode cX6_left 0 = .ok (.aload_n 0, 1) := by decide +kernel
theorem dX6_left_1 : decode cX6_left 1 = .ok (.iconst 0, 1) := by decide +kernel
theorem dX6_left_2 : decode cX6_left 2 = .ok (.putfield 1, 3) := by decide +kernel
theorem dX6_left_5 : decode cX6_left 5 = .ok (.aload_n 0, 1) := by decide +kernel
theorem dX6_left_6 : decode cX6_left 6 = .ok (.invokevirtual 256, 3) := by decide +kernel
theorem dX6_left_9 : decode cX6_left 9 = .ok (.aload_n 0, 1) := by decide +kernel
theorem dX6_left_10 : decode cX6_left 10 = .ok (.iconst 0, 1) := by decide +kernel
theorem dX6_left_11 : decode cX6_left 11 = .ok (.iconst 0, 1) := by decide +kernel
theorem dX6_left_12 : decode cX6_left 12 = .ok (.invokevirtual 313, 3) := by decide +kernel
theorem dX6_left_15 : decode cX6_left 15 = .ok (.aload_n 0, 1) := by decide +kernel
theorem dX6_left_16 : decode cX6_left 16 = .ok (.iconst 1, 1) := by decide +kernel
theorem dX6_left_17 : decode cX6_left 17 = .ok (.iconst 0, 1) := by decide +kernel
theorem dX6_left_18 : decode cX6_left 18 = .ok (.invokevirtual 313, 3) := by decide +kernel
theorem dX6_left_21 : decode cX6_left 21 = .ok (.iadd, 1) := by decide +kernel
theorem dX6_left_22 : decode cX6_left 22 = .ok (.istore_n 1, 1) := by decide +kernel
theorem dX6_left_23 : decode cX6_left 23 = .ok (.aload_n 0, 1) := by decide +kernel
theorem dX6_left_24 : decode cX6_left 24 = .ok (.iconst 0, 1) := by decide +kernel
theorem dX6_left_25 : decode cX6_left 25 = .ok (.putfield 11, 3) := by decide +kernel
theorem dX6_left_28 : decode cX6_left 28 = .ok (.aload_n 0, 1) := by decide +kernel
theorem dX6_left_29 : decode cX6_left 29 = .ok (.aload_n 0, 1) := by decide +kernel
theorem dX6_left_30 : decode cX6_left 30 = .ok (.iconst 0, 1) := by decide +kernel
theorem dX6_left_31 : decode cX6_left 31 = .ok (.iconst 1, 1) := by decide +kernel
theorem dX6_left_32 : decode cX6_left 32 = .ok (.invokevirtual 313, 3) := by decide +kernel
theorem dX6_left_35 : decode cX6_left 35 = .ok (.aload_n 0, 1) := by decide +kernel
theorem dX6_left_36 : decode cX6_left 36 = .ok (.iconst 1, 1) := by decide +kernel
theorem dX6_left_37 : decode cX6_left 37 = .ok (.iconst 1, 1) := by decide +kernel
theorem dX6_left_38 : decode cX6_left 38 = .ok (.invokevirtual 313, 3) := by decide +kernel
theorem dX6_left_41 : decode cX6_left 41 = .ok (.iadd, 1) := by decide +kernel
theorem dX6_left_42 : decode cX6_left 42 = .ok (.i2l, 1) := by decide +kernel
theorem dX6_left_43 : decode cX6_left 43 = .ok (.invokevirtual 18, 3) := by decide +kernel
theorem dX6_left_46 : decode cX6_left 46 = .ok (.aload_n 0, 1) := by decide +kernel
theorem dX6_left_47 : decode cX6_left 47 = .ok (.iload_n 1, 1) := by decide +kernel
theorem dX6_left_48 : decode cX6_left 48 = .ok (.aload_n 0, 1) := by decide +kernel
theorem dX6_left_49 : decode cX6_left 49 = .ok (.getfield 200, 3) := by decide +kernel
theorem dX6_left_52 : decode cX6_left 52 = .ok (.isub, 1) := by decide +kernel
theorem dX6_left_53 : decode cX6_left 53 = .ok (.i2l, 1) := by decide +kernel
theorem dX6_left_54 : decode cX6_left 54 = .ok (.invokevirtual 18, 3) := by decide +kernel
theorem dX6_left_57 : decode cX6_left 57 = .ok (.iload_n 1, 1) := by decide +kernel
theorem dX6_left_58 : decode cX6_left 58 = .ok (.ireturn, 1) := by decide +kernel
def sX6_left (h : Hp) : Option (Int32 × Hp) :=
  nm (u1 h 54 0 (0 : Int32)) fun h1 => (sX6_finds h1).bind fun q2 => (sX6_rests q2 (0 : Int32) (0 : Int32)).bind fun q3 => (sX6_rests q3.2 (1 : Int32) (0 : Int32)).bind fun q4 => nm ((q3.1 + q4.1)) fun x5 => nm (u1 q4.2 54 1 (0 : Int32)) fun h6 => (sX6_rests h6 (0 : Int32) (1 : Int32)).bind fun q7 => (sX6_rests q7.2 (1 : Int32) (1 : Int32)).bind fun q8 => (sX6_enters q8.2 ((q7.1 + q8.1).toInt64)).bind fun q9 => (sX6_enters q9 ((x5 - (q9.1 54 18)).toInt64)).bind fun q10 => some (x5, q10)
set_option maxRecDepth 10000 in
theorem kX6_left (h : Hp) (q : (Int32 × Hp)) (e : sX6_left h = some q) : K 7 mX6_left [.ref 54] h (pI q) := by
  unfold sX6_left at e
  refine K.ofV (by decide) rfl (Nat.le_of_ble_eq_true rfl) ?_
  show V (Gs 7 (pI q)) mX6_left (0, 0) 0 [(0, .ref 54)] [] h
  refine V.alq dX6_left_0 (pc' := 1) rfl (j := 0) rfl ?_
  refine V.iconst dX6_left_1 (pc' := 2) rfl (v := 0) (by decide) ?_
  obtain ⟨h1, eh1, e⟩ := nm_s e
  refine V.putf dX6_left_2 (pc' := 5) rfl FP_X6_1 rfl (by decide) rfl eh1 ?_
  refine V.alq dX6_left_5 (pc' := 6) rfl (j := 0) rfl ?_
  obtain ⟨q2, eq2, e⟩ := bd_s e
  refine V.callVv dX6_left_6 (pc' := 9) rfl CV_X6_256 (as := []) (kX6_finds h1 q2 eq2) (Gs_rm (by decide)) rfl (by decide) rfl (Nat.le_of_ble_eq_true rfl) rfl ?_
  refine V.alq dX6_left_9 (pc' := 10) rfl (j := 0) rfl ?_
  refine V.iconst dX6_left_10 (pc' := 11) rfl (v := 0) (by decide) ?_
  refine V.iconst dX6_left_11 (pc' := 12) rfl (v := 0) (by decide) ?_
  obtain ⟨q3, eq3, e⟩ := bd_s e
  refine V.callVi dX6_left_12 (pc' := 15) rfl CV_X6_313 (as := [.int (0 : Int32), .int (0 : Int32)]) (kX6_rests q2 (0 : Int32) (0 : Int32) q3 eq3) (Gs_rm (by decide)) rfl (by decide) rfl (Nat.le_of_ble_eq_true rfl) rfl ?_
  refine V.alq dX6_left_15 (pc' := 16) rfl (j := 0) rfl ?_
  refine V.iconst dX6_left_16 (pc' := 17) rfl (v := 1) (by decide) ?_
  refine V.iconst dX6_left_17 (pc' := 18) rfl (v := 0) (by decide) ?_
  obtain ⟨q4, eq4, e⟩ := bd_s e
  refine V.callVi dX6_left_18 (pc' := 21) rfl CV_X6_313 (as := [.int (1 : Int32), .int (0 : Int32)]) (kX6_rests q3.2 (1 : Int32) (0 : Int32) q4 eq4) (Gs_rm (by decide)) rfl (by decide) rfl (Nat.le_of_ble_eq_true rfl) rfl ?_
  refine V.iadd dX6_left_21 (pc' := 22) rfl ?_
  obtain ⟨x5, ex5, e⟩ := nm_s e
  refine V.isq dX6_left_22 (pc' := 23) rfl (by decide) ex5 (L' := [(1, .int x5), (0, .ref 54)]) rfl ?_
  refine V.alq dX6_left_23 (pc' := 24) rfl (j := 1) rfl ?_
  refine V.iconst dX6_left_24 (pc' := 25) rfl (v := 0) (by decide) ?_
  obtain ⟨h6, eh6, e⟩ := nm_s e
  refine V.putf dX6_left_25 (pc' := 28) rfl FP_X6_11 rfl (by decide) rfl eh6 ?_
  refine V.alq dX6_left_28 (pc' := 29) rfl (j := 1) rfl ?_
  refine V.alq dX6_left_29 (pc' := 30) rfl (j := 1) rfl ?_
  refine V.iconst dX6_left_30 (pc' := 31) rfl (v := 0) (by decide) ?_
  refine V.iconst dX6_left_31 (pc' := 32) rfl (v := 1) (by decide) ?_
  obtain ⟨q7, eq7, e⟩ := bd_s e
  refine V.callVi dX6_left_32 (pc' := 35) rfl CV_X6_313 (as := [.int (0 : Int32), .int (1 : Int32)]) (kX6_rests h6 (0 : Int32) (1 : Int32) q7 eq7) (Gs_rm (by decide)) rfl (by decide) rfl (Nat.le_of_ble_eq_true rfl) rfl ?_
  refine V.alq dX6_left_35 (pc' := 36) rfl (j := 1) rfl ?_
  refine V.iconst dX6_left_36 (pc' := 37) rfl (v := 1) (by decide) ?_
  refine V.iconst dX6_left_37 (pc' := 38) rfl (v := 1) (by decide) ?_
  obtain ⟨q8, eq8, e⟩ := bd_s e
  refine V.callVi dX6_left_38 (pc' := 41) rfl CV_X6_313 (as := [.int (1 : Int32), .int (1 : Int32)]) (kX6_rests q7.2 (1 : Int32) (1 : Int32) q8 eq8) (Gs_rm (by decide)) rfl (by decide) rfl (Nat.le_of_ble_eq_true rfl) rfl ?_
  refine V.iadd dX6_left_41 (pc' := 42) rfl ?_
  refine V.i2l dX6_left_42 (pc' := 43) rfl ?_
  obtain ⟨q9, eq9, e⟩ := bd_s e
  refine V.callVv dX6_left_43 (pc' := 46) rfl CV_X6_18 (as := [.long ((q7.1 + q8.1).toInt64)]) (kX6_enters q8.2 ((q7.1 + q8.1).toInt64) q9 eq9) (Gs_rm (by decide)) rfl (by decide) rfl (Nat.le_of_ble_eq_true rfl) rfl ?_
  refine V.alq dX6_left_46 (pc' := 47) rfl (j := 1) rfl ?_
  refine V.ilq dX6_left_47 (pc' := 48) rfl (j := 0) rfl ?_
  refine V.alq dX6_left_48 (pc' := 49) rfl (j := 1) rfl ?_
  refine V.getf dX6_left_49 (pc' := 52) rfl FL_X6_200 rfl (by decide) rfl ?_
  refine V.isub dX6_left_52 (pc' := 53) rfl ?_
  refine V.i2l dX6_left_53 (pc' := 54) rfl ?_
  obtain ⟨q10, eq10, e⟩ := bd_s e
  refine V.callVv dX6_left_54 (pc' := 57) rfl CV_X6_18 (as := [.long ((x5 - (q9.1 54 18)).toInt64)]) (kX6_enters q9 ((x5 - (q9.1 54 18)).toInt64) q10 eq10) (Gs_rm (by decide)) rfl (by decide) rfl (Nat.le_of_ble_eq_true rfl) rfl ?_
  refine V.ilq dX6_left_57 (pc' := 58) rfl (j := 0) rfl ?_
  exact V.iret dX6_left_58 rfl (fnI e)

-- X6_ticks (level 8)
theorem dX6_ticks_0 : decode cX6_ticks 0 = .ok (.aload_n 0, 1) := by decide +kernel
theorem dX6_ticks_1 : decode cX6_ticks 1 = .ok (.iconst 0, 1) := by decide +kernel
theorem dX6_ticks_2 : decode cX6_ticks 2 = .ok (.putfield 1, 3) := by decide +kernel
theorem dX6_ticks_5 : decode cX6_ticks 5 = .ok (.iload_n 1, 1) := by decide +kernel
theorem dX6_ticks_6 : decode cX6_ticks 6 = .ok (.invokestatic 253, 3) := by decide +kernel
theorem dX6_ticks_9 : decode cX6_ticks 9 = .ok (.ifCond .ne 5, 3) := by decide +kernel
theorem dX6_ticks_12 : decode cX6_ticks 12 = .ok (.iconst (-1), 1) := by decide +kernel
theorem dX6_ticks_13 : decode cX6_ticks 13 = .ok (.ireturn, 1) := by decide +kernel
theorem dX6_ticks_14 : decode cX6_ticks 14 = .ok (.aload_n 0, 1) := by decide +kernel
theorem dX6_ticks_15 : decode cX6_ticks 15 = .ok (.invokevirtual 256, 3) := by decide +kernel
theorem dX6_ticks_18 : decode cX6_ticks 18 = .ok (.iconst 0, 1) := by decide +kernel
theorem dX6_ticks_19 : decode cX6_ticks 19 = .ok (.istore_n 2, 1) := by decide +kernel
theorem dX6_ticks_20 : decode cX6_ticks 20 = .ok (.aload_n 0, 1) := by decide +kernel
theorem dX6_ticks_21 : decode cX6_ticks 21 = .ok (.iload_n 1, 1) := by decide +kernel
theorem dX6_ticks_22 : decode cX6_ticks 22 = .ok (.invokevirtual 310, 3) := by decide +kernel
theorem dX6_ticks_25 : decode cX6_ticks 25 = .ok (.istore_n 3, 1) := by decide +kernel
theorem dX6_ticks_26 : decode cX6_ticks 26 = .ok (.iload_n 3, 1) := by decide +kernel
theorem dX6_ticks_27 : decode cX6_ticks 27 = .ok (.ifCond .le 50, 3) := by decide +kernel
theorem dX6_ticks_30 : decode cX6_ticks 30 = .ok (.aload_n 0, 1) := by decide +kernel
theorem dX6_ticks_31 : decode cX6_ticks 31 = .ok (.getfield 90, 3) := by decide +kernel
theorem dX6_ticks_34 : decode cX6_ticks 34 = .ok (.iload_n 1, 1) := by decide +kernel
theorem dX6_ticks_35 : decode cX6_ticks 35 = .ok (.iaload, 1) := by decide +kernel
theorem dX6_ticks_36 : decode cX6_ticks 36 = .ok (.bipush 24, 2) := by decide +kernel
theorem dX6_ticks_38 : decode cX6_ticks 38 = .ok (.if_icmp .ge 39, 3) := by decide +kernel
theorem dX6_ticks_41 : decode cX6_ticks 41 = .ok (.aload_n 0, 1) := by decide +kernel
theorem dX6_ticks_42 : decode cX6_ticks 42 = .ok (.iload_n 1, 1) := by decide +kernel
theorem dX6_ticks_43 : decode cX6_ticks 43 = .ok (.aload_n 0, 1) := by decide +kernel
theorem dX6_ticks_44 : decode cX6_ticks 44 = .ok (.getfield 304, 3) := by decide +kernel
theorem dX6_ticks_47 : decode cX6_ticks 47 = .ok (.aload_n 0, 1) := by decide +kernel
theorem dX6_ticks_48 : decode cX6_ticks 48 = .ok (.getfield 307, 3) := by decide +kernel
theorem dX6_ticks_51 : decode cX6_ticks 51 = .ok (.iload_n 3, 1) := by decide +kernel
theorem dX6_ticks_52 : decode cX6_ticks 52 = .ok (.invokevirtual 295, 3) := by decide +kernel
theorem dX6_ticks_55 : decode cX6_ticks 55 = .ok (.aload_n 0, 1) := by decide +kernel
theorem dX6_ticks_56 : decode cX6_ticks 56 = .ok (.getfield 90, 3) := by decide +kernel
theorem dX6_ticks_59 : decode cX6_ticks 59 = .ok (.iload_n 1, 1) := by decide +kernel
theorem dX6_ticks_60 : decode cX6_ticks 60 = .ok (.dup2, 1) := by decide +kernel
theorem dX6_ticks_61 : decode cX6_ticks 61 = .ok (.iaload, 1) := by decide +kernel
theorem dX6_ticks_62 : decode cX6_ticks 62 = .ok (.iconst 1, 1) := by decide +kernel
theorem dX6_ticks_63 : decode cX6_ticks 63 = .ok (.iadd, 1) := by decide +kernel
theorem dX6_ticks_64 : decode cX6_ticks 64 = .ok (.iastore, 1) := by decide +kernel
theorem dX6_ticks_65 : decode cX6_ticks 65 = .ok (.iinc 2 1, 3) := by decide +kernel
theorem dX6_ticks_68 : decode cX6_ticks 68 = .ok (.aload_n 0, 1) := by decide +kernel
theorem dX6_ticks_69 : decode cX6_ticks 69 = .ok (.iload_n 1, 1) := by decide +kernel
theorem dX6_ticks_70 : decode cX6_ticks 70 = .ok (.invokevirtual 310, 3) := by decide +kernel
theorem dX6_ticks_73 : decode cX6_ticks 73 = .ok (.istore_n 3, 1) := by decide +kernel
theorem dX6_ticks_74 : decode cX6_ticks 74 = .ok (.goto (-48), 3) := by decide +kernel
theorem dX6_ticks_77 : decode cX6_ticks 77 = .ok (.aload_n 0, 1) := by decide +kernel
theorem dX6_ticks_78 : decode cX6_ticks 78 = .ok (.iconst 0, 1) := by decide +kernel
theorem dX6_ticks_79 : decode cX6_ticks 79 = .ok (.putfield 11, 3) := by decide +kernel
theorem dX6_ticks_82 : decode cX6_ticks 82 = .ok (.aload_n 0, 1) := by decide +kernel
theorem dX6_ticks_83 : decode cX6_ticks 83 = .ok (.aload_n 0, 1) := by decide +kernel
theorem dX6_ticks_84 : decode cX6_ticks 84 = .ok (.iload_n 1, 1) := by decide +kernel
theorem dX6_ticks_85 : decode cX6_ticks 85 = .ok (.iconst 1, 1) := by decide +kernel
theorem dX6_ticks_86 : decode cX6_ticks 86 = .ok (.invokevirtual 313, 3) := by decide +kernel
theorem dX6_ticks_89 : decode cX6_ticks 89 = .ok (.i2l, 1) := by decide +kernel
theorem dX6_ticks_90 : decode cX6_ticks 90 = .ok (.invokevirtual 18, 3) := by decide +kernel
theorem dX6_ticks_93 : decode cX6_ticks 93 = .ok (.aload_n 0, 1) := by decide +kernel
theorem dX6_ticks_94 : decode cX6_ticks 94 = .ok (.aload_n 0, 1) := by decide +kernel
theorem dX6_ticks_95 : decode cX6_ticks 95 = .ok (.iload_n 1, 1) := by decide +kernel
theorem dX6_ticks_96 : decode cX6_ticks 96 = .ok (.iconst 0, 1) := by decide +kernel
theorem dX6_ticks_97 : decode cX6_ticks 97 = .ok (.invokevirtual 313, 3) := by decide +kernel
theorem dX6_ticks_100 : decode cX6_ticks 100 = .ok (.i2l, 1) := by decide +kernel
theorem dX6_ticks_101 : decode cX6_ticks 101 = .ok (.invokevirtual 18, 3) := by decide +kernel
theorem dX6_ticks_104 : decode cX6_ticks 104 = .ok (.iload_n 2, 1) := by decide +kernel
theorem dX6_ticks_105 : decode cX6_ticks 105 = .ok (.ireturn, 1) := by decide +kernel
def sX6_ticks_c77 (h : Hp) (v1 : Int32) (v2 : Int32) : Option (Int32 × Hp) :=
  nm (u1 h 54 1 (0 : Int32)) fun h12 => (sX6_rests h12 v1 (1 : Int32)).bind fun q13 => (sX6_enters q13.2 q13.1.toInt64).bind fun q14 => (sX6_rests q14 v1 (0 : Int32)).bind fun q15 => (sX6_enters q15.2 q15.1.toInt64).bind fun q16 => some (v2, q16)
set_option maxRecDepth 10000 in
theorem vX6_ticks_c77 (h : Hp) (v1 : Int32) (v2 : Int32) (q : (Int32 × Hp)) (e : sX6_ticks_c77 h v1 v2 = some q) : V (Gs 8 (pI q)) mX6_ticks (0, 0) 77 [(0, .ref 54), (1, .int v1), (2, .int v2)] [] h := by
  unfold sX6_ticks_c77 at e
  refine V.alq dX6_ticks_77 (pc' := 78) rfl (j := 0) rfl ?_
  refine V.iconst dX6_ticks_78 (pc' := 79) rfl (v := 0) (by decide) ?_
  obtain ⟨h12, eh12, e⟩ := nm_s e
  refine V.putf dX6_ticks_79 (pc' := 82) rfl FP_X6_11 rfl (by decide) rfl eh12 ?_
  refine V.alq dX6_ticks_82 (pc' := 83) rfl (j := 0) rfl ?_
  refine V.alq dX6_ticks_83 (pc' := 84) rfl (j := 0) rfl ?_
  refine V.ilq dX6_ticks_84 (pc' := 85) rfl (j := 1) rfl ?_
  refine V.iconst dX6_ticks_85 (pc' := 86) rfl (v := 1) (by decide) ?_
  obtain ⟨q13, eq13, e⟩ := bd_s e
  refine V.callVi dX6_ticks_86 (pc' := 89) rfl CV_X6_313 (as := [.int v1, .int (1 : Int32)]) (kX6_rests h12 v1 (1 : Int32) q13 eq13) (Gs_rm (by decide)) rfl (by decide) rfl (Nat.le_of_ble_eq_true rfl) rfl ?_
  refine V.i2l dX6_ticks_89 (pc' := 90) rfl ?_
  obtain ⟨q14, eq14, e⟩ := bd_s e
  refine V.callVv dX6_ticks_90 (pc' := 93) rfl CV_X6_18 (as := [.long q13.1.toInt64]) (kX6_enters q13.2 q13.1.toInt64 q14 eq14) (Gs_rm (by decide)) rfl (by decide) rfl (Nat.le_of_ble_eq_true rfl) rfl ?_
  refine V.alq dX6_ticks_93 (pc' := 94) rfl (j := 0) rfl ?_
  refine V.alq dX6_ticks_94 (pc' := 95) rfl (j := 0) rfl ?_
  refine V.ilq dX6_ticks_95 (pc' := 96) rfl (j := 1) rfl ?_
  refine V.iconst dX6_ticks_96 (pc' := 97) rfl (v := 0) (by decide) ?_
  obtain ⟨q15, eq15, e⟩ := bd_s e
  refine V.callVi dX6_ticks_97 (pc' := 100) rfl CV_X6_313 (as := [.int v1, .int (0 : Int32)]) (kX6_rests q14 v1 (0 : Int32) q15 eq15) (Gs_rm (by decide)) rfl (by decide) rfl (Nat.le_of_ble_eq_true rfl) rfl ?_
  refine V.i2l dX6_ticks_100 (pc' := 101) rfl ?_
  obtain ⟨q16, eq16, e⟩ := bd_s e
  refine V.callVv dX6_ticks_101 (pc' := 104) rfl CV_X6_18 (as := [.long q15.1.toInt64]) (kX6_enters q15.2 q15.1.toInt64 q16 eq16) (Gs_rm (by decide)) rfl (by decide) rfl (Nat.le_of_ble_eq_true rfl) rfl ?_
  refine V.ilq dX6_ticks_104 (pc' := 105) rfl (j := 2) rfl ?_
  exact V.iret dX6_ticks_105 rfl (fnI e)
def sX6_ticks_c26 (k26 : Hp → Int32 → Int32 → Int32 → Option (Int32 × Hp)) (h : Hp) (v1 : Int32) (v2 : Int32) (v3 : Int32) : Option (Int32 × Hp) :=
  if v3 ≤ 0 then (sX6_ticks_c77 h v1 v2) else (gd (inb v1 2) (if (24 : Int32) ≤ (h.1 67 v1.toNatClampNeg) then (sX6_ticks_c77 h v1 v2) else ((sX6_laysMatch h v1 (h.1 54 28) (h.1 54 29) v3).bind fun q6 => gd (inb v1 2) (gd (inb v1 2) (nm (u1 q6 67 v1.toNatClampNeg ((q6.1 67 v1.toNatClampNeg) + (1 : Int32))) fun h9 => nm (v2 + (1 : Int32)) fun x10 => (sX6_findsBest h9 v1).bind fun q11 => k26 q11.2 v1 x10 q11.1)))))
set_option maxRecDepth 10000 in
theorem vX6_ticks_c26 (k26 : Hp → Int32 → Int32 → Int32 → Option (Int32 × Hp)) (hk26 : ∀ (h : Hp) (v1 : Int32) (v2 : Int32) (v3 : Int32) (q : (Int32 × Hp)), k26 h v1 v2 v3 = some q → V (Gs 8 (pI q)) mX6_ticks (0, 0) 26 [(0, .ref 54), (1, .int v1), (2, .int v2), (3, .int v3)] [] h) (h : Hp) (v1 : Int32) (v2 : Int32) (v3 : Int32) (q : (Int32 × Hp)) (e : sX6_ticks_c26 k26 h v1 v2 v3 = some q) : V (Gs 8 (pI q)) mX6_ticks (0, 0) 26 [(0, .ref 54), (1, .int v1), (2, .int v2), (3, .int v3)] [] h := by
  unfold sX6_ticks_c26 at e
  refine V.ilq dX6_ticks_26 (pc' := 27) rfl (j := 3) rfl ?_
  refine V.if_le dX6_ticks_27 (pc' := 30) rfl (tgt := 77) (by decide) (fun c => ?_) (fun c => ?_)
  · rw [if_pos c] at e
    refine V.pk [0, 1, 2] rfl ?_
    exact vX6_ticks_c77 h v1 v2 q e
  · rw [if_neg c] at e
    refine V.alq dX6_ticks_30 (pc' := 31) rfl (j := 0) rfl ?_
    refine V.getr dX6_ticks_31 (pc' := 34) rfl FL_X6_90 rfl (by decide) rfl (r' := 67) rfl ?_
    refine V.ilq dX6_ticks_34 (pc' := 35) rfl (j := 1) rfl ?_
    obtain ⟨c5, e⟩ := gd_s e
    refine V.iald dX6_ticks_35 (pc' := 36) rfl rfl rfl (inb_t c5) ?_
    refine V.bipush dX6_ticks_36 (pc' := 38) rfl (v := 24) (by decide) ?_
    refine V.ic_ge dX6_ticks_38 (pc' := 41) rfl (tgt := 77) (by decide) (fun c => ?_) (fun c => ?_)
    · rw [if_pos c] at e
      refine V.pk [0, 1, 2] rfl ?_
      exact vX6_ticks_c77 h v1 v2 q e
    · rw [if_neg c] at e
      refine V.alq dX6_ticks_41 (pc' := 42) rfl (j := 0) rfl ?_
      refine V.ilq dX6_ticks_42 (pc' := 43) rfl (j := 1) rfl ?_
      refine V.alq dX6_ticks_43 (pc' := 44) rfl (j := 0) rfl ?_
      refine V.getf dX6_ticks_44 (pc' := 47) rfl FL_X6_304 rfl (by decide) rfl ?_
      refine V.alq dX6_ticks_47 (pc' := 48) rfl (j := 0) rfl ?_
      refine V.getf dX6_ticks_48 (pc' := 51) rfl FL_X6_307 rfl (by decide) rfl ?_
      refine V.ilq dX6_ticks_51 (pc' := 52) rfl (j := 3) rfl ?_
      obtain ⟨q6, eq6, e⟩ := bd_s e
      refine V.callVv dX6_ticks_52 (pc' := 55) rfl CV_X6_295 (as := [.int v1, .int (h.1 54 28), .int (h.1 54 29), .int v3]) (kX6_laysMatch h v1 (h.1 54 28) (h.1 54 29) v3 q6 eq6) (Gs_rm (by decide)) rfl (by decide) rfl (Nat.le_of_ble_eq_true rfl) rfl ?_
      refine V.alq dX6_ticks_55 (pc' := 56) rfl (j := 0) rfl ?_
      refine V.getr dX6_ticks_56 (pc' := 59) rfl FL_X6_90 rfl (by decide) rfl (r' := 67) rfl ?_
      refine V.ilq dX6_ticks_59 (pc' := 60) rfl (j := 1) rfl ?_
      refine V.dup2 dX6_ticks_60 (pc' := 61) rfl rfl rfl ?_
      obtain ⟨c7, e⟩ := gd_s e
      refine V.iald dX6_ticks_61 (pc' := 62) rfl rfl rfl (inb_t c7) ?_
      refine V.iconst dX6_ticks_62 (pc' := 63) rfl (v := 1) (by decide) ?_
      refine V.iadd dX6_ticks_63 (pc' := 64) rfl ?_
      obtain ⟨c8, e⟩ := gd_s e
      obtain ⟨h9, eh9, e⟩ := nm_s e
      refine V.iast dX6_ticks_64 (pc' := 65) rfl rfl rfl (inb_t c8) eh9 ?_
      obtain ⟨x10, ex10, e⟩ := nm_s e
      refine V.iinc dX6_ticks_65 (pc' := 68) rfl (j := 2) rfl (v := 1) (by decide) (by decide) ex10 (L' := [(2, .int x10), (0, .ref 54), (1, .int v1), (3, .int v3)]) rfl ?_
      refine V.alq dX6_ticks_68 (pc' := 69) rfl (j := 1) rfl ?_
      refine V.ilq dX6_ticks_69 (pc' := 70) rfl (j := 2) rfl ?_
      obtain ⟨q11, eq11, e⟩ := bd_s e
      refine V.callVi dX6_ticks_70 (pc' := 73) rfl CV_X6_310 (as := [.int v1]) (kX6_findsBest h9 v1 q11 eq11) (Gs_rm (by decide)) rfl (by decide) rfl (Nat.le_of_ble_eq_true rfl) rfl ?_
      refine V.isq dX6_ticks_73 (pc' := 74) rfl (by decide) rfl (L' := [(3, .int q11.1), (2, .int x10), (0, .ref 54), (1, .int v1)]) rfl ?_
      refine V.goto dX6_ticks_74 (pc' := 26) (by decide) ?_
      refine V.pk [2, 3, 1, 0] rfl ?_
      exact hk26 q11.2 v1 x10 q11.1 q e
def sX6_ticks_b26 : Nat → Hp → Int32 → Int32 → Int32 → Option (Int32 × Hp)
  | 0 => fun _ _ _ _ => none
  | n + 1 => sX6_ticks_c26 (sX6_ticks_b26 n)
theorem vX6_ticks_b26 : ∀ (n : Nat) (h : Hp) (v1 : Int32) (v2 : Int32) (v3 : Int32) (q : (Int32 × Hp)), sX6_ticks_b26 n h v1 v2 v3 = some q → V (Gs 8 (pI q)) mX6_ticks (0, 0) 26 [(0, .ref 54), (1, .int v1), (2, .int v2), (3, .int v3)] [] h
  | 0 => fun _ _ _ _ _ e => by cases e
  | n + 1 => fun h v1 v2 v3 q e => vX6_ticks_c26 (sX6_ticks_b26 n) (vX6_ticks_b26 n) h v1 v2 v3 q e
def sX6_ticks (h : Hp) (a1 : Int32) : Option (Int32 × Hp) :=
  nm (u1 h 54 0 (0 : Int32)) fun h1 => (sX6_isSide h1 a1).bind fun q2 => if q2.1 = 0 then (some ((-1 : Int32), q2.2)) else ((sX6_finds q2.2).bind fun q3 => (sX6_findsBest q3 a1).bind fun q4 => sX6_ticks_b26 FU q4.2 a1 (0 : Int32) q4.1)
set_option maxRecDepth 10000 in
theorem kX6_ticks (h : Hp) (a1 : Int32) (q : (Int32 × Hp)) (e : sX6_ticks h a1 = some q) : K 8 mX6_ticks [.ref 54, .int a1] h (pI q) := by
  unfold sX6_ticks at e
  refine K.ofV (by decide) rfl (Nat.le_of_ble_eq_true rfl) ?_
  show V (Gs 8 (pI q)) mX6_ticks (0, 0) 0 [(0, .ref 54), (1, .int a1)] [] h
  refine V.alq dX6_ticks_0 (pc' := 1) rfl (j := 0) rfl ?_
  refine V.iconst dX6_ticks_1 (pc' := 2) rfl (v := 0) (by decide) ?_
  obtain ⟨h1, eh1, e⟩ := nm_s e
  refine V.putf dX6_ticks_2 (pc' := 5) rfl FP_X6_1 rfl (by decide) rfl eh1 ?_
  refine V.ilq dX6_ticks_5 (pc' := 6) rfl (j := 1) rfl ?_
  obtain ⟨q2, eq2, e⟩ := bd_s e
  refine V.callSi dX6_ticks_6 (pc' := 9) rfl CS_X6_253 (as := [.int a1]) (kX6_isSide h1 a1 q2 eq2) (Gs_rm (by decide)) rfl (Nat.le_of_ble_eq_true rfl) rfl ?_
  refine V.if_ne dX6_ticks_9 (pc' := 12) rfl (tgt := 14) (by decide) (fun c => ?_) (fun c => ?_)
  · rw [if_neg c] at e
    refine V.alq dX6_ticks_14 (pc' := 15) rfl (j := 0) rfl ?_
    obtain ⟨q3, eq3, e⟩ := bd_s e
    refine V.callVv dX6_ticks_15 (pc' := 18) rfl CV_X6_256 (as := []) (kX6_finds q2.2 q3 eq3) (Gs_rm (by decide)) rfl (by decide) rfl (Nat.le_of_ble_eq_true rfl) rfl ?_
    refine V.iconst dX6_ticks_18 (pc' := 19) rfl (v := 0) (by decide) ?_
    refine V.isq dX6_ticks_19 (pc' := 20) rfl (by decide) rfl (L' := [(2, .int (0 : Int32)), (0, .ref 54), (1, .int a1)]) rfl ?_
    refine V.alq dX6_ticks_20 (pc' := 21) rfl (j := 1) rfl ?_
    refine V.ilq dX6_ticks_21 (pc' := 22) rfl (j := 2) rfl ?_
    obtain ⟨q4, eq4, e⟩ := bd_s e
    refine V.callVi dX6_ticks_22 (pc' := 25) rfl CV_X6_310 (as := [.int a1]) (kX6_findsBest q3 a1 q4 eq4) (Gs_rm (by decide)) rfl (by decide) rfl (Nat.le_of_ble_eq_true rfl) rfl ?_
    refine V.isq dX6_ticks_25 (pc' := 26) rfl (by decide) rfl (L' := [(3, .int q4.1), (2, .int (0 : Int32)), (0, .ref 54), (1, .int a1)]) rfl ?_
    refine V.pk [2, 3, 1, 0] rfl ?_
    exact vX6_ticks_b26 FU q4.2 a1 (0 : Int32) q4.1 q e
  · rw [if_pos c] at e
    refine V.iconst dX6_ticks_12 (pc' := 13) rfl (v := -1) (by decide) ?_
    exact V.iret dX6_ticks_13 rfl (fnI e)
