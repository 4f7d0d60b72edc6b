/-! count of the reference: its contract; count, both sides -/
def cnV (h : Hp) (S : SS) (a : Int32) : Int32 := if a = 0 then h.1 54 7 else if a = 1 then hC S S.1 else if a = 2 then h.1 54 11 else if a = 3 then h.1 67 0 else if a = 4 then h.1 67 1 else if a = 5 then fC S S.1 0 else if a = 6 then fC S S.1 1 else if a = 7 then h.1 54 1 else if a = 8 then h.1 54 4 else -1
theorem acI : Cond.arrayClass .int ∈ TB := by decide +kernel
section KCn
variable {h : Hp} {S : SS}
set_option maxRecDepth 10000 in
theorem kX6_count (hM : MQS (u1 h 54 0 0) S) (hn : S.1 ≤ 10) (a : Int32) : KC 3 mX6_count [.ref 54, .int a] h (cnV (u1 h 54 0 0) S a, u1 h 54 0 0) := by
  refine KC.ofV (by decide) rfl (Nat.le_of_ble_eq_true rfl) ?_
  show V (GsC 3 _) mX6_count (0, 0) 0 [(0, .ref 54), (1, .int a)] [] h
  refine V.alq dX6_count_0 (pc' := 1) rfl (j := 0) rfl ?_
  refine V.iconst dX6_count_1 (pc' := 2) rfl (v := 0) (by decide) ?_
  refine V.putf dX6_count_2 (pc' := 5) rfl FP_X6_1 rfl (by decide) rfl rfl ?_
  refine V.iconst dX6_count_5 (pc' := 6) rfl (v := 0) (by decide) ?_
  refine V.isq dX6_count_6 (pc' := 7) rfl (by decide) rfl (L' := [(2, .int 0), (0, .ref 54), (1, .int a)]) rfl ?_
  refine V.iconst dX6_count_7 (pc' := 8) rfl (v := 2) (by decide) ?_
  generalize u1 h 54 0 0 = h1 at *
  intro p l e R s m args below meth c D cI cJ cZ ad A Q G F H locs ls hP hS hl
  obtain ⟨rfl, rfl⟩ := G
  have hx := F.1
  have hb' := F.2.1
  have hts := F.2.2.2.2.1
  have hown := F.2.2.2.1
  have hKK := F.2.2.2.2.2.1
  have hl : lv_has ls 5 [(2, .int 0), (0, .ref (ad 54)), (1, .int a)] := hl
  refine va_newa (atype := .int) hx hb' (hts _ acI) (ty := .int) rfl hKK hP (F.2.2.2.2.2.2.1 h1) hS F.2.2.2.2.2.2.2.2.2.1 (N' := 2) (a0 := (2, .inl (fun _ => 0))) (fun cA => rfl) (by decide) (by decide) (Nat.le_of_ble_eq_true rfl) (Nat.le_of_ble_eq_true rfl) (Nat.le_of_ble_eq_true rfl) dX6_count_8 (fun qa cA H hK2 hP hD hS => ?_)
  have hP : va_P D classes (w2 ad cI cJ cZ h1 qa cA (fun _ => 0)) H := hP
  have hD : va_D A (w2 ad cI cJ cZ h1 qa cA (fun _ => 0)) := hD
  have v0 : vp_in (0 : Int32) 2 := inb_t (by decide)
  have v1 : vp_in (1 : Int32) 2 := inb_t (by decide)
  refine lv_dup hx hb' dX6_count_10 rfl ?_
  refine lv_iconst (v := 0) hx hb' dX6_count_11 (by decide) ?_
  refine lv_iconst (v := 0) hx hb' dX6_count_12 (by decide) ?_
  refine va_iast hx hb' hK2 hP hD hS NC 3 w2_r rfl v0 dX6_count_13 (fun H locs hP hD hS => ?_)
  rw [w2_set] at hP hD
  refine lv_dup hx hb' dX6_count_14 rfl ?_
  refine lv_iconst (v := 1) hx hb' dX6_count_15 (by decide) ?_
  refine lv_iconst (v := 0) hx hb' dX6_count_16 (by decide) ?_
  refine va_iast hx hb' hK2 hP hD hS NC 3 w2_r rfl v1 dX6_count_17 (fun H locs hP hD hS => ?_)
  rw [w2_set] at hP hD
  have ef : upd (upd (fun _ => (0 : Int32)) (0 : Int32).toNatClampNeg 0) (1 : Int32).toNatClampNeg 0 = fC S 0 := by
    funext k
    unfold fC upd
    split
    · rename_i e; rw [if_neg (by rw [e]; decide), if_pos (by rw [e]; decide)]; rfl
    · split
      · rename_i e; rw [if_pos (by rw [e]; decide)]; rfl
      · rename_i e1 e2
        rw [if_neg (fun z => e2 (by rw [z]; decide)), if_neg (fun z => e1 (by rw [z]; decide))]
  rw [ef] at hP hD
  refine lv_astore_n (lv' := [(3, .ref qa), (2, .int 0), (0, .ref (ad 54)), (1, .int a)]) hx hb' dX6_count_18 rfl hl (by decide) rfl (fun ls hl => ?_)
  refine lv_iconst (v := 0) hx hb' dX6_count_19 (by decide) ?_
  refine lv_istore (lv' := [(4, .int 0), (3, .ref qa), (2, .int 0), (0, .ref (ad 54)), (1, .int a)]) hx hb' dX6_count_20 hl (by decide) rfl (fun ls hl => ?_)
  refine cnt_loop (S := S) F hK2 hD ⟨Nat.le_of_ble_eq_true rfl, Nat.le_of_ble_eq_true rfl, Nat.le_of_ble_eq_true rfl, Nat.le_of_ble_eq_true rfl⟩ hM hn a (fun H locs ls hP hS hl => ?_) S.1 0 H locs ls (by omega) hP hS (lv_sub hl [0, 2, 1, 3, 4] rfl)
  -- the answer
  have hPw := w2_P hP
  have ret : ∀ (x : Int32) (pc : Nat) (ls : Array Slot), decode cX6_count pc = .ok (.ireturn, 1) → x = cnV h1 S a → W p l e (rmc 3) s m args below meth c H locs 1 2 (MQ below (QC D cI cJ cZ ad (pI (cnV h1 S a, h1)) A) args s 1 2 A) (F0 m pc ls [.int x]) := by
    intro x pc ls hd hxe
    subst hxe
    exact W.iret (v := cnV h1 S a) F.1 F.2.1 F.2.2.2.2.2.2.2.1 (fun t ht hW => ⟨⟨some (.int _), h1, rfl, ⟨rfl, rfl⟩, by rw [ht]; exact hPw, va_K.moved hW.alike hKK⟩, hS.F ht⟩) hS.2.2 hd F.2.2.2.2.2.2.2.2.1
  have gf : ∀ (i k pc : Nat) (ls : Array Slot), FL RX6 i 6 k → (fl 6)[k]? = some none → decode cX6_count pc = .ok (.getfield i, 3) → W p l e (rmc 3) s m args below meth c H locs 1 2 (MQ below (QC D cI cJ cZ ad (pI (cnV h1 S a, h1)) A) args s 1 2 A) (F0 m (pc + 3) ls [.int (h1.1 54 k)]) → W p l e (rmc 3) s m args below meth c H locs 1 2 (MQ below (QC D cI cJ cZ ad (pI (cnV h1 S a, h1)) A) args s 1 2 A) (F0 m pc ls [.ref (ad 54)]) := by
    intro i k pc ls hF hk hd kk
    obtain ⟨C, T, N, q1, q2, q3, q4⟩ := hF
    refine va_get hx hb' (Ts := TB) hts q3 hown hKK hPw 54 (wld_o (c := 54) (ci := 6) rfl (by decide)) q1 k q2 (hts _ q4) (fun _ q => q) (fv_get hk) hd ?_
    rw [Nat.zero_add]
    exact kk
  have gr : ∀ (pc : Nat) (ls : Array Slot), decode cX6_count pc = .ok (.getfield 90, 3) → W p l e (rmc 3) s m args below meth c H locs 1 2 (MQ below (QC D cI cJ cZ ad (pI (cnV h1 S a, h1)) A) args s 1 2 A) (F0 m (pc + 3) ls [.ref (ad 67)]) → W p l e (rmc 3) s m args below meth c H locs 1 2 (MQ below (QC D cI cJ cZ ad (pI (cnV h1 S a, h1)) A) args s 1 2 A) (F0 m pc ls [.ref (ad 54)]) := by
    intro pc ls hd kk
    obtain ⟨C, T, N, q1, q2, q3, q4⟩ := FL_X6_90
    exact va_get hx hb' (Ts := TB) hts q3 hown hKK hPw 54 (wld_o (c := 54) (ci := 6) rfl (by decide)) q1 24 q2 (hts _ q4) (fun _ q => q) (fv_getR (k := 24) (o := 13) rfl) hd kk
  refine lv_iload_n hx hb' dX6_count_80 rfl (lv_at hl 4 rfl) ?_
  by_cases c0 : a = 0
  · refine lv_tableIn hx hb' dX6_count_81 (by rw [c0]; decide) (by rw [c0]; decide) (off := 51) (by rw [c0]; rfl) (tgt := 132) (by decide) ?_
    refine lv_aload_n hx hb' dX6_count_132 rfl (lv_at hl 3 rfl) ?_
    refine gf _ _ _ _ FL_X6_131 rfl dX6_count_133 (ret _ _ _ dX6_count_136 ?_)
    unfold cnV; rw [if_pos c0]
  by_cases c1 : a = 1
  · refine lv_tableIn hx hb' dX6_count_81 (by rw [c1]; decide) (by rw [c1]; decide) (off := 56) (by rw [c1]; rfl) (tgt := 137) (by decide) ?_
    refine lv_iload_n hx hb' dX6_count_137 rfl (lv_at hl 1 rfl) (ret _ _ _ dX6_count_138 ?_)
    unfold cnV; rw [if_neg c0, if_pos c1]
  by_cases c2 : a = 2
  · refine lv_tableIn hx hb' dX6_count_81 (by rw [c2]; decide) (by rw [c2]; decide) (off := 58) (by rw [c2]; rfl) (tgt := 139) (by decide) ?_
    refine lv_aload_n hx hb' dX6_count_139 rfl (lv_at hl 3 rfl) ?_
    refine gf _ _ _ _ FL_X6_66 rfl dX6_count_140 (ret _ _ _ dX6_count_143 ?_)
    unfold cnV; rw [if_neg c0, if_neg c1, if_pos c2]
  by_cases c3 : a = 3
  · refine lv_tableIn hx hb' dX6_count_81 (by rw [c3]; decide) (by rw [c3]; decide) (off := 63) (by rw [c3]; rfl) (tgt := 144) (by decide) ?_
    refine lv_aload_n hx hb' dX6_count_144 rfl (lv_at hl 3 rfl) ?_
    refine gr _ _ dX6_count_145 ?_
    refine lv_iconst (v := 0) hx hb' dX6_count_148 (by decide) ?_
    refine va_iald hx hb' hKK hPw 67 0 (wld_i (c := 67) rfl) rfl (inb_t (show inb 0 (an 67) = true by decide)) dX6_count_149 (ret _ _ _ dX6_count_150 ?_)
    unfold cnV; rw [if_neg c0, if_neg c1, if_neg c2, if_pos c3]; rfl
  by_cases c4 : a = 4
  · refine lv_tableIn hx hb' dX6_count_81 (by rw [c4]; decide) (by rw [c4]; decide) (off := 70) (by rw [c4]; rfl) (tgt := 151) (by decide) ?_
    refine lv_aload_n hx hb' dX6_count_151 rfl (lv_at hl 3 rfl) ?_
    refine gr _ _ dX6_count_152 ?_
    refine lv_iconst (v := 1) hx hb' dX6_count_155 (by decide) ?_
    refine va_iald hx hb' hKK hPw 67 0 (wld_i (c := 67) rfl) rfl (inb_t (show inb 1 (an 67) = true by decide)) dX6_count_156 (ret _ _ _ dX6_count_157 ?_)
    unfold cnV; rw [if_neg c0, if_neg c1, if_neg c2, if_neg c3, if_pos c4]; rfl
  by_cases c5 : a = 5
  · refine lv_tableIn hx hb' dX6_count_81 (by rw [c5]; decide) (by rw [c5]; decide) (off := 77) (by rw [c5]; rfl) (tgt := 158) (by decide) ?_
    refine lv_aload_n hx hb' dX6_count_158 rfl (lv_at hl 2 rfl) ?_
    refine lv_iconst (v := 0) hx hb' dX6_count_159 (by decide) ?_
    refine va_iald hx hb' hK2 hP NC 3 w2_r rfl v0 dX6_count_160 (ret _ _ _ dX6_count_161 ?_)
    unfold cnV; rw [if_neg c0, if_neg c1, if_neg c2, if_neg c3, if_neg c4, if_pos c5]; rfl
  by_cases c6 : a = 6
  · refine lv_tableIn hx hb' dX6_count_81 (by rw [c6]; decide) (by rw [c6]; decide) (off := 81) (by rw [c6]; rfl) (tgt := 162) (by decide) ?_
    refine lv_aload_n hx hb' dX6_count_162 rfl (lv_at hl 2 rfl) ?_
    refine lv_iconst (v := 1) hx hb' dX6_count_163 (by decide) ?_
    refine va_iald hx hb' hK2 hP NC 3 w2_r rfl v1 dX6_count_164 (ret _ _ _ dX6_count_165 ?_)
    unfold cnV; rw [if_neg c0, if_neg c1, if_neg c2, if_neg c3, if_neg c4, if_neg c5, if_pos c6]; rfl
  by_cases c7 : a = 7
  · refine lv_tableIn hx hb' dX6_count_81 (by rw [c7]; decide) (by rw [c7]; decide) (off := 85) (by rw [c7]; rfl) (tgt := 166) (by decide) ?_
    refine lv_aload_n hx hb' dX6_count_166 rfl (lv_at hl 3 rfl) ?_
    refine gf _ _ _ _ FL_X6_11 rfl dX6_count_167 (ret _ _ _ dX6_count_170 ?_)
    unfold cnV; rw [if_neg c0, if_neg c1, if_neg c2, if_neg c3, if_neg c4, if_neg c5, if_neg c6, if_pos c7]
  by_cases c8 : a = 8
  · refine lv_tableIn hx hb' dX6_count_81 (by rw [c8]; decide) (by rw [c8]; decide) (off := 90) (by rw [c8]; rfl) (tgt := 171) (by decide) ?_
    refine lv_aload_n hx hb' dX6_count_171 rfl (lv_at hl 3 rfl) ?_
    refine gf _ _ _ _ FL_X6_22 rfl dX6_count_172 (ret _ _ _ dX6_count_175 ?_)
    unfold cnV; rw [if_neg c0, if_neg c1, if_neg c2, if_neg c3, if_neg c4, if_neg c5, if_neg c6, if_neg c7, if_pos c8]
  have n0 : ¬ a.toInt = 0 := fun z => c0 (Int32.toInt_inj.mp z)
  have n1 : ¬ a.toInt = 1 := fun z => c1 (Int32.toInt_inj.mp z)
  have n2 : ¬ a.toInt = 2 := fun z => c2 (Int32.toInt_inj.mp z)
  have n3 : ¬ a.toInt = 3 := fun z => c3 (Int32.toInt_inj.mp z)
  have n4 : ¬ a.toInt = 4 := fun z => c4 (Int32.toInt_inj.mp z)
  have n5 : ¬ a.toInt = 5 := fun z => c5 (Int32.toInt_inj.mp z)
  have n6 : ¬ a.toInt = 6 := fun z => c6 (Int32.toInt_inj.mp z)
  have n7 : ¬ a.toInt = 7 := fun z => c7 (Int32.toInt_inj.mp z)
  have n8 : ¬ a.toInt = 8 := fun z => c8 (Int32.toInt_inj.mp z)
  refine lv_tableOut hx hb' dX6_count_81 (by omega) (tgt := 176) (by decide) ?_
  refine lv_iconst (v := -1) hx hb' dX6_count_176 (by decide) (ret _ _ _ dX6_count_177 ?_)
  unfold cnV; rw [if_neg c0, if_neg c1, if_neg c2, if_neg c3, if_neg c4, if_neg c5, if_neg c6, if_neg c7, if_neg c8]
end KCn
