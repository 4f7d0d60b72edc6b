/-! count of the reference -/
def fC (S : SS) (i : Nat) : Nat → Int32 := fun k => if k = 0 then sI i (fun j => if hb S.2.1 S.2.2.1 j = 1 then S.2.2.2.1 j * (hi S.2.1 S.2.2.1 j - lo S.2.1 S.2.2.1 j) else 0) else if k = 1 then sI i (fun j => if hb S.2.1 S.2.2.1 j = 0 then S.2.2.2.1 j * (hi S.2.1 S.2.2.1 j - lo S.2.1 S.2.2.1 j) else 0) else 0
def hC (S : SS) : Nat → Int32
  | 0 => 0
  | i + 1 => hC S i ||| (hb S.2.1 S.2.2.1 i <<< (nI i &&& 31))
theorem fC_h {S : SS} {i : Nat} (c : hb S.2.1 S.2.2.1 i = 1) : upd (fC S i) 0 (fC S i 0 + S.2.2.2.1 i * (hi S.2.1 S.2.2.1 i - lo S.2.1 S.2.2.1 i)) = fC S (i + 1) := by
  funext k
  by_cases e : k = 0
  · subst e
    rw [upd_s]
    show fC S i 0 + _ = sI i _ + (if hb S.2.1 S.2.2.1 i = 1 then S.2.2.2.1 i * (hi S.2.1 S.2.2.1 i - lo S.2.1 S.2.2.1 i) else 0)
    rw [if_pos c]
    rfl
  · rw [upd_n e]
    by_cases e1 : k = 1
    · subst e1
      show sI i _ = sI i _ + (if hb S.2.1 S.2.2.1 i = 0 then S.2.2.2.1 i * (hi S.2.1 S.2.2.1 i - lo S.2.1 S.2.2.1 i) else 0)
      rw [if_neg (by rw [c]; decide), Int32.add_zero]
    · unfold fC
      rw [if_neg e, if_neg e1, if_neg e, if_neg e1]
theorem fC_c {S : SS} {i : Nat} (c : hb S.2.1 S.2.2.1 i = 0) : upd (fC S i) 1 (fC S i 1 + S.2.2.2.1 i * (hi S.2.1 S.2.2.1 i - lo S.2.1 S.2.2.1 i)) = fC S (i + 1) := by
  funext k
  by_cases e : k = 1
  · subst e
    rw [upd_s]
    show fC S i 1 + _ = sI i _ + (if hb S.2.1 S.2.2.1 i = 0 then S.2.2.2.1 i * (hi S.2.1 S.2.2.1 i - lo S.2.1 S.2.2.1 i) else 0)
    rw [if_pos c]
    rfl
  · rw [upd_n e]
    by_cases e1 : k = 0
    · subst e1
      show sI i _ = sI i _ + (if hb S.2.1 S.2.2.1 i = 1 then S.2.2.2.1 i * (hi S.2.1 S.2.2.1 i - lo S.2.1 S.2.2.1 i) else 0)
      rw [if_neg (by rw [c]; decide), Int32.add_zero]
    · unfold fC
      rw [if_neg e1, if_neg e, if_neg e1, if_neg e]
theorem M_flag (h : Hp) {x : Int32} (hx : x = 0 ∨ x = 1) : sX6_flag h x = some (x, h) := by
  unfold sX6_flag sX6_flag_c9
  rcases hx with rfl | rfl
  · rw [if_pos rfl]
  · rw [if_neg (by decide)]
theorem dX6_count_0 : decode cX6_count 0 = .ok (.aload_n 0, 1) := by decide +kernel
theorem dX6_count_1 : decode cX6_count 1 = .ok (.iconst 0, 1) := by decide +kernel
theorem dX6_count_2 : decode cX6_count 2 = .ok (.putfield 1, 3) := by decide +kernel
theorem dX6_count_5 : decode cX6_count 5 = .ok (.iconst 0, 1) := by decide +kernel
theorem dX6_count_6 : decode cX6_count 6 = .ok (.istore_n 2, 1) := by decide +kernel
theorem dX6_count_7 : decode cX6_count 7 = .ok (.iconst 2, 1) := by decide +kernel
theorem dX6_count_8 : decode cX6_count 8 = .ok (.newarray .int, 2) := by decide +kernel
theorem dX6_count_10 : decode cX6_count 10 = .ok (.dup, 1) := by decide +kernel
theorem dX6_count_11 : decode cX6_count 11 = .ok (.iconst 0, 1) := by decide +kernel
theorem dX6_count_12 : decode cX6_count 12 = .ok (.iconst 0, 1) := by decide +kernel
theorem dX6_count_13 : decode cX6_count 13 = .ok (.iastore, 1) := by decide +kernel
theorem dX6_count_14 : decode cX6_count 14 = .ok (.dup, 1) := by decide +kernel
theorem dX6_count_15 : decode cX6_count 15 = .ok (.iconst 1, 1) := by decide +kernel
theorem dX6_count_16 : decode cX6_count 16 = .ok (.iconst 0, 1) := by decide +kernel
theorem dX6_count_17 : decode cX6_count 17 = .ok (.iastore, 1) := by decide +kernel
theorem dX6_count_18 : decode cX6_count 18 = .ok (.astore_n 3, 1) := by decide +kernel
theorem dX6_count_19 : decode cX6_count 19 = .ok (.iconst 0, 1) := by decide +kernel
theorem dX6_count_20 : decode cX6_count 20 = .ok (.istore 4, 2) := by decide +kernel
theorem dX6_count_22 : decode cX6_count 22 = .ok (.iload 4, 2) := by decide +kernel
theorem dX6_count_24 : decode cX6_count 24 = .ok (.aload_n 0, 1) := by decide +kernel
theorem dX6_count_25 : decode cX6_count 25 = .ok (.getfield 131, 3) := by decide +kernel
theorem dX6_count_28 : decode cX6_count 28 = .ok (.if_icmp .ge 52, 3) := by decide +kernel
theorem dX6_count_31 : decode cX6_count 31 = .ok (.iload_n 2, 1) := by decide +kernel
theorem dX6_count_32 : decode cX6_count 32 = .ok (.aload_n 0, 1) := by decide +kernel
theorem dX6_count_33 : decode cX6_count 33 = .ok (.iload 4, 2) := by decide +kernel
theorem dX6_count_35 : decode cX6_count 35 = .ok (.invokevirtual 144, 3) := by decide +kernel
theorem dX6_count_38 : decode cX6_count 38 = .ok (.invokestatic 39, 3) := by decide +kernel
theorem dX6_count_41 : decode cX6_count 41 = .ok (.iload 4, 2) := by decide +kernel
theorem dX6_count_43 : decode cX6_count 43 = .ok (.ishl, 1) := by decide +kernel
theorem dX6_count_44 : decode cX6_count 44 = .ok (.ior, 1) := by decide +kernel
theorem dX6_count_45 : decode cX6_count 45 = .ok (.istore_n 2, 1) := by decide +kernel
theorem dX6_count_46 : decode cX6_count 46 = .ok (.aload_n 3, 1) := by decide +kernel
theorem dX6_count_47 : decode cX6_count 47 = .ok (.aload_n 0, 1) := by decide +kernel
theorem dX6_count_48 : decode cX6_count 48 = .ok (.iload 4, 2) := by decide +kernel
theorem dX6_count_50 : decode cX6_count 50 = .ok (.invokevirtual 144, 3) := by decide +kernel
theorem dX6_count_53 : decode cX6_count 53 = .ok (.ifCond .ne 7, 3) := by decide +kernel
theorem dX6_count_56 : decode cX6_count 56 = .ok (.iconst 1, 1) := by decide +kernel
theorem dX6_count_57 : decode cX6_count 57 = .ok (.goto 4, 3) := by decide +kernel
theorem dX6_count_60 : decode cX6_count 60 = .ok (.iconst 0, 1) := by decide +kernel
theorem dX6_count_61 : decode cX6_count 61 = .ok (.invokestatic 39, 3) := by decide +kernel
theorem dX6_count_64 : decode cX6_count 64 = .ok (.dup2, 1) := by decide +kernel
theorem dX6_count_65 : decode cX6_count 65 = .ok (.iaload, 1) := by decide +kernel
theorem dX6_count_66 : decode cX6_count 66 = .ok (.aload_n 0, 1) := by decide +kernel
theorem dX6_count_67 : decode cX6_count 67 = .ok (.iload 4, 2) := by decide +kernel
theorem dX6_count_69 : decode cX6_count 69 = .ok (.invokevirtual 184, 3) := by decide +kernel
theorem dX6_count_72 : decode cX6_count 72 = .ok (.iadd, 1) := by decide +kernel
theorem dX6_count_73 : decode cX6_count 73 = .ok (.iastore, 1) := by decide +kernel
theorem dX6_count_74 : decode cX6_count 74 = .ok (.iinc 4 1, 3) := by decide +kernel
theorem dX6_count_77 : decode cX6_count 77 = .ok (.goto (-55), 3) := by decide +kernel
theorem dX6_count_80 : decode cX6_count 80 = .ok (.iload_n 1, 1) := by decide +kernel
theorem dX6_count_81 : decode cX6_count 81 = .ok (.tableswitch 95 0 8 #[51, 56, 58, 63, 70, 77, 81, 85, 90], 51) := by decide +kernel
theorem dX6_count_132 : decode cX6_count 132 = .ok (.aload_n 0, 1) := by decide +kernel
theorem dX6_count_133 : decode cX6_count 133 = .ok (.getfield 131, 3) := by decide +kernel
theorem dX6_count_136 : decode cX6_count 136 = .ok (.ireturn, 1) := by decide +kernel
theorem dX6_count_137 : decode cX6_count 137 = .ok (.iload_n 2, 1) := by decide +kernel
theorem dX6_count_138 : decode cX6_count 138 = .ok (.ireturn, 1) := by decide +kernel
theorem dX6_count_139 : decode cX6_count 139 = .ok (.aload_n 0, 1) := by decide +kernel
theorem dX6_count_140 : decode cX6_count 140 = .ok (.getfield 66, 3) := by decide +kernel
theorem dX6_count_143 : decode cX6_count 143 = .ok (.ireturn, 1) := by decide +kernel
theorem dX6_count_144 : decode cX6_count 144 = .ok (.aload_n 0, 1) := by decide +kernel
theorem dX6_count_145 : decode cX6_count 145 = .ok (.getfield 90, 3) := by decide +kernel
theorem dX6_count_148 : decode cX6_count 148 = .ok (.iconst 0, 1) := by decide +kernel
theorem dX6_count_149 : decode cX6_count 149 = .ok (.iaload, 1) := by decide +kernel
theorem dX6_count_150 : decode cX6_count 150 = .ok (.ireturn, 1) := by decide +kernel
theorem dX6_count_151 : decode cX6_count 151 = .ok (.aload_n 0, 1) := by decide +kernel
theorem dX6_count_152 : decode cX6_count 152 = .ok (.getfield 90, 3) := by decide +kernel
theorem dX6_count_155 : decode cX6_count 155 = .ok (.iconst 1, 1) := by decide +kernel
theorem dX6_count_156 : decode cX6_count 156 = .ok (.iaload, 1) := by decide +kernel
theorem dX6_count_157 : decode cX6_count 157 = .ok (.ireturn, 1) := by decide +kernel
theorem dX6_count_158 : decode cX6_count 158 = .ok (.aload_n 3, 1) := by decide +kernel
theorem dX6_count_159 : decode cX6_count 159 = .ok (.iconst 0, 1) := by decide +kernel
theorem dX6_count_160 : decode cX6_count 160 = .ok (.iaload, 1) := by decide +kernel
theorem dX6_count_161 : decode cX6_count 161 = .ok (.ireturn, 1) := by decide +kernel
theorem dX6_count_162 : decode cX6_count 162 = .ok (.aload_n 3, 1) := by decide +kernel
theorem dX6_count_163 : decode cX6_count 163 = .ok (.iconst 1, 1) := by decide +kernel
theorem dX6_count_164 : decode cX6_count 164 = .ok (.iaload, 1) := by decide +kernel
theorem dX6_count_165 : decode cX6_count 165 = .ok (.ireturn, 1) := by decide +kernel
theorem dX6_count_166 : decode cX6_count 166 = .ok (.aload_n 0, 1) := by decide +kernel
theorem dX6_count_167 : decode cX6_count 167 = .ok (.getfield 11, 3) := by decide +kernel
theorem dX6_count_170 : decode cX6_count 170 = .ok (.ireturn, 1) := by decide +kernel
theorem dX6_count_171 : decode cX6_count 171 = .ok (.aload_n 0, 1) := by decide +kernel
theorem dX6_count_172 : decode cX6_count 172 = .ok (.getfield 22, 3) := by decide +kernel
theorem dX6_count_175 : decode cX6_count 175 = .ok (.ireturn, 1) := by decide +kernel
theorem dX6_count_176 : decode cX6_count 176 = .ok (.iconst (-1), 1) := by decide +kernel
theorem dX6_count_177 : decode cX6_count 177 = .ok (.ireturn, 1) := by decide +kernel
section CL
variable {p : Program} {l : Launch} {e : Env} {R : Room} {s : State} {m : MethodId} {args : Array Value} {below : List Frame} {meth : Method} {c : Code} {D : va_G} {cI cJ cZ cA : ClassId} {ad : Nat → Nat} {A : Nat → Prop} {Q : State → Prop} {h : Hp} {qa : Nat} {S : SS}
set_option maxRecDepth 10000 in
theorem cnt_loop (F : Fx p s m args meth c D cI cJ cZ ad A mX6_count) (hK2 : va_K D classes (tys cI cJ cZ ++ [(cA, .int)]) s) (hD : va_D A (w2 ad cI cJ cZ h qa cA (fC S 0))) (hR : 3 ≤ R.frames ∧ 192 ≤ R.locals ∧ 1 ≤ R.cells ∧ 2 ≤ R.slots) (hM : MQS h S) (hn : S.1 ≤ 10) (a : Int32)
    (fin : ∀ H locs ls, va_P D classes (w2 ad cI cJ cZ h qa cA (fC S S.1)) H → va_S A s.heap H locs → lv_has ls 5 [(4, .int (nI S.1)), (2, .int (hC S S.1)), (3, .ref qa), (0, .ref (ad 54)), (1, .int a)] → W p l e R s m args below meth c H locs 1 2 Q (F0 m 80 ls [])) :
    ∀ (d i : Nat) (H : Heap) (locs : List Loc) (ls : Array Slot), i + d = S.1 → va_P D classes (w2 ad cI cJ cZ h qa cA (fC S i)) H → va_S A s.heap H locs → lv_has ls 5 [(4, .int (nI i)), (2, .int (hC S i)), (3, .ref qa), (0, .ref (ad 54)), (1, .int a)] → W p l e R s m args below meth c H locs 1 2 Q (F0 m 22 ls []) := by
  have hx := F.1
  have hb' := F.2.1
  have hts := F.2.2.2.2.1
  have hown := F.2.2.2.1
  have hKK := F.2.2.2.2.2.1
  obtain ⟨r1, r2, r3, r4⟩ := hR
  have many : ∀ (i : Nat) (H : Heap) (locs : List Loc) (ls : Array Slot) (rest : List Value), va_P D classes (w2 ad cI cJ cZ h qa cA (fC S i)) H → W p l e R s m args below meth c H locs 1 2 Q (F0 m 28 ls (.int (nI S.1) :: rest)) → W p l e R s m args below meth c H locs 1 2 Q (F0 m 25 ls (.ref (ad 54) :: rest)) := by
    intro i H locs ls rest hP k
    obtain ⟨C, T, N, h1, h2, h3, h4⟩ := FL_X6_131
    refine va_get hx hb' (Ts := TB) hts h3 hown hKK (w2_P hP) 54 (wld_o (c := 54) (ci := 6) rfl (by decide)) h1 7 h2 (hts _ h4) (fun _ q => q) (fv_get (k := 7) rfl) dX6_count_25 ?_
    rw [Nat.zero_add, hM.1]
    exact k
  intro d
  induction d with
  | zero =>
    intro i H locs ls hi' hP hS hl
    have : i = S.1 := by omega
    subst this
    refine lv_iload hx hb' dX6_count_22 (lv_at hl 0 rfl) ?_
    refine lv_aload_n hx hb' dX6_count_24 rfl (lv_at hl 3 rfl) ?_
    refine many S.1 H locs ls _ hP ?_
    refine lv_icmp_ge (tgt := 80) hx hb' dX6_count_28 (by decide) (fun c1 => fin H locs ls hP hS hl) (fun c1 => absurd (by rw [le_n (by omega) (by omega)]; omega) c1)
  | succ d ih =>
    intro i H locs ls hi' hP hS hl
    have hin : i < S.1 := by omega
    have hk1 := kX6_isHot h (nI i) _ (M_isHot hM hn hin)
    have hk2 := kX6_flag h (hb S.2.1 S.2.2.1 i) _ (M_flag h (hb01 _ _ _))
    have hk3 := kX6_heatOf h (nI i) _ (M_heatOf hM hn hin)
    have rr1 : 0 + 1 ≤ R.frames ∧ 64 * (0 + 1) ≤ R.locals ∧ 1 ≤ R.cells ∧ 2 ≤ R.slots := ⟨by omega, by omega, r3, r4⟩
    have rr3 : 2 + 1 ≤ R.frames ∧ 64 * (2 + 1) ≤ R.locals ∧ 1 ≤ R.cells ∧ 2 ≤ R.slots := ⟨by omega, by omega, r3, r4⟩
    have hDi := w2_D hD (fC S i)
    refine lv_iload hx hb' dX6_count_22 (lv_at hl 0 rfl) ?_
    refine lv_aload_n hx hb' dX6_count_24 rfl (lv_at hl 3 rfl) ?_
    refine many i H locs ls _ hP ?_
    refine lv_icmp_ge (tgt := 80) hx hb' dX6_count_28 (by decide) (fun c1 => absurd c1 (by rw [le_n (by omega) (by omega)]; omega)) (fun c1 => ?_)
    refine lv_iload_n hx hb' dX6_count_31 rfl (lv_at hl 1 rfl) ?_
    refine lv_aload_n hx hb' dX6_count_32 rfl (lv_at hl 3 rfl) ?_
    refine lv_iload hx hb' dX6_count_33 (lv_at hl 0 rfl) ?_
    refine c2_callV (y := mX6_count) (as := [.int (nI i)]) F hP hDi hS hl dX6_count_35 CV_X6_144 hk1 rr1 rfl (by decide) rfl rfl (Nat.le_of_ble_eq_true rfl) (fun H locs hP hS => ?_)
    refine c2_callS (y := mX6_count) (as := [.int (hb S.2.1 S.2.2.1 i)]) F hP hDi hS hl dX6_count_38 CS_X6_39 hk2 rr1 rfl rfl (Nat.le_of_ble_eq_true rfl) (fun H locs hP hS => ?_)
    refine lv_iload hx hb' dX6_count_41 (lv_at hl 0 rfl) ?_
    refine lv_ishl hx hb' dX6_count_43 ?_
    refine lv_ior hx hb' dX6_count_44 ?_
    refine lv_istore_n (lv' := [(2, .int (hC S (i + 1))), (4, .int (nI i)), (3, .ref qa), (0, .ref (ad 54)), (1, .int a)]) hx hb' dX6_count_45 rfl hl (by decide) rfl (fun ls hl => ?_)
    refine lv_aload_n hx hb' dX6_count_46 rfl (lv_at hl 2 rfl) ?_
    refine lv_aload_n hx hb' dX6_count_47 rfl (lv_at hl 3 rfl) ?_
    refine lv_iload hx hb' dX6_count_48 (lv_at hl 1 rfl) ?_
    refine c2_callV (y := mX6_count) (as := [.int (nI i)]) F hP hDi hS hl dX6_count_50 CV_X6_144 hk1 rr1 rfl (by decide) rfl rfl (Nat.le_of_ble_eq_true rfl) (fun H locs hP hS => ?_)
    -- behind the choice: its place in the row
    have tail : ∀ (ix : Int32) (jx : Nat), ix = nI jx → jx < 2 → upd (fC S i) jx (fC S i jx + S.2.2.2.1 i * (hi S.2.1 S.2.2.1 i - lo S.2.1 S.2.2.1 i)) = fC S (i + 1) → W p l e R s m args below meth c H locs 1 2 Q (F0 m 61 ls [.int ix, .ref qa]) := by
      intro ix jx hix hjx hup
      subst hix
      have hk4 := kX6_flag h (nI jx) _ (M_flag h (by rcases (show jx = 0 ∨ jx = 1 by omega) with rfl | rfl; exact Or.inl rfl; exact Or.inr rfl))
      refine c2_callS (y := mX6_count) (as := [.int (nI jx)]) F hP hDi hS hl dX6_count_61 CS_X6_39 hk4 rr1 rfl rfl (Nat.le_of_ble_eq_true rfl) (fun H locs hP hS => ?_)
      refine lv_dup2_11 hx hb' dX6_count_64 rfl rfl ?_
      have hvi : vp_in (nI jx) 2 := inb_t (inb_n hjx (by decide))
      refine va_iald hx hb' hK2 hP NC 3 w2_r rfl hvi dX6_count_65 ?_
      refine lv_aload_n hx hb' dX6_count_66 rfl (lv_at hl 3 rfl) ?_
      refine lv_iload hx hb' dX6_count_67 (lv_at hl 1 rfl) ?_
      refine c2_callV (y := mX6_count) (as := [.int (nI i)]) F hP hDi hS hl dX6_count_69 CV_X6_184 hk3 rr3 rfl (by decide) rfl rfl (Nat.le_of_ble_eq_true rfl) (fun H locs hP hS => ?_)
      refine lv_iadd hx hb' dX6_count_72 ?_
      refine va_iast hx hb' hK2 hP hDi hS NC 3 w2_r rfl hvi dX6_count_73 (fun H locs hP hD9 hS => ?_)
      rw [w2_set, cl_n (show jx ≤ 100000 by omega), hup] at hP
      refine lv_iinc (v := nI (i + 1)) (k := 1) (lv' := [(4, .int (nI (i + 1))), (2, .int (hC S (i + 1))), (3, .ref qa), (0, .ref (ad 54)), (1, .int a)]) hx hb' dX6_count_74 hl rfl (nI_1 i) (by decide) rfl (fun ls hl => ?_)
      refine lv_goto (tgt := 22) hx hb' dX6_count_77 (by decide) ?_
      exact ih (i + 1) H locs ls (by omega) hP hS hl
    refine lv_if_ne (tgt := 60) hx hb' dX6_count_53 (by decide) (fun c2 => ?_) (fun c2 => ?_)
    · refine lv_iconst (v := 0) hx hb' dX6_count_60 (by decide) ?_
      exact tail 0 0 rfl (by decide) (fC_h ((hb01 _ _ _).resolve_left c2))
    · refine lv_iconst (v := 1) hx hb' dX6_count_56 (by decide) ?_
      refine lv_goto (tgt := 61) hx hb' dX6_count_57 (by decide) ?_
      exact tail 1 1 rfl (by decide) (fC_c c2)
end CL
