/-! the law: its context, its rows -/
abbrev mL_law : MI := (RL, x, code, 8, ret)
def Gl (b Ln : Nat) (xs : Nat → Int32) : Launch → Room → State → Array Value → List Frame → va_G → ClassId → ClassId → ClassId → (Nat → Nat) → (Nat → Prop) → (State → Prop) → Prop :=
  fun l R s args below _ _ _ _ ad A Q => R = room_1 ∧ args = #[Value.ref b] ∧ ad 75 = b ∧ (∀ q, A q ↔ s.heap.size ≤ q) ∧ va_X b Ln xs s s.heap ∧ b < s.heap.size ∧ l.stackTraces = false ∧ EX A s s.heap ∧ Q = lw_Z below #[Value.ref b] s
theorem Gl_rm {b Ln d c0 s0 : Nat} {xs : Nat → Int32} (h1 : d ≤ 1000) (h2 : c0 ≤ 100000) (h3 : s0 ≤ 100000) : RmOk (Gl b Ln xs) d c0 s0 := by
  intro l R s args below D cI cJ cZ ad A Q G
  obtain ⟨rfl, -⟩ := G
  have a1 : room_1.frames = 2048 := rfl
  have a2 : room_1.locals = 84000 := rfl
  have a3 : room_1.cells = 601024 := rfl
  have a4 : room_1.slots = 7293034 := rfl
  refine ⟨?_, ?_, ?_, ?_⟩ <;> omega
section VLw
variable {b Ln : Nat} {xs : Nat → Int32} {y y' : MI} {z z' : Nat × Nat} {pc pc' : Nat} {L : List (Nat × Value)} {S S0 : List Value} {h : Hp} {i n dg ci r : Nat} {as : List Value} {Post : Option Value → Hp → Prop}
theorem V.wid {Γ : Launch → Room → State → Array Value → List Frame → va_G → ClassId → ClassId → ClassId → (Nat → Nat) → (Nat → Prop) → (State → Prop) → Prop} (h1 : z.1 ≤ z'.1) (h2 : z.2 ≤ z'.2) (k : V Γ y z' pc L S h) : V Γ y z pc L S h := by
  intro p l e R s m args below meth c D cI cJ cZ ad A Q G F H locs ls hP hS hh
  exact W.widen h1 h2 (k p l e R s m args below meth c D cI cJ cZ ad A Q G F H locs ls hP hS hh)
theorem V.sld {v : Int32} (hd : decode y.2.2.1 pc = .ok (.iaload, 1)) (hp : pc + 1 = pc') (hin : vp_in v Ln) (k : V (Gl b Ln xs) y z pc' L (.int (xs v.toNatClampNeg) :: S) h) : V (Gl b Ln xs) y z pc L (.int v :: .ref 75 :: S) h := by
  subst hp
  intro p l e R s m args below meth c D cI cJ cZ ad A Q G F H locs ls hP hS hh
  have G0 := G
  obtain ⟨rfl, rfl, g1, g2, g3, g4, g5, g6, rfl⟩ := G
  have KK := k p l e room_1 s m _ below meth c D cI cJ cZ ad A _ G0 F H locs ls hP hS hh
  show W p l e room_1 s m _ below meth c H locs z.1 z.2 _ (F0 m pc ls (.int v :: .ref (ad 75) :: S.map (cv ad)))
  rw [g1]
  exact va_sld F.1 F.2.1 g3 g4 (fun q => absurd ((g2 b).mp q) (Nat.not_le.mpr g4)) hS hin hd KK
theorem V.slen (hd : decode y.2.2.1 pc = .ok (.arraylength, 1)) (hp : pc + 1 = pc') (k : V (Gl b Ln xs) y z pc' L (.int (nI Ln) :: S) h) : V (Gl b Ln xs) y z pc L (.ref 75 :: S) h := by
  subst hp
  intro p l e R s m args below meth c D cI cJ cZ ad A Q G F H locs ls hP hS hh
  have G0 := G
  obtain ⟨rfl, rfl, g1, g2, g3, g4, g5, g6, rfl⟩ := G
  have KK := k p l e room_1 s m _ below meth c D cI cJ cZ ad A _ G0 F H locs ls hP hS hh
  show W p l e room_1 s m _ below meth c H locs z.1 z.2 _ (F0 m pc ls (.ref (ad 75) :: S.map (cv ad)))
  rw [g1]
  exact va_slen F.1 F.2.1 g3 g4 (fun q => absurd ((g2 b).mp q) (Nat.not_le.mpr g4)) hS hd KK
/-- a number of the script -/
theorem V.scr {k j j' : Nat} {kc : Int} (hL : L[j]? = some (4, .int (nI i))) (hL' : L[j']? = some (0, .ref 75)) (d0 : decode code pc = .ok (.aload_n 0, 1)) (d1 : decode code (pc + 1) = .ok (.iload 4, 2)) (d3 : decode code (pc + 3) = .ok (.iconst kc, 1)) (hkc : Int32.ofInt kc = nI k) (d4 : decode code (pc + 4) = .ok (.iadd, 1)) (d5 : decode code (pc + 5) = .ok (.iaload, 1)) (hp : pc + 6 = pc') (hik : i + k < Ln) (hLn : Ln ≤ 2560) (kk : V (Gl b Ln xs) mL_law z pc' L (.int (xs (i + k)) :: S) h) : V (Gl b Ln xs) mL_law z pc L S h := by
  subst hp
  refine V.alq (y := mL_law) d0 rfl (j := j') hL' ?_
  refine V.il (y := mL_law) d1 rfl (j := j) hL ?_
  refine V.iconst (y := mL_law) d3 rfl hkc ?_
  refine V.iadd (y := mL_law) d4 rfl ?_
  rw [nI_add]
  refine V.sld (y := mL_law) d5 rfl (vp_in_nI hik (by omega)) ?_
  rw [cl_n (show i + k ≤ 100000 by omega)]
  exact kk
def bx (v : Int32) : Int32 := if v = 0 then 0 else 1
/-- whether a number isn't 0 -/
theorem V.bl {v : Int32} (d0 : decode code pc = .ok (.ifCond .eq 7, 3)) (d3 : decode code (pc + 3) = .ok (.iconst 1, 1)) (d4 : decode code (pc + 4) = .ok (.goto 4, 3)) (d7 : decode code (pc + 7) = .ok (.iconst 0, 1)) (hp : pc + 8 = pc') (kk : V (Gl b Ln xs) mL_law z pc' L (.int (bx v) :: S) h) : V (Gl b Ln xs) mL_law z pc L (.int v :: S) h := by
  subst hp
  refine V.if_eq (y := mL_law) d0 rfl (tgt := pc + 7) (by omega) (fun c => ?_) (fun c => ?_)
  · refine V.iconst (y := mL_law) d7 rfl (v := 0) (by decide) ?_
    unfold bx at kk
    rw [if_pos c] at kk
    exact kk
  · refine V.iconst (y := mL_law) d3 rfl (v := 1) (by decide) ?_
    refine V.goto (y := mL_law) d4 (pc' := pc + 8) (by omega) ?_
    unfold bx at kk
    rw [if_neg c] at kk
    exact kk
/-- the law's end: true -/
theorem V.lawEnd (hd : decode code pc = .ok (.ireturn, 1)) (h1 : z.1 ≤ 601024) (h2 : z.2 ≤ 7293034) : V (Gl b Ln xs) mL_law z pc L [.int 1] h := by
  intro p l e R s m args below meth c D cI cJ cZ ad A Q G F H locs ls hP hS hh
  obtain ⟨rfl, rfl, g1, g2, g3, g4, g5, g6, rfl⟩ := G
  refine va_forget (fun q hq => (g2 _).mp (hS.2.2 q hq)) ?_
  refine W.widen h1 h2 ?_
  exact lw_ret F.1 F.2.1 F.2.2.2.2.2.2.2.1 F.2.2.2.2.2.2.2.2.1 hd
/-- what comes back from a call that made some cells -/
theorem V.backM {mc ms : Nat} {Γ : Launch → Room → State → Array Value → List Frame → va_G → ClassId → ClassId → ClassId → (Nat → Nat) → (Nat → Prop) → (State → Prop) → Prop} {p : Program} {l : Launch} {e : Env} {R : Room} {s : State} {m : MethodId} {args : Array Value} {below : List Frame} {meth : Method} {c : Code} {D : va_G} {cI cJ cZ : ClassId} {ad : Nat → Nat} {A A1 : Nat → Prop} {Q : State → Prop} (G : Γ l R s args below D cI cJ cZ ad A Q) (F : Fx p s m args meth c D cI cJ cZ ad A y) {H : Heap} {locs : List Loc} {ls : Array Slot} {st0 : List Value} {a : Array Value} (hA1 : ∀ q, A1 q → A q) (hS : va_S A s.heap H locs) (hh : lv_has ls y.2.2.2.1 (lc ad L))
    (hr : va_Run p l e R s m args below meth c H locs z.1 z.2 mc ms (F0 m pc ls st0) (S.map (cv ad)) (QC D cI cJ cZ ad Post A1 a) A1) (kk : ∀ v h', Post v h' → V Γ y (z.1 + mc, z.2 + ms) (pc + 3) L (v.toList ++ S) h') : W p l e R s m args below meth c H locs z.1 z.2 Q (F0 m pc ls st0) := by
  intro T hT X
  obtain ⟨v, st₀, t, T', L1, h0, X', hL, e1, e2, ⟨⟨v', h', hv, hp, hPt, hKt⟩, hz, hk⟩, st⟩ := hr T hT X
  cases hv
  rw [h0] at hz hk
  have KK := kk v' h' hp p l e R s m args below meth c D cI cJ cZ ad A Q G F T'.heap (locs ++ L1) ls (by rw [e1]; exact hPt)
    ⟨Nat.le_trans hS.1 (by rw [e1]; exact hz), fun q h1 h2 => by rw [e1, hk q (Nat.lt_of_lt_of_le h1 hS.1) (fun z => h2 (hA1 q z))]; exact hS.2.1 q h1 h2, fun q hq => by
      rcases List.mem_append.mp hq with h | h
      · exact hS.2.2 q h
      · exact hA1 _ (hL q h)⟩ hh
  rw [show (v'.toList ++ S).map (cv ad) = (v'.map (cv ad)).toList ++ S.map (cv ad) by cases v' <;> simp] at KK
  obtain ⟨t2, a1, b1⟩ := KK T' rfl X'
  exact ⟨t2, st t2 a1, b1⟩
/-- count of the reference -/
theorem V.callC {q : Int32 × Hp} (hd : decode y.2.2.1 pc = .ok (.invokevirtual i, 3)) (hp : pc + 3 = pc') (cw : CV y.1 i ci n y') (hK : KC dg y' (.ref r :: as) h q) (hR : RmOk (Gl b Ln xs) (dg + 1) (z.1 + 1) (z.2 + 2)) (hr : ck r = ci) (hci : ci < 7) (hn : as.length = n) (hcat : (S.map fun v => v.category).sum ≤ 8) (hst : as.reverse ++ .ref r :: S = S0) (kk : V (Gl b Ln xs) y (z.1 + 1, z.2 + 2) pc' L (.int q.1 :: S) q.2) : V (Gl b Ln xs) y z pc L S0 h := by
  subst hp; subst hst
  intro p l e R s m args below meth c D cI cJ cZ ad A Q G F H locs ls hP hS hh
  obtain ⟨⟨c1, c2, c3, c4, c5, c6, c7⟩, c8, c9, T, N, c10⟩ := cw
  obtain ⟨r1, r2, r3, r4⟩ := hR _ _ _ _ _ _ _ _ _ _ _ _ G
  have hts := F.2.2.2.2.1
  have hKK := F.2.2.2.2.2.1
  refine V.backM G F (A_le (h := h) F hS) hS hh (a := (Value.ref (ad r) :: as.map (cv ad)).toArray) (va_runV (bytes := y'.2.2.1) (maxL := y'.2.2.2.1) (ret := y'.2.2.2.2) (C := y'.1) (As := as.map (cv ad)) (rest := S.map (cv ad)) (b := ad r) (n := n) ⟨F.1, F.2.1, F.2.2.1, F.2.2.2.1, hts⟩ (hK l D cI cJ cZ ad H.size) ⟨?_, hts _ c8, hts _ c9⟩ ⟨FrB, va_recv hKK hP c10 (wld_o hr hci), fun U hU hW => ⟨rfl, by rw [hU], by rw [hU]; exact hP, va_K.moved hW.alike hKK, (F.2.2.2.2.2.2.1 h).weaken (fun _ _ _ _ => trivial), va_Nw.warmM hW F.2.2.2.2.2.2.2.2.2.2⟩⟩ rfl (by rw [List.length_map]; exact hn) hh.1 (by simp [cv]) (cat8 hcat) hd ⟨r3, r4⟩) (fun v k e => by obtain ⟨rfl, rfl⟩ := e; exact kk)
  exact callB_of n hts (TB_good c4) rfl rfl rfl (by rw [c1]; exact hts _ c3) (hts _ c2) ⟨c6.1, c6.2, c7⟩ ⟨r1, by show 8 + (y'.2.2.2.1 + 11) + 64 * dg ≤ R.locals; omega⟩
/-- the words of a call of a method with a table -/
def CT (own : String) (idx n : Nat) (hh : List (Nat × Nat × Nat × Nat)) (y' : MI) : Prop :=
  y'.2.1.cls = y'.1 ∧ Cond.methodLink own idx y'.2.1 ∈ TB ∧ Cond.initialized y'.1 ∈ TB ∧ Cond.codeWith y'.2.1 y'.2.2.1 y'.2.2.2.1 y'.2.2.2.2 hh ∈ TB ∧ y'.2.2.2.1 ≤ 40 ∧ (y'.2.1.cls ≠ "java/lang/invoke/MethodHandle" ∧ y'.2.1.cls ≠ "java/lang/invoke/VarHandle") ∧ (parseMethodDescriptor y'.2.1.desc).map (fun d => d.parameters.length) = some n ∧ Cond.static y'.2.1 ∈ TB
theorem V.callL {hh : List (Nat × Nat × Nat × Nat)} (hd : decode y.2.2.1 pc = .ok (.invokestatic i, 3)) (hp : pc + 3 = pc') (cw : CT y.1 i n hh y') (hK : KL dg hh y' as h Post) (hR : RmOk (Gl b Ln xs) (dg + 1) (z.1 + 1) (z.2 + 6)) (hn : as.length = n) (hcat : (S.map fun v => v.category).sum ≤ 8) (hst : as.reverse ++ S = S0) (kk : ∀ v h', Post v h' → V (Gl b Ln xs) y (z.1 + 1, z.2 + 6) pc' L (v.toList ++ S) h') : V (Gl b Ln xs) y z pc L S0 h := by
  subst hp; subst hst
  intro p l e R s m args below meth c D cI cJ cZ ad A Q G F H locs ls hP hS hl
  obtain ⟨c1, c2, c3, c4, c5, c6, c7, c8⟩ := cw
  obtain ⟨r1, r2, r3, r4⟩ := hR _ _ _ _ _ _ _ _ _ _ _ _ G
  have G0 := G
  obtain ⟨rfl, rfl, g1, g2, g3, g4, g5, g6, rfl⟩ := G
  have hts := F.2.2.2.2.1
  have hKK := F.2.2.2.2.2.1
  have hA1 := A_le (h := h) F hS
  have gd4 : GoodIn TB (.codeWith y'.2.1 y'.2.2.1 y'.2.2.2.1 y'.2.2.2.2 hh :: TB) := by
    intro w hw
    have hm : w ∈ TB := by
      rcases List.mem_cons.mp hw with e | e
      · rw [e]; exact c4
      · exact e
    exact ⟨hm, good_of_word (List.mem_filter.mp hm).2⟩
  refine V.backM G0 F hA1 hS hl (a := (as.map (cv ad)).toArray) (vx_runSW (bytes := y'.2.2.1) (maxL := y'.2.2.2.1) (ret := y'.2.2.2.2) (As := as.map (cv ad)) (rest := S.map (cv ad)) (n := n) (hh := hh) ⟨F.1, F.2.1, F.2.2.1, F.2.2.2.1, hts⟩ (hK l g5 D cI cJ cZ ad H.size) ⟨⟨rfl, rfl, r1, by show 8 + (y'.2.2.2.1 + 11) + 64 * dg ≤ room_1.locals; omega, pay_in hts gd4, List.mem_cons_self⟩, hts _ c4, by rw [c1]; exact hts _ c3, c6, fun sig hsig => ?_, hts _ c2, hts _ c8⟩ ⟨FrBX, fun U hU hW => ⟨rfl, by rw [hU], by rw [hU]; exact hP, va_K.moved hW.alike hKK, (F.2.2.2.2.2.2.1 h).weaken (fun _ _ _ _ => trivial), va_Nw.warmM hW F.2.2.2.2.2.2.2.2.2.2, EX.at g6 hS hW hU hA1⟩⟩ rfl (by rw [List.length_map]; exact hn) hl.1 (by simp) (cat8 hcat) hd ⟨r3, r4⟩) kk
  rw [hsig] at c7
  exact (Option.some.inj c7).symm
end VLw
