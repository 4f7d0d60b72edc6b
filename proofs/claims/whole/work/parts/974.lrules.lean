/-! the law's methods that catch: contracts, calls -/
theorem EX.at {A A1 : Nat → Prop} {s U : State} {H : Heap} {locs : List Loc} (h : EX A s s.heap) (hS : va_S A s.heap H locs) (hW : s.WarmedH U.vm) (hU : U.heap = H) (hA : ∀ q, A1 q → A q) : EX A1 U U.heap := by
  obtain ⟨h1, h2, h3, h4⟩ := h
  refine ⟨?_, ?_, fun q hq => ?_, fun w hw => ?_⟩
  · rw [hU]; exact vx_Zq.moved hW.alike ((h1.kept hS.2.1).narrow hA)
  · rw [hU]; exact vx_Zq.moved hW.alike ((h2.kept hS.2.1).narrow hA)
  · obtain ⟨sa, hsa⟩ := h3 q hq
    exact ⟨sa, vk_R.warm hW hsa⟩
  · have := h4 w hw
    simp only [xNw, List.mem_cons, List.not_mem_nil, or_false] at hw
    rcases hw with rfl | rfl | rfl | rfl
    · exact va_Nw.warmC hW this
    · exact va_Nw.warmD hW this
    · exact va_Nw.warmD hW this
    · exact va_Nw.warmD hW this
theorem EX.bl {A : Nat → Prop} {U : State} {g : JFrame} {mk : MethodId} {a : Array Value} (h : EX A U U.heap) : EX A (U.calling g mk a) (U.calling g mk a).heap := by
  obtain ⟨h1, h2, h3, h4⟩ := h
  refine ⟨vx_Zq.moved (u := U) (U := U.calling g mk a) (Vm.Alike.refl U.vm) h1, vx_Zq.moved (u := U) (U := U.calling g mk a) (Vm.Alike.refl U.vm) h2, fun q hq => ?_, fun w hw => va_Nw.same (xTb w hw) (u := U) (U := U.calling g mk a) rfl (h4 w hw)⟩
  obtain ⟨sa, hsa⟩ := h3 q hq
  exact ⟨sa, vk_R.same (u := U) (U := U.calling g mk a) rfl hsa⟩
theorem FrBX {D : va_G} {cI cJ cZ : ClassId} {ad : Nat → Nat} {sz : Nat} {h : Hp} {as : List Value} {A : Nat → Prop} : FrameBlind (va_Pc as (fun U => U.heap.size = sz ∧ va_P D classes (wld ad cI cJ cZ h) U.heap ∧ va_K D classes (tys cI cJ cZ) U ∧ va_D (fun _ => True) (wld ad cI cJ cZ h) ∧ va_Nw NW U ∧ EX A U U.heap)) := by
  intro a U g mk q
  obtain ⟨q0, q1, qP, qK, qD, qN, qE⟩ := q
  exact ⟨q0, q1, qP, va_K.moved (u := U) (U := U.calling g mk a) (Vm.Alike.refl U.vm) qK, qD, va_Nw.same (u := U) (U := U.calling g mk a) rfl rfl qN, qE.bl⟩
def HasH (s : State) (args : Array Value) (below : List Frame) (hh : List (Nat × Nat × Nat × Nat)) : Prop := ∀ (m' : MethodId) (meth' : Method) (c' : Code), s.frames = .invoking m' args :: below → s.vm.method? m' = some meth' → meth'.code = some c' → c'.exceptionTable.toList = tableOf hh
def GsL (d : Nat) (hh : List (Nat × Nat × Nat × Nat)) (Post : Option Value → Hp → Prop) : Launch → Room → State → Array Value → List Frame → va_G → ClassId → ClassId → ClassId → (Nat → Nat) → (Nat → Prop) → (State → Prop) → Prop :=
  fun l R s args below D cI cJ cZ ad A Q => R = rmx d ∧ l.stackTraces = false ∧ EX A s s.heap ∧ HasH s args below hh ∧ Q = MQ below (QC D cI cJ cZ ad Post A) args s 1 6 A
def KL (d : Nat) (hh : List (Nat × Nat × Nat × Nat)) (y : MI) (as : List Value) (h : Hp) (Post : Option Value → Hp → Prop) : Prop :=
  ∀ (l : Launch), l.stackTraces = false → ∀ (D : va_G) (cI cJ cZ : ClassId) (ad : Nat → Nat) (sz : Nat), Met l y.2.1 (.codeWith y.2.1 y.2.2.1 y.2.2.2.1 y.2.2.2.2 hh :: TB) (rmx d) (va_Pc (as.map (cv ad)) (fun U => U.heap.size = sz ∧ va_P D classes (wld ad cI cJ cZ h) U.heap ∧ va_K D classes (tys cI cJ cZ) U ∧ va_D (fun _ => True) (wld ad cI cJ cZ h) ∧ va_Nw NW U ∧ EX (va_A (wld ad cI cJ cZ h) sz) U U.heap)) (QC D cI cJ cZ ad Post (va_A (wld ad cI cJ cZ h) sz)) 1 6 (va_A (wld ad cI cJ cZ h) sz)
theorem x_ofWH {l : Launch} {y : MethodName} {ws ws' : List Cond} {rm : Room} {Pc : Array Value → State → Prop} {Qc : Array Value → State → Outcome → State → Prop} {mc ms : Nat} {free : Addr → Prop} {cc : ByteArray} {maxL : Nat} {ret : Option FieldType} {hh : List (Nat × Nat × Nat × Nat)} (hy : plainName y.cls = true) (hw : ws = Cond.codeWith y cc maxL ret hh :: ws')
    (body : ∀ p e s m args below meth c s₁, BodyLoose p l y (headSpec ws rm) cc maxL ret e s m args below meth c s₁ → c.maxLocals = maxL → Pc args s → W p l e (headSpec ws rm).room s m args below meth c s.heap [] 0 0 (MQ below Qc args s mc ms free) (entryFrame m args maxL)) : Met l y ws rm Pc Qc mc ms free := by
  refine MetFree.of_bodyS (code := cc) (maxLocals := maxL) (ret := ret) hy ?_ ?_
  · intro args s m h hn
    obtain ⟨m9, meth, c, hn9, h1, h2, h3, h4, -, h5, h6, -⟩ := Cond.codeWith_spec (atoms_spec (ws := ws) h _ (by rw [hw]; exact List.mem_cons_self))
    cases hn.symm.trans hn9
    exact ⟨meth, c, h1, h2, h3, h4, h5, h6⟩
  · intro p e s m args below meth c s₁ B hml hP _
    have hh0 : s₁.heap = s.heap := by rw [B.state]; rfl
    obtain ⟨t, a1, o, b1, b2, b3⟩ := body p e s m args below meth c s₁ B hml hP s₁ hh0 (Stand.of_body B)
    exact ⟨t, o, a1, b1, b2, ⟨b3.1, b3.2⟩⟩
theorem KL.ofV {d : Nat} {hh : List (Nat × Nat × Nat × Nat)} {y : MI} {as : List Value} {h : Hp} {Post : Option Value → Hp → Prop} (hp : plainName y.2.1.cls = true) (hy : y.2.1.cls = y.1) (hlen : (lg_sl as).length ≤ y.2.2.2.1) (hV : V (GsL d hh Post) y (0, 0) 0 (lv_args 0 as) [] h) : KL d hh y as h Post := by
  intro l hst D cI cJ cZ ad sz
  refine x_ofWH (cc := y.2.2.1) (maxL := y.2.2.2.1) (ret := y.2.2.2.2) hp rfl ?_
  intro p e s m args below meth c s₁ B hml hv
  obtain ⟨rfl, hsz, hP, hK, hD0, hNW, hEX⟩ := hv
  have hts := atoms_spec (ws := .codeWith y.2.1 y.2.2.1 y.2.2.2.1 y.2.2.2.2 hh :: TB) B.pre
  have hown : s.vm.findClass y.2.1.cls = some m.cls := findClass_of_methodNamed B.named
  subst hsz
  have hl := lv_entry (as.map (cv ad)) (n := y.2.2.2.1) (by rw [lg_sl_cv]; exact hlen)
  rw [lg_entry_eq]
  rw [lc_args] at hl
  have htab := vx_table (x := y.2.1) B (hts _ List.mem_cons_self)
  refine hV p l e (rmx d) s m _ below meth c D cI cJ cZ ad (va_A (wld ad cI cJ cZ h) s.heap.size) _ ⟨rfl, hst, hEX, ?_, rfl⟩ ⟨B.exec, B.bytes, hml, hy ▸ hown, fun w hw => hts w (List.mem_cons_of_mem _ hw), hK, wld_D hD0.self, B.returns, B.notSynchronized, fun q hq => Or.inr hq, hNW⟩ s.heap [] _ hP va_S.rf hl
  intro m' meth' c' h1 h2 h3
  have e1 := B.frames
  rw [e1] at h1
  cases h1
  have X0 := Stand.of_body B
  cases Option.some.inj (X0.method.symm.trans h2)
  cases Option.some.inj (X0.code.symm.trans h3)
  exact htab
section VL
variable {y y' : MI} {pc pc' : Nat} {L : List (Nat × Value)} {S S0 : List Value} {h : Hp} {d dg i n ci r : Nat} {as : List Value} {q : RXv} {hh : List (Nat × Nat × Nat × Nat)} {Post : Option Value → Hp → Prop} {z : Nat × Nat}
theorem V.liret {x : Int32} (hd : decode y.2.2.1 pc = .ok (.ireturn, 1)) (hr : y.2.2.2.2 = some .int) (h1 : z.1 ≤ 1) (h2 : z.2 ≤ 6) (hQ : Post (some (.int x)) h) : V (GsL d hh Post) y z pc L [.int x] h := by
  intro p l e R s m args below meth c D cI cJ cZ ad A Q G F H locs ls hP hS hh
  obtain ⟨rfl, g1, g2, g3, rfl⟩ := G
  refine W.widen (k := 1) (n := 6) h1 h2 ?_
  exact W.iret (v := x) F.1 F.2.1 (F.2.2.2.2.2.2.2.1.trans hr) (fun t ht hW => ⟨⟨some (.int x), h, rfl, hQ, by rw [ht]; exact hP, va_K.moved hW.alike F.2.2.2.2.2.1⟩, hS.F ht⟩) hS.2.2 hd F.2.2.2.2.2.2.2.2.1
/-- a call that returns or throws; what it throws is caught here: 1 is answered -/
theorem V.callX {a0 b0 hp k ln : Nat} (hhe : hh = [(a0, b0, hp, 13)]) (hd : decode y.2.2.1 pc = .ok (.invokevirtual i, 3)) (hpc : pc + 3 = pc') (cw : CV y.1 i ci n y') (hK : KX dg y' (.ref r :: as) h q) (hdg : dg + 1 ≤ d) (hr : ck r = ci) (hci : ci < 7) (hn : as.length = n) (hcat : (S.map fun v => v.category).sum ≤ 8) (hst : as.reverse ++ .ref r :: S = S0)
    (hy : y.1 = "HeatPinchLaw") (hyr : y.2.2.2.2 = some .int) (hcov : covers (⟨a0, b0, hp, 13⟩ : ExceptionTableEntry) pc = true) (e0 : (decode y.2.2.1 hp = .ok (.astore k, 2) ∧ ln = 2) ∨ (∃ kk : Fin 4, (kk : Nat) = k ∧ decode y.2.2.1 hp = .ok (.astore_n kk, 1) ∧ ln = 1)) (hk : k < y.2.2.2.1) (e1 : decode y.2.2.1 (hp + ln) = .ok (.iconst 1, 1)) (e2 : decode y.2.2.1 (hp + ln + 1) = .ok (.ireturn, 1))
    (kx : q.1 = none → Post (some (.int 1)) q.2) (kk : ∀ v, q.1 = some v → V (GsL d hh Post) y (1, 6) pc' L (v :: S) q.2) : V (GsL d hh Post) y (0, 0) pc L S0 h := by
  subst hpc; subst hst; subst hhe
  intro p l e R s m args below meth c D cI cJ cZ ad A Q G F H locs ls hP hS hh
  have G0 := G
  obtain ⟨rfl, g1, g2, g3, rfl⟩ := G
  obtain ⟨⟨c1, c2, c3, c4, c5, c6, c7⟩, c8, c9, T, N, c10⟩ := cw
  have hts := F.2.2.2.2.1
  have hKK := F.2.2.2.2.2.1
  have hA1 := A_le (h := h) F hS
  have RN := vx_runV (e := e) (bytes := y'.2.2.1) (maxL := y'.2.2.2.1) (ret := y'.2.2.2.2) (C := y'.1) (As := as.map (cv ad)) (rest := S.map (cv ad)) (b := ad r) (n := n) (g := F0 m pc ls ((as.reverse ++ .ref r :: S).map (cv ad))) (R := rmx d) (below := below) (locs := locs) (cells := 0) (slots := 0) (meth := meth) ⟨F.1, F.2.1, F.2.2.1, F.2.2.2.1, hts⟩ (hK l g1 D cI cJ cZ ad H.size) ⟨callB_of n hts (TB_good c4) rfl rfl rfl (by rw [c1]; exact hts _ c3) (hts _ c2) ⟨c6.1, c6.2, c7⟩ ⟨hdg, by show 8 + (y'.2.2.2.1 + 11) + 64 * dg ≤ 64 * d; omega⟩, hts _ c8, hts _ c9⟩ ⟨FrBX, va_recv hKK hP c10 (wld_o hr hci), fun U hU hW => ⟨rfl, by rw [hU], by rw [hU]; exact hP, va_K.moved hW.alike hKK, (F.2.2.2.2.2.2.1 h).weaken (fun _ _ _ _ => trivial), va_Nw.warmM hW F.2.2.2.2.2.2.2.2.2.2, EX.at g2 hS hW hU hA1⟩⟩ rfl (by rw [List.length_map]; exact hn) hh.1 (by simp [cv]) (cat8 hcat) hd ⟨by show 0 + 1 ≤ 1; omega, by show 0 + 6 ≤ 6; omega⟩
  intro T hT X
  rcases RN T hT X with ⟨v, st₀, t, T', L1, h0, X', hL, f1, f2, ⟨⟨v', h', hv, hp', hPt, hKt⟩, hz, hk'⟩, st⟩ | ⟨q9, st₀, t, T', L1, E, ce, h0, X', hL, f1, f2, ⟨x1, x2, hPt, hKt, hz, hk'⟩, hce, hcv, hcl, st⟩
  · cases hv
    rw [h0] at hz hk'
    obtain ⟨⟨w0, p0⟩, p1, p2⟩ := hp'
    have hS' : va_S A s.heap T'.heap (locs ++ L1) := ⟨Nat.le_trans hS.1 (by rw [f1]; exact hz), fun q h1 h2 => by rw [f1, hk' q (Nat.lt_of_lt_of_le h1 hS.1) (fun z => h2 (hA1 q z))]; exact hS.2.1 q h1 h2, fun q hq => by
      rcases List.mem_append.mp hq with h | h
      · exact hS.2.2 q h
      · exact hA1 _ (hL q h)⟩
    subst p2
    cases hq1 : q.1 with
    | none =>
      -- nothing is returned: it can't be
      rw [hq1, p0] at p1
      cases p1
    | some v0 =>
      rw [hq1] at p1
      subst p1
      have KK := kk v0 hq1 p l e (rmx d) s m args below meth c D cI cJ cZ ad A _ G0 F T'.heap (locs ++ L1) ls (by rw [f1]; exact hPt) hS' hh
      obtain ⟨t2, a1, b1⟩ := KK T' rfl X'
      exact ⟨t2, st t2 a1, b1⟩
  · subst x1
    rw [h0] at hz hk'
    have hS' : va_S A s.heap T'.heap (locs ++ L1) := ⟨Nat.le_trans hS.1 (by rw [f1]; exact hz), fun q h1 h2 => by rw [f1, hk' q (Nat.lt_of_lt_of_le h1 hS.1) (fun z => h2 (hA1 q z))]; exact hS.2.1 q h1 h2, fun q hq => by
      rcases List.mem_append.mp hq with h | h
      · exact hS.2.2 q h
      · exact hA1 _ (hL q h)⟩
    have htab := g3 m meth c X.frames X.method X.code
    have WX : W p l e (rmx d) s m args below meth c T'.heap (locs ++ L1) 1 6 (MQ below (QC D cI cJ cZ ad Post A) args s 1 6 A) (F0 m hp ls [.ref q9]) := by
      have fin : ∀ ls' : Array Slot, W p l e (rmx d) s m args below meth c T'.heap (locs ++ L1) 1 6 (MQ below (QC D cI cJ cZ ad Post A) args s 1 6 A) (F0 m (hp + ln) ls' []) := by
        intro ls'
        refine lv_iconst (v := 1) F.1 F.2.1 e1 (by decide) ?_
        exact W.iret (v := 1) F.1 F.2.1 (F.2.2.2.2.2.2.2.1.trans hyr) (fun t' ht hW => ⟨⟨some (.int 1), q.2, rfl, kx x2, by rw [ht, f1]; exact hPt, va_K.moved hW.alike F.2.2.2.2.2.1⟩, hS'.F ht⟩) hS'.2.2 e2 F.2.2.2.2.2.2.2.2.1
      rcases e0 with ⟨e0, rfl⟩ | ⟨kf, rfl, e0, rfl⟩
      · exact lv_astore F.1 F.2.1 e0 hh hk rfl (fun ls' _ => fin ls')
      · exact lv_astore_n F.1 F.2.1 e0 rfl hh hk rfl (fun ls' _ => fin ls')
    have CT := vx_catch (own := y.1) (name := NSE) (E := NSE) (ce := ce) (q := q9) (H := T'.heap) (locs := locs ++ L1) (cells := 1) (slots := 6) (pc := pc) (ls := ls) (rest := S.map (cv ad)) F.2.2.2.1 [] ⟨a0, b0, hp, 13⟩ [] (by rw [htab]; rfl) (fun z hz => nomatch hz) hcov (show (13 : Nat) ≠ 0 by decide) (hy ▸ hts _ (xIn0 _ (by simp))) (va_Nw.use rfl (g2.2.2.2 _ (by simp [xNw]))) (by rw [f1]; exact hce) hcv hcl WX
    obtain ⟨t2, a1, b1⟩ := CT T' rfl X'
    exact ⟨t2, st.trans a1, b1⟩
end VL
