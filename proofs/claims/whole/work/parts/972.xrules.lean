/-! methods that throw: the judgement's contexts, contracts, ends -/
def NSE : String := "java/util/NoSuchElementException"
def strs : List (Nat × String) := [(125, "no such stream, or nothing such of it"), (135, "no such border"), (267, "no such match, or nothing such of it"), (320, "the row has no such number")]
/-- words that stay, though they are no good ones -/
def xNw : List Cond := [Cond.castable NSE NSE, Cond.declares (Bundle.initS "java/lang/RuntimeException"), Cond.declares (Bundle.initS "java/lang/Exception"), Cond.declares (Bundle.initS Bundle.tN)]
theorem xTb : ∀ w ∈ xNw, w.onTables = true := by decide +kernel
/-- what a throw needs of the start -/
def EX (A : Nat → Prop) (U : State) (H : Heap) : Prop := vx_Zq Bundle.tN "UNASSIGNED_STACK" Bundle.steD A U H ∧ vx_Zq Bundle.tN "SUPPRESSED_SENTINEL" Bundle.listD A U H ∧ (∀ q ∈ strs, ∃ sa, vk_R RX5 q.1 q.2 sa U) ∧ ∀ w ∈ xNw, va_Nw w U
abbrev RXv : Type := Option Value × Hp
def pX (q : RXv) : Option Value → Hp → Prop := fun v k => (∃ w, v = some w) ∧ v = q.1 ∧ k = q.2
def XQ (D : va_G) (cI cJ cZ : ClassId) (ad : Nat → Nat) (q : RXv) (A : Nat → Prop) : String → State → State → Prop := fun E st t => E = NSE ∧ q.1 = none ∧ va_P D classes (wld ad cI cJ cZ q.2) t.heap ∧ va_K D classes (tys cI cJ cZ) t ∧ va_F A st t
abbrev rmx (d : Nat) : Room := { frames := d, cells := 1, slots := 6, locals := 64 * d }
/-- no handler of its own -/
def NoH (s : State) (args : Array Value) (below : List Frame) : Prop := ∀ (m' : MethodId) (meth' : Method) (c' : Code), s.frames = .invoking m' args :: below → s.vm.method? m' = some meth' → meth'.code = some c' → ∀ x ∈ c'.exceptionTable.toList, False
def GsX (d : Nat) (q : RXv) : Launch → Room → State → Array Value → List Frame → va_G → ClassId → ClassId → ClassId → (Nat → Nat) → (Nat → Prop) → (State → Prop) → Prop :=
  fun l R s args below D cI cJ cZ ad A Q => R = rmx d ∧ l.stackTraces = false ∧ EX A s s.heap ∧ NoH s args below ∧ Q = vx_MQ below (QC D cI cJ cZ ad (pX q) A) (XQ D cI cJ cZ ad q A) args s 1 6 A
theorem GsX_rm {d d' : Nat} {q : RXv} (h : d' ≤ d) : RmOk (GsX d q) d' 0 0 := by
  intro l R s args below D cI cJ cZ ad A Q G
  obtain ⟨rfl, -⟩ := G
  exact ⟨h, Nat.mul_le_mul_left 64 h, Nat.zero_le _, Nat.zero_le _⟩
/-- the contract of a method that returns or throws -/
def KX (d : Nat) (y : MI) (as : List Value) (h : Hp) (q : RXv) : Prop :=
  ∀ (l : Launch), l.stackTraces = false → ∀ (D : va_G) (cI cJ cZ : ClassId) (ad : Nat → Nat) (sz : Nat), vx_Met l y.2.1 (.code y.2.1 y.2.2.1 y.2.2.2.1 y.2.2.2.2 :: TB) (rmx d) (va_Pc (as.map (cv ad)) (fun U => U.heap.size = sz ∧ va_P D classes (wld ad cI cJ cZ h) U.heap ∧ va_K D classes (tys cI cJ cZ) U ∧ va_D (fun _ => True) (wld ad cI cJ cZ h) ∧ va_Nw NW U ∧ EX (va_A (wld ad cI cJ cZ h) sz) U U.heap)) (QC D cI cJ cZ ad (pX q) (va_A (wld ad cI cJ cZ h) sz)) (XQ D cI cJ cZ ad q (va_A (wld ad cI cJ cZ h) sz)) 1 6 (va_A (wld ad cI cJ cZ h) sz)
theorem KX.ofV {d : Nat} {y : MI} {as : List Value} {h : Hp} {q : RXv} (hp : plainName y.2.1.cls = true) (hy : y.2.1.cls = y.1) (hlen : (lg_sl as).length ≤ y.2.2.2.1) (hV : V (GsX d q) y (0, 0) 0 (lv_args 0 as) [] h) : KX d y as h q := by
  intro l hst D cI cJ cZ ad sz
  refine vx_ofW (cc := y.2.2.1) (maxL := y.2.2.2.1) (ret := y.2.2.2.2) hp rfl ?_
  intro p e s m args below meth c s₁ B hml hE hv
  obtain ⟨rfl, hsz, hP, hK, hD0, hNW, hEX⟩ := hv
  have hts := atoms_spec (ws := .code y.2.1 y.2.2.1 y.2.2.2.1 y.2.2.2.2 :: TB) B.pre
  have hown : s.vm.findClass y.2.1.cls = some m.cls := findClass_of_methodNamed B.named
  subst hsz
  have hl := lv_entry (as.map (cv ad)) (n := y.2.2.2.1) (by rw [lg_sl_cv]; exact hlen)
  rw [lg_entry_eq]
  rw [lc_args] at hl
  refine hV p l e (rmx d) s m _ below meth c D cI cJ cZ ad (va_A (wld ad cI cJ cZ h) s.heap.size) _ ⟨rfl, hst, hEX, ?_, rfl⟩ ⟨B.exec, B.bytes, hml, hy ▸ hown, fun w hw => hts w (List.mem_cons_of_mem _ hw), hK, wld_D hD0.self, B.returns, B.notSynchronized, fun q hq => Or.inr hq, hNW⟩ s.heap [] _ hP va_S.rf hl
  intro m' meth' c' h1 h2 h3
  have e1 := B.frames
  rw [e1] at h1
  cases h1
  have X0 := Stand.of_body B
  cases Option.some.inj (X0.method.symm.trans h2)
  cases Option.some.inj (X0.code.symm.trans h3)
  exact hE
theorem fnX {v : Value} {h : Hp} {q : RXv} (e : some (some v, h) = some q) : pX q (some v) h := by
  have e' := Option.some.inj e
  subst e'
  exact ⟨⟨v, rfl⟩, rfl, rfl⟩
section VX
variable {y : MI} {pc : Nat} {L : List (Nat × Value)} {S : List Value} {h : Hp} {d : Nat} {q : RXv}
theorem V.xiret {x : Int32} (hd : decode y.2.2.1 pc = .ok (.ireturn, 1)) (hr : y.2.2.2.2 = some .int) (hQ : pX q (some (.int x)) h) : V (GsX d q) y (0, 0) pc L [.int x] h := by
  intro p l e R s m args below meth c D cI cJ cZ ad A Q G F H locs ls hP hS hh
  obtain ⟨rfl, g1, g2, g3, rfl⟩ := G
  refine W.widen (k := 1) (n := 6) (Nat.zero_le _) (Nat.zero_le _) (vx_ret ?_)
  exact W.iret (v := x) F.1 F.2.1 (F.2.2.2.2.2.2.2.1.trans hr) (fun t ht hW => ⟨⟨some (.int x), h, rfl, hQ, by rw [ht]; exact hP, va_K.moved hW.alike F.2.2.2.2.2.1⟩, hS.F ht⟩) hS.2.2 hd F.2.2.2.2.2.2.2.2.1
theorem V.xlret {x : Int64} (hd : decode y.2.2.1 pc = .ok (.lreturn, 1)) (hr : y.2.2.2.2 = some .long) (hQ : pX q (some (.long x)) h) : V (GsX d q) y (0, 0) pc L [.long x] h := by
  intro p l e R s m args below meth c D cI cJ cZ ad A Q G F H locs ls hP hS hh
  obtain ⟨rfl, g1, g2, g3, rfl⟩ := G
  refine W.widen (k := 1) (n := 6) (Nat.zero_le _) (Nat.zero_le _) (vx_ret ?_)
  exact W.lret (v := x) F.1 F.2.1 (F.2.2.2.2.2.2.2.1.trans hr) (fun t ht hW => ⟨⟨some (.long x), h, rfl, hQ, by rw [ht]; exact hP, va_K.moved hW.alike F.2.2.2.2.2.1⟩, hS.F ht⟩) hS.2.2 hd F.2.2.2.2.2.2.2.2.1
abbrev xRx : ByteArray := prog_15_method_4_code
abbrev xAll : List Cond := xW RX5 127 NSE "java/lang/RuntimeException" 13 xRx ["java/lang/Exception"]
abbrev xAt : List Cond := xAll.filter vx_no
theorem xd0 : decode xRx 0 = .ok (.aload_n 0, 1) := by decide +kernel
theorem xd1 : decode xRx 1 = .ok (.aload_n 1, 1) := by decide +kernel
theorem xd2 : decode xRx 2 = .ok (.invokespecial 13, 3) := by decide +kernel
theorem xd5 : decode xRx 5 = .ok (.return_, 1) := by decide +kernel
theorem xFit : Bundle.fit NSE = true ∧ Bundle.fit "java/lang/RuntimeException" = true ∧ ∀ n ∈ ["java/lang/Exception"], Bundle.fit n = true := by decide +kernel
theorem xIn0 : ∀ w ∈ [Cond.classLink RX5 123 NSE, Cond.initialized NSE, Cond.classLink "HeatPinchLaw" 13 NSE], w ∈ TB := by decide +kernel
theorem xIn1 : ∀ w ∈ xAt.filter goodWord, w ∈ TB := by decide +kernel
theorem xIn2 : ∀ w ∈ xAt.filter (fun w => !goodWord w), w ∈ xNw := by decide +kernel
theorem xGood : ∀ w ∈ Cond.classLink RX5 123 NSE :: Cond.initialized NSE :: xAt, vx_ot w = true := by decide +kernel
theorem xThr {A : Nat → Prop} {s : State} {H : Heap} {locs : List Loc} {D : va_G} {cI cJ cZ : ClassId} {ad : Nat → Nat} {q : RXv} (hS : va_S A s.heap H locs) (hP : va_P D classes (wld ad cI cJ cZ h) H) (hK : va_K D classes (tys cI cJ cZ) s) (hQ : (none, h) = q) (t : State) (hvm : s.vm.Alike t.vm) (hz : H.size ≤ t.heap.size) (hk : ∀ q : Nat, q < H.size → t.heap[q]? = H[q]?) : XQ D cI cJ cZ ad q A NSE s t := by
  subst hQ
  exact ⟨rfl, rfl, hP.kept (fun k q hq => hk q.1 ((hP k q hq).lt)), va_K.moved hvm hK, Nat.le_trans hS.1 hz, fun q h1 h2 => (hk q (Nat.lt_of_lt_of_le h1 hS.1)).trans (hS.2.1 q h1 h2)⟩
theorem V.xthrowS {is : Nat} {tx : String} (hy : y.1 = RX5) (hi : (is, tx) ∈ strs) (d0 : decode y.2.2.1 pc = .ok (.new 123, 3)) (d3 : decode y.2.2.1 (pc + 3) = .ok (.dup, 1)) (d4 : decode y.2.2.1 (pc + 4) = .ok (.ldc is, 2)) (d6 : decode y.2.2.1 (pc + 6) = .ok (.invokespecial 127, 3)) (d9 : decode y.2.2.1 (pc + 9) = .ok (.athrow, 1)) (hd : 8 ≤ d) (e : some ((none : Option Value), h) = some q) : V (GsX d q) y (0, 0) pc L [] h := by
  have hQ := Option.some.inj e
  intro p l e R s m args below meth c D cI cJ cZ ad A Q G F H locs ls hP hS hh
  obtain ⟨rfl, g1, g2, g3, rfl⟩ := G
  obtain ⟨sa, hsa⟩ := g2.2.2.1 _ hi
  have ts := F.2.2.2.2.1
  refine x_makeS (cc := y.2.2.1) (cls := NSE) (own := RX5) (text := tx) (A := A) (rx := xRx) (ix := 13) (Y0 := "java/lang/RuntimeException") (r0 := ["java/lang/Exception"]) F.1 F.2.1 g1 xd0 xd1 xd2 xd5 (hy ▸ F.2.2.2.1) xFit.1 xFit.2.1 xFit.2.2 (ts _ (xIn0 _ (by simp))) (ts _ (xIn0 _ (by simp))) hsa (vx_hat (fun w hw => ts w (xIn1 w hw)) xIn2 (fun w hw => va_Nw.use (xTb w hw) (g2.2.2.2 w hw))) xGood g2.1 g2.2.1 hS (by rw [F.2.2.1]; exact hh.1) d0 d3 d4 d6 ?_ ?_ ?_ ?_ (fun q1 ce H1 f1 f2 hc1 hv1 hcl1 hS1 => ?_)
  · show 5 < d; omega
  · show 0 + (13 * 3 + 43) ≤ 64 * d; omega
  · exact Nat.le_refl _
  · exact Nat.le_refl _
  · intro T hT X
    have hE := g3 m meth c X.frames X.method X.code
    exact vx_athrow F.1 F.2.1 d9 (vx_out (fun x hx => (hE x hx).elim) F.2.2.2.2.2.2.2.2.1 hc1 hv1 hcl1 (fun t ht hvm => xThr hS hP F.2.2.2.2.2.1 hQ t hvm (by rw [ht]; exact f1) (fun z hz => by rw [ht]; exact f2 z hz)) hS1.2.2 (Nat.le_refl _) (Nat.le_refl _)) T hT X
theorem V.xthrowW {is : Nat} {tx : String} (hy : y.1 = RX5) (hi : (is, tx) ∈ strs) (d0 : decode y.2.2.1 pc = .ok (.new 123, 3)) (d3 : decode y.2.2.1 (pc + 3) = .ok (.dup, 1)) (d4 : decode y.2.2.1 (pc + 4) = .ok (.ldc_w is, 3)) (d6 : decode y.2.2.1 (pc + 7) = .ok (.invokespecial 127, 3)) (d9 : decode y.2.2.1 (pc + 10) = .ok (.athrow, 1)) (hd : 8 ≤ d) (e : some ((none : Option Value), h) = some q) : V (GsX d q) y (0, 0) pc L [] h := by
  have hQ := Option.some.inj e
  intro p l e R s m args below meth c D cI cJ cZ ad A Q G F H locs ls hP hS hh
  obtain ⟨rfl, g1, g2, g3, rfl⟩ := G
  obtain ⟨sa, hsa⟩ := g2.2.2.1 _ hi
  have ts := F.2.2.2.2.1
  refine x_makeSW (cc := y.2.2.1) (cls := NSE) (own := RX5) (text := tx) (A := A) (rx := xRx) (ix := 13) (Y0 := "java/lang/RuntimeException") (r0 := ["java/lang/Exception"]) F.1 F.2.1 g1 xd0 xd1 xd2 xd5 (hy ▸ F.2.2.2.1) xFit.1 xFit.2.1 xFit.2.2 (ts _ (xIn0 _ (by simp))) (ts _ (xIn0 _ (by simp))) hsa (vx_hat (fun w hw => ts w (xIn1 w hw)) xIn2 (fun w hw => va_Nw.use (xTb w hw) (g2.2.2.2 w hw))) xGood g2.1 g2.2.1 hS (by rw [F.2.2.1]; exact hh.1) d0 d3 d4 d6 ?_ ?_ ?_ ?_ (fun q1 ce H1 f1 f2 hc1 hv1 hcl1 hS1 => ?_)
  · show 5 < d; omega
  · show 0 + (13 * 3 + 43) ≤ 64 * d; omega
  · exact Nat.le_refl _
  · exact Nat.le_refl _
  · intro T hT X
    have hE := g3 m meth c X.frames X.method X.code
    exact vx_athrow F.1 F.2.1 d9 (vx_out (fun x hx => (hE x hx).elim) F.2.2.2.2.2.2.2.2.1 hc1 hv1 hcl1 (fun t ht hvm => xThr hS hP F.2.2.2.2.2.1 hQ t hvm (by rw [ht]; exact f1) (fun z hz => by rw [ht]; exact f2 z hz)) hS1.2.2 (Nat.le_refl _) (Nat.le_refl _)) T hT X
end VX
