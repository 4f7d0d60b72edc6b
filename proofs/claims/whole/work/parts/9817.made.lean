/-! constructors: their contract, what a call of one does; arrays whose class is known -/
section CNJ
variable {A : Nat → Prop} {D : va_G} {cl : List vw_C} {ws w1 : va_W} {H H1 : Heap} {q : Nat} {e0 : va_E}
theorem cn_last : (ws ++ [(q, e0)])[ws.length]? = some (q, e0) := by simp
theorem cn_in {k : Nat} {x : Nat × va_E} (h : ws[k]? = some x) : (ws ++ [(q, e0)])[k]? = some x := by
  rw [List.getElem?_append_left (List.getElem?_eq_some_iff.mp h).1]
  exact h
theorem cn_one {k : Nat} {x : Nat × va_E} (h : [(q, e0)][k]? = some x) : x = (q, e0) := by
  cases k with
  | zero => exact (Option.some.inj h).symm
  | succ k => simp at h
theorem cn_join (hP : va_P D cl (ws ++ [(q, e0)]) H) (hD : va_D A (ws ++ [(q, e0)])) (hk : ∀ x : Nat, x < H.size → ¬ va_A [(q, e0)] H.size x → H1[x]? = H[x]?) (hF : ∀ x, va_A [(q, e0)] H.size x → A x) (hP1 : va_P D cl w1 H1) (hD1 : va_D (va_A [(q, e0)] H.size) w1) : va_P D cl (ws ++ w1) H1 ∧ va_D A (ws ++ w1) := by
  have apart : ∀ (k : Nat) (x : Nat × va_E), ws[k]? = some x → x.1 < H.size ∧ ¬ va_A [(q, e0)] H.size x.1 := by
    intro k x hx
    have hl := (hP k x (cn_in hx)).lt
    refine ⟨hl, fun h => ?_⟩
    rcases h with ⟨k2, e, h⟩ | h
    · have h2 : x.1 = q := congrArg Prod.fst (cn_one h)
      have h3 := hD.1 k ws.length x (q, e0) (cn_in hx) cn_last h2
      have h4 := (List.getElem?_eq_some_iff.mp hx).1
      omega
    · omega
  refine ⟨va_P.app (fun k x hx => (hP k x (cn_in hx)).kept (hk x.1 (apart k x hx).1 (apart k x hx).2)) hP1, va_D.app ⟨fun i j p r hi hj e => hD.1 i j p r (cn_in hi) (cn_in hj) e, fun k x hx => hD.2 k x (cn_in hx)⟩ (hD1.weaken (fun k x _ h => hF x.1 h)) (fun i j x y hx hy hxy => (apart i x hx).2 (by rw [hxy]; exact hD1.2 j y hy))⟩
end CNJ
abbrev rmi (d mc ms : Nat) : Room := { frames := d, cells := mc, slots := ms, locals := 64 * d }
/-- a constructor: of an object of default fields, and nothing else, a world w -/
def KI (d : Nat) (y : MethodName) (bytes : ByteArray) (maxL ci : Nat) (as : List Value) (mc ms : Nat) (fs : List Value) (w : (Nat → Nat) → ClassId → ClassId → ClassId → va_W) (E : State → Prop) : Prop :=
  ∀ (l : Launch) (D : va_G) (cI cJ cZ : ClassId) (h0 sz : Nat), Met l y (.code y bytes maxL none :: TB) (rmi d mc ms) (va_Pc (.ref h0 :: as) (fun U => U.heap.size = sz ∧ va_P D classes [(h0, .inr (ci, fs))] U.heap ∧ va_K D classes (tys cI cJ cZ) U ∧ va_D (fun _ => True) [(h0, .inr (ci, fs))] ∧ E U)) (va_Qv (fun f : Nat → Nat => f 0 = h0) (fun f t => va_P D classes (w f cI cJ cZ) t.heap ∧ va_K D classes (tys cI cJ cZ) t ∧ va_D (va_A [(h0, .inr (ci, fs))] sz) (w f cI cJ cZ)) (va_A [(h0, .inr (ci, fs))] sz)) mc ms (va_A [(h0, .inr (ci, fs))] sz)
def CI0 (n : Nat) (y : MethodName) (bytes : ByteArray) (maxL : Nat) : Prop := Cond.initialized y.cls ∈ TB ∧ Cond.code y bytes maxL none ∈ TB ∧ (y.cls ≠ "java/lang/invoke/MethodHandle" ∧ y.cls ≠ "java/lang/invoke/VarHandle" ∧ (parseMethodDescriptor y.desc).map (fun d => d.parameters.length) = some n) ∧ y.name = "<init>" ∧ Cond.instanceMethod y ∈ TB
section CNR
variable {p : Program} {l : Launch} {e : Env} {R : Room} {s : State} {m : MethodId} {args : Array Value} {below : List Frame} {meth : Method} {c : Code} {H : Heap} {locs : List Loc} {cells slots : Nat} {Q : State → Prop} {D : va_G} {cI cJ cZ : ClassId} {A : Nat → Prop} {cc : ByteArray} {nL pc : Nat} {ls : Array Slot} {own : String} {ws : va_W} {q ci n mc ms d idx maxL : Nat} {as rest st0 fs : List Value} {w : (Nat → Nat) → ClassId → ClassId → ClassId → va_W} {E : State → Prop} {y : MethodName} {bytes : ByteArray}
theorem cn_fr {av : List Value} {sz : Nat} {ws0 : va_W} (hEm : ∀ U U' : State, U.vm = U'.vm → E U → E U') : FrameBlind (va_Pc av (fun U => U.heap.size = sz ∧ va_P D classes ws0 U.heap ∧ va_K D classes (tys cI cJ cZ) U ∧ va_D (fun _ => True) ws0 ∧ E U)) := by
  intro a U g mk q
  obtain ⟨q0, q1, qP, qK, qD, qE⟩ := q
  exact ⟨q0, q1, qP, va_K.moved (u := U) (U := U.calling g mk a) (Vm.Alike.refl U.vm) qK, qD, hEm U _ rfl qE⟩
theorem cn_back (hKK : va_K D classes (tys cI cJ cZ) s) (hP : va_P D classes (ws ++ [(q, .inr (ci, fs))]) H) (hD : va_D A (ws ++ [(q, .inr (ci, fs))])) (hS : va_S A s.heap H locs) (hA : ∀ x : Nat, s.heap.size ≤ x → A x) {a : Array Value}
    (hr : va_Run p l e R s m args below meth c H locs cells slots mc ms (F0 m pc ls st0) rest (va_Qv (fun f : Nat → Nat => f 0 = q) (fun f t => va_P D classes (w f cI cJ cZ) t.heap ∧ va_K D classes (tys cI cJ cZ) t ∧ va_D (va_A [(q, .inr (ci, fs))] H.size) (w f cI cJ cZ)) (va_A [(q, .inr (ci, fs))] H.size) a) (va_A [(q, .inr (ci, fs))] H.size))
    (kk : ∀ (f : Nat → Nat) (H1 : Heap) (locs1 : List Loc), f 0 = q → va_P D classes (ws ++ w f cI cJ cZ) H1 → va_D A (ws ++ w f cI cJ cZ) → va_S A s.heap H1 locs1 → W p l e R s m args below meth c H1 locs1 (cells + mc) (slots + ms) Q (F0 m (pc + 3) ls rest)) : W p l e R s m args below meth c H locs cells slots Q (F0 m pc ls st0) := by
  have hFc : ∀ x, va_A [(q, .inr (ci, fs))] H.size x → A x := by
    intro x h
    rcases h with ⟨k, e, h⟩ | h
    · have := hD.2 ws.length _ cn_last
      rw [← congrArg Prod.fst (cn_one h)] at this
      exact this
    · exact hA x (Nat.le_trans hS.1 h)
  refine va_callv hr hS (fun x _ h => hFc x h) hFc (fun f t H1 locs1 ht hvm hw hB hz1 hk1 hS1 => ?_)
  obtain ⟨hP1, hK1, hD1⟩ := hB
  rw [ht] at hP1
  obtain ⟨hP2, hD2⟩ := cn_join hP hD hk1 hFc hP1 hD1
  exact kk f H1 locs1 hw hP2 hD2 hS1
theorem cn_pre (hKK : va_K D classes (tys cI cJ cZ) s) (hP : va_P D classes (ws ++ [(q, .inr (ci, fs))]) H) (hEs : ∀ U : State, s.WarmedH U.vm → E U) : ∀ U : State, U.heap = H → s.WarmedH U.vm → va_Pc (.ref q :: as) (fun U => U.heap.size = H.size ∧ va_P D classes [(q, .inr (ci, fs))] U.heap ∧ va_K D classes (tys cI cJ cZ) U ∧ va_D (fun _ => True) [(q, .inr (ci, fs))] ∧ E U) (Value.ref q :: as).toArray U := by
  intro U hU hW
  refine ⟨rfl, by rw [hU], ?_, va_K.moved hW.alike hKK, ⟨fun i j x r hi hj _ => ?_, fun _ _ _ => trivial⟩, hEs U hW⟩
  · rw [hU]
    intro k x hk
    rw [cn_one hk]
    exact hP ws.length _ cn_last
  · have h1 := (List.getElem?_eq_some_iff.mp hi).1
    have h2 := (List.getElem?_eq_some_iff.mp hj).1
    simp at h1 h2
    omega
theorem cn_callI (CF : CallFix p m c cc nL s args TB own) (hK : KI d y bytes maxL ci as mc ms fs w E) (hl : Cond.methodLink own idx y ∈ TB) (cw : CI0 n y bytes maxL) (hR : d + 1 ≤ R.frames ∧ 8 + (maxL + 11) + 64 * d ≤ R.locals) (hf : cells + mc ≤ R.cells ∧ slots + ms ≤ R.slots) (hKK : va_K D classes (tys cI cJ cZ) s) (hP : va_P D classes (ws ++ [(q, .inr (ci, fs))]) H) (hD : va_D A (ws ++ [(q, .inr (ci, fs))])) (hS : va_S A s.heap H locs) (hA : ∀ x : Nat, s.heap.size ≤ x → A x) (hEm : ∀ U U' : State, U.vm = U'.vm → E U → E U') (hEs : ∀ U : State, s.WarmedH U.vm → E U) (hn : as.length = n) (hsz : ls.size = nL) (hst : as.reverse ++ .ref q :: rest = st0) (hcat : (rest.map fun v => v.category).sum ≤ 8) (hd : decode cc pc = .ok (.invokespecial idx, 3))
    (kk : ∀ (f : Nat → Nat) (H1 : Heap) (locs1 : List Loc), f 0 = q → va_P D classes (ws ++ w f cI cJ cZ) H1 → va_D A (ws ++ w f cI cJ cZ) → va_S A s.heap H1 locs1 → W p l e R s m args below meth c H1 locs1 (cells + mc) (slots + ms) Q (F0 m (pc + 3) ls rest)) : W p l e R s m args below meth c H locs cells slots Q (F0 m pc ls st0) := by
  obtain ⟨c1, c2, c3, c4, c5⟩ := cw
  have hts := CF.2.2.2.2
  refine cn_back hKK hP hD hS hA (va_runI (As := as) (b := q) (bytes := bytes) (maxL := maxL) (n := n) CF (hK l D cI cJ cZ q H.size) (cwI n hts (TB_good (y' := (own, y, bytes, maxL, none)) c2) rfl rfl rfl (hts _ c1) (hts _ hl) (hts _ c5) c4 c3 hR) ⟨cn_fr hEm, cn_pre hKK hP hEs⟩ rfl hn hsz hst.symm (lv_room hcat) hd hf) kk
theorem cn_callN {host : String} (CF : CallFix p m c cc nL s args TB own) (hK : KI d y bytes maxL ci as mc ms fs w E) (hl : va_Nw (.methodLinkNest own idx y host) s) (cw : CI0 n y bytes maxL) (hR : d + 1 ≤ R.frames ∧ 8 + (maxL + 11) + 64 * d ≤ R.locals) (hf : cells + mc ≤ R.cells ∧ slots + ms ≤ R.slots) (hKK : va_K D classes (tys cI cJ cZ) s) (hP : va_P D classes (ws ++ [(q, .inr (ci, fs))]) H) (hD : va_D A (ws ++ [(q, .inr (ci, fs))])) (hS : va_S A s.heap H locs) (hA : ∀ x : Nat, s.heap.size ≤ x → A x) (hEm : ∀ U U' : State, U.vm = U'.vm → E U → E U') (hEs : ∀ U : State, s.WarmedH U.vm → E U) (hn : as.length = n) (hsz : ls.size = nL) (hst : as.reverse ++ .ref q :: rest = st0) (hcat : (rest.map fun v => v.category).sum ≤ 8) (hd : decode cc pc = .ok (.invokespecial idx, 3))
    (kk : ∀ (f : Nat → Nat) (H1 : Heap) (locs1 : List Loc), f 0 = q → va_P D classes (ws ++ w f cI cJ cZ) H1 → va_D A (ws ++ w f cI cJ cZ) → va_S A s.heap H1 locs1 → W p l e R s m args below meth c H1 locs1 (cells + mc) (slots + ms) Q (F0 m (pc + 3) ls rest)) : W p l e R s m args below meth c H locs cells slots Q (F0 m pc ls st0) := by
  obtain ⟨c1, c2, c3, c4, c5⟩ := cw
  have hts := CF.2.2.2.2
  refine cn_back hKK hP hD hS hA (va_runIN (As := as) (b := q) (bytes := bytes) (maxL := maxL) (n := n) (host := host) CF (hK l D cI cJ cZ q H.size) ⟨va_cnB n hts (TB_good (y' := (own, y, bytes, maxL, none)) c2) rfl rfl rfl hl (hts _ c1) c3 hR, c4, hts _ c5⟩ ⟨cn_fr hEm, cn_pre hKK hP hEs⟩ rfl hn hsz hst.symm (lv_room hcat) hd hf) kk
/-- an array whose class is the known one -/
theorem cn_newa (hx : p.tables.exec = Jvm.exec) (hb : c.code = cc) {atype : ArrayType} (harr : (Cond.arrayClass (newarray.typeOf atype)).before args s = true) {ty : FieldType} (hty : newarray.typeOf atype = ty) {cX : ClassId} (t0 : Nat) (ht : (tys cI cJ cZ)[t0]? = some (cX, ty)) (hu : ∀ a b : ClassId, va_RA s a ty → va_RA s b ty → a = b) (hK : va_K D classes (tys cI cJ cZ) s) (hP : va_P D classes ws H) (hD : va_D A ws) (hS : va_S A s.heap H locs) (hA : ∀ x : Nat, s.heap.size ≤ x → A x)
    {v : Int32} {N' : Nat} {a0 : vp_A} (ha : ∀ cA : ClassId, vp_cell cA a0 = arrV cA N' (fun _ => defaultValue ty)) (hn : ¬ v < 0) (hN : v.toNatClampNeg = N') (hbytes : N' * componentBytes ty ≤ 536870912) (hcells : cells + 1 ≤ R.cells) (hslots : slots + N' ≤ R.slots) (hdg : decode cc pc = .ok (.newarray atype, 2))
    (kk : ∀ (q : Nat) (H1 : Heap), va_P D classes (ws ++ [(q, .inl (cX, a0))]) H1 → va_D A (ws ++ [(q, .inl (cX, a0))]) → va_S A s.heap H1 locs → W p l e R s m args below meth c H1 locs (cells + 1) (slots + N') Q (F0 m (pc + 2) ls (.ref q :: rest))) : W p l e R s m args below meth c H locs cells slots Q (F0 m pc ls (.int v :: rest)) := by
  refine va_newa hx hb harr hty hK hP hD hS hA ha hn hN hbytes hcells hslots hdg (fun q cA H1 hK2 hP2 hD2 hS2 => ?_)
  have e1 : cA = cX := hu _ _ (hK2.2 3 (cA, ty) rfl).2 (hK.2 t0 _ ht).2
  subst e1
  exact kk q H1 hP2 hD2 hS2
end CNR
theorem ra_int {s : State} (a b : ClassId) (h1 : va_RA s a .int) (h2 : va_RA s b .int) : a = b := Option.some.inj (h1.symm.trans h2)
theorem ra_long {s : State} (a b : ClassId) (h1 : va_RA s a .long) (h2 : va_RA s b .long) : a = b := Option.some.inj (h1.symm.trans h2)
theorem ra_boolean {s : State} (a b : ClassId) (h1 : va_RA s a .boolean) (h2 : va_RA s b .boolean) : a = b := Option.some.inj (h1.symm.trans h2)
