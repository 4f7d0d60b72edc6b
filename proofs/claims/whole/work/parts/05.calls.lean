/-! a method's contract K, its start and its end; calls -/
def QC (D : va_G) (cI cJ cZ : ClassId) (ad : Nat → Nat) (Post : Option Value → Hp → Prop) (A : Nat → Prop) : Array Value → State → Outcome → State → Prop := fun _ st oc t =>
  (∃ (v : Option Value) (h' : Hp), oc = .returned (v.map (cv ad)) ∧ Post v h' ∧ va_P D classes (wld ad cI cJ cZ h') t.heap ∧ va_K D classes (tys cI cJ cZ) t) ∧ va_F A st t
def Gs (d : Nat) (Post : Option Value → Hp → Prop) : Launch → Room → State → Array Value → List Frame → va_G → ClassId → ClassId → ClassId → (Nat → Nat) → (Nat → Prop) → (State → Prop) → Prop :=
  fun _ R s args below D cI cJ cZ ad A Q => R = rm d ∧ Q = MQ below (QC D cI cJ cZ ad Post A) args s 0 0 A
theorem Gs_rm {d d' : Nat} {Post : Option Value → Hp → Prop} (h : d' ≤ d) : RmOk (Gs d Post) d' 0 0 := by
  intro l R s args below D cI cJ cZ ad A Q G
  obtain ⟨rfl, -⟩ := G
  exact ⟨h, Nat.mul_le_mul_left 64 h, Nat.le_refl 0, Nat.le_refl 0⟩
theorem wld_k {ad : Nat → Nat} {cI cJ cZ : ClassId} {h : Hp} {k : Nat} {q : Nat × va_E} (hk : (wld ad cI cJ cZ h)[k]? = some q) : k < NC ∧ q.1 = ad k := by
  have hl : (wld ad cI cJ cZ h).length = NC := by simp [wld]
  have h1 : k < NC := by rw [← hl]; exact (List.getElem?_eq_some_iff.mp hk).1
  rw [wld_at h1] at hk
  exact ⟨h1, by rw [← Option.some.inj hk]⟩
theorem wld_D {ad : Nat → Nat} {cI cJ cZ : ClassId} {h : Hp} {A : Nat → Prop} (hD : va_D A (wld ad cI cJ cZ h)) (h' : Hp) : va_D A (wld ad cI cJ cZ h') := by
  refine ⟨fun i j p q hi hj e => ?_, fun k q hk => ?_⟩
  · obtain ⟨h1, e1⟩ := wld_k hi
    obtain ⟨h2, e2⟩ := wld_k hj
    exact hD.1 i j _ _ (wld_at h1) (wld_at h2) (by rw [← e1, ← e2]; exact e)
  · obtain ⟨h1, e1⟩ := wld_k hk
    rw [e1]
    exact hD.2 k _ (wld_at h1)
theorem lc_args (ad : Nat → Nat) : ∀ (as : List Value) (i : Nat), lv_args i (as.map (cv ad)) = lc ad (lv_args i as)
  | [], _ => rfl
  | v :: t, i => by
    simp only [List.map_cons, lv_args, lc, List.map_cons, cv_cat]
    rw [lc_args ad t]
    rfl
theorem lg_sl_cv (ad : Nat → Nat) : ∀ (as : List Value), (lg_sl (as.map (cv ad))).length = (lg_sl as).length
  | [] => rfl
  | v :: t => by
    have := lg_sl_cv ad t
    cases v <;> simp_all [lg_sl, cv, Value.category]
def K (d : Nat) (y : MI) (as : List Value) (h : Hp) (Post : Option Value → Hp → Prop) : Prop :=
  ∀ (l : Launch) (D : va_G) (cI cJ cZ : ClassId) (ad : Nat → Nat) (sz : Nat), Met l y.2.1 (.code y.2.1 y.2.2.1 y.2.2.2.1 y.2.2.2.2 :: TB) (rm d) (va_Pc (as.map (cv ad)) (fun U => U.heap.size = sz ∧ va_P D classes (wld ad cI cJ cZ h) U.heap ∧ va_K D classes (tys cI cJ cZ) U ∧ va_D (fun _ => True) (wld ad cI cJ cZ h) ∧ va_Nw NW U)) (QC D cI cJ cZ ad Post (va_A (wld ad cI cJ cZ h) sz)) 0 0 (va_A (wld ad cI cJ cZ h) sz)
theorem K.ofV {d : Nat} {y : MI} {as : List Value} {h : Hp} {Post : Option Value → Hp → Prop} (hp : plainName y.2.1.cls = true) (hy : y.2.1.cls = y.1) (hlen : (lg_sl as).length ≤ y.2.2.2.1) (hV : V (Gs d Post) y (0, 0) 0 (lv_args 0 as) [] h) : K d y as h Post := by
  intro l D cI cJ cZ ad sz
  refine Met.ofW (cc := y.2.2.1) (maxL := y.2.2.2.1) (ret := y.2.2.2.2) hp rfl ?_
  intro p e s m args below meth c s₁ B hml hv
  obtain ⟨rfl, hsz, hP, hK, hD0, hNW⟩ := hv
  have hts := atoms_spec (ws := .code y.2.1 y.2.2.1 y.2.2.2.1 y.2.2.2.2 :: TB) B.pre
  have hown : s.vm.findClass y.2.1.cls = some m.cls := findClass_of_methodNamed B.named
  subst hsz
  have hl := lv_entry (as.map (cv ad)) (n := y.2.2.2.1) (by rw [lg_sl_cv]; exact hlen)
  rw [lg_entry_eq]
  rw [lc_args] at hl
  exact hV p l e (rm d) s m _ below meth c D cI cJ cZ ad (va_A (wld ad cI cJ cZ h) s.heap.size) _ ⟨rfl, rfl⟩ ⟨B.exec, B.bytes, hml, hy ▸ hown, fun w hw => hts w (List.mem_cons_of_mem _ hw), hK, wld_D hD0.self, B.returns, B.notSynchronized, fun q hq => Or.inr hq, hNW⟩ s.heap [] _ hP va_S.rf hl
section VE
variable {y : MI} {pc : Nat} {L : List (Nat × Value)} {h : Hp} {d : Nat} {Post : Option Value → Hp → Prop}
theorem V.iret {x : Int32} (hd : decode y.2.2.1 pc = .ok (.ireturn, 1)) (hr : y.2.2.2.2 = some .int) (hQ : Post (some (.int x)) h) : V (Gs d Post) y (0, 0) pc L [.int x] h := by
  intro p l e R s m args below meth c D cI cJ cZ ad A Q G F H locs ls hP hS hh
  obtain ⟨rfl, rfl⟩ := G
  exact W.iret (v := x) F.1 F.2.1 (F.2.2.2.2.2.2.2.1.trans hr) (fun t ht hW => ⟨⟨some (.int x), h, rfl, hQ, by rw [ht]; exact hP, va_K.moved hW.alike F.2.2.2.2.2.1⟩, hS.F ht⟩) hS.2.2 hd F.2.2.2.2.2.2.2.2.1
theorem V.zret {x : Int32} (hd : decode y.2.2.1 pc = .ok (.ireturn, 1)) (hr : y.2.2.2.2 = some .boolean) (hx : x = 0 ∨ x = 1) (hQ : Post (some (.int x)) h) : V (Gs d Post) y (0, 0) pc L [.int x] h := by
  intro p l e R s m args below meth c D cI cJ cZ ad A Q G F H locs ls hP hS hh
  obtain ⟨rfl, rfl⟩ := G
  exact W.zret (v := x) F.1 F.2.1 (F.2.2.2.2.2.2.2.1.trans hr) (by rcases hx with rfl | rfl <;> decide) (fun t ht hW => ⟨⟨some (.int x), h, rfl, hQ, by rw [ht]; exact hP, va_K.moved hW.alike F.2.2.2.2.2.1⟩, hS.F ht⟩) hS.2.2 hd F.2.2.2.2.2.2.2.2.1
theorem V.lret {x : Int64} (hd : decode y.2.2.1 pc = .ok (.lreturn, 1)) (hr : y.2.2.2.2 = some .long) (hQ : Post (some (.long x)) h) : V (Gs d Post) y (0, 0) pc L [.long x] h := by
  intro p l e R s m args below meth c D cI cJ cZ ad A Q G F H locs ls hP hS hh
  obtain ⟨rfl, rfl⟩ := G
  exact W.lret (v := x) F.1 F.2.1 (F.2.2.2.2.2.2.2.1.trans hr) (fun t ht hW => ⟨⟨some (.long x), h, rfl, hQ, by rw [ht]; exact hP, va_K.moved hW.alike F.2.2.2.2.2.1⟩, hS.F ht⟩) hS.2.2 hd F.2.2.2.2.2.2.2.2.1
theorem V.vret (hd : decode y.2.2.1 pc = .ok (.return_, 1)) (hr : y.2.2.2.2 = none) (hQ : Post none h) : V (Gs d Post) y (0, 0) pc L [] h := by
  intro p l e R s m args below meth c D cI cJ cZ ad A Q G F H locs ls hP hS hh
  obtain ⟨rfl, rfl⟩ := G
  exact W.vret F.1 F.2.1 (F.2.2.2.2.2.2.2.1.trans hr) (fun t ht hW => ⟨⟨none, h, rfl, hQ, by rw [ht]; exact hP, va_K.moved hW.alike F.2.2.2.2.2.1⟩, hS.F ht⟩) hS.2.2 hd F.2.2.2.2.2.2.2.2.1
theorem V.aret {x : Nat} {cn : String} (hd : decode y.2.2.1 pc = .ok (.areturn, 1)) (hr : y.2.2.2.2 = some (.object cn)) (hQ : Post (some (.ref x)) h) : V (Gs d Post) y (0, 0) pc L [.ref x] h := by
  intro p l e R s m args below meth c D cI cJ cZ ad A Q G F H locs ls hP hS hh
  obtain ⟨rfl, rfl⟩ := G
  exact W.aret (v := .ref (ad x)) F.1 F.2.1 (F.2.2.2.2.2.2.2.1.trans hr) (Or.inl ⟨cn, rfl⟩) (Or.inr ⟨_, rfl⟩) (fun t ht hW => ⟨⟨some (.ref x), h, rfl, hQ, by rw [ht]; exact hP, va_K.moved hW.alike F.2.2.2.2.2.1⟩, hS.F ht⟩) hS.2.2 hd F.2.2.2.2.2.2.2.2.1
end VE
/-- the tables' words of a call -/
def CB (own : String) (idx n : Nat) (y' : MI) : Prop :=
  y'.2.1.cls = y'.1 ∧ Cond.methodLink own idx y'.2.1 ∈ TB ∧ Cond.initialized y'.1 ∈ TB ∧ Cond.code y'.2.1 y'.2.2.1 y'.2.2.2.1 y'.2.2.2.2 ∈ TB ∧ y'.2.2.2.1 ≤ 40 ∧ (y'.2.1.cls ≠ "java/lang/invoke/MethodHandle" ∧ y'.2.1.cls ≠ "java/lang/invoke/VarHandle") ∧ (parseMethodDescriptor y'.2.1.desc).map (fun d => d.parameters.length) = some n
def CV (own : String) (idx ci n : Nat) (y' : MI) : Prop :=
  CB own idx n y' ∧ Cond.instanceMethod y'.2.1 ∈ TB ∧ Cond.selects y'.1 y'.2.1 y'.2.1 ∈ TB ∧ ∃ (T : u_T) (N : Nat), classes[ci]? = some (y'.1, T, N)
def CS (own : String) (idx n : Nat) (y' : MI) : Prop := CB own idx n y' ∧ Cond.static y'.2.1 ∈ TB
def CN (own : String) (idx n : Nat) (y' : MI) (host : String) : Prop :=
  y'.2.1.cls = y'.1 ∧ NW = Cond.methodLinkNest own idx y'.2.1 host ∧ Cond.initialized y'.1 ∈ TB ∧ Cond.code y'.2.1 y'.2.2.1 y'.2.2.2.1 y'.2.2.2.2 ∈ TB ∧ y'.2.2.2.1 ≤ 40 ∧ (y'.2.1.cls ≠ "java/lang/invoke/MethodHandle" ∧ y'.2.1.cls ≠ "java/lang/invoke/VarHandle") ∧ (parseMethodDescriptor y'.2.1.desc).map (fun d => d.parameters.length) = some n ∧ Cond.static y'.2.1 ∈ TB
theorem TB_good {y' : MI} (h : Cond.code y'.2.1 y'.2.2.1 y'.2.2.2.1 y'.2.2.2.2 ∈ TB) : GoodIn TB (.code y'.2.1 y'.2.2.1 y'.2.2.2.1 y'.2.2.2.2 :: TB) := by
  intro w hw
  have hm : w ∈ TB := by
    rcases List.mem_cons.mp hw with e | e
    · rw [e]; exact h
    · exact e
  exact ⟨hm, good_of_word (List.mem_filter.mp hm).2⟩
theorem FrB {D : va_G} {cI cJ cZ : ClassId} {ad : Nat → Nat} {sz : Nat} {h : Hp} {as : List Value} : FrameBlind (va_Pc as (fun U => U.heap.size = sz ∧ va_P D classes (wld ad cI cJ cZ h) U.heap ∧ va_K D classes (tys cI cJ cZ) U ∧ va_D (fun _ => True) (wld ad cI cJ cZ h) ∧ va_Nw NW U)) := by
  intro a U g mk q
  obtain ⟨q0, q1, qP, qK, qD, qN⟩ := q
  exact ⟨q0, q1, qP, va_K.moved (u := U) (U := U.calling g mk a) (Vm.Alike.refl U.vm) qK, qD, va_Nw.same (u := U) (U := U.calling g mk a) rfl rfl qN⟩
section VC
variable {Γ : Launch → Room → State → Array Value → List Frame → va_G → ClassId → ClassId → ClassId → (Nat → Nat) → (Nat → Prop) → (State → Prop) → Prop} {y y' : MI} {z : Nat × Nat} {pc pc' : Nat} {L : List (Nat × Value)} {S S0 : List Value} {h : Hp} {dg i n : Nat} {as : List Value} {Post : Option Value → Hp → Prop}
theorem V.back {p : Program} {l : Launch} {e : Env} {R : Room} {s : State} {m : MethodId} {args : Array Value} {below : List Frame} {meth : Method} {c : Code} {D : va_G} {cI cJ cZ : ClassId} {ad : Nat → Nat} {A A1 : Nat → Prop} {Q : State → Prop} (G : Γ l R s args below D cI cJ cZ ad A Q) (F : Fx p s m args meth c D cI cJ cZ ad A y) {H : Heap} {locs : List Loc} {ls : Array Slot} {st0 : List Value} {a : Array Value} (hA1 : ∀ q, A1 q → A q) (hS : va_S A s.heap H locs) (hh : lv_has ls y.2.2.2.1 (lc ad L))
    (hr : va_Run p l e R s m args below meth c H locs z.1 z.2 0 0 (F0 m pc ls st0) (S.map (cv ad)) (QC D cI cJ cZ ad Post A1 a) A1) (kk : ∀ v h', Post v h' → V Γ y z (pc + 3) L (v.toList ++ S) h') : W p l e R s m args below meth c H locs z.1 z.2 Q (F0 m pc ls st0) := by
  intro T hT X
  obtain ⟨v, st₀, t, T', L1, h0, X', hL, e1, e2, ⟨⟨v', h', hv, hp, hPt, hKt⟩, hz, hk⟩, st⟩ := hr T hT X
  cases hv
  rw [h0] at hz hk
  have KK := kk v' h' hp p l e R s m args below meth c D cI cJ cZ ad A Q G F T'.heap (locs ++ L1) ls (by rw [e1]; exact hPt)
    ⟨Nat.le_trans hS.1 (by rw [e1]; exact hz), fun q h1 h2 => by rw [e1, hk q (Nat.lt_of_lt_of_le h1 hS.1) (fun z => h2 (hA1 q z))]; exact hS.2.1 q h1 h2, fun q hq => by
      rcases List.mem_append.mp hq with h | h
      · exact hS.2.2 q h
      · exact hA1 _ (hL q h)⟩ hh
  rw [show (v'.toList ++ S).map (cv ad) = (v'.map (cv ad)).toList ++ S.map (cv ad) by cases v' <;> simp] at KK
  obtain ⟨t2, a1, b1⟩ := KK T' rfl X'
  exact ⟨t2, st t2 a1, b1⟩
theorem cat8 {ad : Nat → Nat} {S : List Value} {m : MethodId} {ls : Array Slot} {rest : List Value} {pc : Nat} (h : (S.map fun v => v.category).sum ≤ 8) : 2 * (F0 m pc ls rest).monitorRoom + ((S.map (cv ad)).map fun v => v.category).sum ≤ 8 := by
  have hcat : ((S.map (cv ad)).map fun v => v.category) = S.map fun v => v.category := by rw [List.map_map]; exact List.map_congr_left (fun v _ => cv_cat ad v)
  exact lv_room (by rw [hcat]; exact h)
theorem A_le {p : Program} {s : State} {m : MethodId} {args : Array Value} {meth : Method} {c : Code} {D : va_G} {cI cJ cZ : ClassId} {ad : Nat → Nat} {A : Nat → Prop} (F : Fx p s m args meth c D cI cJ cZ ad A y) {H : Heap} {locs : List Loc} (hS : va_S A s.heap H locs) : ∀ q, va_A (wld ad cI cJ cZ h) H.size q → A q := by
  intro q hq
  rcases hq with ⟨k, e, hk⟩ | hq
  · exact (F.2.2.2.2.2.2.1 h).2 k _ hk
  · exact F.2.2.2.2.2.2.2.2.2.1 q (Nat.le_trans hS.1 hq)
theorem V.callV {ci r : Nat} (hd : decode y.2.2.1 pc = .ok (.invokevirtual i, 3)) (hp : pc + 3 = pc') (cw : CV y.1 i ci n y') (hK : K dg y' (.ref r :: as) h Post) (hR : RmOk Γ (dg + 1) z.1 z.2) (hr : ck r = ci) (hci : ci < 7) (hn : as.length = n) (hcat : (S.map fun v => v.category).sum ≤ 8) (hst : as.reverse ++ .ref r :: S = S0) (kk : ∀ v h', Post v h' → V Γ y z pc' L (v.toList ++ S) h') : V Γ y z pc L S0 h := by
  subst hp; subst hst
  intro p l e R s m args below meth c D cI cJ cZ ad A Q G F H locs ls hP hS hh
  obtain ⟨⟨c1, c2, c3, c4, c5, c6, c7⟩, c8, c9, T, N, c10⟩ := cw
  obtain ⟨r1, r2, r3, r4⟩ := hR _ _ _ _ _ _ _ _ _ _ _ _ G
  have hts := F.2.2.2.2.1
  have hKK := F.2.2.2.2.2.1
  refine V.back G F (A_le (h := h) F hS) hS hh (a := (Value.ref (ad r) :: as.map (cv ad)).toArray) (va_runV (bytes := y'.2.2.1) (maxL := y'.2.2.2.1) (ret := y'.2.2.2.2) (C := y'.1) (As := as.map (cv ad)) (rest := S.map (cv ad)) (b := ad r) (n := n) ⟨F.1, F.2.1, F.2.2.1, F.2.2.2.1, hts⟩ (hK l D cI cJ cZ ad H.size) ⟨?_, hts _ c8, hts _ c9⟩ ⟨FrB, va_recv hKK hP c10 (wld_o hr hci), fun U hU hW => ⟨rfl, by rw [hU], by rw [hU]; exact hP, va_K.moved hW.alike hKK, (F.2.2.2.2.2.2.1 h).weaken (fun _ _ _ _ => trivial), va_Nw.warmM hW F.2.2.2.2.2.2.2.2.2.2⟩⟩ rfl (by rw [List.length_map]; exact hn) hh.1 (by simp [cv]) (cat8 hcat) hd ⟨r3, r4⟩) kk
  exact callB_of n hts (TB_good c4) rfl rfl rfl (by rw [c1]; exact hts _ c3) (hts _ c2) ⟨c6.1, c6.2, c7⟩ ⟨r1, by show 8 + (y'.2.2.2.1 + 11) + 64 * dg ≤ R.locals; omega⟩
theorem V.callS (hd : decode y.2.2.1 pc = .ok (.invokestatic i, 3)) (hp : pc + 3 = pc') (cw : CS y.1 i n y') (hK : K dg y' as h Post) (hR : RmOk Γ (dg + 1) z.1 z.2) (hn : as.length = n) (hcat : (S.map fun v => v.category).sum ≤ 8) (hst : as.reverse ++ S = S0) (kk : ∀ v h', Post v h' → V Γ y z pc' L (v.toList ++ S) h') : V Γ y z pc L S0 h := by
  subst hp; subst hst
  intro p l e R s m args below meth c D cI cJ cZ ad A Q G F H locs ls hP hS hh
  obtain ⟨⟨c1, c2, c3, c4, c5, c6, c7⟩, c8⟩ := cw
  obtain ⟨r1, r2, r3, r4⟩ := hR _ _ _ _ _ _ _ _ _ _ _ _ G
  have hts := F.2.2.2.2.1
  have hKK := F.2.2.2.2.2.1
  refine V.back G F (A_le (h := h) F hS) hS hh (a := (as.map (cv ad)).toArray) (va_runS (bytes := y'.2.2.1) (maxL := y'.2.2.2.1) (ret := y'.2.2.2.2) (As := as.map (cv ad)) (rest := S.map (cv ad)) (n := n) ⟨F.1, F.2.1, F.2.2.1, F.2.2.2.1, hts⟩ (hK l D cI cJ cZ ad H.size) ⟨?_, hts _ c8⟩ ⟨FrB, fun U hU hW => ⟨rfl, by rw [hU], by rw [hU]; exact hP, va_K.moved hW.alike hKK, (F.2.2.2.2.2.2.1 h).weaken (fun _ _ _ _ => trivial), va_Nw.warmM hW F.2.2.2.2.2.2.2.2.2.2⟩⟩ rfl (by rw [List.length_map]; exact hn) hh.1 (by simp) (cat8 hcat) hd ⟨r3, r4⟩) kk
  exact callB_of n hts (TB_good c4) rfl rfl rfl (by rw [c1]; exact hts _ c3) (hts _ c2) ⟨c6.1, c6.2, c7⟩ ⟨r1, by show 8 + (y'.2.2.2.1 + 11) + 64 * dg ≤ R.locals; omega⟩
theorem V.callN {host : String} (hd : decode y.2.2.1 pc = .ok (.invokestatic i, 3)) (hp : pc + 3 = pc') (cw : CN y.1 i n y' host) (hK : K dg y' as h Post) (hR : RmOk Γ (dg + 1) z.1 z.2) (hn : as.length = n) (hcat : (S.map fun v => v.category).sum ≤ 8) (hst : as.reverse ++ S = S0) (kk : ∀ v h', Post v h' → V Γ y z pc' L (v.toList ++ S) h') : V Γ y z pc L S0 h := by
  subst hp; subst hst
  intro p l e R s m args below meth c D cI cJ cZ ad A Q G F H locs ls hP hS hh
  obtain ⟨c1, c2, c3, c4, c5, c6, c7, c8⟩ := cw
  obtain ⟨r1, r2, r3, r4⟩ := hR _ _ _ _ _ _ _ _ _ _ _ _ G
  have hts := F.2.2.2.2.1
  have hKK := F.2.2.2.2.2.1
  refine V.back G F (A_le (h := h) F hS) hS hh (a := (as.map (cv ad)).toArray) (va_runSN (bytes := y'.2.2.1) (maxL := y'.2.2.2.1) (ret := y'.2.2.2.2) (host := host) (As := as.map (cv ad)) (rest := S.map (cv ad)) (n := n) ⟨F.1, F.2.1, F.2.2.1, F.2.2.2.1, hts⟩ (hK l D cI cJ cZ ad H.size) ⟨?_, hts _ c8, trivial⟩ ⟨FrB, fun U hU hW => ⟨rfl, by rw [hU], by rw [hU]; exact hP, va_K.moved hW.alike hKK, (F.2.2.2.2.2.2.1 h).weaken (fun _ _ _ _ => trivial), va_Nw.warmM hW F.2.2.2.2.2.2.2.2.2.2⟩⟩ rfl (by rw [List.length_map]; exact hn) hh.1 (by simp) (cat8 hcat) hd ⟨r3, r4⟩) kk
  refine ⟨⟨rfl, rfl, r1, by show 8 + (y'.2.2.2.1 + 11) + 64 * dg ≤ R.locals; omega, pay_in hts (TB_good c4), List.mem_cons_self⟩, hts _ c4, by rw [c1]; exact hts _ c3, c6, fun sig hsig => ?_, va_Nw.use rfl (c2 ▸ F.2.2.2.2.2.2.2.2.2.2)⟩
  rw [hsig] at c7
  exact (Option.some.inj c7).symm
end VC
