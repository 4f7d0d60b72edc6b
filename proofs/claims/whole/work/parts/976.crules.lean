/-! count of the reference makes a row of two ints: its contract, and calls while the row is there -/
abbrev rmc (d : Nat) : Room := { frames := d, cells := 1, slots := 2, locals := 64 * d }
def GsC (d : Nat) (q : Int32 × Hp) : Launch → Room → State → Array Value → List Frame → va_G → ClassId → ClassId → ClassId → (Nat → Nat) → (Nat → Prop) → (State → Prop) → Prop :=
  fun _ R s args below D cI cJ cZ ad A Q => R = rmc d ∧ Q = MQ below (QC D cI cJ cZ ad (pI q) A) args s 1 2 A
def KC (d : Nat) (y : MI) (as : List Value) (h : Hp) (q : Int32 × Hp) : Prop :=
  ∀ (l : Launch) (D : va_G) (cI cJ cZ : ClassId) (ad : Nat → Nat) (sz : Nat), Met l y.2.1 (.code y.2.1 y.2.2.1 y.2.2.2.1 y.2.2.2.2 :: TB) (rmc d) (va_Pc (as.map (cv ad)) (fun U => U.heap.size = sz ∧ va_P D classes (wld ad cI cJ cZ h) U.heap ∧ va_K D classes (tys cI cJ cZ) U ∧ va_D (fun _ => True) (wld ad cI cJ cZ h) ∧ va_Nw NW U)) (QC D cI cJ cZ ad (pI q) (va_A (wld ad cI cJ cZ h) sz)) 1 2 (va_A (wld ad cI cJ cZ h) sz)
theorem KC.ofV {d : Nat} {y : MI} {as : List Value} {h : Hp} {q : Int32 × Hp} (hp : plainName y.2.1.cls = true) (hy : y.2.1.cls = y.1) (hlen : (lg_sl as).length ≤ y.2.2.2.1) (hV : V (GsC d q) y (0, 0) 0 (lv_args 0 as) [] h) : KC d y as h q := by
  intro l D cI cJ cZ ad sz
  refine Met.ofW (cc := y.2.2.1) (maxL := y.2.2.2.1) (ret := y.2.2.2.2) hp rfl ?_
  intro p e s m args below meth c s₁ B hml hv
  obtain ⟨rfl, hsz, hP, hK, hD0, hNW⟩ := hv
  have hts := atoms_spec (ws := .code y.2.1 y.2.2.1 y.2.2.2.1 y.2.2.2.2 :: TB) B.pre
  have hown : s.vm.findClass y.2.1.cls = some m.cls := findClass_of_methodNamed B.named
  subst hsz
  have hl := lv_entry (as.map (cv ad)) (n := y.2.2.2.1) (by rw [lg_sl_cv]; exact hlen)
  rw [lg_entry_eq]
  rw [lc_args] at hl
  exact hV p l e (rmc d) s m _ below meth c D cI cJ cZ ad (va_A (wld ad cI cJ cZ h) s.heap.size) _ ⟨rfl, rfl⟩ ⟨B.exec, B.bytes, hml, hy ▸ hown, fun w hw => hts w (List.mem_cons_of_mem _ hw), hK, wld_D hD0.self, B.returns, B.notSynchronized, fun q hq => Or.inr hq, hNW⟩ s.heap [] _ hP va_S.rf hl
/-- the world and a row beside it -/
def w2 (ad : Nat → Nat) (cI cJ cZ : ClassId) (h : Hp) (q : Nat) (cA : ClassId) (f : Nat → Int32) : va_W := wld ad cI cJ cZ h ++ [(q, .inl (cA, 2, .inl f))]
section W2
variable {ad : Nat → Nat} {cI cJ cZ cA : ClassId} {h : Hp} {qa : Nat} {f : Nat → Int32} {D : va_G} {H : Heap} {A : Nat → Prop}
theorem wld_len : (wld ad cI cJ cZ h).length = NC := by simp [wld]
theorem w2_l {c : Nat} (hc : c < NC) : (w2 ad cI cJ cZ h qa cA f)[c]? = (wld ad cI cJ cZ h)[c]? := List.getElem?_append_left (by rw [wld_len]; exact hc)
theorem w2_r : (w2 ad cI cJ cZ h qa cA f)[NC]? = some (qa, .inl (cA, 2, .inl f)) := by
  unfold w2
  rw [List.getElem?_append_right (by rw [wld_len]; exact Nat.le_refl _), wld_len]
  rfl
theorem w2_P (hP : va_P D classes (w2 ad cI cJ cZ h qa cA f) H) : va_P D classes (wld ad cI cJ cZ h) H := fun k q hk => hP k q (by
  have hl : k < NC := by rw [← wld_len (ad := ad) (cI := cI) (cJ := cJ) (cZ := cZ) (h := h)]; exact (List.getElem?_eq_some_iff.mp hk).1
  rw [w2_l hl]; exact hk)
theorem w2_D (hD : va_D A (w2 ad cI cJ cZ h qa cA f)) (f' : Nat → Int32) : va_D A (w2 ad cI cJ cZ h qa cA f') := by
  have key : ∀ (k : Nat) (q : Nat × va_E), (w2 ad cI cJ cZ h qa cA f')[k]? = some q → ∃ q0 : Nat × va_E, (w2 ad cI cJ cZ h qa cA f)[k]? = some q0 ∧ q0.1 = q.1 := by
    intro k q hk
    have hl : k < NC + 1 := by
      have := (List.getElem?_eq_some_iff.mp hk).1
      unfold w2 at this
      rw [List.length_append, wld_len] at this
      exact this
    by_cases e : k = NC
    · subst e
      rw [w2_r] at hk
      exact ⟨_, w2_r, by rw [← Option.some.inj hk]⟩
    · have hl' : k < NC := by omega
      rw [w2_l hl'] at hk
      exact ⟨q, by rw [w2_l hl']; exact hk, rfl⟩
  refine ⟨fun i j p q hi hj e => ?_, fun k q hk => ?_⟩
  · obtain ⟨p0, a1, a2⟩ := key i p hi
    obtain ⟨q0, b1, b2⟩ := key j q hj
    exact hD.1 i j p0 q0 a1 b1 (by rw [a2, b2, e])
  · obtain ⟨q0, b1, b2⟩ := key k q hk
    rw [← b2]; exact hD.2 k q0 b1
theorem w2_set {i : Nat} {x : Int32} : (w2 ad cI cJ cZ h qa cA f).set NC (qa, .inl (cA, 2, .inl (upd f i x))) = w2 ad cI cJ cZ h qa cA (upd f i x) := by
  unfold w2
  rw [List.set_append_right _ _ (by rw [wld_len]; exact Nat.le_refl _), wld_len]
  rfl
/-- a call that keeps the world keeps the row, too -/
theorem w2_keep {H1 : Heap} (hP : va_P D classes (w2 ad cI cJ cZ h qa cA f) H) (hD : va_D A (w2 ad cI cJ cZ h qa cA f)) (hk : ∀ x : Nat, x < H.size → ¬ va_A (wld ad cI cJ cZ h) H.size x → H1[x]? = H[x]?) (hP1 : va_P D classes (wld ad cI cJ cZ h) H1) : va_P D classes (w2 ad cI cJ cZ h qa cA f) H1 := by
  have hq := hP NC _ w2_r
  refine hP1.app (fun k q hk' => ?_)
  have hz : k < 1 := (List.getElem?_eq_some_iff.mp hk').1
  rw [show k = 0 by omega] at hk'
  cases hk'
  refine hq.kept (hk _ hq.lt (fun z => ?_))
  rcases z with ⟨j, e, hj⟩ | z
  · have hl : j < NC := by rw [← wld_len (ad := ad) (cI := cI) (cJ := cJ) (cZ := cZ) (h := h)]; exact (List.getElem?_eq_some_iff.mp hj).1
    have := hD.1 j NC (qa, e) _ (by rw [w2_l hl]; exact hj) w2_r rfl
    omega
  · exact absurd hq.lt (Nat.not_lt.mpr z)
end W2
section C2
variable {p : Program} {l : Launch} {e : Env} {R : Room} {s : State} {m : MethodId} {args : Array Value} {below : List Frame} {meth : Method} {c : Code} {D : va_G} {cI cJ cZ cA : ClassId} {ad : Nat → Nat} {A : Nat → Prop} {Q : State → Prop} {h : Hp} {qa : Nat} {f : Nat → Int32} {H : Heap} {locs : List Loc} {ls : Array Slot} {y y' : MI} {pc i ci n dg r : Nat} {as : List Value} {v : Int32} {rest st0 : List Value} {Lr : List (Nat × Value)}
theorem c2_run (F : Fx p s m args meth c D cI cJ cZ ad A y) (hP : va_P D classes (w2 ad cI cJ cZ h qa cA f) H) (hD : va_D A (w2 ad cI cJ cZ h qa cA f)) (hS : va_S A s.heap H locs) {a : Array Value} (hr : va_Run p l e R s m args below meth c H locs 1 2 0 0 (F0 m pc ls st0) rest (QC D cI cJ cZ ad (pI (v, h)) (va_A (wld ad cI cJ cZ h) H.size) a) (va_A (wld ad cI cJ cZ h) H.size)) (kk : ∀ H1 locs1, va_P D classes (w2 ad cI cJ cZ h qa cA f) H1 → va_S A s.heap H1 locs1 → W p l e R s m args below meth c H1 locs1 1 2 Q (F0 m (pc + 3) ls (.int v :: rest))) : W p l e R s m args below meth c H locs 1 2 Q (F0 m pc ls st0) := by
  have hA1 := A_le (h := h) F hS
  intro T hT X
  obtain ⟨v1, st₀, t, T', L1, h0, X', hL, e1, e2, ⟨⟨v', h', hv, hp, hPt, hKt⟩, hz, hk⟩, st⟩ := hr T hT X
  obtain ⟨rfl, rfl⟩ := hp
  cases hv
  rw [h0] at hz hk
  have KK := kk T'.heap (locs ++ L1) (by rw [e1]; exact w2_keep hP hD hk hPt)
    ⟨Nat.le_trans hS.1 (by rw [e1]; exact hz), fun q h1 h2 => by rw [e1, hk q (Nat.lt_of_lt_of_le h1 hS.1) (fun z => h2 (hA1 q z))]; exact hS.2.1 q h1 h2, fun q hq => by
      rcases List.mem_append.mp hq with h | h
      · exact hS.2.2 q h
      · exact hA1 _ (hL q h)⟩
  obtain ⟨t2, a1, b1⟩ := KK T' rfl X'
  exact ⟨t2, st t2 a1, b1⟩
theorem c2_callV (F : Fx p s m args meth c D cI cJ cZ ad A y) (hP : va_P D classes (w2 ad cI cJ cZ h qa cA f) H) (hD : va_D A (w2 ad cI cJ cZ h qa cA f)) (hS : va_S A s.heap H locs) (hh : lv_has ls y.2.2.2.1 Lr) (hd : decode y.2.2.1 pc = .ok (.invokevirtual i, 3)) (cw : CV y.1 i ci n y') (hK : K dg y' (.ref r :: as) h (pI (v, h))) (hR : dg + 1 ≤ R.frames ∧ 64 * (dg + 1) ≤ R.locals ∧ 1 ≤ R.cells ∧ 2 ≤ R.slots) (hr : ck r = ci) (hci : ci < 7) (hn : as.length = n) (hst : st0 = (as.map (cv ad)).reverse ++ .ref (ad r) :: rest) (hcat : (rest.map fun v => v.category).sum ≤ 8) (kk : ∀ H1 locs1, va_P D classes (w2 ad cI cJ cZ h qa cA f) H1 → va_S A s.heap H1 locs1 → W p l e R s m args below meth c H1 locs1 1 2 Q (F0 m (pc + 3) ls (.int v :: rest))) : W p l e R s m args below meth c H locs 1 2 Q (F0 m pc ls st0) := by
  subst hst
  obtain ⟨⟨c1, c2, c3, c4, c5, c6, c7⟩, c8, c9, T, N, c10⟩ := cw
  obtain ⟨r1, r2, r3, r4⟩ := hR
  have hts := F.2.2.2.2.1
  have hKK := F.2.2.2.2.2.1
  have hPw := w2_P hP
  refine c2_run F hP hD hS (a := (Value.ref (ad r) :: as.map (cv ad)).toArray) (va_runV (bytes := y'.2.2.1) (maxL := y'.2.2.2.1) (ret := y'.2.2.2.2) (C := y'.1) (As := as.map (cv ad)) (rest := rest) (b := ad r) (n := n) ⟨F.1, F.2.1, F.2.2.1, F.2.2.2.1, hts⟩ (hK l D cI cJ cZ ad H.size) ⟨?_, hts _ c8, hts _ c9⟩ ⟨FrB, va_recv hKK hPw c10 (wld_o hr hci), fun U hU hW => ⟨rfl, by rw [hU], by rw [hU]; exact hPw, va_K.moved hW.alike hKK, (F.2.2.2.2.2.2.1 h).weaken (fun _ _ _ _ => trivial), va_Nw.warmM hW F.2.2.2.2.2.2.2.2.2.2⟩⟩ rfl (by rw [List.length_map]; exact hn) hh.1 rfl (lv_room hcat) hd ⟨r3, r4⟩) kk
  exact callB_of n hts (TB_good c4) rfl rfl rfl (by rw [c1]; exact hts _ c3) (hts _ c2) ⟨c6.1, c6.2, c7⟩ ⟨r1, by show 8 + (y'.2.2.2.1 + 11) + 64 * dg ≤ R.locals; omega⟩
theorem c2_callS (F : Fx p s m args meth c D cI cJ cZ ad A y) (hP : va_P D classes (w2 ad cI cJ cZ h qa cA f) H) (hD : va_D A (w2 ad cI cJ cZ h qa cA f)) (hS : va_S A s.heap H locs) (hh : lv_has ls y.2.2.2.1 Lr) (hd : decode y.2.2.1 pc = .ok (.invokestatic i, 3)) (cw : CS y.1 i n y') (hK : K dg y' as h (pI (v, h))) (hR : dg + 1 ≤ R.frames ∧ 64 * (dg + 1) ≤ R.locals ∧ 1 ≤ R.cells ∧ 2 ≤ R.slots) (hn : as.length = n) (hst : st0 = (as.map (cv ad)).reverse ++ rest) (hcat : (rest.map fun v => v.category).sum ≤ 8) (kk : ∀ H1 locs1, va_P D classes (w2 ad cI cJ cZ h qa cA f) H1 → va_S A s.heap H1 locs1 → W p l e R s m args below meth c H1 locs1 1 2 Q (F0 m (pc + 3) ls (.int v :: rest))) : W p l e R s m args below meth c H locs 1 2 Q (F0 m pc ls st0) := by
  subst hst
  obtain ⟨⟨c1, c2, c3, c4, c5, c6, c7⟩, c8⟩ := cw
  obtain ⟨r1, r2, r3, r4⟩ := hR
  have hts := F.2.2.2.2.1
  have hKK := F.2.2.2.2.2.1
  have hPw := w2_P hP
  refine c2_run F hP hD hS (a := (as.map (cv ad)).toArray) (va_runS (bytes := y'.2.2.1) (maxL := y'.2.2.2.1) (ret := y'.2.2.2.2) (As := as.map (cv ad)) (rest := rest) (n := n) ⟨F.1, F.2.1, F.2.2.1, F.2.2.2.1, hts⟩ (hK l D cI cJ cZ ad H.size) ⟨?_, hts _ c8⟩ ⟨FrB, fun U hU hW => ⟨rfl, by rw [hU], by rw [hU]; exact hPw, va_K.moved hW.alike hKK, (F.2.2.2.2.2.2.1 h).weaken (fun _ _ _ _ => trivial), va_Nw.warmM hW F.2.2.2.2.2.2.2.2.2.2⟩⟩ rfl (by rw [List.length_map]; exact hn) hh.1 rfl (lv_room hcat) hd ⟨r3, r4⟩) kk
  exact callB_of n hts (TB_good c4) rfl rfl rfl (by rw [c1]; exact hts _ c3) (hts _ c2) ⟨c6.1, c6.2, c7⟩ ⟨r1, by show 8 + (y'.2.2.2.1 + 11) + 64 * dg ≤ R.locals; omega⟩
end C2
