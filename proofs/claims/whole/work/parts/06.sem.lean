/-! the words that the decompiled functions are made of -/
def FU : Nat := 1000
def nm {α β : Type} (a : α) (f : α → Option β) : Option β := f a
def gd {β : Type} (b : Bool) (f : Option β) : Option β := if b = true then f else none
def inb (i : Int32) (n : Nat) : Bool := decide (¬ (i < 0 ∨ n ≤ i.toNatClampNeg))
def zb (x : Int32) : Bool := decide (x = 0 ∨ x = 1)
def nzI (x : Int32) : Bool := decide (¬ x = 0)
def nzL (x : Int64) : Bool := decide (¬ x = 0)
def isC (r c : Nat) : Bool := decide (ck r = c)
def isA (r c n : Nat) : Bool := decide (ck r = c ∧ an r = n)
theorem nm_s {α β : Type} {a : α} {f : α → Option β} {q : β} (h : nm a f = some q) : ∃ x, a = x ∧ f x = some q := ⟨a, rfl, h⟩
theorem gd_s {β : Type} {b : Bool} {f : Option β} {q : β} (h : gd b f = some q) : b = true ∧ f = some q := by
  unfold gd at h
  by_cases hb : b = true
  · rw [if_pos hb] at h; exact ⟨hb, h⟩
  · rw [if_neg hb] at h; cases h
theorem bd_s {α β : Type} {o : Option α} {f : α → Option β} {q : β} (h : o.bind f = some q) : ∃ a, o = some a ∧ f a = some q := by
  cases o with
  | none => cases h
  | some a => exact ⟨a, rfl, h⟩
theorem inb_t {i : Int32} {n : Nat} (h : inb i n = true) : vp_in i n := (of_decide_eq_true h : ¬ (i < 0 ∨ n ≤ i.toNatClampNeg))
theorem zb_t {x : Int32} (h : zb x = true) : x = 0 ∨ x = 1 := of_decide_eq_true h
theorem nzI_t {x : Int32} (h : nzI x = true) : ¬ x = 0 := of_decide_eq_true h
theorem nzL_t {x : Int64} (h : nzL x = true) : ¬ x = 0 := of_decide_eq_true h
theorem isC_t {r c : Nat} (h : isC r c = true) : ck r = c := of_decide_eq_true h
theorem isA_t {r c n : Nat} (h : isA r c n = true) : ck r = c ∧ an r = n := of_decide_eq_true h
def pI (q : Int32 × Hp) : Option Value → Hp → Prop := fun v k => v = some (.int q.1) ∧ k = q.2
def pL (q : Int64 × Hp) : Option Value → Hp → Prop := fun v k => v = some (.long q.1) ∧ k = q.2
def pR (q : Nat × Hp) : Option Value → Hp → Prop := fun v k => v = some (.ref q.1) ∧ k = q.2
def pV (q : Hp) : Option Value → Hp → Prop := fun v k => v = none ∧ k = q
theorem fnI {x : Int32} {h : Hp} {q : Int32 × Hp} (e : some (x, h) = some q) : pI q (some (.int x)) h := by
  have e' := Option.some.inj e
  subst e'
  exact ⟨rfl, rfl⟩
theorem fnL {x : Int64} {h : Hp} {q : Int64 × Hp} (e : some (x, h) = some q) : pL q (some (.long x)) h := by
  have e' := Option.some.inj e
  subst e'
  exact ⟨rfl, rfl⟩
theorem fnR {x : Nat} {h : Hp} {q : Nat × Hp} (e : some (x, h) = some q) : pR q (some (.ref x)) h := by
  have e' := Option.some.inj e
  subst e'
  exact ⟨rfl, rfl⟩
theorem fnV {h q : Hp} (e : some h = some q) : pV q none h := by
  have e' := Option.some.inj e
  subst e'
  exact ⟨rfl, rfl⟩
theorem TBm {w : Cond} (i : Nat) (h : lw_tbl[i]? = some w) (g : goodWord w = true) : w ∈ TB := List.mem_filter.mpr ⟨List.mem_of_getElem? h, g⟩
section VD
variable {Γ : Launch → Room → State → Array Value → List Frame → va_G → ClassId → ClassId → ClassId → (Nat → Nat) → (Nat → Prop) → (State → Prop) → Prop} {y y' : MI} {z : Nat × Nat} {pc pc' : Nat} {L L' : List (Nat × Value)} {S S0 : List Value} {h h' : Hp} {dg i n : Nat} {as : List Value}
theorem V.pk (ks : List Nat) (hl : lv_pick L ks = L') (k : V Γ y z pc L' S h) : V Γ y z pc L S h := by
  intro p l e R s m args below meth c D cI cJ cZ ad A Q G F H locs ls hP hS hh
  refine k p l e R s m args below meth c D cI cJ cZ ad A Q G F H locs ls hP hS (lv_sub hh ks ?_)
  subst hl
  unfold lv_pick lc
  rw [List.map_filterMap]
  congr 1
  funext j
  rw [List.getElem?_map]
theorem V.hp (e : h = h') (k : V Γ y z pc L S h') : V Γ y z pc L S h := e ▸ k
theorem V.callVi {ci r : Nat} {q : Int32 × Hp} (hd : decode y.2.2.1 pc = .ok (.invokevirtual i, 3)) (hp : pc + 3 = pc') (cw : CV y.1 i ci n y') (hK : K dg y' (.ref r :: as) h (pI q)) (hR : RmOk Γ (dg + 1) z.1 z.2) (hr : ck r = ci) (hci : ci < 7) (hn : as.length = n) (hcat : (S.map fun v => v.category).sum ≤ 8) (hst : as.reverse ++ .ref r :: S = S0) (kk : V Γ y z pc' L (.int q.1 :: S) q.2) : V Γ y z pc L S0 h :=
  V.callV hd hp cw hK hR hr hci hn hcat hst (fun v k e => by obtain ⟨rfl, rfl⟩ := e; exact kk)
theorem V.callVl {ci r : Nat} {q : Int64 × Hp} (hd : decode y.2.2.1 pc = .ok (.invokevirtual i, 3)) (hp : pc + 3 = pc') (cw : CV y.1 i ci n y') (hK : K dg y' (.ref r :: as) h (pL q)) (hR : RmOk Γ (dg + 1) z.1 z.2) (hr : ck r = ci) (hci : ci < 7) (hn : as.length = n) (hcat : (S.map fun v => v.category).sum ≤ 8) (hst : as.reverse ++ .ref r :: S = S0) (kk : V Γ y z pc' L (.long q.1 :: S) q.2) : V Γ y z pc L S0 h :=
  V.callV hd hp cw hK hR hr hci hn hcat hst (fun v k e => by obtain ⟨rfl, rfl⟩ := e; exact kk)
theorem V.callVr {ci r : Nat} {q : Nat × Hp} (hd : decode y.2.2.1 pc = .ok (.invokevirtual i, 3)) (hp : pc + 3 = pc') (cw : CV y.1 i ci n y') (hK : K dg y' (.ref r :: as) h (pR q)) (hR : RmOk Γ (dg + 1) z.1 z.2) (hr : ck r = ci) (hci : ci < 7) (hn : as.length = n) (hcat : (S.map fun v => v.category).sum ≤ 8) (hst : as.reverse ++ .ref r :: S = S0) (kk : V Γ y z pc' L (.ref q.1 :: S) q.2) : V Γ y z pc L S0 h :=
  V.callV hd hp cw hK hR hr hci hn hcat hst (fun v k e => by obtain ⟨rfl, rfl⟩ := e; exact kk)
theorem V.callVv {ci r : Nat} {q : Hp} (hd : decode y.2.2.1 pc = .ok (.invokevirtual i, 3)) (hp : pc + 3 = pc') (cw : CV y.1 i ci n y') (hK : K dg y' (.ref r :: as) h (pV q)) (hR : RmOk Γ (dg + 1) z.1 z.2) (hr : ck r = ci) (hci : ci < 7) (hn : as.length = n) (hcat : (S.map fun v => v.category).sum ≤ 8) (hst : as.reverse ++ .ref r :: S = S0) (kk : V Γ y z pc' L S q) : V Γ y z pc L S0 h :=
  V.callV hd hp cw hK hR hr hci hn hcat hst (fun v k e => by obtain ⟨rfl, rfl⟩ := e; exact kk)
theorem V.callSi {q : Int32 × Hp} (hd : decode y.2.2.1 pc = .ok (.invokestatic i, 3)) (hp : pc + 3 = pc') (cw : CS y.1 i n y') (hK : K dg y' as h (pI q)) (hR : RmOk Γ (dg + 1) z.1 z.2) (hn : as.length = n) (hcat : (S.map fun v => v.category).sum ≤ 8) (hst : as.reverse ++ S = S0) (kk : V Γ y z pc' L (.int q.1 :: S) q.2) : V Γ y z pc L S0 h :=
  V.callS hd hp cw hK hR hn hcat hst (fun v k e => by obtain ⟨rfl, rfl⟩ := e; exact kk)
theorem V.callSl {q : Int64 × Hp} (hd : decode y.2.2.1 pc = .ok (.invokestatic i, 3)) (hp : pc + 3 = pc') (cw : CS y.1 i n y') (hK : K dg y' as h (pL q)) (hR : RmOk Γ (dg + 1) z.1 z.2) (hn : as.length = n) (hcat : (S.map fun v => v.category).sum ≤ 8) (hst : as.reverse ++ S = S0) (kk : V Γ y z pc' L (.long q.1 :: S) q.2) : V Γ y z pc L S0 h :=
  V.callS hd hp cw hK hR hn hcat hst (fun v k e => by obtain ⟨rfl, rfl⟩ := e; exact kk)
theorem V.callNi {host : String} {q : Int32 × Hp} (hd : decode y.2.2.1 pc = .ok (.invokestatic i, 3)) (hp : pc + 3 = pc') (cw : CN y.1 i n y' host) (hK : K dg y' as h (pI q)) (hR : RmOk Γ (dg + 1) z.1 z.2) (hn : as.length = n) (hcat : (S.map fun v => v.category).sum ≤ 8) (hst : as.reverse ++ S = S0) (kk : V Γ y z pc' L (.int q.1 :: S) q.2) : V Γ y z pc L S0 h :=
  V.callN hd hp cw hK hR hn hcat hst (fun v k e => by obtain ⟨rfl, rfl⟩ := e; exact kk)
end VD
