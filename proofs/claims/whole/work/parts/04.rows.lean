/-! the judgement V: the machine at a frame of method y, its locals L, its stack S (references as handles), the world's contents h -/
def TB : List Cond := lw_tbl.filter goodWord
abbrev tys (cI cJ cZ : ClassId) : List (ClassId × FieldType) := [(cI, .int), (cJ, .long), (cZ, .boolean)]
/-- a private method of the nest's host is called by a mate: the link's word, which stays as the machine warms -/
def NW : Cond := .methodLinkNest RX4 19 yX5_commonDivisor "HeatPinch"
def Fx (p : Program) (s : State) (m : MethodId) (args : Array Value) (meth : Method) (c : Code) (D : va_G) (cI cJ cZ : ClassId) (ad : Nat → Nat) (A : Nat → Prop) (y : MI) : Prop :=
  p.tables.exec = Jvm.exec ∧ c.code = y.2.2.1 ∧ c.maxLocals = y.2.2.2.1 ∧ s.vm.findClass y.1 = some m.cls ∧ (∀ w ∈ TB, w.before args s = true) ∧ va_K D classes (tys cI cJ cZ) s ∧ (∀ h, va_D A (wld ad cI cJ cZ h)) ∧ meth.sig.returnType = y.2.2.2.2 ∧ meth.locks = false ∧ (∀ q : Nat, s.heap.size ≤ q → A q) ∧ va_Nw NW s
def V (Γ : Launch → Room → State → Array Value → List Frame → va_G → ClassId → ClassId → ClassId → (Nat → Nat) → (Nat → Prop) → (State → Prop) → Prop) (y : MI) (z : Nat × Nat) (pc : Nat) (L : List (Nat × Value)) (S : List Value) (h : Hp) : Prop :=
  ∀ (p : Program) (l : Launch) (e : Env) (R : Room) (s : State) (m : MethodId) (args : Array Value) (below : List Frame) (meth : Method) (c : Code) (D : va_G) (cI cJ cZ : ClassId) (ad : Nat → Nat) (A : Nat → Prop) (Q : State → Prop), Γ l R s args below D cI cJ cZ ad A Q → Fx p s m args meth c D cI cJ cZ ad A y →
    ∀ (H : Heap) (locs : List Loc) (ls : Array Slot), va_P D classes (wld ad cI cJ cZ h) H → va_S A s.heap H locs → lv_has ls y.2.2.2.1 (lc ad L) → W p l e R s m args below meth c H locs z.1 z.2 Q (F0 m pc ls (S.map (cv ad)))
section VR
variable {Γ : Launch → Room → State → Array Value → List Frame → va_G → ClassId → ClassId → ClassId → (Nat → Nat) → (Nat → Prop) → (State → Prop) → Prop} {y : MI} {z : Nat × Nat} {pc pc' : Nat} {L L' : List (Nat × Value)} {S : List Value} {h : Hp}
theorem lc_at {ad : Nat → Nat} {L : List (Nat × Value)} {k i : Nat} {v : Value} (hk : L[k]? = some (i, v)) : (lc ad L)[k]? = some (i, cv ad v) := by
  unfold lc
  rw [List.getElem?_map, hk]
  rfl
/-- a local is written: the list of locals behind it -/
def ls1 (L : List (Nat × Value)) (i : Nat) (v : Value) : List (Nat × Value) := (i, v) :: L.filter (fun q => !(q.1 == i) && !(q.1 + 1 == i && q.2.category == 2))
def ls2 (L : List (Nat × Value)) (i : Nat) (v : Value) : List (Nat × Value) := (i, v) :: L.filter (fun q => !(q.1 == i) && (!(q.1 == i + 1) && !(q.1 + 1 == i && q.2.category == 2)))
theorem lc_ls1 {ad : Nat → Nat} {L : List (Nat × Value)} {i : Nat} {v : Value} : (i, cv ad v) :: (lc ad L).filter (fun q => !(q.1 == i) && !(q.1 + 1 == i && q.2.category == 2)) = lc ad (ls1 L i v) := by
  unfold lc ls1
  rw [List.map_cons, List.filter_map]
  congr 2
  apply List.filter_congr
  intro q hq
  simp [cv_cat]
theorem lc_ls2 {ad : Nat → Nat} {L : List (Nat × Value)} {i : Nat} {v : Value} : (i, cv ad v) :: (lc ad L).filter (fun q => !(q.1 == i) && (!(q.1 == i + 1) && !(q.1 + 1 == i && q.2.category == 2))) = lc ad (ls2 L i v) := by
  unfold lc ls2
  rw [List.map_cons, List.filter_map]
  congr 2
  apply List.filter_congr
  intro q hq
  simp [cv_cat]
theorem V.iconst {n : Int} {v : Int32} (hd : decode y.2.2.1 pc = .ok (.iconst n, 1)) (hp : pc + 1 = pc') (hv : Int32.ofInt n = v) (k : V Γ y z pc' L (.int v :: S) h) : V Γ y z pc L S h := by
  subst hp
  intro p l e R s m args below meth c D cI cJ cZ ad A Q G F H locs ls hP hS hl
  exact lv_iconst F.1 F.2.1 hd hv (k p l e R s m args below meth c D cI cJ cZ ad A Q G F H locs ls hP hS hl)
theorem V.bipush {n : Int} {v : Int32} (hd : decode y.2.2.1 pc = .ok (.bipush n, 2)) (hp : pc + 2 = pc') (hv : (Int8.ofInt n).toInt32 = v) (k : V Γ y z pc' L (.int v :: S) h) : V Γ y z pc L S h := by
  subst hp
  intro p l e R s m args below meth c D cI cJ cZ ad A Q G F H locs ls hP hS hl
  exact lv_bipush F.1 F.2.1 hd hv (k p l e R s m args below meth c D cI cJ cZ ad A Q G F H locs ls hP hS hl)
theorem V.sipush {n : Int} {v : Int32} (hd : decode y.2.2.1 pc = .ok (.sipush n, 3)) (hp : pc + 3 = pc') (hv : (Int16.ofInt n).toInt32 = v) (k : V Γ y z pc' L (.int v :: S) h) : V Γ y z pc L S h := by
  subst hp
  intro p l e R s m args below meth c D cI cJ cZ ad A Q G F H locs ls hP hS hl
  exact lv_sipush F.1 F.2.1 hd hv (k p l e R s m args below meth c D cI cJ cZ ad A Q G F H locs ls hP hS hl)
theorem V.lconst {n : Fin 2} {v : Int64} (hd : decode y.2.2.1 pc = .ok (.lconst n, 1)) (hp : pc + 1 = pc') (hv : Int64.ofNat (n : Nat) = v) (k : V Γ y z pc' L (.long v :: S) h) : V Γ y z pc L S h := by
  subst hp
  intro p l e R s m args below meth c D cI cJ cZ ad A Q G F H locs ls hP hS hl
  exact lv_lconst F.1 F.2.1 hd hv (k p l e R s m args below meth c D cI cJ cZ ad A Q G F H locs ls hP hS hl)
theorem V.ldc2 {i : Nat} {v : Int64} (hd : decode y.2.2.1 pc = .ok (.ldc2_w i, 3)) (hp : pc + 3 = pc') (hw : Cond.constantLong y.1 i v ∈ TB) (k : V Γ y z pc' L (.long v :: S) h) : V Γ y z pc L S h := by
  subst hp
  intro p l e R s m args below meth c D cI cJ cZ ad A Q G F H locs ls hP hS hl
  exact lv_ldc2 F.1 F.2.1 F.2.2.2.1 (F.2.2.2.2.1 _ hw) hd (k p l e R s m args below meth c D cI cJ cZ ad A Q G F H locs ls hP hS hl)
theorem V.ilq {kk : Fin 4} {j : Nat} {x : Int32} (hd : decode y.2.2.1 pc = .ok (.iload_n kk, 1)) (hp : pc + 1 = pc') (hl : L[j]? = some ((kk : Nat), .int x)) (k : V Γ y z pc' L (.int x :: S) h) : V Γ y z pc L S h := by
  subst hp
  intro p l e R s m args below meth c D cI cJ cZ ad A Q G F H locs ls hP hS hh
  exact lv_iload_n F.1 F.2.1 hd rfl (lv_at hh j (lc_at hl)) (k p l e R s m args below meth c D cI cJ cZ ad A Q G F H locs ls hP hS hh)
theorem V.il {i j : Nat} {x : Int32} (hd : decode y.2.2.1 pc = .ok (.iload i, 2)) (hp : pc + 2 = pc') (hl : L[j]? = some (i, .int x)) (k : V Γ y z pc' L (.int x :: S) h) : V Γ y z pc L S h := by
  subst hp
  intro p l e R s m args below meth c D cI cJ cZ ad A Q G F H locs ls hP hS hh
  exact lv_iload F.1 F.2.1 hd (lv_at hh j (lc_at hl)) (k p l e R s m args below meth c D cI cJ cZ ad A Q G F H locs ls hP hS hh)
theorem V.llq {kk : Fin 4} {j : Nat} {x : Int64} (hd : decode y.2.2.1 pc = .ok (.lload_n kk, 1)) (hp : pc + 1 = pc') (hl : L[j]? = some ((kk : Nat), .long x)) (k : V Γ y z pc' L (.long x :: S) h) : V Γ y z pc L S h := by
  subst hp
  intro p l e R s m args below meth c D cI cJ cZ ad A Q G F H locs ls hP hS hh
  exact lv_lload_n F.1 F.2.1 hd rfl (lv_at hh j (lc_at hl)) (k p l e R s m args below meth c D cI cJ cZ ad A Q G F H locs ls hP hS hh)
theorem V.ll {i j : Nat} {x : Int64} (hd : decode y.2.2.1 pc = .ok (.lload i, 2)) (hp : pc + 2 = pc') (hl : L[j]? = some (i, .long x)) (k : V Γ y z pc' L (.long x :: S) h) : V Γ y z pc L S h := by
  subst hp
  intro p l e R s m args below meth c D cI cJ cZ ad A Q G F H locs ls hP hS hh
  exact lv_lload F.1 F.2.1 hd (lv_at hh j (lc_at hl)) (k p l e R s m args below meth c D cI cJ cZ ad A Q G F H locs ls hP hS hh)
theorem V.alq {kk : Fin 4} {j : Nat} {x : Nat} (hd : decode y.2.2.1 pc = .ok (.aload_n kk, 1)) (hp : pc + 1 = pc') (hl : L[j]? = some ((kk : Nat), .ref x)) (k : V Γ y z pc' L (.ref x :: S) h) : V Γ y z pc L S h := by
  subst hp
  intro p l e R s m args below meth c D cI cJ cZ ad A Q G F H locs ls hP hS hh
  exact lv_aload_n F.1 F.2.1 hd rfl (lv_at hh j (lc_at hl)) (k p l e R s m args below meth c D cI cJ cZ ad A Q G F H locs ls hP hS hh)
theorem V.al {i j : Nat} {x : Nat} (hd : decode y.2.2.1 pc = .ok (.aload i, 2)) (hp : pc + 2 = pc') (hl : L[j]? = some (i, .ref x)) (k : V Γ y z pc' L (.ref x :: S) h) : V Γ y z pc L S h := by
  subst hp
  intro p l e R s m args below meth c D cI cJ cZ ad A Q G F H locs ls hP hS hh
  exact lv_aload F.1 F.2.1 hd (lv_at hh j (lc_at hl)) (k p l e R s m args below meth c D cI cJ cZ ad A Q G F H locs ls hP hS hh)
theorem V.isq {kk : Fin 4} {x x' : Int32} (hd : decode y.2.2.1 pc = .ok (.istore_n kk, 1)) (hp : pc + 1 = pc') (hn : (kk : Nat) < y.2.2.2.1) (hx : x = x') (hl : ls1 L kk (.int x') = L') (k : V Γ y z pc' L' S h) : V Γ y z pc L (.int x :: S) h := by
  subst hp; subst hx; subst hl
  intro p l e R s m args below meth c D cI cJ cZ ad A Q G F H locs ls hP hS hh
  exact lv_istore_n F.1 F.2.1 hd rfl hh hn (lc_ls1 (v := .int x)) (fun ls' hh' => k p l e R s m args below meth c D cI cJ cZ ad A Q G F H locs ls' hP hS hh')
theorem V.is {i : Nat} {x x' : Int32} (hd : decode y.2.2.1 pc = .ok (.istore i, 2)) (hp : pc + 2 = pc') (hn : i < y.2.2.2.1) (hx : x = x') (hl : ls1 L i (.int x') = L') (k : V Γ y z pc' L' S h) : V Γ y z pc L (.int x :: S) h := by
  subst hp; subst hx; subst hl
  intro p l e R s m args below meth c D cI cJ cZ ad A Q G F H locs ls hP hS hh
  exact lv_istore F.1 F.2.1 hd hh hn (lc_ls1 (v := .int x)) (fun ls' hh' => k p l e R s m args below meth c D cI cJ cZ ad A Q G F H locs ls' hP hS hh')
theorem V.lsq {kk : Fin 4} {x x' : Int64} (hd : decode y.2.2.1 pc = .ok (.lstore_n kk, 1)) (hp : pc + 1 = pc') (hn : (kk : Nat) + 1 < y.2.2.2.1) (hx : x = x') (hl : ls2 L kk (.long x') = L') (k : V Γ y z pc' L' S h) : V Γ y z pc L (.long x :: S) h := by
  subst hp; subst hx; subst hl
  intro p l e R s m args below meth c D cI cJ cZ ad A Q G F H locs ls hP hS hh
  exact lv_lstore_n F.1 F.2.1 hd rfl hh hn (lc_ls2 (v := .long x)) (fun ls' hh' => k p l e R s m args below meth c D cI cJ cZ ad A Q G F H locs ls' hP hS hh')
theorem V.ls {i : Nat} {x x' : Int64} (hd : decode y.2.2.1 pc = .ok (.lstore i, 2)) (hp : pc + 2 = pc') (hn : i + 1 < y.2.2.2.1) (hx : x = x') (hl : ls2 L i (.long x') = L') (k : V Γ y z pc' L' S h) : V Γ y z pc L (.long x :: S) h := by
  subst hp; subst hx; subst hl
  intro p l e R s m args below meth c D cI cJ cZ ad A Q G F H locs ls hP hS hh
  exact lv_lstore F.1 F.2.1 hd hh hn (lc_ls2 (v := .long x)) (fun ls' hh' => k p l e R s m args below meth c D cI cJ cZ ad A Q G F H locs ls' hP hS hh')
theorem V.asq {kk : Fin 4} {x x' : Nat} (hd : decode y.2.2.1 pc = .ok (.astore_n kk, 1)) (hp : pc + 1 = pc') (hn : (kk : Nat) < y.2.2.2.1) (hx : x = x') (hl : ls1 L kk (.ref x') = L') (k : V Γ y z pc' L' S h) : V Γ y z pc L (.ref x :: S) h := by
  subst hp; subst hx; subst hl
  intro p l e R s m args below meth c D cI cJ cZ ad A Q G F H locs ls hP hS hh
  exact lv_astore_n F.1 F.2.1 hd rfl hh hn (lc_ls1 (v := .ref x)) (fun ls' hh' => k p l e R s m args below meth c D cI cJ cZ ad A Q G F H locs ls' hP hS hh')
theorem V.as {i : Nat} {x x' : Nat} (hd : decode y.2.2.1 pc = .ok (.astore i, 2)) (hp : pc + 2 = pc') (hn : i < y.2.2.2.1) (hx : x = x') (hl : ls1 L i (.ref x') = L') (k : V Γ y z pc' L' S h) : V Γ y z pc L (.ref x :: S) h := by
  subst hp; subst hx; subst hl
  intro p l e R s m args below meth c D cI cJ cZ ad A Q G F H locs ls hP hS hh
  exact lv_astore F.1 F.2.1 hd hh hn (lc_ls1 (v := .ref x)) (fun ls' hh' => k p l e R s m args below meth c D cI cJ cZ ad A Q G F H locs ls' hP hS hh')
theorem V.iinc {i j : Nat} {n : Int} {x v : Int32} (hd : decode y.2.2.1 pc = .ok (.iinc i n, 3)) (hp : pc + 3 = pc') (hj : L[j]? = some (i, .int x)) (hv : Int32.ofInt n = v) (hn : i < y.2.2.2.1) {x' : Int32} (hx : x + v = x') (hl : ls1 L i (.int x') = L') (k : V Γ y z pc' L' S h) : V Γ y z pc L S h := by
  subst hp; subst hx; subst hl; subst hv
  intro p l e R s m args below meth c D cI cJ cZ ad A Q G F H locs ls hP hS hh
  exact lv_iinc F.1 F.2.1 hd hh (lc_at hj) rfl hn (lc_ls1 (v := .int (x + Int32.ofInt n))) (fun ls' hh' => k p l e R s m args below meth c D cI cJ cZ ad A Q G F H locs ls' hP hS hh')
theorem V.goto {off : Int} (hd : decode y.2.2.1 pc = .ok (.goto off, 3)) (ht : (pc : Int) + off = (pc' : Int)) (k : V Γ y z pc' L S h) : V Γ y z pc L S h := by
  intro p l e R s m args below meth c D cI cJ cZ ad A Q G F H locs ls hP hS hh
  exact lv_goto F.1 F.2.1 hd ht (k p l e R s m args below meth c D cI cJ cZ ad A Q G F H locs ls hP hS hh)
theorem V.dup {v : Value} (hd : decode y.2.2.1 pc = .ok (.dup, 1)) (hp : pc + 1 = pc') (hv : v.category = 1) (k : V Γ y z pc' L (v :: v :: S) h) : V Γ y z pc L (v :: S) h := by
  subst hp
  intro p l e R s m args below meth c D cI cJ cZ ad A Q G F H locs ls hP hS hh
  exact lv_dup F.1 F.2.1 hd ((cv_cat ad v).trans hv) (k p l e R s m args below meth c D cI cJ cZ ad A Q G F H locs ls hP hS hh)
theorem V.pop {v : Value} (hd : decode y.2.2.1 pc = .ok (.pop, 1)) (hp : pc + 1 = pc') (hv : v.category = 1) (k : V Γ y z pc' L S h) : V Γ y z pc L (v :: S) h := by
  subst hp
  intro p l e R s m args below meth c D cI cJ cZ ad A Q G F H locs ls hP hS hh
  exact lv_pop F.1 F.2.1 hd ((cv_cat ad v).trans hv) (k p l e R s m args below meth c D cI cJ cZ ad A Q G F H locs ls hP hS hh)
theorem V.dup2 {v w : Value} (hd : decode y.2.2.1 pc = .ok (.dup2, 1)) (hp : pc + 1 = pc') (hv : v.category = 1) (hw : w.category = 1) (k : V Γ y z pc' L (v :: w :: v :: w :: S) h) : V Γ y z pc L (v :: w :: S) h := by
  subst hp
  intro p l e R s m args below meth c D cI cJ cZ ad A Q G F H locs ls hP hS hh
  exact lv_dup2_11 F.1 F.2.1 hd ((cv_cat ad v).trans hv) ((cv_cat ad w).trans hw) (k p l e R s m args below meth c D cI cJ cZ ad A Q G F H locs ls hP hS hh)
theorem V.iadd {a b : Int32} (hd : decode y.2.2.1 pc = .ok (.iadd, 1)) (hp : pc + 1 = pc') (k : V Γ y z pc' L (.int (a + b) :: S) h) : V Γ y z pc L (.int b :: .int a :: S) h := by
  subst hp
  intro p l e R s m args below meth c D cI cJ cZ ad A Q G F H locs ls hP hS hh
  exact lv_iadd F.1 F.2.1 hd (k p l e R s m args below meth c D cI cJ cZ ad A Q G F H locs ls hP hS hh)
theorem V.ladd {a b : Int64} (hd : decode y.2.2.1 pc = .ok (.ladd, 1)) (hp : pc + 1 = pc') (k : V Γ y z pc' L (.long (a + b) :: S) h) : V Γ y z pc L (.long b :: .long a :: S) h := by
  subst hp
  intro p l e R s m args below meth c D cI cJ cZ ad A Q G F H locs ls hP hS hh
  exact lv_ladd F.1 F.2.1 hd (k p l e R s m args below meth c D cI cJ cZ ad A Q G F H locs ls hP hS hh)
theorem V.isub {a b : Int32} (hd : decode y.2.2.1 pc = .ok (.isub, 1)) (hp : pc + 1 = pc') (k : V Γ y z pc' L (.int (a - b) :: S) h) : V Γ y z pc L (.int b :: .int a :: S) h := by
  subst hp
  intro p l e R s m args below meth c D cI cJ cZ ad A Q G F H locs ls hP hS hh
  exact lv_isub F.1 F.2.1 hd (k p l e R s m args below meth c D cI cJ cZ ad A Q G F H locs ls hP hS hh)
theorem V.lsub {a b : Int64} (hd : decode y.2.2.1 pc = .ok (.lsub, 1)) (hp : pc + 1 = pc') (k : V Γ y z pc' L (.long (a - b) :: S) h) : V Γ y z pc L (.long b :: .long a :: S) h := by
  subst hp
  intro p l e R s m args below meth c D cI cJ cZ ad A Q G F H locs ls hP hS hh
  exact lv_lsub F.1 F.2.1 hd (k p l e R s m args below meth c D cI cJ cZ ad A Q G F H locs ls hP hS hh)
theorem V.imul {a b : Int32} (hd : decode y.2.2.1 pc = .ok (.imul, 1)) (hp : pc + 1 = pc') (k : V Γ y z pc' L (.int (a * b) :: S) h) : V Γ y z pc L (.int b :: .int a :: S) h := by
  subst hp
  intro p l e R s m args below meth c D cI cJ cZ ad A Q G F H locs ls hP hS hh
  exact lv_imul F.1 F.2.1 hd (k p l e R s m args below meth c D cI cJ cZ ad A Q G F H locs ls hP hS hh)
theorem V.lmul {a b : Int64} (hd : decode y.2.2.1 pc = .ok (.lmul, 1)) (hp : pc + 1 = pc') (k : V Γ y z pc' L (.long (a * b) :: S) h) : V Γ y z pc L (.long b :: .long a :: S) h := by
  subst hp
  intro p l e R s m args below meth c D cI cJ cZ ad A Q G F H locs ls hP hS hh
  exact lv_lmul F.1 F.2.1 hd (k p l e R s m args below meth c D cI cJ cZ ad A Q G F H locs ls hP hS hh)
theorem V.iand {a b : Int32} (hd : decode y.2.2.1 pc = .ok (.iand, 1)) (hp : pc + 1 = pc') (k : V Γ y z pc' L (.int (a &&& b) :: S) h) : V Γ y z pc L (.int b :: .int a :: S) h := by
  subst hp
  intro p l e R s m args below meth c D cI cJ cZ ad A Q G F H locs ls hP hS hh
  exact lv_iand F.1 F.2.1 hd (k p l e R s m args below meth c D cI cJ cZ ad A Q G F H locs ls hP hS hh)
theorem V.ior {a b : Int32} (hd : decode y.2.2.1 pc = .ok (.ior, 1)) (hp : pc + 1 = pc') (k : V Γ y z pc' L (.int (a ||| b) :: S) h) : V Γ y z pc L (.int b :: .int a :: S) h := by
  subst hp
  intro p l e R s m args below meth c D cI cJ cZ ad A Q G F H locs ls hP hS hh
  exact lv_ior F.1 F.2.1 hd (k p l e R s m args below meth c D cI cJ cZ ad A Q G F H locs ls hP hS hh)
theorem V.idiv {a b : Int32} (hd : decode y.2.2.1 pc = .ok (.idiv, 1)) (hp : pc + 1 = pc') (hne : ¬ b = 0) (k : V Γ y z pc' L (.int (a / b) :: S) h) : V Γ y z pc L (.int b :: .int a :: S) h := by
  subst hp
  intro p l e R s m args below meth c D cI cJ cZ ad A Q G F H locs ls hP hS hh
  exact lv_idiv F.1 F.2.1 hd hne (k p l e R s m args below meth c D cI cJ cZ ad A Q G F H locs ls hP hS hh)
theorem V.irem {a b : Int32} (hd : decode y.2.2.1 pc = .ok (.irem, 1)) (hp : pc + 1 = pc') (hne : ¬ b = 0) (k : V Γ y z pc' L (.int (a - a / b * b) :: S) h) : V Γ y z pc L (.int b :: .int a :: S) h := by
  subst hp
  intro p l e R s m args below meth c D cI cJ cZ ad A Q G F H locs ls hP hS hh
  exact lv_irem F.1 F.2.1 hd hne (k p l e R s m args below meth c D cI cJ cZ ad A Q G F H locs ls hP hS hh)
theorem V.ldiv {a b : Int64} (hd : decode y.2.2.1 pc = .ok (.ldiv, 1)) (hp : pc + 1 = pc') (hne : ¬ b = 0) (k : V Γ y z pc' L (.long (a / b) :: S) h) : V Γ y z pc L (.long b :: .long a :: S) h := by
  subst hp
  intro p l e R s m args below meth c D cI cJ cZ ad A Q G F H locs ls hP hS hh
  exact lv_ldiv F.1 F.2.1 hd hne (k p l e R s m args below meth c D cI cJ cZ ad A Q G F H locs ls hP hS hh)
theorem V.lrem {a b : Int64} (hd : decode y.2.2.1 pc = .ok (.lrem, 1)) (hp : pc + 1 = pc') (hne : ¬ b = 0) (k : V Γ y z pc' L (.long (a - a / b * b) :: S) h) : V Γ y z pc L (.long b :: .long a :: S) h := by
  subst hp
  intro p l e R s m args below meth c D cI cJ cZ ad A Q G F H locs ls hP hS hh
  exact lv_lrem F.1 F.2.1 hd hne (k p l e R s m args below meth c D cI cJ cZ ad A Q G F H locs ls hP hS hh)
theorem V.ineg {a : Int32} (hd : decode y.2.2.1 pc = .ok (.ineg, 1)) (hp : pc + 1 = pc') (k : V Γ y z pc' L (.int (-a) :: S) h) : V Γ y z pc L (.int a :: S) h := by
  subst hp
  intro p l e R s m args below meth c D cI cJ cZ ad A Q G F H locs ls hP hS hh
  exact lv_ineg F.1 F.2.1 hd (k p l e R s m args below meth c D cI cJ cZ ad A Q G F H locs ls hP hS hh)
theorem V.lneg {a : Int64} (hd : decode y.2.2.1 pc = .ok (.lneg, 1)) (hp : pc + 1 = pc') (k : V Γ y z pc' L (.long (-a) :: S) h) : V Γ y z pc L (.long a :: S) h := by
  subst hp
  intro p l e R s m args below meth c D cI cJ cZ ad A Q G F H locs ls hP hS hh
  exact lv_lneg F.1 F.2.1 hd (k p l e R s m args below meth c D cI cJ cZ ad A Q G F H locs ls hP hS hh)
theorem V.ishl {a b : Int32} (hd : decode y.2.2.1 pc = .ok (.ishl, 1)) (hp : pc + 1 = pc') (k : V Γ y z pc' L (.int (a <<< (b &&& 31)) :: S) h) : V Γ y z pc L (.int b :: .int a :: S) h := by
  subst hp
  intro p l e R s m args below meth c D cI cJ cZ ad A Q G F H locs ls hP hS hh
  exact lv_ishl F.1 F.2.1 hd (k p l e R s m args below meth c D cI cJ cZ ad A Q G F H locs ls hP hS hh)
theorem V.ishr {a b : Int32} (hd : decode y.2.2.1 pc = .ok (.ishr, 1)) (hp : pc + 1 = pc') (k : V Γ y z pc' L (.int (a >>> (b &&& 31)) :: S) h) : V Γ y z pc L (.int b :: .int a :: S) h := by
  subst hp
  intro p l e R s m args below meth c D cI cJ cZ ad A Q G F H locs ls hP hS hh
  exact lv_ishr F.1 F.2.1 hd (k p l e R s m args below meth c D cI cJ cZ ad A Q G F H locs ls hP hS hh)
theorem V.iushr {a b : Int32} (hd : decode y.2.2.1 pc = .ok (.iushr, 1)) (hp : pc + 1 = pc') (k : V Γ y z pc' L (.int ((a.toUInt32 >>> (b.toUInt32 &&& Int32.toUInt32 31)).toInt32) :: S) h) : V Γ y z pc L (.int b :: .int a :: S) h := by
  subst hp
  intro p l e R s m args below meth c D cI cJ cZ ad A Q G F H locs ls hP hS hh
  exact lv_iushr F.1 F.2.1 hd rfl (k p l e R s m args below meth c D cI cJ cZ ad A Q G F H locs ls hP hS hh)
theorem V.i2l {a : Int32} (hd : decode y.2.2.1 pc = .ok (.i2l, 1)) (hp : pc + 1 = pc') (k : V Γ y z pc' L (.long (a.toInt64) :: S) h) : V Γ y z pc L (.int a :: S) h := by
  subst hp
  intro p l e R s m args below meth c D cI cJ cZ ad A Q G F H locs ls hP hS hh
  exact lv_i2l F.1 F.2.1 hd rfl (k p l e R s m args below meth c D cI cJ cZ ad A Q G F H locs ls hP hS hh)
theorem V.l2i {a : Int64} (hd : decode y.2.2.1 pc = .ok (.l2i, 1)) (hp : pc + 1 = pc') (k : V Γ y z pc' L (.int (a.toInt32) :: S) h) : V Γ y z pc L (.long a :: S) h := by
  subst hp
  intro p l e R s m args below meth c D cI cJ cZ ad A Q G F H locs ls hP hS hh
  exact lv_l2i F.1 F.2.1 hd rfl (k p l e R s m args below meth c D cI cJ cZ ad A Q G F H locs ls hP hS hh)
theorem V.lcmp {a b : Int64} (hd : decode y.2.2.1 pc = .ok (.lcmp, 1)) (hp : pc + 1 = pc') (k : V Γ y z pc' L (.int (lg_cmp a b) :: S) h) : V Γ y z pc L (.long b :: .long a :: S) h := by
  subst hp
  intro p l e R s m args below meth c D cI cJ cZ ad A Q G F H locs ls hP hS hh
  exact W.lcmp F.1 F.2.1 hd (k p l e R s m args below meth c D cI cJ cZ ad A Q G F H locs ls hP hS hh)
theorem V.if_eq {x : Int32} {off : Int} {tgt : Nat} (hd : decode y.2.2.1 pc = .ok (.ifCond .eq off, 3)) (hp : pc + 3 = pc') (ht : (pc : Int) + off = (tgt : Int)) (kt : x = 0 → V Γ y z tgt L S h) (kf : ¬ (x = 0) → V Γ y z pc' L S h) : V Γ y z pc L (.int x :: S) h := by
  subst hp
  intro p l e R s m args below meth c D cI cJ cZ ad A Q G F H locs ls hP hS hh
  exact lv_if_eq F.1 F.2.1 hd ht (fun q => kt q p l e R s m args below meth c D cI cJ cZ ad A Q G F H locs ls hP hS hh) (fun q => kf q p l e R s m args below meth c D cI cJ cZ ad A Q G F H locs ls hP hS hh)
theorem V.ic_eq {x w : Int32} {off : Int} {tgt : Nat} (hd : decode y.2.2.1 pc = .ok (.if_icmp .eq off, 3)) (hp : pc + 3 = pc') (ht : (pc : Int) + off = (tgt : Int)) (kt : x = w → V Γ y z tgt L S h) (kf : ¬ (x = w) → V Γ y z pc' L S h) : V Γ y z pc L (.int w :: .int x :: S) h := by
  subst hp
  intro p l e R s m args below meth c D cI cJ cZ ad A Q G F H locs ls hP hS hh
  exact lv_icmp_eq F.1 F.2.1 hd ht (fun q => kt q p l e R s m args below meth c D cI cJ cZ ad A Q G F H locs ls hP hS hh) (fun q => kf q p l e R s m args below meth c D cI cJ cZ ad A Q G F H locs ls hP hS hh)
theorem V.if_ne {x : Int32} {off : Int} {tgt : Nat} (hd : decode y.2.2.1 pc = .ok (.ifCond .ne off, 3)) (hp : pc + 3 = pc') (ht : (pc : Int) + off = (tgt : Int)) (kt : ¬ x = 0 → V Γ y z tgt L S h) (kf : x = 0 → V Γ y z pc' L S h) : V Γ y z pc L (.int x :: S) h := by
  subst hp
  intro p l e R s m args below meth c D cI cJ cZ ad A Q G F H locs ls hP hS hh
  exact lv_if_ne F.1 F.2.1 hd ht (fun q => kt q p l e R s m args below meth c D cI cJ cZ ad A Q G F H locs ls hP hS hh) (fun q => kf q p l e R s m args below meth c D cI cJ cZ ad A Q G F H locs ls hP hS hh)
theorem V.ic_ne {x w : Int32} {off : Int} {tgt : Nat} (hd : decode y.2.2.1 pc = .ok (.if_icmp .ne off, 3)) (hp : pc + 3 = pc') (ht : (pc : Int) + off = (tgt : Int)) (kt : ¬ x = w → V Γ y z tgt L S h) (kf : x = w → V Γ y z pc' L S h) : V Γ y z pc L (.int w :: .int x :: S) h := by
  subst hp
  intro p l e R s m args below meth c D cI cJ cZ ad A Q G F H locs ls hP hS hh
  exact lv_icmp_ne F.1 F.2.1 hd ht (fun q => kt q p l e R s m args below meth c D cI cJ cZ ad A Q G F H locs ls hP hS hh) (fun q => kf q p l e R s m args below meth c D cI cJ cZ ad A Q G F H locs ls hP hS hh)
theorem V.if_lt {x : Int32} {off : Int} {tgt : Nat} (hd : decode y.2.2.1 pc = .ok (.ifCond .lt off, 3)) (hp : pc + 3 = pc') (ht : (pc : Int) + off = (tgt : Int)) (kt : x < 0 → V Γ y z tgt L S h) (kf : ¬ (x < 0) → V Γ y z pc' L S h) : V Γ y z pc L (.int x :: S) h := by
  subst hp
  intro p l e R s m args below meth c D cI cJ cZ ad A Q G F H locs ls hP hS hh
  exact lv_if_lt F.1 F.2.1 hd ht (fun q => kt q p l e R s m args below meth c D cI cJ cZ ad A Q G F H locs ls hP hS hh) (fun q => kf q p l e R s m args below meth c D cI cJ cZ ad A Q G F H locs ls hP hS hh)
theorem V.ic_lt {x w : Int32} {off : Int} {tgt : Nat} (hd : decode y.2.2.1 pc = .ok (.if_icmp .lt off, 3)) (hp : pc + 3 = pc') (ht : (pc : Int) + off = (tgt : Int)) (kt : x < w → V Γ y z tgt L S h) (kf : ¬ (x < w) → V Γ y z pc' L S h) : V Γ y z pc L (.int w :: .int x :: S) h := by
  subst hp
  intro p l e R s m args below meth c D cI cJ cZ ad A Q G F H locs ls hP hS hh
  exact lv_icmp_lt F.1 F.2.1 hd ht (fun q => kt q p l e R s m args below meth c D cI cJ cZ ad A Q G F H locs ls hP hS hh) (fun q => kf q p l e R s m args below meth c D cI cJ cZ ad A Q G F H locs ls hP hS hh)
theorem V.if_ge {x : Int32} {off : Int} {tgt : Nat} (hd : decode y.2.2.1 pc = .ok (.ifCond .ge off, 3)) (hp : pc + 3 = pc') (ht : (pc : Int) + off = (tgt : Int)) (kt : 0 ≤ x → V Γ y z tgt L S h) (kf : ¬ (0 ≤ x) → V Γ y z pc' L S h) : V Γ y z pc L (.int x :: S) h := by
  subst hp
  intro p l e R s m args below meth c D cI cJ cZ ad A Q G F H locs ls hP hS hh
  exact lv_if_ge F.1 F.2.1 hd ht (fun q => kt q p l e R s m args below meth c D cI cJ cZ ad A Q G F H locs ls hP hS hh) (fun q => kf q p l e R s m args below meth c D cI cJ cZ ad A Q G F H locs ls hP hS hh)
theorem V.ic_ge {x w : Int32} {off : Int} {tgt : Nat} (hd : decode y.2.2.1 pc = .ok (.if_icmp .ge off, 3)) (hp : pc + 3 = pc') (ht : (pc : Int) + off = (tgt : Int)) (kt : w ≤ x → V Γ y z tgt L S h) (kf : ¬ (w ≤ x) → V Γ y z pc' L S h) : V Γ y z pc L (.int w :: .int x :: S) h := by
  subst hp
  intro p l e R s m args below meth c D cI cJ cZ ad A Q G F H locs ls hP hS hh
  exact lv_icmp_ge F.1 F.2.1 hd ht (fun q => kt q p l e R s m args below meth c D cI cJ cZ ad A Q G F H locs ls hP hS hh) (fun q => kf q p l e R s m args below meth c D cI cJ cZ ad A Q G F H locs ls hP hS hh)
theorem V.if_gt {x : Int32} {off : Int} {tgt : Nat} (hd : decode y.2.2.1 pc = .ok (.ifCond .gt off, 3)) (hp : pc + 3 = pc') (ht : (pc : Int) + off = (tgt : Int)) (kt : 0 < x → V Γ y z tgt L S h) (kf : ¬ (0 < x) → V Γ y z pc' L S h) : V Γ y z pc L (.int x :: S) h := by
  subst hp
  intro p l e R s m args below meth c D cI cJ cZ ad A Q G F H locs ls hP hS hh
  exact lv_if_gt F.1 F.2.1 hd ht (fun q => kt q p l e R s m args below meth c D cI cJ cZ ad A Q G F H locs ls hP hS hh) (fun q => kf q p l e R s m args below meth c D cI cJ cZ ad A Q G F H locs ls hP hS hh)
theorem V.ic_gt {x w : Int32} {off : Int} {tgt : Nat} (hd : decode y.2.2.1 pc = .ok (.if_icmp .gt off, 3)) (hp : pc + 3 = pc') (ht : (pc : Int) + off = (tgt : Int)) (kt : w < x → V Γ y z tgt L S h) (kf : ¬ (w < x) → V Γ y z pc' L S h) : V Γ y z pc L (.int w :: .int x :: S) h := by
  subst hp
  intro p l e R s m args below meth c D cI cJ cZ ad A Q G F H locs ls hP hS hh
  exact lv_icmp_gt F.1 F.2.1 hd ht (fun q => kt q p l e R s m args below meth c D cI cJ cZ ad A Q G F H locs ls hP hS hh) (fun q => kf q p l e R s m args below meth c D cI cJ cZ ad A Q G F H locs ls hP hS hh)
theorem V.if_le {x : Int32} {off : Int} {tgt : Nat} (hd : decode y.2.2.1 pc = .ok (.ifCond .le off, 3)) (hp : pc + 3 = pc') (ht : (pc : Int) + off = (tgt : Int)) (kt : x ≤ 0 → V Γ y z tgt L S h) (kf : ¬ (x ≤ 0) → V Γ y z pc' L S h) : V Γ y z pc L (.int x :: S) h := by
  subst hp
  intro p l e R s m args below meth c D cI cJ cZ ad A Q G F H locs ls hP hS hh
  exact lv_if_le F.1 F.2.1 hd ht (fun q => kt q p l e R s m args below meth c D cI cJ cZ ad A Q G F H locs ls hP hS hh) (fun q => kf q p l e R s m args below meth c D cI cJ cZ ad A Q G F H locs ls hP hS hh)
theorem V.ic_le {x w : Int32} {off : Int} {tgt : Nat} (hd : decode y.2.2.1 pc = .ok (.if_icmp .le off, 3)) (hp : pc + 3 = pc') (ht : (pc : Int) + off = (tgt : Int)) (kt : x ≤ w → V Γ y z tgt L S h) (kf : ¬ (x ≤ w) → V Γ y z pc' L S h) : V Γ y z pc L (.int w :: .int x :: S) h := by
  subst hp
  intro p l e R s m args below meth c D cI cJ cZ ad A Q G F H locs ls hP hS hh
  exact lv_icmp_le F.1 F.2.1 hd ht (fun q => kt q p l e R s m args below meth c D cI cJ cZ ad A Q G F H locs ls hP hS hh) (fun q => kf q p l e R s m args below meth c D cI cJ cZ ad A Q G F H locs ls hP hS hh)
/-- a field's row in the tables: class number ci, field k -/
def FL (own : String) (idx ci k : Nat) : Prop := ∃ (C : String) (T : u_T) (N : Nat), classes[ci]? = some (C, T, N) ∧ k < N ∧ (∀ w ∈ u_ws C T N, w ∈ TB) ∧ Cond.fieldLink own idx (T k).1 (T k).2.1 (T k).2.2.1 ∈ TB
def FP (own : String) (idx ci k : Nat) : Prop := ∃ (C : String) (T : u_T) (N : Nat) (ty : Nat → FieldType), classes[ci]? = some (C, T, N) ∧ k < N ∧ (∀ w ∈ u_ws C T N, w ∈ TB) ∧ Cond.fieldLink own idx (T k).1 (T k).2.1 (T k).2.2.1 ∈ TB ∧ (∀ k, k < N → parseFieldDescriptor (T k).2.2.1 = some (ty k)) ∧ (∀ a, a < N → ∀ b, b < N → a ≠ b → (T a).2.1 ≠ (T b).2.1) ∧ (T k).2.2.2 = false ∧ parseFieldDescriptor (T k).2.2.1 = some .int
theorem cellOf_o {ad : Nat → Nat} {cI cJ cZ : ClassId} {h : Hp} {c ci : Nat} (hc : ck c = ci) (hi : ci < 7) : cellOf ad cI cJ cZ h c = .inr (ci, fv ad c (h.1 c) 0 (fl ci)) := by
  subst hc
  unfold cellOf
  rw [if_neg (by omega), if_neg (by omega), if_neg (by omega)]
theorem cellOf_i {ad : Nat → Nat} {cI cJ cZ : ClassId} {h : Hp} {c : Nat} (hc : ck c = 10) : cellOf ad cI cJ cZ h c = .inl (cI, an c, .inl (h.1 c)) := by
  unfold cellOf
  rw [if_pos hc]
theorem cellOf_j {ad : Nat → Nat} {cI cJ cZ : ClassId} {h : Hp} {c : Nat} (hc : ck c = 11) : cellOf ad cI cJ cZ h c = .inl (cJ, an c, .inr (.inl (h.2 c))) := by
  unfold cellOf
  rw [if_neg (by omega), if_pos hc]
theorem cellOf_z {ad : Nat → Nat} {cI cJ cZ : ClassId} {h : Hp} {c : Nat} (hc : ck c = 12) : cellOf ad cI cJ cZ h c = .inl (cZ, an c, .inl (h.1 c)) := by
  unfold cellOf
  rw [if_neg (by omega), if_neg (by omega), if_pos hc]
theorem wld_o {ad : Nat → Nat} {cI cJ cZ : ClassId} {h : Hp} {c ci : Nat} (hc : ck c = ci) (hi : ci < 7) : (wld ad cI cJ cZ h)[c]? = some (ad c, .inr (ci, fv ad c (h.1 c) 0 (fl ci))) := by
  rw [wld_at (ck_lt hc (by omega)), cellOf_o hc hi]
theorem wld_i {ad : Nat → Nat} {cI cJ cZ : ClassId} {h : Hp} {c : Nat} (hc : ck c = 10) : (wld ad cI cJ cZ h)[c]? = some (ad c, .inl (cI, an c, .inl (h.1 c))) := by
  rw [wld_at (ck_lt hc (by omega)), cellOf_i hc]
theorem wld_j {ad : Nat → Nat} {cI cJ cZ : ClassId} {h : Hp} {c : Nat} (hc : ck c = 11) : (wld ad cI cJ cZ h)[c]? = some (ad c, .inl (cJ, an c, .inr (.inl (h.2 c)))) := by
  rw [wld_at (ck_lt hc (by omega)), cellOf_j hc]
theorem wld_z {ad : Nat → Nat} {cI cJ cZ : ClassId} {h : Hp} {c : Nat} (hc : ck c = 12) : (wld ad cI cJ cZ h)[c]? = some (ad c, .inl (cZ, an c, .inl (h.1 c))) := by
  rw [wld_at (ck_lt hc (by omega)), cellOf_z hc]
theorem V.getf {i ci k r : Nat} (hd : decode y.2.2.1 pc = .ok (.getfield i, 3)) (hp : pc + 3 = pc') (hF : FL y.1 i ci k) (hr : ck r = ci) (hi : ci < 7) (hk : (fl ci)[k]? = some none) (kk : V Γ y z pc' L (.int (h.1 r k) :: S) h) : V Γ y z pc L (.ref r :: S) h := by
  subst hp
  intro p l e R s m args below meth c D cI cJ cZ ad A Q G F H locs ls hP hS hh
  obtain ⟨C, T, N, h1, h2, h3, h4⟩ := hF
  refine va_get F.1 F.2.1 (Ts := TB) F.2.2.2.2.1 h3 F.2.2.2.1 F.2.2.2.2.2.1 hP r (wld_o hr hi) h1 k h2 (F.2.2.2.2.1 _ h4) (fun _ q => q) (fv_get hk) hd ?_
  rw [Nat.zero_add]
  exact kk p l e R s m args below meth c D cI cJ cZ ad A Q G F H locs ls hP hS hh
theorem V.getr {i ci k r o : Nat} (hd : decode y.2.2.1 pc = .ok (.getfield i, 3)) (hp : pc + 3 = pc') (hF : FL y.1 i ci k) (hr : ck r = ci) (hi : ci < 7) (hk : (fl ci)[k]? = some (some o)) {r' : Nat} (hr' : r + o = r') (kk : V Γ y z pc' L (.ref r' :: S) h) : V Γ y z pc L (.ref r :: S) h := by
  subst hp; subst hr'
  intro p l e R s m args below meth c D cI cJ cZ ad A Q G F H locs ls hP hS hh
  obtain ⟨C, T, N, h1, h2, h3, h4⟩ := hF
  exact va_get F.1 F.2.1 (Ts := TB) F.2.2.2.2.1 h3 F.2.2.2.1 F.2.2.2.2.2.1 hP r (wld_o hr hi) h1 k h2 (F.2.2.2.2.1 _ h4) (fun _ q => q) (fv_getR hk) hd (kk p l e R s m args below meth c D cI cJ cZ ad A Q G F H locs ls hP hS hh)
theorem V.putf {i ci k r : Nat} {x : Int32} (hd : decode y.2.2.1 pc = .ok (.putfield i, 3)) (hp : pc + 3 = pc') (hF : FP y.1 i ci k) (hr : ck r = ci) (hi : ci < 7) (hk : (fl ci)[k]? = some none) {h' : Hp} (hu : u1 h r k x = h') (kk : V Γ y z pc' L S h') : V Γ y z pc L (.int x :: .ref r :: S) h := by
  subst hp; subst hu
  intro p l e R s m args below meth c D cI cJ cZ ad A Q G F H locs ls hP hS hh
  obtain ⟨C, T, N, ty, h1, h2, h3, h4, h5, h6, h7, h8⟩ := hF
  have hkl : k < (fl ci).length := (List.getElem?_eq_some_iff.mp hk).1
  have he : (wld ad cI cJ cZ h).set r (ad r, .inr (ci, (fv ad r (h.1 r) 0 (fl ci)).set k (.int x))) = wld ad cI cJ cZ (u1 h r k x) := by
    rw [← wld_set (ad := ad) (cI := cI) (cJ := cJ) (cZ := cZ) (h := h) (h' := u1 h r k x) (ck_lt hr (by omega)) u1_o, cellOf_o hr hi, u1_s, fv_set hk, Nat.zero_add]
  refine va_put F.1 F.2.1 (Ts := TB) F.2.2.2.2.1 h3 ty h5 h6 F.2.2.2.1 F.2.2.2.2.2.1 hP (F.2.2.2.2.2.2.1 h) hS r (wld_o hr hi) h1 k h2 (F.2.2.2.2.1 _ h4) (fun _ q => q) h7 (ty := .int) h8 rfl rfl (by rw [fv_len]; exact hkl) hd (fun H1 locs1 hP1 hD1 hS1 => ?_)
  have hP2 : va_P D classes ((wld ad cI cJ cZ h).set r (ad r, .inr (ci, (fv ad r (h.1 r) 0 (fl ci)).set k (.int x)))) H1 := hP1
  rw [he] at hP2
  exact kk p l e R s m args below meth c D cI cJ cZ ad A Q G F H1 locs1 ls hP2 hS1 hh
theorem V.iald {a n : Nat} {i : Int32} (hd : decode y.2.2.1 pc = .ok (.iaload, 1)) (hp : pc + 1 = pc') (ha : ck a = 10) (hn : an a = n) (hin : vp_in i n) (kk : V Γ y z pc' L (.int (h.1 a i.toNatClampNeg) :: S) h) : V Γ y z pc L (.int i :: .ref a :: S) h := by
  subst hp; subst hn
  intro p l e R s m args below meth c D cI cJ cZ ad A Q G F H locs ls hP hS hh
  exact va_iald F.1 F.2.1 F.2.2.2.2.2.1 hP a 0 (wld_i ha) rfl hin hd (kk p l e R s m args below meth c D cI cJ cZ ad A Q G F H locs ls hP hS hh)
theorem V.zald {a n : Nat} {i : Int32} (hd : decode y.2.2.1 pc = .ok (.baload, 1)) (hp : pc + 1 = pc') (ha : ck a = 12) (hn : an a = n) (hin : vp_in i n) (kk : V Γ y z pc' L (.int (h.1 a i.toNatClampNeg) :: S) h) : V Γ y z pc L (.int i :: .ref a :: S) h := by
  subst hp; subst hn
  intro p l e R s m args below meth c D cI cJ cZ ad A Q G F H locs ls hP hS hh
  exact va_zald F.1 F.2.1 F.2.2.2.2.2.1 hP a 2 (wld_z ha) rfl hin hd (kk p l e R s m args below meth c D cI cJ cZ ad A Q G F H locs ls hP hS hh)
theorem V.lald {a n : Nat} {i : Int32} (hd : decode y.2.2.1 pc = .ok (.laload, 1)) (hp : pc + 1 = pc') (ha : ck a = 11) (hn : an a = n) (hin : vp_in i n) (kk : V Γ y z pc' L (.long (h.2 a i.toNatClampNeg) :: S) h) : V Γ y z pc L (.int i :: .ref a :: S) h := by
  subst hp; subst hn
  intro p l e R s m args below meth c D cI cJ cZ ad A Q G F H locs ls hP hS hh
  exact va_lald F.1 F.2.1 F.2.2.2.2.2.1 hP a 1 (wld_j ha) rfl hin hd (kk p l e R s m args below meth c D cI cJ cZ ad A Q G F H locs ls hP hS hh)
theorem V.iast {a n : Nat} {i x : Int32} (hd : decode y.2.2.1 pc = .ok (.iastore, 1)) (hp : pc + 1 = pc') (ha : ck a = 10) (hn : an a = n) (hin : vp_in i n) {h' : Hp} (hu : u1 h a i.toNatClampNeg x = h') (kk : V Γ y z pc' L S h') : V Γ y z pc L (.int x :: .int i :: .ref a :: S) h := by
  subst hp; subst hn; subst hu
  intro p l e R s m args below meth c D cI cJ cZ ad A Q G F H locs ls hP hS hh
  refine va_iast F.1 F.2.1 F.2.2.2.2.2.1 hP (F.2.2.2.2.2.2.1 h) hS a 0 (wld_i ha) rfl hin hd (fun H1 locs1 hP1 hD1 hS1 => ?_)
  rw [show (wld ad cI cJ cZ h).set a (ad a, .inl (cI, an a, .inl (upd (h.1 a) i.toNatClampNeg x))) = wld ad cI cJ cZ (u1 h a i.toNatClampNeg x) by rw [← wld_set (ad := ad) (cI := cI) (cJ := cJ) (cZ := cZ) (h := h) (h' := u1 h a i.toNatClampNeg x) (ck_lt ha (by omega)) u1_o, cellOf_i ha, u1_s]] at hP1
  exact kk p l e R s m args below meth c D cI cJ cZ ad A Q G F H1 locs1 ls hP1 hS1 hh
theorem V.zast {a n : Nat} {i x : Int32} (hd : decode y.2.2.1 pc = .ok (.bastore, 1)) (hp : pc + 1 = pc') (ha : ck a = 12) (hn : an a = n) (hin : vp_in i n) {h' : Hp} (hu : u1 h a i.toNatClampNeg (vp_nar .boolean x) = h') (kk : V Γ y z pc' L S h') : V Γ y z pc L (.int x :: .int i :: .ref a :: S) h := by
  subst hp; subst hn; subst hu
  intro p l e R s m args below meth c D cI cJ cZ ad A Q G F H locs ls hP hS hh
  refine va_zast F.1 F.2.1 F.2.2.2.2.2.1 hP (F.2.2.2.2.2.2.1 h) hS a 2 (wld_z ha) rfl hin hd (fun H1 locs1 hP1 hD1 hS1 => ?_)
  rw [show (wld ad cI cJ cZ h).set a (ad a, .inl (cZ, an a, .inl (upd (h.1 a) i.toNatClampNeg (vp_nar .boolean x)))) = wld ad cI cJ cZ (u1 h a i.toNatClampNeg (vp_nar .boolean x)) by rw [← wld_set (ad := ad) (cI := cI) (cJ := cJ) (cZ := cZ) (h := h) (h' := u1 h a i.toNatClampNeg (vp_nar .boolean x)) (ck_lt ha (by omega)) u1_o, cellOf_z ha, u1_s]] at hP1
  exact kk p l e R s m args below meth c D cI cJ cZ ad A Q G F H1 locs1 ls hP1 hS1 hh
theorem V.last {a n : Nat} {i : Int32} {x : Int64} (hd : decode y.2.2.1 pc = .ok (.lastore, 1)) (hp : pc + 1 = pc') (ha : ck a = 11) (hn : an a = n) (hin : vp_in i n) {h' : Hp} (hu : u2 h a i.toNatClampNeg x = h') (kk : V Γ y z pc' L S h') : V Γ y z pc L (.long x :: .int i :: .ref a :: S) h := by
  subst hp; subst hn; subst hu
  intro p l e R s m args below meth c D cI cJ cZ ad A Q G F H locs ls hP hS hh
  refine va_last F.1 F.2.1 F.2.2.2.2.2.1 hP (F.2.2.2.2.2.2.1 h) hS a 1 (wld_j ha) rfl hin hd (fun H1 locs1 hP1 hD1 hS1 => ?_)
  rw [show (wld ad cI cJ cZ h).set a (ad a, .inl (cJ, an a, .inr (.inl (vp_updL (h.2 a) i.toNatClampNeg x)))) = wld ad cI cJ cZ (u2 h a i.toNatClampNeg x) by rw [← wld_set (ad := ad) (cI := cI) (cJ := cJ) (cZ := cZ) (h := h) (h' := u2 h a i.toNatClampNeg x) (ck_lt ha (by omega)) u2_o, cellOf_j ha, u2_s]] at hP1
  exact kk p l e R s m args below meth c D cI cJ cZ ad A Q G F H1 locs1 ls hP1 hS1 hh
theorem V.alenI {a : Nat} {v : Int32} (hd : decode y.2.2.1 pc = .ok (.arraylength, 1)) (hp : pc + 1 = pc') (ha : ck a = 10) (hv : Int32.ofNat (an a) = v) (kk : V Γ y z pc' L (.int v :: S) h) : V Γ y z pc L (.ref a :: S) h := by
  subst hp
  intro p l e R s m args below meth c D cI cJ cZ ad A Q G F H locs ls hP hS hh
  exact va_alen F.1 F.2.1 F.2.2.2.2.2.1 hP a 0 (wld_i ha) rfl hv hd (kk p l e R s m args below meth c D cI cJ cZ ad A Q G F H locs ls hP hS hh)
theorem V.alenJ {a : Nat} {v : Int32} (hd : decode y.2.2.1 pc = .ok (.arraylength, 1)) (hp : pc + 1 = pc') (ha : ck a = 11) (hv : Int32.ofNat (an a) = v) (kk : V Γ y z pc' L (.int v :: S) h) : V Γ y z pc L (.ref a :: S) h := by
  subst hp
  intro p l e R s m args below meth c D cI cJ cZ ad A Q G F H locs ls hP hS hh
  exact va_alen F.1 F.2.1 F.2.2.2.2.2.1 hP a 1 (wld_j ha) rfl hv hd (kk p l e R s m args below meth c D cI cJ cZ ad A Q G F H locs ls hP hS hh)
theorem V.tbIn {dflt lo hi off : Int} {offs : Array Int} {len : Nat} {x : Int32} {tgt : Nat} (hd : decode y.2.2.1 pc = .ok (.tableswitch dflt lo hi offs, len)) (h1 : ¬ x.toInt < lo) (h2 : ¬ hi < x.toInt) (ho : offs[(x.toInt - lo).toNat]? = some off) (ht : (pc : Int) + off = (tgt : Int)) (k : V Γ y z tgt L S h) : V Γ y z pc L (.int x :: S) h := by
  intro p l e R s m args below meth c D cI cJ cZ ad A Q G F H locs ls hP hS hh
  exact lv_tableIn F.1 F.2.1 hd h1 h2 ho ht (k p l e R s m args below meth c D cI cJ cZ ad A Q G F H locs ls hP hS hh)
theorem V.tbOut {dflt lo hi : Int} {offs : Array Int} {len : Nat} {x : Int32} {tgt : Nat} (hd : decode y.2.2.1 pc = .ok (.tableswitch dflt lo hi offs, len)) (h1 : x.toInt < lo ∨ hi < x.toInt) (ht : (pc : Int) + dflt = (tgt : Int)) (k : V Γ y z tgt L S h) : V Γ y z pc L (.int x :: S) h := by
  intro p l e R s m args below meth c D cI cJ cZ ad A Q G F H locs ls hP hS hh
  exact lv_tableOut F.1 F.2.1 hd h1 ht (k p l e R s m args below meth c D cI cJ cZ ad A Q G F H locs ls hP hS hh)
/-- the room of a method that may go d calls deep and makes no cell -/
abbrev rm (d : Nat) : Room := { frames := d, cells := 0, slots := 0, locals := 64 * d }
def RmOk (Γ : Launch → Room → State → Array Value → List Frame → va_G → ClassId → ClassId → ClassId → (Nat → Nat) → (Nat → Prop) → (State → Prop) → Prop) (d c0 s0 : Nat) : Prop := ∀ l R s args below D cI cJ cZ ad A Q, Γ l R s args below D cI cJ cZ ad A Q → d ≤ R.frames ∧ 64 * d ≤ R.locals ∧ c0 ≤ R.cells ∧ s0 ≤ R.slots
/-- Math.max, Math.min -/
def imax (a b : Int32) : Int32 := if a < b then b else a
def imin (a b : Int32) : Int32 := if b < a then b else a
def lmin (a b : Int64) : Int64 := if b < a then b else a
theorem V.mmax {i : Nat} {a b : Int32} (hd : decode y.2.2.1 pc = .ok (.invokestatic i, 3)) (hp : pc + 3 = pc') (hR : RmOk Γ 1 z.1 z.2) (h1 : Cond.methodLink y.1 i Lib.Math.max.name ∈ TB) (h2 : Cond.static Lib.Math.max.name ∈ TB) (h3 : Cond.initialized "java/lang/Math" ∈ TB) (h4 : Cond.code Lib.Math.max.name Lib.Math.max.code 2 (some .int) ∈ TB) (hS0 : (S.map fun v => v.category).sum ≤ 8) (k : V Γ y z pc' L (.int (imax a b) :: S) h) : V Γ y z pc L (.int b :: .int a :: S) h := by
  subst hp
  intro p l e R s m args below meth c D cI cJ cZ ad A Q G F H locs ls hP hS hh
  obtain ⟨r1, r2, r3, r4⟩ := hR _ _ _ _ _ _ _ _ _ _ _ _ G
  have hcat : ((S.map (cv ad)).map fun v => v.category) = S.map fun v => v.category := by rw [List.map_map]; exact List.map_congr_left (fun v _ => cv_cat ad v)
  exact va_mmax F.1 F.2.1 (by rw [F.2.2.1]; exact hh.1.symm) F.2.2.2.1 (F.2.2.2.2.1 _ h1) (F.2.2.2.2.1 _ h2) (F.2.2.2.2.1 _ h3) (F.2.2.2.2.1 _ h4) r1 (by rw [hcat]; omega) r3 r4 hd (k p l e R s m args below meth c D cI cJ cZ ad A Q G F H locs ls hP hS hh)
theorem V.mmin {i : Nat} {a b : Int32} (hd : decode y.2.2.1 pc = .ok (.invokestatic i, 3)) (hp : pc + 3 = pc') (hR : RmOk Γ 1 z.1 z.2) (h1 : Cond.methodLink y.1 i Lib.Math.min.name ∈ TB) (h2 : Cond.static Lib.Math.min.name ∈ TB) (h3 : Cond.initialized "java/lang/Math" ∈ TB) (h4 : Cond.code Lib.Math.min.name Lib.Math.min.code 2 (some .int) ∈ TB) (hS0 : (S.map fun v => v.category).sum ≤ 8) (k : V Γ y z pc' L (.int (imin a b) :: S) h) : V Γ y z pc L (.int b :: .int a :: S) h := by
  subst hp
  intro p l e R s m args below meth c D cI cJ cZ ad A Q G F H locs ls hP hS hh
  obtain ⟨r1, r2, r3, r4⟩ := hR _ _ _ _ _ _ _ _ _ _ _ _ G
  have hcat : ((S.map (cv ad)).map fun v => v.category) = S.map fun v => v.category := by rw [List.map_map]; exact List.map_congr_left (fun v _ => cv_cat ad v)
  exact va_mmin F.1 F.2.1 (by rw [F.2.2.1]; exact hh.1.symm) F.2.2.2.1 (F.2.2.2.2.1 _ h1) (F.2.2.2.2.1 _ h2) (F.2.2.2.2.1 _ h3) (F.2.2.2.2.1 _ h4) r1 (by rw [hcat]; omega) r3 r4 hd (k p l e R s m args below meth c D cI cJ cZ ad A Q G F H locs ls hP hS hh)
theorem V.mminL {i : Nat} {a b : Int64} (hd : decode y.2.2.1 pc = .ok (.invokestatic i, 3)) (hp : pc + 3 = pc') (hR : RmOk Γ 1 z.1 z.2) (h1 : Cond.methodLink y.1 i Lib.MathLoose.min_long.x ∈ TB) (h2 : Cond.static Lib.MathLoose.min_long.x ∈ TB) (h3 : Cond.initialized "java/lang/Math" ∈ TB) (h4 : Cond.code Lib.MathLoose.min_long.x Lib.MathLoose.min_long.code 4 (some .long) ∈ TB) (hS0 : (S.map fun v => v.category).sum ≤ 8) (k : V Γ y z pc' L (.long (lmin a b) :: S) h) : V Γ y z pc L (.long b :: .long a :: S) h := by
  subst hp
  intro p l e R s m args below meth c D cI cJ cZ ad A Q G F H locs ls hP hS hh
  obtain ⟨r1, r2, r3, r4⟩ := hR _ _ _ _ _ _ _ _ _ _ _ _ G
  have hcat : ((S.map (cv ad)).map fun v => v.category) = S.map fun v => v.category := by rw [List.map_map]; exact List.map_congr_left (fun v _ => cv_cat ad v)
  exact va_mmin_long F.1 F.2.1 (by rw [F.2.2.1]; exact hh.1.symm) F.2.2.2.1 (F.2.2.2.2.1 _ h1) (F.2.2.2.2.1 _ h2) (F.2.2.2.2.1 _ h3) (F.2.2.2.2.1 _ h4) r1 (by rw [hcat]; omega) r3 r4 hd (k p l e R s m args below meth c D cI cJ cZ ad A Q G F H locs ls hP hS hh)
end VR
