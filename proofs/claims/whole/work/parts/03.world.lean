/-! the world: 75 cells by handles; 0: the law's row, 1: the class, 54: the reference -/
def ckL : List Nat := [11, 5, 3, 10, 4, 11, 1, 12, 10, 10, 10, 1, 12, 10, 10, 10, 0, 10, 10, 10, 10, 0, 10, 10, 10, 10, 2, 12, 12, 10, 10, 10, 10, 10, 10, 10, 10, 10, 10, 10, 2, 12, 12, 10, 10, 10, 10, 10, 10, 10, 10, 10, 10, 10, 6, 11, 10, 10, 10, 10, 10, 10, 10, 10, 10, 10, 10, 10, 10, 10, 10, 10, 10, 10, 10]
def anL : List Nat := [1, 0, 0, 120, 0, 24, 0, 10, 10, 10, 10, 0, 10, 10, 10, 10, 0, 20, 20, 20, 20, 0, 20, 20, 20, 20, 0, 10, 10, 10, 10, 10, 10, 10, 24, 24, 24, 24, 10, 10, 0, 10, 10, 10, 10, 10, 10, 10, 24, 24, 24, 24, 10, 10, 0, 64, 120, 10, 10, 10, 10, 10, 10, 20, 20, 10, 10, 2, 50, 50, 50, 24, 24, 24, 24]
def ck (c : Nat) : Nat := ckL.getD c 99
def an (c : Nat) : Nat := anL.getD c 0
def flL : List (List (Option Nat)) := [[some 1, some 2, some 3, some 4, none, none], [some 1, some 2, some 3, some 4, none], [none, none, none, some 1, some 2, some 3, some 4, some 5, some 6, some 7, some 8, some 9, some 10, some 11, none, some 12, none, some 13], [some 1, none, none, none, none], [some 1, none], [some 1, some 3, some 5, some 10, some 15, some 20, some 25, some 39, none], [none, none, some 1, some 2, none, none, none, none, some 3, some 4, some 5, none, some 6, some 7, some 8, some 9, some 10, none, none, none, none, none, some 11, some 12, some 13, some 14, some 15, some 16, none, none, some 17, some 18, some 19, none, some 20, none]]
def fl (c : Nat) : List (Option Nat) := flL.getD c []
abbrev classes : List vw_C := [(RX0, TX0, 6), (RX1, TX1, 5), (RX2, TX2, 18), (RX3, TX3, 5), (RX4, TX4, 2), (RX5, TX5, 9), (RX6, TX6, 36)]
abbrev NC : Nat := 75
theorem inX0 : ∀ w ∈ wsX00, w ∈ lw_tbl := by decide +kernel
theorem inX1 : ∀ w ∈ wsX10, w ∈ lw_tbl := by decide +kernel
theorem inX2 : ∀ w ∈ wsX20, w ∈ lw_tbl := by decide +kernel
theorem inX3 : ∀ w ∈ wsX30, w ∈ lw_tbl := by decide +kernel
theorem inX4 : ∀ w ∈ wsX40, w ∈ lw_tbl := by decide +kernel
theorem inX5 : ∀ w ∈ wsX50, w ∈ lw_tbl := by decide +kernel
theorem inX6 : ∀ w ∈ wsX60, w ∈ lw_tbl := by decide +kernel
abbrev Hp : Type := (Nat → Nat → Int32) × (Nat → Nat → Int64)
abbrev MI : Type := String × MethodName × ByteArray × Nat × Option FieldType
/-- a value whose reference is a handle: as the machine has it -/
def cv (ad : Nat → Nat) : Value → Value
  | .ref a => .ref (ad a)
  | .int x => .int x
  | .long x => .long x
  | .float x => .float x
  | .double x => .double x
  | .null => .null
  | .retAddr x => .retAddr x
theorem cv_cat (ad : Nat → Nat) (v : Value) : (cv ad v).category = v.category := by cases v <;> rfl
def lc (ad : Nat → Nat) (L : List (Nat × Value)) : List (Nat × Value) := L.map (fun q => (q.1, cv ad q.2))
def fv (ad : Nat → Nat) (r : Nat) (f : Nat → Int32) : Nat → List (Option Nat) → List Value
  | _, [] => []
  | k, none :: t => .int (f k) :: fv ad r f (k + 1) t
  | k, some o :: t => .ref (ad (r + o)) :: fv ad r f (k + 1) t
def cellOf (ad : Nat → Nat) (cI cJ cZ : ClassId) (h : Hp) (c : Nat) : va_E :=
  if ck c = 10 then .inl (cI, an c, .inl (h.1 c)) else if ck c = 11 then .inl (cJ, an c, .inr (.inl (h.2 c))) else if ck c = 12 then .inl (cZ, an c, .inl (h.1 c)) else .inr (ck c, fv ad c (h.1 c) 0 (fl (ck c)))
def wld (ad : Nat → Nat) (cI cJ cZ : ClassId) (h : Hp) : va_W := (List.range NC).map (fun c => (ad c, cellOf ad cI cJ cZ h c))
/-- an int field or element becomes v; a long element -/
def u1 (h : Hp) (c k : Nat) (v : Int32) : Hp := (fun c' => if c' = c then upd (h.1 c) k v else h.1 c', h.2)
def u2 (h : Hp) (c k : Nat) (v : Int64) : Hp := (h.1, fun c' => if c' = c then vp_updL (h.2 c) k v else h.2 c')
theorem ck_lt {c k : Nat} (h : ck c = k) (hk : k < 99) : c < NC := by
  rcases Nat.lt_or_ge c NC with q | q
  · exact q
  · exfalso
    have e : ck c = 99 := by
      unfold ck
      rw [List.getD_eq_getElem?_getD, List.getElem?_eq_none (by exact q)]
      rfl
    omega
theorem wld_at {ad : Nat → Nat} {cI cJ cZ : ClassId} {h : Hp} {c : Nat} (hc : c < NC) : (wld ad cI cJ cZ h)[c]? = some (ad c, cellOf ad cI cJ cZ h c) := by
  unfold wld
  rw [List.getElem?_map, List.getElem?_range hc]
  rfl
theorem wld_set {ad : Nat → Nat} {cI cJ cZ : ClassId} {h h' : Hp} {a : Nat} (hc : a < NC) (ho : ∀ c, c ≠ a → h'.1 c = h.1 c ∧ h'.2 c = h.2 c) : (wld ad cI cJ cZ h).set a (ad a, cellOf ad cI cJ cZ h' a) = wld ad cI cJ cZ h' := by
  apply List.ext_getElem?
  intro k
  rw [List.getElem?_set]
  have hl : (wld ad cI cJ cZ h).length = NC := by simp [wld]
  by_cases e : a = k
  · subst e
    rw [if_pos rfl, if_pos (by rw [hl]; exact hc), wld_at hc]
  · rw [if_neg e]
    rcases Nat.lt_or_ge k NC with q | q
    · rw [wld_at q, wld_at q]
      have := ho k (fun x => e x.symm)
      unfold cellOf
      rw [this.1, this.2]
    · rw [List.getElem?_eq_none (by rw [hl]; exact q), List.getElem?_eq_none (by simp [wld]; exact q)]
theorem u1_o {h : Hp} {a k : Nat} {v : Int32} : ∀ c, c ≠ a → (u1 h a k v).1 c = h.1 c ∧ (u1 h a k v).2 c = h.2 c := fun c hc => ⟨if_neg hc, rfl⟩
theorem u2_o {h : Hp} {a k : Nat} {v : Int64} : ∀ c, c ≠ a → (u2 h a k v).1 c = h.1 c ∧ (u2 h a k v).2 c = h.2 c := fun c hc => ⟨rfl, if_neg hc⟩
theorem u1_s {h : Hp} {a k : Nat} {v : Int32} : (u1 h a k v).1 a = upd (h.1 a) k v := if_pos rfl
theorem u2_s {h : Hp} {a k : Nat} {v : Int64} : (u2 h a k v).2 a = vp_updL (h.2 a) k v := if_pos rfl
theorem fv_get {ad : Nat → Nat} {r : Nat} {f : Nat → Int32} : ∀ {l : List (Option Nat)} {j k : Nat}, l[k]? = some none → (fv ad r f j l)[k]? = some (.int (f (j + k)))
  | [], _, _, h => by simp at h
  | none :: t, j, 0, _ => rfl
  | some _ :: t, j, 0, h => by simp at h
  | none :: t, j, k + 1, h => by
    have := fv_get (ad := ad) (r := r) (f := f) (l := t) (j := j + 1) (k := k) (by simpa using h)
    simp only [fv, List.getElem?_cons_succ]
    rw [this, Nat.add_right_comm, Nat.add_assoc]
  | some _ :: t, j, k + 1, h => by
    have := fv_get (ad := ad) (r := r) (f := f) (l := t) (j := j + 1) (k := k) (by simpa using h)
    simp only [fv, List.getElem?_cons_succ]
    rw [this, Nat.add_right_comm, Nat.add_assoc]
theorem fv_getR {ad : Nat → Nat} {r o : Nat} {f : Nat → Int32} : ∀ {l : List (Option Nat)} {j k : Nat}, l[k]? = some (some o) → (fv ad r f j l)[k]? = some (.ref (ad (r + o)))
  | [], _, _, h => by simp at h
  | none :: t, j, 0, h => by simp at h
  | some _ :: t, j, 0, h => by
    simp at h
    subst h
    rfl
  | none :: t, j, k + 1, h => by
    have := fv_getR (ad := ad) (r := r) (o := o) (f := f) (l := t) (j := j + 1) (k := k) (by simpa using h)
    simp only [fv, List.getElem?_cons_succ]
    exact this
  | some _ :: t, j, k + 1, h => by
    have := fv_getR (ad := ad) (r := r) (o := o) (f := f) (l := t) (j := j + 1) (k := k) (by simpa using h)
    simp only [fv, List.getElem?_cons_succ]
    exact this
theorem fv_len {ad : Nat → Nat} {r : Nat} {f : Nat → Int32} : ∀ {l : List (Option Nat)} {j : Nat}, (fv ad r f j l).length = l.length
  | [], _ => rfl
  | none :: t, j => by simp [fv, fv_len (l := t)]
  | some _ :: t, j => by simp [fv, fv_len (l := t)]
theorem fv_same {ad : Nat → Nat} {r : Nat} {f g : Nat → Int32} : ∀ {l : List (Option Nat)} {j : Nat}, (∀ k, j ≤ k → f k = g k) → fv ad r f j l = fv ad r g j l
  | [], _, _ => rfl
  | none :: t, j, h => by
    simp only [fv]
    rw [h j (Nat.le_refl j), fv_same (l := t) (fun k hk => h k (by omega))]
  | some _ :: t, j, h => by
    simp only [fv]
    rw [fv_same (l := t) (fun k hk => h k (by omega))]
theorem fv_set {ad : Nat → Nat} {r : Nat} {f : Nat → Int32} {v : Int32} : ∀ {l : List (Option Nat)} {j k : Nat}, l[k]? = some none → (fv ad r f j l).set k (.int v) = fv ad r (upd f (j + k) v) j l
  | [], _, _, h => by simp at h
  | none :: t, j, 0, _ => by
    simp only [fv, List.set_cons_zero, Nat.add_zero]
    rw [fv_same (l := t) (f := upd f j v) (g := f) (fun k hk => by unfold upd; rw [if_neg (by omega)])]
    simp [upd]
  | some _ :: t, j, 0, h => by simp at h
  | none :: t, j, k + 1, h => by
    have := fv_set (ad := ad) (r := r) (f := f) (v := v) (l := t) (j := j + 1) (k := k) (by simpa using h)
    simp only [fv, List.set_cons_succ]
    rw [this, show j + 1 + k = j + (k + 1) by omega]
    simp [upd]
  | some _ :: t, j, k + 1, h => by
    have := fv_set (ad := ad) (r := r) (f := f) (v := v) (l := t) (j := j + 1) (k := k) (by simpa using h)
    simp only [fv, List.set_cons_succ]
    rw [this, show j + 1 + k = j + (k + 1) by omega]

