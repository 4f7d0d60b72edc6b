/-! what a method may write: W (cell, none: any place of an array; cell, some k: a field), Z (rows of longs) -/
def Fr (W : List (Nat × Option Nat)) (Z : List Nat) (h h' : Hp) : Prop := (∀ c k : Nat, (c, none) ∉ W → (c, some k) ∉ W → h'.1 c k = h.1 c k) ∧ ∀ c : Nat, c ∉ Z → h'.2 c = h.2 c
theorem Fr.rf {W : List (Nat × Option Nat)} {Z : List Nat} {h : Hp} : Fr W Z h h := ⟨fun _ _ _ _ => rfl, fun _ _ => rfl⟩
theorem Fr.w1 {W : List (Nat × Option Nat)} {Z : List Nat} {h0 h h' : Hp} {c k : Nat} {v : Int32} (F : Fr W Z h0 h) (e : u1 h c k v = h') (hw : (c, none) ∈ W ∨ (c, some k) ∈ W) : Fr W Z h0 h' := by
  subst e
  refine ⟨fun c' k' h1 h2 => ?_, fun c' hc => F.2 c' hc⟩
  rw [← F.1 c' k' h1 h2]
  show (if c' = c then upd (h.1 c) k v else h.1 c') k' = h.1 c' k'
  by_cases e1 : c' = c
  · subst e1
    rw [if_pos rfl]
    unfold upd
    by_cases e2 : k' = k
    · subst e2
      exact absurd hw (by rintro (q | q); exact h1 q; exact h2 q)
    · rw [if_neg e2]
  · rw [if_neg e1]
theorem Fr.w2 {W : List (Nat × Option Nat)} {Z : List Nat} {h0 h h' : Hp} {c k : Nat} {v : Int64} (F : Fr W Z h0 h) (e : u2 h c k v = h') (hw : c ∈ Z) : Fr W Z h0 h' := by
  subst e
  refine ⟨fun c' k' h1 h2 => F.1 c' k' h1 h2, fun c' hc => ?_⟩
  rw [← F.2 c' hc]
  show (if c' = c then vp_updL (h.2 c) k v else h.2 c') = h.2 c'
  rw [if_neg (fun q => hc (by rw [q]; exact hw))]
theorem Fr.tr {W W' : List (Nat × Option Nat)} {Z Z' : List Nat} {h0 h h' : Hp} (F : Fr W Z h0 h) (F' : Fr W' Z' h h') (hW : ∀ w ∈ W', w ∈ W) (hZ : ∀ z ∈ Z', z ∈ Z) : Fr W Z h0 h' :=
  ⟨fun c k h1 h2 => (F'.1 c k (fun q => h1 (hW _ q)) (fun q => h2 (hW _ q))).trans (F.1 c k h1 h2), fun c hc => (F'.2 c (fun q => hc (hZ _ q))).trans (F.2 c hc)⟩
theorem Fr.e0 {W : List (Nat × Option Nat)} {Z : List Nat} {h0 h q : Hp} (F : Fr W Z h0 h) (e : some h = some q) : Fr W Z h0 q := Option.some.inj e ▸ F
theorem Fr.e1 {α : Type} {W : List (Nat × Option Nat)} {Z : List Nat} {h0 h : Hp} {x : α} {q : α × Hp} (F : Fr W Z h0 h) (e : some (x, h) = some q) : Fr W Z h0 q.2 := Option.some.inj e ▸ F
theorem Fr.eq {h h' : Hp} (F : Fr [] [] h h') : h' = h := Prod.ext (funext fun c => funext fun k => F.1 c k (by simp) (by simp)) (funext fun c => F.2 c (by simp))
