/-! the start: the cells that the law makes, as a world; both are empty -/
def hI : Hp := (fun c => if c = 1 then (fun k => if k = 8 then 10 else 0) else if c = 2 then (fun k => if k = 4 then -1 else 0) else if c = 26 then (fun k => if k = 0 then 1 else if k = 1 then 10 else 0) else if c = 40 then (fun k => if k = 0 then -1 else if k = 1 then 10 else 0) else if c = 54 then (fun k => if k = 11 then 10 else 0) else fun _ => 0, fun _ _ => 0)
def SI : SS := (0, fun _ => 0, fun _ => 0, fun _ => 0, 10)
theorem nn0 {α : Prop} {k : Nat} (h : k < 0) : α := absurd h (Nat.not_lt_zero k)
theorem Rel0 : Rel hI SI (fun _ => []) [] [] := by
  refine ⟨⟨⟨by decide, by decide, fun i hi => nn0 hi⟩, fun s hs => ⟨Nat.zero_le 24, fun k hk => nn0 hk, fun i hi => nn0 hi, fun k hk => nn0 hk⟩, by decide, by decide⟩, ⟨⟨⟨by decide, fun i hi => nn0 hi⟩, by decide, ⟨by decide, fun k hk => nn0 hk, fun k hk => nn0 hk, by decide⟩, fun s hs => ?_⟩, ⟨by decide, fun k hk => nn0 hk⟩, ⟨by decide, fun k hk => nn0 hk⟩⟩, ⟨⟨⟨by decide, by decide, fun i hi => nn0 hi⟩, fun s hs => ⟨?_, fun k hk => nn0 hk⟩⟩, ⟨by decide, fun k hk => nn0 hk⟩, ⟨by decide, fun k hk => nn0 hk⟩⟩⟩
  · rcases (show s = 0 ∨ s = 1 by omega) with rfl | rfl
    · exact ⟨⟨by decide, by decide, by decide, fun i hi => nn0 hi⟩, ⟨by decide, fun k hk => nn0 hk, fun i hi => nn0 hi⟩⟩
    · exact ⟨⟨by decide, by decide, by decide, fun i hi => nn0 hi⟩, ⟨by decide, fun k hk => nn0 hk, fun i hi => nn0 hi⟩⟩
  · rcases (show s = 0 ∨ s = 1 by omega) with rfl | rfl <;> decide
def adw (q : Nat) (f5 f6 : Nat → Nat) (b : Nat) : Nat → Nat := fun k => if k = 0 then q else if k < 54 then f5 (k - 1) else if k < 75 then f6 (k - 54) else b
set_option maxRecDepth 20000 in
theorem wld0 (q : Nat) (f5 f6 : Nat → Nat) (b : Nat) (cI cJ cZ : ClassId) : wld (adw q f5 f6 b) cI cJ cZ hI = (q, .inl (cJ, 1, .inr (.inl (fun _ => 0)))) :: (nwX5 f5 cI cJ cZ ++ nwX6 f6 cI cJ cZ) := rfl
theorem cn_rotP {D : va_G} {cl : List vw_C} {ws : va_W} {q : Nat} {e0 : va_E} {H : Heap} (h : va_P D cl (ws ++ [(q, e0)]) H) : va_P D cl ((q, e0) :: ws) H := by
  intro k y hk
  cases k with
  | zero =>
    cases hk
    exact h ws.length _ cn_last
  | succ k => exact h k y (cn_in hk)
theorem cn_rotD {A : Nat → Prop} {ws : va_W} {q : Nat} {e0 : va_E} (h : va_D A (ws ++ [(q, e0)])) : va_D A ((q, e0) :: ws) := by
  refine ⟨fun i j x y hi hj e => ?_, fun k x hk => ?_⟩
  · cases i with
    | zero =>
      cases hi
      cases j with
      | zero => rfl
      | succ j =>
        have h1 := h.1 ws.length j _ _ cn_last (cn_in hj) e
        have hj : ws[j]? = some y := hj
        have h2 := (List.getElem?_eq_some_iff.mp hj).1
        omega
    | succ i =>
      have hi : ws[i]? = some x := hi
      have h2 := (List.getElem?_eq_some_iff.mp hi).1
      cases j with
      | zero =>
        cases hj
        have h1 := h.1 i ws.length _ _ (cn_in hi) cn_last e
        omega
      | succ j => exact congrArg (· + 1) (h.1 i j _ _ (cn_in hi) (cn_in hj) e)
  · cases k with
    | zero =>
      cases hk
      exact h.2 ws.length _ cn_last
    | succ k => exact h.2 k x (cn_in hk)
