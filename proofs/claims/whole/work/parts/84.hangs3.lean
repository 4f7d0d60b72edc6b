/-! loops: who hangs with a stream, in the reference -/
section O31
variable {h : Hp} {s : Nat} {M : Mt}
def nBt (x : Int32) : Int := sZ 10 (fun j => if tb x j = true then 1 else 0)
theorem nBt_bd (x : Int32) : 0 ≤ nBt x ∧ nBt x ≤ 10 := by
  have a : nBt x ≤ ((10 : Nat) : Int) * 1 := sZ_top (fun i _ => by split <;> omega)
  have b : 0 ≤ nBt x := sZ_0 (fun i _ => by split <;> omega)
  omega
theorem nBt_str {y z : Int32} (h1 : ∀ j, j < 32 → tb y j = true → tb z j = true) (h2 : ∀ j, j < 32 → tb z j = true → j < 10) (h3 : ¬ z = y) : nBt y + 1 ≤ nBt z := by
  have : ∃ j, j < 32 ∧ tb z j = true ∧ ¬ tb y j = true := by
    by_cases c : ∃ j, j < 32 ∧ tb z j = true ∧ ¬ tb y j = true
    · exact c
    · exfalso
      apply h3
      apply tb_ext
      intro j hj
      cases p : tb z j <;> cases q : tb y j
      · rfl
      · have := h1 j hj q; rw [p] at this; cases this
      · exact absurd ⟨j, hj, p, by rw [q]; decide⟩ c
      · rfl
  obtain ⟨j, j1, j2, j3⟩ := this
  refine sZ_str (j := j) (fun i hi' => ?_) (h2 j j1 j2) ?_
  · by_cases c : tb y i = true
    · rw [if_pos c, if_pos (h1 i (by omega) c)]; omega
    · rw [if_neg c]; split <;> omega
  · rw [if_neg j3, if_pos j2]; omega
theorem M_hang0 (hs : s < 2) (hM : MM h s M) (hl : M.length ≤ 24) (hv : ∀ k, k < M.length → mh M k < 10 ∧ mc M k < 10) : ∀ (d n : Nat) (y v4 : Int32), d + 1 < n → 10 ≤ nBt y + d → (∀ j, j < 32 → tb y j = true → j < 10) → (v4 = y → pas M y M.length = y) → ∃ x, sX6_hangsWith_b7 n h (nI s) y v4 = some (x, h) ∧ (∀ j, j < 32 → tb y j = true → tb x j = true) ∧ pas M x M.length = x ∧ ∀ P : Nat → Prop, (∀ m, m < M.length → (P (mh M m) ↔ P (mc M m))) → (∀ j, j < 32 → tb y j = true → P j) → ∀ j, j < 32 → tb x j = true → P j
  | d, n, y, v4, hn', hd, hb, hc => by
    obtain ⟨n', rfl⟩ : ∃ q, n = q + 1 := ⟨n - 1, by omega⟩
    have e0 : sX6_hangsWith_b7 (n' + 1) h (nI s) y v4 = if v4 = y then some (y, h) else sX6_hangsWith_b7 n' h (nI s) (pas M y M.length) y := by
      show sX6_hangsWith_c7 (sX6_hangsWith_b7 n') h (nI s) y v4 = _
      unfold sX6_hangsWith_c7
      rw [M_pass hs hM hl]
    rw [e0]
    by_cases c : v4 = y
    · rw [if_pos c]
      exact ⟨y, rfl, fun _ _ q => q, hc c, fun P _ q => q⟩
    · rw [if_neg c]
      by_cases e : pas M y M.length = y
      · obtain ⟨n2, rfl⟩ : ∃ q, n' = q + 1 := ⟨n' - 1, by omega⟩
        refine ⟨y, ?_, fun _ _ q => q, e, fun P _ q => q⟩
        rw [e]
        show sX6_hangsWith_c7 (sX6_hangsWith_b7 n2) h (nI s) y y = _
        unfold sX6_hangsWith_c7
        rw [if_pos rfl]
      · have bz : ∀ j, j < 32 → tb (pas M y M.length) j = true → j < 10 := pas_in hv (fun m hm => by have := hv m hm; exact ⟨fun _ => this.2, fun _ => this.1⟩) hb (Nat.le_refl _)
        have st := nBt_str (fun j _ q => pas_up q) bz e
        have bd := nBt_bd (pas M y M.length)
        match d, hd, hn' with
        | 0, hd, hn' => omega
        | d + 1, hd, hn' =>
          obtain ⟨x, x1, x2, x3, x4⟩ := M_hang0 hs hM hl hv d n' (pas M y M.length) y (by omega) (by omega) bz (fun z => absurd z.symm e)
          exact ⟨x, x1, fun j hj q => x2 j hj (pas_up q), x3, fun P hP hy => x4 P hP (pas_in hv hP hy (Nat.le_refl _))⟩
end O31
