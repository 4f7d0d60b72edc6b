/-! widest -/
section Wd
variable {h : Hp} {S : SS} {Ms : Nat → Mt} {tx : List Int32} {row : List Int64}
def fz (S : SS) (g : Nat) : Int32 := fue S.1 S.2.1 S.2.2.1 S.2.2.2.1 (nI g)
theorem gpN (ok : OK S) {g : Nat} (hg : g ≤ 60) : OK (gp S (nI g)) := ok.gp ⟨nI_pos' (by omega), by show nI g ≤ nI 60; rw [le_n (by omega) (by omega)]; exact hg⟩
theorem fz_mono (ok : OK S) {a b : Nat} (h1 : a ≤ b) (h2 : b ≤ 60) : fz S a ≤ fz S b := by
  rw [le_tI]
  exact (fue_mono (gpN ok (by omega)) (gpN ok h2) (by rw [tI_n (by omega), tI_n (by omega)]; omega)).1
def Wid (S : SS) (f : Int32) (g : Nat) : Prop := g ≤ 60 ∧ fz S g ≤ f ∧ (g = 60 ∨ f < fz S (g + 1))
theorem Wid_u (ok : OK S) {f : Int32} {a b : Nat} (h1 : Wid S f a) (h2 : Wid S f b) : a = b := by
  rcases Nat.lt_trichotomy a b with c | c | c
  · exfalso
    have := fz_mono ok (show a + 1 ≤ b by omega) h2.1
    have := h2.2.1
    rcases h1.2.2 with q | q
    · have := h2.1; omega
    · grind
  · exact c
  · exfalso
    have := fz_mono ok (show b + 1 ≤ a by omega) h1.1
    have := h1.2.1
    rcases h2.2.2 with q | q
    · have := h1.1; omega
    · grind
/-- bounds by whole numbers: u below (0: none yet), w above -/
theorem X_wd (ok : OK S) {f : Int32} : ∀ (d n j u w : Nat) (h : Hp) (x y v : Int32), w + 1 - u ≤ d + 1 → d < n → RX h S Ms tx row → x.toInt = (u : Int) - 1 → y.toInt = w → u ≤ w → w ≤ 61 → w + 1 - u + j ≤ 62 → (u = 0 ∨ fz S (u - 1) ≤ f) → (w = 61 ∨ f < fz S w) → (u ≠ 0 → v = fz S (u - 1)) → ∃ h', RX h' S Ms tx row ∧ ((∃ g, Wid S f g ∧ sX5_widest_b17 n h f x y v (nI j) = sX5_widest_c86 h' (nI g) (fz S g)) ∨ (f < fz S 0 ∧ sX5_widest_b17 n h f x y v (nI j) = some (-2, h')))
  | d, n, j, u, w, h, x, y, v, hd, hn', X, hx, hy, huw, hw, hj, hu, hf, hv => by
    obtain ⟨n', rfl⟩ : ∃ m, n = m + 1 := ⟨n - 1, by omega⟩
    have dif : (y - x).toInt = (w : Int) - u + 1 := by rw [tI_sub (by omega) (by omega), hx, hy]; omega
    have stop : u = w → sX5_widest_b17 (n' + 1) h f x y v (nI j) = sX5_widest_c86 h x v := by
      intro e
      show sX5_widest_c17 (sX5_widest_b17 n') h f x y v (nI j) = _
      unfold sX5_widest_c17
      by_cases z : (60 : Int32) < nI j
      · rw [if_pos z]
      · rw [if_neg z, if_pos (by rw [le_tI, dif]; show _ ≤ (1 : Int); omega)]
    by_cases e : u = w
    · refine ⟨h, X, ?_⟩
      by_cases z : u = 0
      · right
        have w0 : w = 0 := by omega
        subst w0
        refine ⟨hf.resolve_left (by decide), ?_⟩
        rw [stop e]
        have x1 : x = -1 := by rw [eq_tI, hx, z]; rfl
        unfold sX5_widest_c86
        rw [if_pos x1]
      · left
        have x1 : x = nI (u - 1) := by rw [eq_tI, hx, tI_n (by omega)]; omega
        refine ⟨u - 1, ⟨by omega, hu.resolve_left z, ?_⟩, ?_⟩
        · rw [show u - 1 + 1 = w by omega]
          rcases hf with q | q
          · left; omega
          · exact Or.inr q
        · rw [stop e, x1, hv z]
    · have jl : ¬ (60 : Int32) < nI j := by show ¬ nI 60 < nI j; rw [lt_n (by omega) (by omega)]; omega
      have sm : (x + y).toInt = (u : Int) + w - 1 := by rw [tI_add (by omega) (by omega), hx, hy]; omega
      obtain ⟨c, hc⟩ : ∃ c : Nat, c = (u + w - 1) / 2 := ⟨_, rfl⟩
      have md : (x + y) / 2 = nI c := by
        have t2 : (2 : Int32).toInt = 2 := rfl
        rw [eq_tI, Int32.toInt_div, sm, t2, Int.tdiv_eq_ediv_of_nonneg (by omega), tI_n (by omega)]
        rw [bmod_id (by omega) (by omega)]
        omega
      have okc := gpN ok (show c ≤ 60 by omega)
      obtain ⟨h1, e1, w1⟩ := C_work (h := h) (r := 21) (a := 6) (n := S.1) (F := S.2.1) (T := S.2.2.1) (C := S.2.2.2.1) (g := nI c) (by decide) (by decide) X.1.1 okc
      have X1 := X.fr0 (fX0_work _ _ _ _ _ e1) (by decide) (by decide)
      have w5 : h1.1 21 5 = fz S c := w1.2.2.2
      have e0 : sX5_widest_b17 (n' + 1) h f x y v (nI j) = if f < fz S c then sX5_widest_b17 n' h1 f x (nI c) v (nI (j + 1)) else sX5_widest_b17 n' h1 f (nI c) y (fz S c) (nI (j + 1)) := by
        show sX5_widest_c17 (sX5_widest_b17 n') h f x y v (nI j) = _
        unfold sX5_widest_c17 sX5_widest_c80
        rw [if_neg jl, if_neg (by rw [le_tI, dif]; show ¬ _ ≤ (1 : Int); omega), md, nm_t rfl, bd_t e1, w5, nI_1, nm_t rfl, nm_t rfl, nm_t rfl]
      rw [e0]
      by_cases z : f < fz S c
      · rw [if_pos z]
        match d, hd with
        | 0, hd => omega
        | d + 1, hd => exact X_wd ok d n' (j + 1) u c h1 x (nI c) v (by omega) (by omega) X1 hx (tI_n (by omega)) (by omega) (by omega) (by omega) hu (Or.inr z) hv
      · rw [if_neg z]
        match d, hd with
        | 0, hd => omega
        | d + 1, hd => exact X_wd ok d n' (j + 1) (c + 1) w h1 (nI c) y (fz S c) (by omega) (by omega) X1 (by rw [tI_n (by omega)]; omega) hy (by omega) hw (by omega) (Or.inr (by rw [Nat.add_sub_cancel]; grind)) hf (fun _ => by rw [Nat.add_sub_cancel])
theorem M_fuelBy (hM : RM h S Ms tx row) (hn : S.1 ≤ 10) (g : Nat) : ∃ h', sX6_fuelBy h (nI g) = some (fz S g, h') ∧ RM h' S Ms tx row := by
  obtain ⟨h1, e1, w1, -, m1⟩ := hM.byG hn (nI g)
  refine ⟨u1 h1 54 11 S.2.2.2.2, ?_, m1⟩
  have w8 : (u1 h1 54 11 S.2.2.2.2).1 54 18 = fz S g := (rd1k (by decide)).trans w1.2.2.2.1
  unfold sX6_fuelBy
  rw [hM.1.1.2.1, nm_t rfl, nm_t rfl, bd_t e1, nm_t rfl, w8]
theorem M_wd (ok : OK S) {f : Int32} : ∀ (t n : Nat) (h : Hp) (x : Int32), t ≤ 61 → t < n → RM h S Ms tx row → x.toInt = (t : Int) - 1 → (t = 61 ∨ f < fz S t) → ∃ h', RM h' S Ms tx row ∧ ((∃ g, Wid S f g ∧ sX6_widest_b14 n h f x = sX6_widest_c33 h' (nI g)) ∨ (f < fz S 0 ∧ sX6_widest_b14 n h f x = some (-2, h')))
  | 0, n, h, x, ht, hn', hM, hx, hf => by
    obtain ⟨n', rfl⟩ : ∃ m, n = m + 1 := ⟨n - 1, by omega⟩
    refine ⟨h, hM, Or.inr ⟨hf.resolve_left (by decide), ?_⟩⟩
    show sX6_widest_c14 (sX6_widest_b14 n') h f x = _
    unfold sX6_widest_c14 sX6_widest_c33
    rw [if_pos (by rw [lt_tI, hx, tI0]; omega), if_neg (by rw [le_tI, hx, tI0]; omega)]
  | t + 1, n, h, x, ht, hn', hM, hx, hf => by
    obtain ⟨n', rfl⟩ : ∃ m, n = m + 1 := ⟨n - 1, by omega⟩
    have x1 : x = nI t := by rw [eq_tI, hx, tI_n (by omega)]; omega
    obtain ⟨h1, e1, m1⟩ := M_fuelBy hM ok.1 t
    have e0 : sX6_widest_b14 (n' + 1) h f x = if fz S t ≤ f then sX6_widest_c33 h1 (nI t) else sX6_widest_b14 n' h1 f (nI t + (-1)) := by
      show sX6_widest_c14 (sX6_widest_b14 n') h f x = _
      unfold sX6_widest_c14
      rw [if_neg (by rw [lt_tI, hx, tI0]; omega), x1, bd_t e1]
      dsimp only
      rw [nm_t rfl]
    rw [e0]
    by_cases c : fz S t ≤ f
    · rw [if_pos c]
      refine ⟨h1, m1, Or.inl ⟨t, ⟨by omega, c, ?_⟩, rfl⟩⟩
      rcases hf with q | q
      · left; omega
      · exact Or.inr q
    · rw [if_neg c]
      have m1' : (-1 : Int32).toInt = -1 := rfl
      exact M_wd ok t n' h1 _ (by omega) (by omega) m1 (by rw [tI_add (by rw [tI_n (by omega), m1']; omega) (by rw [tI_n (by omega), m1']; omega), tI_n (by omega), m1']; omega) (Or.inr (by grind))
theorem op_widest (R : Rel h S Ms tx row) (a : Int32) : Step (fun h => sX5_widest h a) (fun h => sX6_widest h a) h := by
  have ok := R.1.1
  have X := R.2.1
  have hn := ok.1
  by_cases c : 0 ≤ a
  · obtain ⟨h1, x1, CL⟩ := X_wd (f := a) ok 62 FU 0 0 61 h (-1) 61 0 (by omega) (by show 62 < 1000; omega) X rfl rfl (by omega) (by omega) (by omega) (Or.inl rfl) (Or.inl rfl) (fun q => absurd rfl q)
    have gX : sX5_widest h a = sX5_widest_b17 FU h a (-1) 61 0 (nI 0) := by
      unfold sX5_widest
      rw [if_pos c]
      rfl
    rw [← gX] at CL
    have gM : ∀ {k : Hp}, RM k S Ms tx row → ∃ h', RM h' S Ms tx row ∧ ((∃ g, Wid S a g ∧ sX6_widest k a = sX6_widest_c33 h' (nI g)) ∨ (a < fz S 0 ∧ sX6_widest k a = some (-2, h'))) := by
      intro k hM
      obtain ⟨m1, t1⟩ := hM.thr 0
      have gM : sX6_widest k a = sX6_widest_b14 FU (u1 k 54 0 0) a 60 := by
        unfold sX6_widest
        rw [nm_t rfl, if_pos c]
      rw [gM]
      exact M_wd ok 61 FU _ 60 (by omega) (by show 61 < 1000; omega) m1 rfl (Or.inl rfl)
    rcases CL with ⟨g, wg, eg⟩ | ⟨w0, eX⟩
    · have ng : ¬ nI g = -1 := by
        intro q
        have := congrArg Int32.toInt q
        rw [tI_n (by have := wg.1; omega)] at this
        have m1' : (-1 : Int32).toInt = -1 := rfl
        omega
      obtain ⟨h2, e2, r2⟩ := x1.tell1 (fz S g).toInt64
      have eX : sX5_widest h a = some (nI g, h2) := by
        rw [eg]
        unfold sX5_widest_c86
        rw [if_neg ng, bd_t e2]
      refine mkS (S' := S) (Ms' := Ms) R eX (fX5_widest _ _ _ eX) (by decide) (by decide) r2 (invR R.1 (by simp)) (fun hM => ?_) (fun q e => fX6_widest h2 a q e) (by decide) (by decide)
      obtain ⟨h3, m3, CM⟩ := gM hM
      rcases CM with ⟨g', wg', e3⟩ | ⟨w0, -⟩
      · have := Wid_u ok wg wg'
        subst this
        obtain ⟨m4, F4⟩ := m3.row0
        obtain ⟨h5, e5, m5⟩ := M_fuelBy m4 hn g
        obtain ⟨h6, e6, m6, F6⟩ := m5.ent (by simp) (fz S g).toInt64
        refine ⟨h6, ?_, m6⟩
        show sX6_widest h2 a = _
        rw [e3]
        unfold sX6_widest_c33
        rw [if_pos (nI_pos' (by have := wg.1; omega)), nm_t rfl, bd_t e5]
        dsimp only
        rw [bd_t e6]
      · exfalso
        have := fz_mono ok (show 0 ≤ g by omega) wg.1
        have := wg.2.1
        grind
    · refine mkS (S' := S) (Ms' := Ms) R eX (fX5_widest _ _ _ eX) (by decide) (by decide) x1 R.1 (fun hM => ?_) (fun q e => fX6_widest h1 a q e) (by decide) (by decide)
      obtain ⟨h3, m3, CM⟩ := gM hM
      rcases CM with ⟨g', wg', e3⟩ | ⟨-, e3⟩
      · exfalso
        have := fz_mono ok (show 0 ≤ g' by omega) wg'.1
        have := wg'.2.1
        grind
      · exact ⟨h3, e3, m3⟩
  · have eX : sX5_widest h a = some (-1, h) := by unfold sX5_widest; rw [if_neg c]
    refine mkS (S' := S) (Ms' := Ms) R eX (fX5_widest _ _ _ eX) (by decide) (by decide) X R.1 (fun hM => ?_) (fun q e => fX6_widest h a q e) (by decide) (by decide)
    obtain ⟨m1, t1⟩ := hM.thr 0
    refine ⟨u1 h 54 0 0, ?_, m1⟩
    show sX6_widest h a = _
    unfold sX6_widest
    rw [nm_t rfl, if_neg c]
end Wd
