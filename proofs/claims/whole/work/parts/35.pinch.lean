/-! the first place where something holds -/
def fs (P : Nat → Bool) : Nat → Nat
  | 0 => 0
  | n + 1 => if fs P n < n then fs P n else if P n = true then n else n + 1
theorem fs_le (P : Nat → Bool) : ∀ n, fs P n ≤ n
  | 0 => Nat.le_refl 0
  | n + 1 => by
    have := fs_le P n
    unfold fs
    split
    · omega
    · split <;> omega
theorem fs_no (P : Nat → Bool) : ∀ (n j : Nat), j < fs P n → P j = false
  | 0, j, h => by simp [fs] at h
  | n + 1, j, h => by
    have h1 := fs_le P n
    unfold fs at h
    split at h
    · exact fs_no P n j h
    · split at h
      · exact fs_no P n j (by omega)
      · rename_i c1 c2
        by_cases e : j = n
        · subst e; simpa using c2
        · exact fs_no P n j (by omega)
theorem fs_yes (P : Nat → Bool) : ∀ (n : Nat), fs P n < n → P (fs P n) = true
  | 0, h => by simp [fs] at h
  | n + 1, h => by
    unfold fs at h ⊢
    split
    · rename_i c; exact fs_yes P n c
    · rename_i c
      split
      · assumption
      · rename_i c2; rw [if_neg c, if_neg c2] at h; omega
theorem fs_lt {P : Nat → Bool} {n j : Nat} (hj : j < n) (h : P j = true) : fs P n ≤ j := by
  rcases Nat.lt_or_ge j (fs P n) with q | q
  · rw [fs_no P n j q] at h; cases h
  · exact q
theorem fs_cg {P Q : Nat → Bool} : ∀ {n : Nat}, (∀ j, j < n → P j = Q j) → fs P n = fs Q n
  | 0, _ => rfl
  | n + 1, h => by
    unfold fs
    rw [fs_cg (n := n) (fun j hj => h j (by omega)), h n (by omega)]
/-! the pinch -/
theorem fuA_0 {n : Nat} {F T C : Nat → Int32} {g : Int32} (ok : OkS n F T C g) : ∀ {k : Nat}, k ≤ 20 → (0 ≤ (fuA n F T C g k).toInt ∧ (fuA n F T C g k).toInt ≤ 4480000) ∧ (∀ j, j < k → -(car n F T C g j).toInt ≤ (fuA n F T C g k).toInt) ∧ (fuA n F T C g k = 0 ∨ ∃ j, j < k ∧ fuA n F T C g k = -(car n F T C g j))
  | 0, _ => ⟨by unfold fuA; decide, fun j hj => by omega, Or.inl rfl⟩
  | k + 1, h => by
    obtain ⟨h1, h2, h3⟩ := fuA_0 ok (k := k) (by omega)
    have h4 := car_bd ok (k := k) (by omega)
    have e2 : (-(car n F T C g k)).toInt = -(car n F T C g k).toInt := by rw [Int32.toInt_neg, bmod_id (by omega) (by omega)]
    unfold fuA imax
    by_cases c : fuA n F T C g k < -(car n F T C g k)
    · rw [if_pos c]
      rw [lt_tI] at c
      refine ⟨by omega, fun j hj => ?_, Or.inr ⟨k, by omega, rfl⟩⟩
      by_cases e : j = k
      · subst e; omega
      · have := h2 j (by omega); omega
    · rw [if_neg c]
      rw [lt_tI] at c
      refine ⟨h1, fun j hj => ?_, ?_⟩
      · by_cases e : j = k
        · subst e; omega
        · exact h2 j (by omega)
      · rcases h3 with q | ⟨j, q1, q2⟩
        · exact Or.inl q
        · exact Or.inr ⟨j, by omega, q2⟩
/-- which border the pinch is -/
def pz (n : Nat) (F T C : Nat → Int32) (g : Int32) : Nat := fs (fun k => decide (car n F T C g k + fue n F T C g = 0)) (BLs F T g n).length
def pin (n : Nat) (F T C : Nat → Int32) (g : Int32) : Int32 := if (BLs F T g n).length = 0 then 0 else (BLs F T g n).getD (pz n F T C g) 0
section Pz
variable {h : Hp} {r n : Nat} {F T C : Nat → Int32} {g : Int32}
theorem cf_bd (ok : OkS n F T C g) {k : Nat} (hk : k < (BLs F T g n).length) : (car n F T C g k + fue n F T C g).toInt = (car n F T C g k).toInt + (fue n F T C g).toInt ∧ 0 ≤ (car n F T C g k + fue n F T C g).toInt ∧ (car n F T C g k + fue n F T C g).toInt ≤ 8960000 := by
  have hl := BLs_len F T g n
  have hn := ok.1
  obtain ⟨h1, h2, h3⟩ := fuA_0 ok (k := (BLs F T g n).length) (by omega)
  have h4 := car_bd ok (k := k) (by omega)
  have h5 := h2 k hk
  unfold fue
  rw [tI_add (by omega) (by omega)]
  omega
theorem pz_lt (ok : OkS n F T C g) (hl0 : 0 < (BLs F T g n).length) : pz n F T C g < (BLs F T g n).length := by
  have hl := BLs_len F T g n
  have hn := ok.1
  obtain ⟨h1, h2, h3⟩ := fuA_0 ok (k := (BLs F T g n).length) (by omega)
  have key : ∃ j, j < (BLs F T g n).length ∧ car n F T C g j + fue n F T C g = 0 := by
    rcases h3 with q | ⟨j, q1, q2⟩
    · refine ⟨0, hl0, ?_⟩
      unfold fue
      rw [q]
      rfl
    · refine ⟨j, q1, ?_⟩
      unfold fue
      rw [q2]
      grind
  obtain ⟨j, hj, e⟩ := key
  have : pz n F T C g ≤ j := fs_lt hj (decide_eq_true e)
  omega
theorem M_pinchNow (ok : OkS n F T C g) (hW : WM h n F T C g) (hl0 : 0 < (BLs F T g n).length) : sX6_pinchNow h = some (pin n F T C g, h) := by
  have hl := BLs_len F T g n
  have hn := ok.1
  have hz := pz_lt ok hl0
  obtain ⟨w1, w2, w3, w4, w5⟩ := hW
  unfold sX6_pinchNow
  refine loop0 (fun n (s : Int32) => sX6_pinchNow_b2 n h s) (fun i => nI i) (pz n F T C g) _ (by omega) (fun m i hi' => ?_) (fun m => ?_)
  · show sX6_pinchNow_c2 (sX6_pinchNow_b2 m) h (nI i) = _
    have c1 := fs_no _ _ _ hi'
    have c2 := cf_bd ok (show i < _ by omega)
    have c3 : ¬ car n F T C g i + fue n F T C g ≤ 0 := by
      intro q
      rw [le_tI] at q
      have : car n F T C g i + fue n F T C g = 0 := by
        rw [eq_tI]
        show _ = (0 : Int)
        have : (0 : Int32).toInt = 0 := rfl
        omega
      rw [decide_eq_true this] at c1
      cases c1
    simp only [sX6_pinchNow_c2, gd_in (show i < 20 by omega) (show 20 ≤ 1000 by decide), cl_n (show i ≤ 100000 by omega), w3 i (by omega), c3, if_false, nm, nI_1]
  · show sX6_pinchNow_c2 (sX6_pinchNow_b2 m) h (nI (pz n F T C g)) = _
    have c1 : car n F T C g (pz n F T C g) + fue n F T C g = 0 := of_decide_eq_true (fs_yes _ _ hz)
    have c2 : (0 : Int32) ≤ 0 := by decide
    unfold pin
    rw [if_neg (by omega)]
    simp only [sX6_pinchNow_c2, gd_in (show pz n F T C g < 20 by omega) (show 20 ≤ 1000 by decide), cl_n (show pz n F T C g ≤ 100000 by omega), w3 _ hz, c1, c2, if_true, w2 _ hz]
theorem C_pinchAt (hr : ck r = 0) (ok : OkS n F T C g) (hW : CW h r n F T C g) : sX0_pinchAt h r = some (pin n F T C g, h) := by
  have hl := BLs_len F T g n
  have hn := ok.1
  obtain ⟨w1, w2, w3, w4⟩ := hW
  have hpl : pz n F T C g ≤ (BLs F T g n).length := fs_le _ _
  unfold sX0_pinchAt
  rw [gd_t (isC_ok hr)]
  refine loop0 (fun n (s : Int32) => sX0_pinchAt_b2 n h r s) (fun i => nI i) (pz n F T C g) _ (by omega) (fun m i hi' => ?_) (fun m => ?_)
  · show sX0_pinchAt_c2 (sX0_pinchAt_b2 m) h r (nI i) = _
    have c1 := of_decide_eq_false (fs_no _ _ _ hi')
    have c2 : ¬ nI (BLs F T g n).length ≤ nI i := by rw [le_n (by omega) (by omega)]; omega
    simp only [sX0_pinchAt_c2, w1, c2, if_false, gd_in (show i < 20 by omega) (show 20 ≤ 1000 by decide), cl_n (show i ≤ 100000 by omega), (w3 i (by omega)).1, c1, nm, nI_1]
  · show sX0_pinchAt_c2 (sX0_pinchAt_b2 m) h r (nI (pz n F T C g)) = _
    unfold pin
    by_cases c0 : (BLs F T g n).length = 0
    · have c2 : nI (BLs F T g n).length ≤ nI (pz n F T C g) := by rw [le_n (by omega) (by omega)]; omega
      unfold sX0_pinchAt_c2
      rw [w1, if_pos c2, if_pos c0]
    · have hz := pz_lt ok (by omega)
      have c1 : car n F T C g (pz n F T C g) + fue n F T C g = 0 := of_decide_eq_true (fs_yes _ _ hz)
      have c2 : ¬ nI (BLs F T g n).length ≤ nI (pz n F T C g) := by rw [le_n (by omega) (by omega)]; omega
      simp only [sX0_pinchAt_c2, w1, c2, if_false, c0, gd_in (show pz n F T C g < 20 by omega) (show 20 ≤ 1000 by decide), cl_n (show pz n F T C g ≤ 100000 by omega), (w3 _ hz).1, c1, if_true, w2 _ hz]
theorem C_cool (hr : ck r = 0) (hn : n ≤ 10) (hW : CW h r n F T C g) : sX0_cool h r = some (coo n F T C g, h) := by
  have hl := BLs_len F T g n
  obtain ⟨w1, w2, w3, w4⟩ := hW
  unfold sX0_cool sX0_cool_c22 coo
  rw [gd_t (isC_ok hr)]
  by_cases c0 : (BLs F T g n).length = 0
  · have c5 : nI (BLs F T g n).length = 0 := by rw [c0]; rfl
    rw [w1, if_pos c5, if_pos c0]
  · have c5 : ¬ nI (BLs F T g n).length = 0 := by
      show ¬ nI (BLs F T g n).length = nI 0
      rw [eq_n (by omega) (by omega)]; omega
    simp only [w1, c5, if_false, c0, nI_m1 (show 0 < (BLs F T g n).length by omega), gd_in (show (BLs F T g n).length - 1 < 20 by omega) (show 20 ≤ 1000 by decide), cl_n (show (BLs F T g n).length - 1 ≤ 100000 by omega), (w3 _ (show (BLs F T g n).length - 1 < (BLs F T g n).length by omega)).1]
theorem pin_bd (ok : OkS n F T C g) : -60 ≤ pin n F T C g ∧ pin n F T C g ≤ 500 := by
  unfold pin
  split
  · decide
  · exact BLs_at ok (pz_lt ok (by omega))
theorem BLs_pos (hn : 0 < n) : 0 < (BLs F T g n).length := by
  obtain ⟨m, rfl⟩ : ∃ m, n = m + 1 := ⟨n - 1, by omega⟩
  have : (T m - sh F T g m) ∈ BLs F T g (m + 1) := (insL_mem _ _ _).mpr (Or.inl rfl)
  exact List.length_pos_of_mem this
theorem BLs_nil (hn : n = 0) : (BLs F T g n).length = 0 := by subst hn; rfl
/-- finds(): works(), and the pinch -/
theorem M_finds (hM : MS h n F T C g) (ok : OkS n F T C g) : ∃ h', sX6_finds h = some h' ∧ WM h' n F T C g ∧ MS h' n F T C g ∧ h'.1 54 21 = pin n F T C g := by
  have hn := ok.1
  obtain ⟨h1, e1, e2, e3⟩ := M_works hM hn
  unfold sX6_finds sX6_finds_c20
  rw [bd_t e1]
  have fin : ∀ x, x = pin n F T C g → ∃ h', nm (u1 h1 54 21 x) (fun h3 => some h3) = some h' ∧ WM h' n F T C g ∧ MS h' n F T C g ∧ h'.1 54 21 = pin n F T C g := by
    intro x hx
    subst hx
    have R : Fr [(54, some 21)] [] h1 (u1 h1 54 21 (pin n F T C g)) := Fr.w1 Fr.rf rfl (by decide)
    refine ⟨_, rfl, ?_, e3.fr R (by decide), rd1s⟩
    obtain ⟨w1, w2, w3, w4, w5⟩ := e2
    exact ⟨(R.f (by decide)).trans w1, fun k hk => (R.c (by decide) k).trans (w2 k hk), fun k hk => (R.c (by decide) k).trans (w3 k hk), (R.f (by decide)).trans w4, (R.f (by decide)).trans w5⟩
  by_cases c : n = 0
  · have c5 : nI n = 0 := by rw [c]; rfl
    have e9 : (0 : Int32) = pin n F T C g := by unfold pin; rw [if_pos (BLs_nil c)]
    have := fin 0 e9
    simp only [e3.1, c5, if_true]
    exact this
  · have c5 : ¬ nI n = 0 := by
      show ¬ nI n = nI 0
      rw [eq_n (by omega) (by omega)]; omega
    have := fin _ rfl
    simp only [e3.1, c5, if_false, M_pinchNow ok e2 (BLs_pos (by omega)), Option.bind_some]
    exact this
end Pz
