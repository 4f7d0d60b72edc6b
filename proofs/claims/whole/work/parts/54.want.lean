/-! wanted loads -/
def cz (M : Mt) (W : Nat → Int32) : Nat → Mt
  | 0 => []
  | k + 1 => if W k = 0 then cz M W k else cz M W k ++ [(mh M k, mc M k, W k)]
section Cz
variable {M : Mt} {W : Nat → Int32}
theorem cz_len : ∀ {k : Nat}, (cz M W k).length ≤ k
  | 0 => Nat.le_refl 0
  | k + 1 => by
    have := cz_len (k := k)
    show (if W k = 0 then cz M W k else cz M W k ++ [(mh M k, mc M k, W k)]).length ≤ k + 1
    split
    · omega
    · rw [sn_len]; omega
theorem cz_0 {k : Nat} (h : W k = 0) : cz M W (k + 1) = cz M W k := if_pos h
theorem cz_1 {k : Nat} (h : ¬ W k = 0) : cz M W (k + 1) = cz M W k ++ [(mh M k, mc M k, W k)] := if_neg h
theorem cz_pre : ∀ {d k : Nat}, (cz M W k).length ≤ (cz M W (k + d)).length ∧ ∀ j, j < (cz M W k).length → (cz M W (k + d)).getD j (0, 0, 0) = (cz M W k).getD j (0, 0, 0)
  | 0, k => ⟨Nat.le_refl _, fun _ _ => rfl⟩
  | d + 1, k => by
    obtain ⟨a1, a2⟩ := cz_pre (d := d) (k := k)
    rw [show k + (d + 1) = k + d + 1 by omega]
    by_cases c : W (k + d) = 0
    · rw [cz_0 c]; exact ⟨a1, a2⟩
    · rw [cz_1 c]
      refine ⟨by rw [sn_len]; omega, fun j hj => ?_⟩
      rw [gD_l (by omega), a2 j hj]
theorem cz_at {k m : Nat} (hk : k ≤ m) : (cz M W k).length ≤ (cz M W m).length ∧ ∀ j, j < (cz M W k).length → mh (cz M W m) j = mh (cz M W k) j ∧ mc (cz M W m) j = mc (cz M W k) j ∧ ml (cz M W m) j = ml (cz M W k) j := by
  obtain ⟨d, rfl⟩ : ∃ d, m = k + d := ⟨m - k, by omega⟩
  obtain ⟨a1, a2⟩ := cz_pre (M := M) (W := W) (d := d) (k := k)
  refine ⟨a1, fun j hj => ?_⟩
  unfold mh mc ml
  rw [a2 j hj]
  exact ⟨rfl, rfl, rfl⟩
theorem cz_us {i : Nat} : ∀ {k : Nat}, us (cz M W k) (cz M W k).length i = sI k (fun j => if mh M j = i ∨ mc M j = i then W j else 0)
  | 0 => rfl
  | k + 1 => by
    have ih := cz_us (i := i) (k := k)
    show _ = sI k (fun j => if mh M j = i ∨ mc M j = i then W j else 0) + (if mh M k = i ∨ mc M k = i then W k else 0)
    by_cases c : W k = 0
    · rw [cz_0 c, ih, c]
      split <;> rw [Int32.add_zero]
    · rw [cz_1 c, sn_len, sn_us1.1, ih]
theorem cz_uz {i : Nat} : ∀ {k : Nat}, uz (cz M W k) (cz M W k).length i = sZ k (fun j => if mh M j = i ∨ mc M j = i then (W j).toInt else 0)
  | 0 => rfl
  | k + 1 => by
    have ih := cz_uz (i := i) (k := k)
    show _ = sZ k (fun j => if mh M j = i ∨ mc M j = i then (W j).toInt else 0) + (if mh M k = i ∨ mc M k = i then (W k).toInt else 0)
    by_cases c : W k = 0
    · rw [cz_0 c, ih, c, tI0]
      split <;> rw [Int.add_zero]
    · rw [cz_1 c, sn_len, sn_us1.2, ih]
theorem cz_us2 {i k m : Nat} (hk : k ≤ m) : us (cz M W m) (cz M W k).length i = us (cz M W k) (cz M W k).length i ∧ uz (cz M W m) (cz M W k).length i = uz (cz M W k) (cz M W k).length i := by
  obtain ⟨-, a⟩ := cz_at (M := M) (W := W) hk
  refine ⟨sI_cg (fun j hj => ?_), sZ_cg (fun j hj => ?_)⟩
  · obtain ⟨e1, e2, e3⟩ := a j hj
    rw [e1, e2, e3]
  · obtain ⟨e1, e2, e3⟩ := a j hj
    rw [e1, e2, e3]
theorem cz_all {P : Nat → Nat → Int32 → Prop} (hP : ∀ j, j < M.length → ¬ W j = 0 → P (mh M j) (mc M j) (W j)) : ∀ {k : Nat}, k ≤ M.length → ∀ j, j < (cz M W k).length → P (mh (cz M W k) j) (mc (cz M W k) j) (ml (cz M W k) j)
  | 0, _, j, hj => absurd hj (Nat.not_lt_zero j)
  | k + 1, hk, j, hj => by
    by_cases c : W k = 0
    · rw [cz_0 c] at hj ⊢
      exact cz_all hP (by omega) j hj
    · rw [cz_1 c] at hj ⊢
      rw [sn_len] at hj
      by_cases e : j = (cz M W k).length
      · subst e
        obtain ⟨e1, e2, e3⟩ := sn_e (M := cz M W k) (a := mh M k) (b := mc M k) (v := W k)
        rw [e1, e2, e3]
        exact hP k (by omega) c
      · obtain ⟨e1, e2, e3⟩ := sn_l (a := mh M k) (b := mc M k) (v := W k) (show j < (cz M W k).length by omega)
        rw [e1, e2, e3]
        exact cz_all hP (by omega) j (by omega)
end Cz
/-- may stand, but for the widths -/
def VW (S : SS) (s : Nat) (M : Mt) : Prop := M.length ≤ 24 ∧ (∀ k, k < M.length → Pr S s (mh M k) (mc M k) ∧ 1 ≤ (ml M k).toInt) ∧ ∀ i, i < S.1 → uz M M.length i ≤ (ht S s i).toInt
def pK (S : SS) (s : Nat) (M : Mt) (k : Nat) : Bool := decide (leI S (mh M k) (mc M k) ≤ wI S s (mh M k) (mc M k) (uz M k (mh M k)) (uz M k (mc M k)) ∧ leI S (mh M k) (mc M k) ≤ wI S s (mh M k) (mc M k) (uz M k (mh M k) + (ml M k).toInt) (uz M k (mc M k) + (ml M k).toInt))
def ff (p : Nat → Bool) : Nat → Nat → Int32
  | 0, _ => -1
  | d + 1, k => if p k = true then ff p d (k + 1) else nI k
theorem ff_all {p : Nat → Bool} : ∀ {d k : Nat}, k + d ≤ 1000 → ff p d k = -1 → ∀ j, k ≤ j → j < k + d → p j = true
  | 0, k, _, _, j, h1, h2 => by omega
  | d + 1, k, hb, h, j, h1, h2 => by
    unfold ff at h
    by_cases c : p k = true
    · rw [if_pos c] at h
      by_cases e : j = k
      · rw [e]; exact c
      · exact ff_all (by omega) h j (by omega) (by omega)
    · rw [if_neg c] at h
      exfalso
      have := congrArg Int32.toInt h
      rw [tI_n (by omega)] at this
      have m1 : (-1 : Int32).toInt = -1 := rfl
      omega
theorem ff_pos {p : Nat → Bool} : ∀ {d k : Nat}, k + d ≤ 1000 → (ff p d k = -1 ∨ 0 ≤ ff p d k)
  | 0, _, _ => Or.inl rfl
  | d + 1, k, hb => by
    unfold ff
    by_cases c : p k = true
    · rw [if_pos c]; exact ff_pos (by omega)
    · rw [if_neg c]; exact Or.inr (nI_pos' (by omega))
section O14
variable {h : Hp} {S : SS} {Ms : Nat → Mt} {tx : List Int32} {row : List Int64} {r s : Nat} {M : Mt} {W : Nat → Int32}
theorem VW_us (ok : OK S) (v : VW S s M) {i : Nat} (hi' : i < S.1) {k : Nat} (hk : k ≤ M.length) : (us M k i).toInt = uz M k i ∧ 0 ≤ uz M k i ∧ uz M k i ≤ (ht S s i).toInt ∧ uz M k i ≤ 11200 := by
  have h1 := v.2.2 i hi'
  have h2 := ht_bd ok (s := s) hi'
  have h3 := uz_0 (fun k hk => (v.2.1 k hk).2) i hk
  refine ⟨us_uz (fun k hk => (v.2.1 k hk).2) (by omega) hk, by omega, by omega, by omega⟩
theorem VW_vm (v : VW S s M) (e : ff (pK S s M) M.length 0 = -1) : VM S s M := ⟨v.1, v.2.1, v.2.2, fun k hk => of_decide_eq_true (ff_all (by have := v.1; omega) e k (Nat.zero_le _) (by omega))⟩
theorem VW_ad (ok : OK S) (v : VW S s M) {k : Nat} (hk : k < M.length) {i : Nat} (hi' : i = mh M k ∨ i = mc M k) : 0 ≤ (us M k i).toInt ∧ (us M k i).toInt ≤ 30000 ∧ (us M k i + ml M k).toInt = uz M k i + (ml M k).toInt ∧ 0 ≤ (us M k i + ml M k).toInt ∧ (us M k i + ml M k).toInt ≤ 30000 := by
  have p := (v.2.1 k hk)
  have hi'' : i < S.1 := hi'.elim (fun q => q ▸ p.1.1) (fun q => q ▸ p.1.2.1)
  obtain ⟨a1, a2, a3, a4⟩ := VW_us ok v hi'' (Nat.le_of_lt hk)
  obtain ⟨b1, b2, b3, b4⟩ := VW_us ok v hi'' (show k + 1 ≤ M.length by omega)
  have e : uz M (k + 1) i = uz M k i + (ml M k).toInt := by
    show uz M k i + (if mh M k = i ∨ mc M k = i then (ml M k).toInt else 0) = _
    rw [if_pos (hi'.elim (fun q => Or.inl q.symm) (fun q => Or.inr q.symm))]
  have e2 : (us M k i + ml M k).toInt = uz M k i + (ml M k).toInt := by rw [tI_add (by omega) (by omega), a1]
  have := p.2
  omega
theorem M_fbad (ok : OK S) (hF : FD h S) (hs : s < 2) (hM : MM h s M) (v : VW S s M) : sX6_firstBad h (nI s) = some (ff (pK S s M) M.length 0, h) := by
  have hl := v.1
  have hv : ∀ k, k < M.length → mh M k < S.1 ∧ mc M k < S.1 := fun k hk => ⟨(v.2.1 k hk).1.1, (v.2.1 k hk).1.2.1⟩
  suffices H : ∀ d k n, k + d = M.length → d < n → sX6_firstBad_b2 n h (nI s) (nI k) = some (ff (pK S s M) d k, h) by
    exact H M.length 0 FU (by omega) (by show _ < 1000; omega)
  intro d
  induction d with
  | zero =>
    intro k n hk hn'
    obtain ⟨m, rfl⟩ : ∃ m, n = m + 1 := ⟨n - 1, by omega⟩
    show sX6_firstBad_c2 (sX6_firstBad_b2 m) h (nI s) (nI k) = _
    unfold sX6_firstBad_c2
    rw [gd_in (show s < 2 by omega) (show 2 ≤ 1000 by decide), cl_n (show s ≤ 100000 by omega), hM.1, if_pos (by rw [le_n (by omega) (by omega)]; omega)]
    rfl
  | succ d ih =>
    intro k n hk hn'
    obtain ⟨m, rfl⟩ : ∃ m, n = m + 1 := ⟨n - 1, by omega⟩
    have hk' : k < M.length := by omega
    have p := v.2.1 k hk'
    obtain ⟨a1, a2, a3, a4, a5⟩ := VW_ad ok v hk' (Or.inl rfl)
    obtain ⟨b1, b2, b3, b4, b5⟩ := VW_ad ok v hk' (Or.inr rfl)
    have w0 : (wv S s M k 0).toInt = wI S s (mh M k) (mc M k) (uz M k (mh M k)) (uz M k (mc M k)) := by
      unfold wv
      rw [if_pos rfl, Int32.add_zero, Int32.add_zero, (w_bd ok p.1.1 p.1.2.1 ⟨a1, a2⟩ ⟨b1, b2⟩).2.1, (VW_us ok v p.1.1 (Nat.le_of_lt hk')).1, (VW_us ok v p.1.2.1 (Nat.le_of_lt hk')).1]
    have w1 : (wv S s M k 1).toInt = wI S s (mh M k) (mc M k) (uz M k (mh M k) + (ml M k).toInt) (uz M k (mc M k) + (ml M k).toInt) := by
      unfold wv
      rw [if_neg (show ¬ (1 : Int32) = 0 by decide), (w_bd ok p.1.1 p.1.2.1 ⟨a4, a5⟩ ⟨b4, b5⟩).2.1, a3, b3]
    show sX6_firstBad_c2 (sX6_firstBad_b2 m) h (nI s) (nI k) = _
    unfold sX6_firstBad_c2 sX6_firstBad_c32
    rw [gd_in (show s < 2 by omega) (show 2 ≤ 1000 by decide), cl_n (show s ≤ 100000 by omega), hM.1, if_neg (by rw [le_n (by omega) (by omega)]; omega), bd_t (M_keeps ok hF hs hM.2 (by omega) hv hk' 0), w0]
    dsimp only
    unfold ff pK
    by_cases c1 : leI S (mh M k) (mc M k) ≤ wI S s (mh M k) (mc M k) (uz M k (mh M k)) (uz M k (mc M k))
    · rw [if_pos c1, if_neg (by decide), bd_t (M_keeps ok hF hs hM.2 (by omega) hv hk' 1), w1]
      dsimp only
      by_cases c2 : leI S (mh M k) (mc M k) ≤ wI S s (mh M k) (mc M k) (uz M k (mh M k) + (ml M k).toInt) (uz M k (mc M k) + (ml M k).toInt)
      · rw [if_pos c2, if_neg (by decide), nI_1, nm_t rfl, ih (k + 1) m (by omega) (by omega), if_pos (decide_eq_true ⟨c1, c2⟩)]
        rfl
      · rw [if_neg c2, if_pos rfl, if_neg (by simp [c2])]
    · rw [if_neg c1, if_pos rfl, if_neg (by simp [c1])]
end O14
