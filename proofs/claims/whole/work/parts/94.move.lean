/-! breaks: a load moved round the ring -/
section O42
variable {S : SS} {s : Nat} {M : Mt} {i d : Nat} {f st g : Nat → Nat} {v : Int32}
def dlt (v : Int32) (j : Nat) : Int32 := if j % 2 = 1 then v else -v
def wd (M : Mt) (g : Nat → Nat) (v : Int32) : Nat → Nat → Int32
  | 0 => ml M
  | j + 1 => upd (wd M g v j) (g j) (wd M g v j (g j) + dlt v j)
def bad (M : Mt) (g : Nat → Nat) (v : Int32) (j : Nat) : Prop := ¬ 0 ≤ wd M g v j (g j) + dlt v j
def ssR (M : Mt) (i : Nat) (st : Nat → Nat) (j : Nat) : Nat := if j = 0 then mh M i else st (j - 1)
def sgR (j : Nat) : Int := if j % 2 = 1 then 1 else -1
theorem rg_on (hi' : i < M.length) (h0 : st 0 = mc M i) (hp : Pth M i d f st) {j : Nat} (hj : j ≤ d) : rgF i f j < M.length ∧ ((mh M (rgF i f j) = ssR M i st j ∧ mc M (rgF i f j) = ssR M i st (j + 1)) ∨ (mc M (rgF i f j) = ssR M i st j ∧ mh M (rgF i f j) = ssR M i st (j + 1))) := by
  unfold rgF ssR
  by_cases e : j = 0
  · subst e
    rw [if_pos rfl, if_pos rfl, if_neg (by omega), show 0 + 1 - 1 = 0 by omega, h0]
    exact ⟨hi', Or.inl ⟨rfl, rfl⟩⟩
  · rw [if_neg e, if_neg e, if_neg (by omega), show j + 1 - 1 = j by omega]
    obtain ⟨p1, p2⟩ := hp.1 (j - 1) (by omega)
    rw [show j - 1 + 1 = j by omega] at p2
    exact ⟨p2.1, p2.2.2⟩
theorem mlbR (ok : OK S) (v0 : VM S s M) {k : Nat} (hk : k < M.length) : 1 ≤ (ml M k).toInt ∧ (ml M k).toInt ≤ 11200 := by
  have P := v0.2.1 k hk
  have hU := v0.us ok P.1.1 (show k + 1 ≤ M.length by omega)
  have hZ := (uz_0 (fun k hk => (v0.2.1 k hk).2) (mh M k) (show k ≤ M.length by omega)).1
  have e : uz M (k + 1) (mh M k) = uz M k (mh M k) + (ml M k).toInt := by
    show uz M k (mh M k) + (if mh M k = mh M k ∨ mc M k = mh M k then (ml M k).toInt else 0) = _
    rw [if_pos (Or.inl rfl)]
  have := hU.2.2.2
  omega
theorem dlt_bd (hv : 1 ≤ v.toInt ∧ v.toInt ≤ 11200) (j : Nat) : (dlt v j).toInt = sgR j * v.toInt ∧ -11200 ≤ (dlt v j).toInt ∧ (dlt v j).toInt ≤ 11200 := by
  have n : (-v).toInt = -v.toInt := by
    rw [Int32.toInt_neg, bmod_id (by omega) (by omega)]
  unfold dlt sgR
  split
  · omega
  · rw [n]; omega
theorem wd_bd (ok : OK S) (v0 : VM S s M) (hv : 1 ≤ v.toInt ∧ v.toInt ≤ 11200) : ∀ {j : Nat}, j ≤ 20 → (∀ u, u < j → ¬ bad M g v u) → ∀ k, k < M.length → 0 ≤ (wd M g v j k).toInt ∧ (wd M g v j k).toInt ≤ 11200 * (j + 1)
  | 0, _, _, k, hk => by
    have := mlbR ok v0 hk
    show 0 ≤ (ml M k).toInt ∧ (ml M k).toInt ≤ 11200 * (((0 : Nat) : Int) + 1)
    omega
  | j + 1, hj, hb', k, hk => by
    have ih := wd_bd ok v0 hv (j := j) (by omega) (fun u hu => hb' u (by omega))
    by_cases e : k = g j
    · have e' : wd M g v (j + 1) k = wd M g v j k + dlt v j := by
        show upd (wd M g v j) (g j) (wd M g v j (g j) + dlt v j) k = _
        rw [← e, upd_s]
      have nb := hb' j (by omega)
      unfold bad at nb
      have nb : 0 ≤ wd M g v j (g j) + dlt v j := by
        by_cases c : 0 ≤ wd M g v j (g j) + dlt v j
        · exact c
        · exact absurd c nb
      rw [← e, le_tI, tI0] at nb
      have i1 := ih k hk
      have d1 := dlt_bd hv j
      have a : (wd M g v j k + dlt v j).toInt = (wd M g v j k).toInt + (dlt v j).toInt := tI_add (by omega) (by omega)
      rw [e']
      omega
    · have e' : wd M g v (j + 1) k = wd M g v j k := upd_n e
      rw [e']
      have i1 := ih k hk
      omega
/-- what the streams have of it: only where the way begins, and where it has come to -/
theorem wd_T (ok : OK S) (v0 : VM S s M) (hi' : i < M.length) (hne : ∀ k, k < M.length → mh M k ≠ mc M k) (h0 : st 0 = mc M i) (hp : Pth M i d f st) (hv : 1 ≤ v.toInt ∧ v.toInt ≤ 11200) (hd : d ≤ 15) (x : Nat) : ∀ {j : Nat}, j ≤ d + 1 → (∀ u, u < j → ¬ bad M (rgF i f) v u) → sZ M.length (fun k => if mh M k = x ∨ mc M k = x then (wd M (rgF i f) v j k).toInt else 0) = uz M M.length x + v.toInt * ((if x = ssR M i st 0 then -1 else 0) - (if x = ssR M i st j then sgR j else 0))
  | 0, _, _ => by
    have e : sZ M.length (fun k => if mh M k = x ∨ mc M k = x then (wd M (rgF i f) v 0 k).toInt else 0) = uz M M.length x := rfl
    have s0 : sgR 0 = -1 := rfl
    rw [e, s0, Int.sub_self, Int.mul_zero, Int.add_zero]
  | j + 1, hj, hb' => by
    have ih := wd_T ok v0 hi' hne h0 hp hv hd x (j := j) (by omega) (fun u hu => hb' u (by omega))
    obtain ⟨o1, o2⟩ := rg_on hi' h0 hp (show j ≤ d by omega)
    have b1 := wd_bd (g := rgF i f) ok v0 hv (j := j) (by omega) (fun u hu => hb' u (by omega)) _ o1
    have d1 := dlt_bd hv j
    have a : (wd M (rgF i f) v j (rgF i f j) + dlt v j).toInt = (wd M (rgF i f) v j (rgF i f j)).toInt + (dlt v j).toInt := tI_add (by omega) (by omega)
    have e := sZ_one (n := M.length) (k := rgF i f j) (f := fun k => if mh M k = x ∨ mc M k = x then (wd M (rgF i f) v (j + 1) k).toInt else 0) (g := fun k => if mh M k = x ∨ mc M k = x then (wd M (rgF i f) v j k).toInt else 0) o1 (fun k hk => by
      have : wd M (rgF i f) v (j + 1) k = wd M (rgF i f) v j k := upd_n hk
      rw [this])
    have w1 : wd M (rgF i f) v (j + 1) (rgF i f j) = wd M (rgF i f) v j (rgF i f j) + dlt v j := upd_s
    rw [e, ih, w1, a, d1.1]
    have sg : sgR (j + 1) = - sgR j := by
      unfold sgR
      by_cases c : j % 2 = 1
      · rw [if_pos c, if_neg (by omega)]
      · rw [if_neg c, if_pos (by omega)]; rfl
    have dn : ssR M i st j ≠ ssR M i st (j + 1) := by
      have := hne _ o1
      rcases o2 with ⟨q1, q2⟩ | ⟨q1, q2⟩
      · rw [← q1, ← q2]; exact this
      · rw [← q1, ← q2]; exact fun z => this z.symm
    have on : (mh M (rgF i f j) = x ∨ mc M (rgF i f j) = x) ↔ (x = ssR M i st j ∨ x = ssR M i st (j + 1)) := by
      rcases o2 with ⟨q1, q2⟩ | ⟨q1, q2⟩
      · rw [q1, q2]
        exact ⟨fun z => z.elim (fun y => Or.inl y.symm) (fun y => Or.inr y.symm), fun z => z.elim (fun y => Or.inl y.symm) (fun y => Or.inr y.symm)⟩
      · rw [q1, q2]
        exact ⟨fun z => z.elim (fun y => Or.inr y.symm) (fun y => Or.inl y.symm), fun z => z.elim (fun y => Or.inr y.symm) (fun y => Or.inl y.symm)⟩
    rw [sg]
    generalize (if x = ssR M i st 0 then (-1 : Int) else 0) = A
    by_cases c1 : x = ssR M i st j
    · have c2 : ¬ x = ssR M i st (j + 1) := fun z => dn (c1.symm.trans z)
      rw [if_pos c1, if_neg c2, if_pos (on.mpr (Or.inl c1)), if_pos (on.mpr (Or.inl c1))]
      grind
    · by_cases c2 : x = ssR M i st (j + 1)
      · rw [if_neg c1, if_pos c2, if_pos (on.mpr (Or.inr c2)), if_pos (on.mpr (Or.inr c2))]
        grind
      · have no : ¬ (mh M (rgF i f j) = x ∨ mc M (rgF i f j) = x) := fun z => (on.mp z).elim c1 c2
        rw [if_neg c1, if_neg c2, if_neg no, if_neg no]
        grind
/-- all round: no stream has more or less -/
theorem wd_VW (ok : OK S) (v0 : VM S s M) (hi' : i < M.length) (hne : ∀ k, k < M.length → mh M k ≠ mc M k) (h0 : st 0 = mc M i) (hp : Pth M i d f st) (hv : 1 ≤ v.toInt ∧ v.toInt ≤ 11200) (hd : d ≤ 15) (hd2 : d % 2 = 1) (hb' : ∀ u, u < d + 1 → ¬ bad M (rgF i f) v u) : VW S s (cz M (wd M (rgF i f) v (d + 1)) M.length) ∧ ∀ k, k < M.length → 0 ≤ (wd M (rgF i f) v (d + 1) k).toInt := by
  have bd := wd_bd (g := rgF i f) ok v0 hv (j := d + 1) (by omega) hb'
  refine ⟨⟨Nat.le_trans cz_len v0.1, cz_all (P := fun a b w => Pr S s a b ∧ 1 ≤ w.toInt) (fun j hj hne' => ?_) (Nat.le_refl _), fun x hx => ?_⟩, fun k hk => (bd k hk).1⟩
  · refine ⟨(v0.2.1 j hj).1, ?_⟩
    have := (bd j hj).1
    rw [eq_tI, tI0] at hne'
    omega
  · rw [cz_uz, wd_T ok v0 hi' hne h0 hp hv hd x (j := d + 1) (Nat.le_refl _) hb']
    have z := v0.2.2.1 x hx
    have e : st d = mh M i := dst_0.mp (by have := hp.2 d (Nat.le_refl _); rw [Nat.sub_self] at this; exact this)
    have e0 : ssR M i st 0 = mh M i := if_pos rfl
    have e1 : ssR M i st (d + 1) = mh M i := by unfold ssR; rw [if_neg (by omega), show d + 1 - 1 = d by omega]; exact e
    have e2 : sgR (d + 1) = -1 := by unfold sgR; rw [if_neg (by omega)]
    rw [e0, e1, e2, Int.sub_self, Int.mul_zero]
    omega
theorem bad_ls : ∀ {N : Nat}, (∃ j, j < N ∧ bad M g v j) → ∃ j, j < N ∧ bad M g v j ∧ ∀ u, u < j → ¬ bad M g v u
  | 0, ⟨j, hj, _⟩ => absurd hj (Nat.not_lt_zero j)
  | N + 1, ⟨j, hj, hb'⟩ => by
    by_cases c : ∃ u, u < N ∧ bad M g v u
    · obtain ⟨u, u1', u2', u3'⟩ := bad_ls c
      exact ⟨u, by omega, u2', u3'⟩
    · exact ⟨j, hj, hb', fun u hu q => c ⟨u, by omega, q⟩⟩
end O42
