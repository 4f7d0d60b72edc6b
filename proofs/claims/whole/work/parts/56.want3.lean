/-! wanted loads: the reference -/
section O16
variable {h : Hp} {S : SS} {Ms : Nat → Mt} {tx : List Int32} {row : List Int64} {r s : Nat} {M : Mt} {W : Nat → Int32}
/-- what is kept aside -/
def SV (h : Hp) (M : Mt) : Prop := h.1 54 33 = nI M.length ∧ ∀ k, k < M.length → h.1 71 k = nI (mh M k) ∧ h.1 72 k = nI (mc M k) ∧ h.1 73 k = ml M k
theorem SV.fr {W : List (Nat × Option Nat)} {Z : List Nat} {h h' : Hp} (hM : SV h M) (R : Fr W Z h h') (hw : W.all (fun w => w.1 != 71 && w.1 != 72 && w.1 != 73 && (w.1 != 54 || (w.2 != none && w.2 != some 33))) = true) : SV h' M := by
  have key : ∀ c k, (c = 71 ∨ c = 72 ∨ c = 73 ∨ (c = 54 ∧ k = 33)) → h'.1 c k = h.1 c k := fun c k hc => R.1 c k (fun q => by
    have := List.all_eq_true.mp hw _ q
    simp at this
    omega) (fun q => by
    have := List.all_eq_true.mp hw _ q
    simp at this
    omega)
  exact ⟨(key 54 33 (by simp)).trans hM.1, fun k hk => ⟨(key 71 k (by simp)).trans (hM.2 k hk).1, (key 72 k (by simp)).trans (hM.2 k hk).2.1, (key 73 k (by simp)).trans (hM.2 k hk).2.2⟩⟩
def MMo (h : Hp) (s : Nat) (Ms : Nat → Mt) : Prop := ∀ t, t < 2 → t ≠ s → MM h t (Ms t)
theorem MMo.w (hM : MMo h s Ms) (hs : s < 2) (hl : ∀ t, t < 2 → (Ms t).length ≤ 24) {c k : Nat} (hc : 68 ≤ c) (hk : k < 25) (v : Int32) : MMo (u1 h c (25 * s + k) v) s Ms := by
  intro t ht' hne
  obtain ⟨a1, a2⟩ := hM t ht' hne
  have l := hl t ht'
  refine ⟨(rd1c (by omega)).trans a1, fun j hj => ?_⟩
  obtain ⟨b1, b2, b3⟩ := a2 j hj
  have ne : 25 * t + j ≠ 25 * s + k := by omega
  exact ⟨(rd1k ne).trans b1, (rd1k ne).trans b2, (rd1k ne).trans b3⟩
theorem MMo.c (hM : MMo h s Ms) (v : Int32) : MMo (u1 h 67 s v) s Ms := by
  intro t ht' hne
  obtain ⟨a1, a2⟩ := hM t ht' hne
  refine ⟨(rd1k hne).trans a1, fun j hj => ?_⟩
  obtain ⟨b1, b2, b3⟩ := a2 j hj
  exact ⟨(rd1c (by decide)).trans b1, (rd1c (by decide)).trans b2, (rd1c (by decide)).trans b3⟩
theorem RMs_up {M' : Mt} (hq : MQS h S) (hM : MM h s M') (ho : MMo h s Ms) : RMs h S (upM Ms s M') := by
  refine ⟨hq, fun t ht' => ?_⟩
  unfold upM
  by_cases e : t = s
  · subst e; rw [if_pos rfl]; exact hM
  · rw [if_neg e]; exact ho t ht' e
theorem M_saves (hs : s < 2) (hM : MM h s M) (hl : M.length ≤ 24) : ∃ h', sX6_saves h (nI s) = some h' ∧ SV h' M := by
  unfold sX6_saves
  rw [gd_in (show s < 2 by omega) (show 2 ≤ 1000 by decide), cl_n (show s ≤ 100000 by omega), hM.1, nm_t rfl]
  refine loopI (fun n (q : Hp × Int32) => sX6_saves_b12 n q.1 (nI s) q.2) (fun k q => MM q.1 s M ∧ q.2 = nI k ∧ q.1.1 54 33 = nI M.length ∧ ∀ j, j < k → q.1.1 71 j = nI (mh M j) ∧ q.1.1 72 j = nI (mc M j) ∧ q.1.1 73 j = ml M j) M.length (fun q => SV q M) (by omega) (u1 h 54 33 (nI M.length), 0) ⟨hM.fr (Fr.w1 (W := [(54, some 33)]) (Z := []) Fr.rf rfl (by simp)) (by decide), rfl, rd1s, fun j hj => absurd hj (Nat.not_lt_zero j)⟩ (fun m k q hk I => ?_) (fun m q I => ?_)
  · obtain ⟨i1, i2, i3, i4⟩ := I
    obtain ⟨a1, a2, a3⟩ := i1.2 k hk
    have b2 : (u1 q.1 71 k (nI (mh M k))).1 69 (25 * s + k) = nI (mc M k) := (rd1c (by decide)).trans a2
    have b3 : (u1 (u1 q.1 71 k (nI (mh M k))) 72 k (nI (mc M k))).1 70 (25 * s + k) = ml M k := (rd1c (by decide)).trans ((rd1c (by decide)).trans a3)
    have F : Fr [(71, none), (72, none), (73, none)] [] q.1 (u1 (u1 (u1 q.1 71 k (nI (mh M k))) 72 k (nI (mc M k))) 73 k (ml M k)) := Fr.w1 (Fr.w1 (Fr.w1 Fr.rf rfl (by simp)) rfl (by simp)) rfl (by simp)
    refine ⟨(u1 (u1 (u1 q.1 71 k (nI (mh M k))) 72 k (nI (mc M k))) 73 k (ml M k), nI (k + 1)), ⟨i1.fr F (by decide), rfl, (F.f (by decide)).trans i3, fun j hj => ?_⟩, ?_⟩
    · by_cases e : j = k
      · subst e
        exact ⟨(rd1c (by decide)).trans ((rd1c (by decide)).trans rd1s), (rd1c (by decide)).trans rd1s, rd1s⟩
      · obtain ⟨d1, d2, d3⟩ := i4 j (by omega)
        exact ⟨(rd1k e).trans ((rd1k e).trans ((rd1k e).trans d1)), (rd1k e).trans ((rd1k e).trans ((rd1k e).trans d2)), (rd1k e).trans ((rd1k e).trans ((rd1k e).trans d3))⟩
    · show sX6_saves_c12 (sX6_saves_b12 m) q.1 (nI s) q.2 = _
      have hle : ¬ nI M.length ≤ nI k := by rw [le_n (by omega) (by omega)]; omega
      simp only [sX6_saves_c12, i2, i3, hle, if_false, M_place, Option.bind_some, gd_in (show 25 * s + k < 50 by omega) (show 50 ≤ 1000 by decide), gd_in (show k < 24 by omega) (show 24 ≤ 1000 by decide), cl_n (show k ≤ 100000 by omega), cl_n (show 25 * s + k ≤ 100000 by omega), nm, a1, b2, b3, nI_1]
  · obtain ⟨i1, i2, i3, i4⟩ := I
    refine ⟨q.1, ?_, i3, i4⟩
    show sX6_saves_c12 (sX6_saves_b12 m) q.1 (nI s) q.2 = _
    unfold sX6_saves_c12
    rw [i2, i3, if_pos (by rw [le_n (by omega) (by omega)]; omega)]
theorem M_back (hs : s < 2) (hM : SV h M) (ho : MMo h s Ms) (hl : M.length ≤ 24) (hls : ∀ t, t < 2 → (Ms t).length ≤ 24) : ∃ h', sX6_comesBack h (nI s) = some h' ∧ MM h' s M ∧ MMo h' s Ms := by
  unfold sX6_comesBack
  rw [gd_in (show s < 2 by omega) (show 2 ≤ 1000 by decide), cl_n (show s ≤ 100000 by omega), hM.1, nm_t rfl]
  refine loopI (fun n (q : Hp × Int32) => sX6_comesBack_b12 n q.1 (nI s) q.2) (fun k q => SV q.1 M ∧ MMo q.1 s Ms ∧ q.2 = nI k ∧ q.1.1 67 s = nI M.length ∧ ∀ j, j < k → q.1.1 68 (25 * s + j) = nI (mh M j) ∧ q.1.1 69 (25 * s + j) = nI (mc M j) ∧ q.1.1 70 (25 * s + j) = ml M j) M.length (fun q => MM q s M ∧ MMo q s Ms) (by omega) (u1 h 67 s (nI M.length), 0) ⟨hM.fr (Fr.w1 (W := [(67, none)]) (Z := []) Fr.rf rfl (by simp)) (by decide), ho.c _, rfl, rd1s, fun j hj => absurd hj (Nat.not_lt_zero j)⟩ (fun m k q hk I => ?_) (fun m q I => ?_)
  · obtain ⟨i1, i5, i2, i3, i4⟩ := I
    obtain ⟨a1, a2, a3⟩ := i1.2 k hk
    have b2 : (u1 q.1 68 (25 * s + k) (nI (mh M k))).1 72 k = nI (mc M k) := (rd1c (by decide)).trans a2
    have b3 : (u1 (u1 q.1 68 (25 * s + k) (nI (mh M k))) 69 (25 * s + k) (nI (mc M k))).1 73 k = ml M k := (rd1c (by decide)).trans ((rd1c (by decide)).trans a3)
    have F : Fr [(68, none), (69, none), (70, none)] [] q.1 (u1 (u1 (u1 q.1 68 (25 * s + k) (nI (mh M k))) 69 (25 * s + k) (nI (mc M k))) 70 (25 * s + k) (ml M k)) := Fr.w1 (Fr.w1 (Fr.w1 Fr.rf rfl (by simp)) rfl (by simp)) rfl (by simp)
    refine ⟨(u1 (u1 (u1 q.1 68 (25 * s + k) (nI (mh M k))) 69 (25 * s + k) (nI (mc M k))) 70 (25 * s + k) (ml M k), nI (k + 1)), ⟨i1.fr F (by decide), ((i5.w hs hls (by omega) (by omega) _).w hs hls (by omega) (by omega) _).w hs hls (by omega) (by omega) _, rfl, (F.c (by decide) s).trans i3, fun j hj => ?_⟩, ?_⟩
    · by_cases e : j = k
      · subst e
        exact ⟨(rd1c (by decide)).trans ((rd1c (by decide)).trans rd1s), (rd1c (by decide)).trans rd1s, rd1s⟩
      · have e : 25 * s + j ≠ 25 * s + k := by omega
        obtain ⟨d1, d2, d3⟩ := i4 j (by omega)
        exact ⟨(rd1k e).trans ((rd1k e).trans ((rd1k e).trans d1)), (rd1k e).trans ((rd1k e).trans ((rd1k e).trans d2)), (rd1k e).trans ((rd1k e).trans ((rd1k e).trans d3))⟩
    · show sX6_comesBack_c12 (sX6_comesBack_b12 m) q.1 (nI s) q.2 = _
      have hle : ¬ nI M.length ≤ nI k := by rw [le_n (by omega) (by omega)]; omega
      simp only [sX6_comesBack_c12, i2, i1.1, hle, if_false, M_place, Option.bind_some, gd_in (show 25 * s + k < 50 by omega) (show 50 ≤ 1000 by decide), gd_in (show k < 24 by omega) (show 24 ≤ 1000 by decide), cl_n (show k ≤ 100000 by omega), cl_n (show 25 * s + k ≤ 100000 by omega), nm, a1, b2, b3, nI_1]
  · obtain ⟨i1, i5, i2, i3, i4⟩ := I
    refine ⟨q.1, ?_, ⟨i3, i4⟩, i5⟩
    show sX6_comesBack_c12 (sX6_comesBack_b12 m) q.1 (nI s) q.2 = _
    unfold sX6_comesBack_c12
    rw [i2, i1.1, if_pos (by rw [le_n (by omega) (by omega)]; omega)]
theorem M_closes (hs : s < 2) (h0 : h.1 67 s = nI M.length) (hM : ∀ k, k < M.length → h.1 68 (25 * s + k) = nI (mh M k) ∧ h.1 69 (25 * s + k) = nI (mc M k) ∧ h.1 70 (25 * s + k) = W k) (ho : MMo h s Ms) (hl : M.length ≤ 24) (hls : ∀ t, t < 2 → (Ms t).length ≤ 24) : ∃ h', sX6_closesUp h (nI s) = some h' ∧ MM h' s (cz M W M.length) ∧ MMo h' s Ms := by
  unfold sX6_closesUp
  refine loopI (fun n (q : Hp × Int32 × Int32) => sX6_closesUp_b4 n q.1 (nI s) q.2.1 q.2.2) (fun k q => q.1.1 67 s = nI M.length ∧ MMo q.1 s Ms ∧ q.2.1 = nI (cz M W k).length ∧ q.2.2 = nI k ∧ (∀ j, j < M.length → k ≤ j → q.1.1 68 (25 * s + j) = nI (mh M j) ∧ q.1.1 69 (25 * s + j) = nI (mc M j) ∧ q.1.1 70 (25 * s + j) = W j) ∧ MMk q.1 s (cz M W k)) M.length (fun q => MM q s (cz M W M.length) ∧ MMo q s Ms) (by omega) (h, 0, 0) ⟨h0, ho, rfl, rfl, fun j hj _ => hM j hj, fun k hk => absurd hk (Nat.not_lt_zero k)⟩ (fun m k q hk I => ?_) (fun m q I => ?_)
  · obtain ⟨i1, i2, i3, i4, i5, i6⟩ := I
    obtain ⟨a1, a2, a3⟩ := i5 k hk (Nat.le_refl _)
    have cl := cz_len (M := M) (W := W) (k := k)
    by_cases c : W k = 0
    · refine ⟨(q.1, nI (cz M W k).length, nI (k + 1)), ⟨i1, i2, by rw [cz_0 c], rfl, fun j hj hj' => i5 j hj (by omega), by rw [cz_0 c]; exact i6⟩, ?_⟩
      show sX6_closesUp_c4 (sX6_closesUp_b4 m) q.1 (nI s) q.2.1 q.2.2 = _
      have hle : ¬ nI M.length ≤ nI k := by rw [le_n (by omega) (by omega)]; omega
      simp only [sX6_closesUp_c4, sX6_closesUp_c86, i3, i4, i1, gd_in (show s < 2 by omega) (show 2 ≤ 1000 by decide), cl_n (show s ≤ 100000 by omega), hle, if_false, M_place, Option.bind_some, gd_in (show 25 * s + k < 50 by omega) (show 50 ≤ 1000 by decide), cl_n (show 25 * s + k ≤ 100000 by omega), a3, c, if_true, nm, nI_1]
    · generalize hp : (cz M W k).length = p at *
      have b2 : (u1 q.1 68 (25 * s + p) (nI (mh M k))).1 69 (25 * s + k) = nI (mc M k) := (rd1c (by decide)).trans a2
      have b3 : (u1 (u1 q.1 68 (25 * s + p) (nI (mh M k))) 69 (25 * s + p) (nI (mc M k))).1 70 (25 * s + k) = W k := (rd1c (by decide)).trans ((rd1c (by decide)).trans a3)
      have F : Fr [(68, none), (69, none), (70, none)] [] q.1 (u1 (u1 (u1 q.1 68 (25 * s + p) (nI (mh M k))) 69 (25 * s + p) (nI (mc M k))) 70 (25 * s + p) (W k)) := Fr.w1 (Fr.w1 (Fr.w1 Fr.rf rfl (by simp)) rfl (by simp)) rfl (by simp)
      refine ⟨(u1 (u1 (u1 q.1 68 (25 * s + p) (nI (mh M k))) 69 (25 * s + p) (nI (mc M k))) 70 (25 * s + p) (W k), nI (p + 1), nI (k + 1)), ⟨(F.c (by decide) s).trans i1, ((i2.w hs hls (by omega) (by omega) _).w hs hls (by omega) (by omega) _).w hs hls (by omega) (by omega) _, by rw [cz_1 c, sn_len, hp], rfl, fun j hj hj' => ?_, fun j hj => ?_⟩, ?_⟩
      · have e : 25 * s + j ≠ 25 * s + p := by omega
        obtain ⟨d1, d2, d3⟩ := i5 j hj (by omega)
        exact ⟨(rd1k e).trans ((rd1k e).trans ((rd1k e).trans d1)), (rd1k e).trans ((rd1k e).trans ((rd1k e).trans d2)), (rd1k e).trans ((rd1k e).trans ((rd1k e).trans d3))⟩
      · rw [cz_1 c] at hj ⊢
        rw [sn_len, hp] at hj
        by_cases e : j = p
        · rw [e, ← hp]
          obtain ⟨f1, f2, f3⟩ := sn_e (M := cz M W k) (a := mh M k) (b := mc M k) (v := W k)
          rw [f1, f2, f3, hp]
          exact ⟨(rd1c (by decide)).trans ((rd1c (by decide)).trans rd1s), (rd1c (by decide)).trans rd1s, rd1s⟩
        · have e' : 25 * s + j ≠ 25 * s + p := by omega
          obtain ⟨f1, f2, f3⟩ := sn_l (a := mh M k) (b := mc M k) (v := W k) (show j < (cz M W k).length by omega)
          rw [f1, f2, f3]
          obtain ⟨d1, d2, d3⟩ := i6 j (by omega)
          exact ⟨(rd1k e').trans ((rd1k e').trans ((rd1k e').trans d1)), (rd1k e').trans ((rd1k e').trans ((rd1k e').trans d2)), (rd1k e').trans ((rd1k e').trans ((rd1k e').trans d3))⟩
      · show sX6_closesUp_c4 (sX6_closesUp_b4 m) q.1 (nI s) q.2.1 q.2.2 = _
        have hle : ¬ nI M.length ≤ nI k := by rw [le_n (by omega) (by omega)]; omega
        simp only [sX6_closesUp_c4, sX6_closesUp_c86, i3, i4, i1, gd_in (show s < 2 by omega) (show 2 ≤ 1000 by decide), cl_n (show s ≤ 100000 by omega), hle, if_false, M_place, Option.bind_some, gd_in (show 25 * s + k < 50 by omega) (show 50 ≤ 1000 by decide), gd_in (show 25 * s + p < 50 by omega) (show 50 ≤ 1000 by decide), cl_n (show 25 * s + k ≤ 100000 by omega), cl_n (show 25 * s + p ≤ 100000 by omega), a1, a3, b2, b3, c, nm, nI_1]
  · obtain ⟨i1, i2, i3, i4, i5, i6⟩ := I
    refine ⟨u1 q.1 67 s (nI (cz M W M.length).length), ?_, ⟨rd1s, fun j hj => ?_⟩, i2.c _⟩
    · show sX6_closesUp_c4 (sX6_closesUp_b4 m) q.1 (nI s) q.2.1 q.2.2 = _
      have hle : nI M.length ≤ nI M.length := by rw [le_n (by omega) (by omega)]; omega
      simp only [sX6_closesUp_c4, i3, i4, i1, gd_in (show s < 2 by omega) (show 2 ≤ 1000 by decide), cl_n (show s ≤ 100000 by omega), hle, if_true, nm]
    · obtain ⟨d1, d2, d3⟩ := i6 j hj
      exact ⟨(rd1c (by decide)).trans d1, (rd1c (by decide)).trans d2, (rd1c (by decide)).trans d3⟩
/-- the reference looks whether what stands there may stand, and comes back if not -/
theorem M_right {N : Mt} (ok : OK S) (hs : s < 2) (hM : RM h S (upM Ms s N) tx row) (hF : FD h S) (hSV : SV h (Ms s)) (v : VW S s N) (hls : ∀ t, t < 2 → (Ms t).length ≤ 24) : ∃ h', (ff (pK S s N) N.length 0 = -1 → sX6_isRight h (nI s) = some (1, h') ∧ RM h' S (upM Ms s N) tx row) ∧ (¬ ff (pK S s N) N.length 0 = -1 → sX6_isRight h (nI s) = some (0, h') ∧ RM h' S Ms tx [(ff (pK S s N) N.length 0).toInt64]) := by
  have m := hM.1.2 s hs
  rw [upM_s] at m
  have f := M_fbad ok hF hs m v
  have ho : MMo h s Ms := fun t ht' hne => by have := hM.1.2 t ht'; unfold upM at this; rw [if_neg hne] at this; exact this
  have po := ff_pos (p := pK S s N) (d := N.length) (k := 0) (by have := v.1; omega)
  by_cases c : ff (pK S s N) N.length 0 = -1
  · refine ⟨h, fun _ => ⟨?_, hM⟩, fun q => absurd c q⟩
    unfold sX6_isRight
    rw [bd_t f]
    dsimp only
    rw [c, if_neg (by decide)]
  · obtain ⟨h1, e1, m1, o1⟩ := M_back hs hSV ho (hls s hs) hls
    have F := fX6_comesBack _ _ _ e1
    have r1 : RM h1 S Ms tx row := by
      have := RMs_up (MQS.fr hM.1.1 F (by decide)) m1 o1
      rw [upM_self] at this
      exact ⟨this, hM.2.1.fr F (by decide), hM.2.2.fr F (by decide) (by decide)⟩
    obtain ⟨r2, F2⟩ := r1.row0
    obtain ⟨h3, e3, r3, F3⟩ := r2.ent (by simp) (ff (pK S s N) N.length 0).toInt64
    refine ⟨h3, fun q => absurd q c, fun _ => ⟨?_, r3⟩⟩
    unfold sX6_isRight
    rw [bd_t f]
    dsimp only
    rw [if_pos (po.resolve_left c), bd_t e1, nm_t rfl, bd_t e3]
end O16
