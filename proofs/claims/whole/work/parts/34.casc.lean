/-! the class's cascade -/
def hcp (n : Nat) (F T C : Nat → Int32) (g : Int32) (k : Nat) : Int32 := if k + 1 < (BLs F T g n).length then thr n F T C g 1 ((BLs F T g n).getD k 0) ((BLs F T g n).getD (k + 1) 0) else 0
def ccp (n : Nat) (F T C : Nat → Int32) (g : Int32) (k : Nat) : Int32 := if k + 1 < (BLs F T g n).length then thr n F T C g 0 ((BLs F T g n).getD k 0) ((BLs F T g n).getD (k + 1) 0) else 0
theorem sur_hc (n : Nat) (F T C : Nat → Int32) (g : Int32) (k : Nat) : sur n F T C g k = if k + 1 < (BLs F T g n).length then ((BLs F T g n).getD k 0 - (BLs F T g n).getD (k + 1) 0) * (hcp n F T C g k - ccp n F T C g k) else 0 := by
  unfold sur hcp ccp
  by_cases c : k + 1 < (BLs F T g n).length
  · simp only [if_pos c]
  · simp only [if_neg c]
/-- what work() leaves in a Cascade -/
def CW (h : Hp) (r n : Nat) (F T C : Nat → Int32) (g : Int32) : Prop := h.1 r 4 = nI (BLs F T g n).length ∧ AR h (r + 1) (BLs F T g n) ∧ (∀ k, k < (BLs F T g n).length → h.1 (r + 2) k = car n F T C g k + fue n F T C g ∧ h.1 (r + 3) k = hcp n F T C g k ∧ h.1 (r + 4) k = ccp n F T C g k) ∧ h.1 r 5 = fue n F T C g
theorem CW.fr {W : List (Nat × Option Nat)} {Z : List Nat} {h h' : Hp} {r n : Nat} {F T C : Nat → Int32} {g : Int32} (hC : CW h r n F T C g) (R : Fr W Z h h') (hw : ∀ w ∈ W, w.1 < r ∨ r + 4 < w.1) : CW h' r n F T C g := by
  have key : ∀ c k, r ≤ c → c ≤ r + 4 → h'.1 c k = h.1 c k := fun c k h1 h2 => R.1 c k (fun q => by have := hw _ q; simp at this; omega) (fun q => by have := hw _ q; simp at this; omega)
  obtain ⟨p1, p2, p3, p4⟩ := hC
  refine ⟨(key r 4 (by omega) (by omega)).trans p1, fun k hk => (key _ k (by omega) (by omega)).trans (p2 k hk), fun k hk => ?_, (key r 5 (by omega) (by omega)).trans p4⟩
  obtain ⟨a1, a2, a3⟩ := p3 k hk
  exact ⟨(key _ k (by omega) (by omega)).trans a1, (key _ k (by omega) (by omega)).trans a2, (key _ k (by omega) (by omega)).trans a3⟩
section Cw
variable {h : Hp} {r a n : Nat} {F T C : Nat → Int32} {g : Int32}
theorem C_surplusOf (hr : ck r = 0) (hn : n ≤ 10) (hs : h.1 r 4 = nI (BLs F T g n).length) (ha : AR h (r + 1) (BLs F T g n)) {k : Nat} (hk : k < (BLs F T g n).length) (h3 : h.1 (r + 3) k = hcp n F T C g k) (h4 : h.1 (r + 4) k = ccp n F T C g k) : sX0_surplusOf h r (nI k) = some (sur n F T C g k, h) := by
  have hl := BLs_len F T g n
  rw [sur_hc]
  unfold sX0_surplusOf sX0_surplusOf_c43
  rw [gd_t (isC_ok hr)]
  by_cases c : k + 1 < (BLs F T g n).length
  · have c1 : ¬ nI ((BLs F T g n).length - 1) ≤ nI k := by rw [le_n (by omega) (by omega)]; omega
    simp only [hs, nI_m1 (show 0 < (BLs F T g n).length by omega), c1, if_false, if_true, c, nI_1, gd_in (show k < 20 by omega) (show 20 ≤ 1000 by decide), gd_in (show k + 1 < 20 by omega) (show 20 ≤ 1000 by decide), cl_n (show k ≤ 100000 by omega), cl_n (show k + 1 ≤ 100000 by omega), ha k hk, ha _ c, h3, h4]
  · have c1 : nI ((BLs F T g n).length - 1) ≤ nI k := by rw [le_n (by omega) (by omega)]; omega
    simp only [hs, nI_m1 (show 0 < (BLs F T g n).length by omega), c1, if_true, c, if_false]
theorem C_borders (hr : ck r = 0) (ha : ck a = 1) (hP : PS h a n F T C) (hn : n ≤ 10) : ∃ h', sX0_placeBorders h r a g = some h' ∧ h'.1 r 4 = nI (BLs F T g n).length ∧ AR h' (r + 1) (BLs F T g n) := by
  have hr' := hsX0 hr
  have ha' := hsX1 ha
  unfold sX0_placeBorders
  rw [gd_t (isC_ok hr), gd_t (isC_ok ha), nm_t rfl]
  have apart : ∀ w ∈ wX0_placeBorder r, w.1 < a ∨ a + 4 < w.1 := by
    intro w hw
    simp only [wX0_placeBorder, List.mem_cons, List.not_mem_nil, or_false] at hw
    rcases hw with rfl | rfl <;> (dsimp only; omega)
  refine loopI (fun m (s : Hp × Int32) => sX0_placeBorders_b7 m s.1 r a g s.2) (fun i s => s.2 = nI i ∧ PS s.1 a n F T C ∧ s.1.1 r 4 = nI (BLs F T g i).length ∧ AR s.1 (r + 1) (BLs F T g i)) n (fun h' => h'.1 r 4 = nI (BLs F T g n).length ∧ AR h' (r + 1) (BLs F T g n)) (by omega) (u1 h r 4 0, 0) ⟨rfl, hP.fr (Fr.w1 (W := [(r, some 4)]) (Z := []) Fr.rf rfl (by simp)) (by intro w hw; simp at hw; subst hw; dsimp only; omega), rd1s, fun k hk => by simp [BLs] at hk⟩ (fun m i s hi I => ?_) (fun m s I => ?_)
  · obtain ⟨h1, v⟩ := s
    obtain ⟨i1, i2, i3, i4⟩ := I
    dsimp only at i1 i2 i3 i4
    subst i1
    have c1 : ¬ nI n ≤ nI i := by rw [le_n (by omega) (by omega)]; omega
    have l1 := BLs_len F T g i
    obtain ⟨h2, e1, e2, e3⟩ := C_place (t := F i - sh F T g i) hr i3 i4 (by omega)
    have R2 := i2.fr (fX0_placeBorder _ _ _ _ e1) apart
    have l2 := insL_len (F i - sh F T g i) (BLs F T g i)
    obtain ⟨h3, e4, e5, e6⟩ := C_place (t := T i - sh F T g i) hr e2 e3 (by omega)
    have R3 := R2.fr (fX0_placeBorder _ _ _ _ e4) apart
    refine ⟨(h3, nI (i + 1)), ⟨rfl, R3, e5, e6⟩, ?_⟩
    show sX0_placeBorders_c7 (sX0_placeBorders_b7 m) h1 r a g (nI i) = sX0_placeBorders_b7 m h3 r a g (nI (i + 1))
    obtain ⟨a1, a2, a3, a4⟩ := i2.2 i hi
    obtain ⟨b1, b2, b3, b4⟩ := R2.2 i hi
    have key : ∀ x, x = sh F T g i → sX0_placeBorders_c29 (sX0_placeBorders_b7 m) h1 r a g (nI i) x = sX0_placeBorders_b7 m h3 r a g (nI (i + 1)) := by
      intro x hx
      subst hx
      simp only [sX0_placeBorders_c29, gd_in (show i < 10 by omega) (show 10 ≤ 1000 by decide), Option.bind_some, cl_n (show i ≤ 100000 by omega), a2, b3, e1, e4, nm, nI_1]
    unfold sX0_placeBorders_c7
    rw [i2.1, if_neg c1, gd_in (show i < 10 by omega) (show 10 ≤ 1000 by decide), cl_n (show i ≤ 100000 by omega), a1]
    unfold hb
    by_cases c2 : T i < F i
    · rw [if_pos c2, if_neg (by decide)]
      exact key g (by unfold sh; rw [if_pos c2])
    · rw [if_neg c2, if_pos rfl]
      exact key 0 (by unfold sh; rw [if_neg c2])
  · obtain ⟨h1, v⟩ := s
    obtain ⟨i1, i2, i3, i4⟩ := I
    dsimp only at i1 i2 i3 i4
    subst i1
    have c1 : nI n ≤ nI n := by rw [le_n (by omega) (by omega)]; omega
    refine ⟨h1, ?_, i3, i4⟩
    show sX0_placeBorders_c7 (sX0_placeBorders_b7 m) h1 r a g (nI n) = _
    simp only [sX0_placeBorders_c7, i2.1, c1, if_true]
theorem C_work (hr : ck r = 0) (ha : ck a = 1) (hP : PS h a n F T C) (ok : OkS n F T C g) : ∃ h', sX0_work h r a g = some h' ∧ CW h' r n F T C g := by
  have hn := ok.1
  have hl := BLs_len F T g n
  have hr' := hsX0 hr
  have ha' := hsX1 ha
  unfold sX0_work
  rw [gd_t (isC_ok hr), gd_t (isC_ok ha)]
  obtain ⟨h1, e1, e2, e3⟩ := C_borders (g := g) hr ha hP hn
  have P1 : PS h1 a n F T C := hP.fr (fX0_placeBorders _ _ _ _ _ e1) (by
    intro w hw
    simp only [wX0_placeBorders, List.mem_cons, List.not_mem_nil, or_false] at hw
    rcases hw with rfl | rfl <;> (dsimp only; omega))
  rw [bd_t e1]
  refine loopI (fun m (s : Hp × Int32 × Int32 × Int32) => sX0_work_b14 m s.1 r a g s.2.1 s.2.2.1 s.2.2.2) (fun k s => s.2.1 = car n F T C g k ∧ s.2.2.1 = lsA n F T C g k ∧ s.2.2.2 = nI k ∧ PS s.1 a n F T C ∧ s.1.1 r 4 = nI (BLs F T g n).length ∧ AR s.1 (r + 1) (BLs F T g n) ∧ ∀ j, j < k → s.1.1 (r + 2) j = car n F T C g j ∧ s.1.1 (r + 3) j = hcp n F T C g j ∧ s.1.1 (r + 4) j = ccp n F T C g j) (BLs F T g n).length (fun h' => CW h' r n F T C g) (by omega) (h1, 0, 0, 0) ⟨rfl, rfl, rfl, P1, e2, e3, fun j hj => by omega⟩ (fun m k s hk I => ?_) (fun m s I => ?_)
  · obtain ⟨h2, v1, v2, v3⟩ := s
    obtain ⟨j1, j2, j3, j4, j5, j6, j7⟩ := I
    dsimp only at j1 j2 j3 j4 j5 j6 j7
    subst j1
    subst j2
    subst j3
    have c2 : ¬ nI (BLs F T g n).length ≤ nI k := by rw [le_n (by omega) (by omega)]; omega
    let ha1 := u1 h2 (r + 3) k (hcp n F T C g k)
    let ha2 := u1 ha1 (r + 4) k (ccp n F T C g k)
    let ha3 := u1 ha2 (r + 2) k (car n F T C g k)
    have R1 : Fr [(r + 3, none)] [] h2 ha1 := Fr.w1 Fr.rf rfl (by simp)
    have R3 : Fr [(r + 3, none), (r + 4, none), (r + 2, none)] [] h2 ha3 := Fr.w1 (Fr.w1 (Fr.w1 Fr.rf rfl (by simp)) rfl (by simp)) rfl (by simp)
    have P2 : PS ha1 a n F T C := j4.fr R1 (by intro w hw; simp at hw; subst hw; dsimp only; omega)
    have P3 : PS ha3 a n F T C := j4.fr R3 (by intro w hw; simp at hw; rcases hw with rfl | rfl | rfl <;> (dsimp only; omega))
    have q4 : ha3.1 r 4 = nI (BLs F T g n).length := (R3.1 r 4 (by simp) (by simp)).trans j5
    have q5 : AR ha3 (r + 1) (BLs F T g n) := fun x hx => (R3.1 (r + 1) x (by simp) (by simp)).trans (j6 x hx)
    have q6 : AR ha1 (r + 1) (BLs F T g n) := fun x hx => (R1.1 (r + 1) x (by simp) (by simp)).trans (j6 x hx)
    have q7 : ha3.1 (r + 3) k = hcp n F T C g k := by
      show (u1 (u1 (u1 h2 (r + 3) k _) (r + 4) k _) (r + 2) k _).1 (r + 3) k = _
      rw [rd1c (by omega), rd1c (by omega), rd1s]
    have q8 : ha3.1 (r + 4) k = ccp n F T C g k := by
      show (u1 (u1 (u1 h2 (r + 3) k _) (r + 4) k _) (r + 2) k _).1 (r + 4) k = _
      rw [rd1c (by omega), rd1s]
    refine ⟨(ha3, car n F T C g (k + 1), lsA n F T C g (k + 1), nI (k + 1)), ⟨rfl, rfl, rfl, P3, q4, q5, fun j hj => ?_⟩, ?_⟩
    · by_cases e : j = k
      · subst e
        exact ⟨rd1s, q7, q8⟩
      · obtain ⟨w1, w2, w3⟩ := j7 j (by omega)
        show (u1 (u1 (u1 h2 (r + 3) k _) (r + 4) k _) (r + 2) k _).1 (r + 2) j = _ ∧ (u1 (u1 (u1 h2 (r + 3) k _) (r + 4) k _) (r + 2) k _).1 (r + 3) j = _ ∧ (u1 (u1 (u1 h2 (r + 3) k _) (r + 4) k _) (r + 2) k _).1 (r + 4) j = _
        refine ⟨?_, ?_, ?_⟩
        · rw [rd1k e, rd1k e, rd1k e]; exact w1
        · rw [rd1k e, rd1k e, rd1k e]; exact w2
        · rw [rd1k e, rd1k e, rd1k e]; exact w3
    · show sX0_work_c14 (sX0_work_b14 m) h2 r a g _ _ (nI k) = sX0_work_b14 m ha3 r a g (car n F T C g (k + 1)) (lsA n F T C g (k + 1)) (nI (k + 1))
      have last : sX0_work_c118 (sX0_work_b14 m) ha1 r a g (car n F T C g k) (lsA n F T C g k) (nI k) (ccp n F T C g k) (nI k) = sX0_work_b14 m ha3 r a g (car n F T C g (k + 1)) (lsA n F T C g (k + 1)) (nI (k + 1)) := by
        unfold sX0_work_c118
        simp only [gd_in (show k < 20 by omega) (show 20 ≤ 1000 by decide), cl_n (show k ≤ 100000 by omega), nm, nI_1]
        rw [bd_t (C_surplusOf (C := C) (n := n) (F := F) (T := T) (g := g) (h := ha3) hr hn q4 q5 hk q7 q8)]
        rfl
      unfold sX0_work_c14
      rw [j5, if_neg c2, nI_m1 (by omega)]
      by_cases c3 : k + 1 < (BLs F T g n).length
      · have c4 : ¬ nI k = nI ((BLs F T g n).length - 1) := by rw [eq_n (by omega) (by omega)]; omega
        rw [if_neg c4]
        have b1 := BLs_at ok hk
        have b2 := BLs_at ok c3
        have d1 : hcp n F T C g k = cpT n F T C 1 ((BLs F T g n).getD (k + 1) 0 + g) ((BLs F T g n).getD k 0 + g) := by
          rw [cpT_1 ok b1 b2]; unfold hcp; rw [if_pos c3]
        have d2 : ccp n F T C g k = cpT n F T C 0 ((BLs F T g n).getD (k + 1) 0) ((BLs F T g n).getD k 0) := by
          rw [cpT_0 ok]; unfold ccp; rw [if_pos c3]
        unfold sX0_work_c39
        rw [if_pos rfl, nI_1, gd_in (show k + 1 < 20 by omega) (by decide), gd_in (show k < 20 by omega) (by decide), cl_n (show k + 1 ≤ 100000 by omega), cl_n (show k ≤ 100000 by omega), j6 _ c3, j6 _ hk, P_cap ha j4 hn, Option.bind_some, ← d1]
        unfold sX0_work_c81
        rw [gd_in (show k < 20 by omega) (by decide), cl_n (show k ≤ 100000 by omega), nm_t rfl, if_pos rfl, nI_1, gd_in (show k + 1 < 20 by omega) (by decide), gd_in (show k < 20 by omega) (by decide), cl_n (show k + 1 ≤ 100000 by omega)]
        rw [show (u1 h2 (r + 3) k (hcp n F T C g k)).1 (r + 1) (k + 1) = (BLs F T g n).getD (k + 1) 0 from q6 _ c3, show (u1 h2 (r + 3) k (hcp n F T C g k)).1 (r + 1) k = (BLs F T g n).getD k 0 from q6 _ hk, P_cap ha P2 hn, Option.bind_some, ← d2]
        exact last
      · have c4 : nI k = nI ((BLs F T g n).length - 1) := by rw [eq_n (by omega) (by omega)]; omega
        have d1 : hcp n F T C g k = 0 := by unfold hcp; rw [if_neg c3]
        have d2 : ccp n F T C g k = 0 := by unfold ccp; rw [if_neg c3]
        rw [if_pos c4]
        unfold sX0_work_c39
        rw [if_neg (by decide)]
        unfold sX0_work_c81
        rw [gd_in (show k < 20 by omega) (by decide), cl_n (show k ≤ 100000 by omega), nm_t rfl, if_neg (by decide)]
        rw [d2] at last
        have e9 : ha1 = u1 h2 (r + 3) k 0 := by show u1 h2 (r + 3) k (hcp n F T C g k) = _; rw [d1]
        rw [← e9]
        exact last
  · obtain ⟨h2, v1, v2, v3⟩ := s
    obtain ⟨j1, j2, j3, j4, j5, j6, j7⟩ := I
    dsimp only at j1 j2 j3 j4 j5 j6 j7
    subst j1
    subst j2
    subst j3
    have c2 : nI (BLs F T g n).length ≤ nI (BLs F T g n).length := by rw [le_n (by omega) (by omega)]; omega
    show ∃ q, sX0_work_c14 (sX0_work_b14 m) h2 r a g _ _ _ = some q ∧ _
    have ef : -(lsA n F T C g (BLs F T g n).length) = fue n F T C g := (lsA_bd ok (by omega)).1.symm
    simp only [sX0_work_c14, j5, c2, if_true, nm, ef]
    have R0 : Fr [(r, some 5)] [] h2 (u1 h2 r 5 (fue n F T C g)) := Fr.w1 Fr.rf rfl (by simp)
    refine loopI (fun m (s : Hp × Int32) => sX0_work_b160 m s.1 r s.2) (fun k s => s.2 = nI k ∧ s.1.1 r 4 = nI (BLs F T g n).length ∧ AR s.1 (r + 1) (BLs F T g n) ∧ s.1.1 r 5 = fue n F T C g ∧ (∀ j, j < (BLs F T g n).length → s.1.1 (r + 3) j = hcp n F T C g j ∧ s.1.1 (r + 4) j = ccp n F T C g j) ∧ (∀ j, j < k → s.1.1 (r + 2) j = car n F T C g j + fue n F T C g) ∧ ∀ j, k ≤ j → j < (BLs F T g n).length → s.1.1 (r + 2) j = car n F T C g j) (BLs F T g n).length (fun h' => CW h' r n F T C g) (by omega) (u1 h2 r 5 (fue n F T C g), 0) ⟨rfl, (R0.1 r 4 (by simp) (by simp)).trans j5, fun x hx => (R0.1 (r + 1) x (by simp) (by simp)).trans (j6 x hx), rd1s, fun j hj => ⟨(R0.1 (r + 3) j (by simp) (by simp)).trans (j7 j hj).2.1, (R0.1 (r + 4) j (by simp) (by simp)).trans (j7 j hj).2.2⟩, fun j hj => by omega, fun j _ hj => (R0.1 (r + 2) j (by simp) (by simp)).trans (j7 j hj).1⟩ (fun m3 k s hk I => ?_) (fun m3 s I => ?_)
    · obtain ⟨h3, v⟩ := s
      obtain ⟨k1, k2, k3, k4, k5, k6, k7⟩ := I
      dsimp only at k1 k2 k3 k4 k5 k6 k7
      subst k1
      have c3 : ¬ nI (BLs F T g n).length ≤ nI k := by rw [le_n (by omega) (by omega)]; omega
      have R4 : Fr [(r + 2, none)] [] h3 (u1 h3 (r + 2) k (car n F T C g k + fue n F T C g)) := Fr.w1 Fr.rf rfl (by simp)
      refine ⟨(u1 h3 (r + 2) k (car n F T C g k + fue n F T C g), nI (k + 1)), ⟨rfl, (R4.1 r 4 (by simp) (by simp)).trans k2, fun x hx => (R4.1 (r + 1) x (by simp) (by simp)).trans (k3 x hx), (R4.1 r 5 (by simp) (by simp)).trans k4, fun j hj => ⟨(R4.1 (r + 3) j (by simp) (by simp)).trans (k5 j hj).1, (R4.1 (r + 4) j (by simp) (by simp)).trans (k5 j hj).2⟩, fun j hj => ?_, fun j h4 h5 => ?_⟩, ?_⟩
      · by_cases e : j = k
        · rw [e]; exact rd1s
        · exact (rd1k e).trans (k6 j (by omega))
      · exact (rd1k (by omega)).trans (k7 j (by omega) h5)
      · show sX0_work_c160 (sX0_work_b160 m3) h3 r (nI k) = sX0_work_b160 m3 _ r (nI (k + 1))
        simp only [sX0_work_c160, k2, c3, if_false, gd_in (show k < 20 by omega) (show 20 ≤ 1000 by decide), cl_n (show k ≤ 100000 by omega), nm, k4, k7 k (by omega) hk, nI_1]
    · obtain ⟨h3, v⟩ := s
      obtain ⟨k1, k2, k3, k4, k5, k6, k7⟩ := I
      dsimp only at k1 k2 k3 k4 k5 k6 k7
      subst k1
      refine ⟨h3, ?_, k2, k3, fun k hk => ⟨k6 k hk, (k5 k hk).1, (k5 k hk).2⟩, k4⟩
      show sX0_work_c160 (sX0_work_b160 m3) h3 r (nI (BLs F T g n).length) = _
      simp only [sX0_work_c160, k2, c2, if_true]
end Cw
