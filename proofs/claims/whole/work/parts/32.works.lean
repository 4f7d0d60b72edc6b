/-! frames, read at a place -/
theorem Fr.c {W : List (Nat × Option Nat)} {Z : List Nat} {h h' : Hp} (F : Fr W Z h h') {c : Nat} (hc : W.all (fun w => w.1 != c) = true) (k : Nat) : h'.1 c k = h.1 c k := by
  refine F.1 c k (fun q => ?_) (fun q => ?_)
  · have := List.all_eq_true.mp hc _ q
    simp at this
  · have := List.all_eq_true.mp hc _ q
    simp at this
theorem Fr.f {W : List (Nat × Option Nat)} {Z : List Nat} {h h' : Hp} (F : Fr W Z h h') {c k : Nat} (hc : W.all (fun w => w.1 != c || (w.2 != none && w.2 != some k)) = true) : h'.1 c k = h.1 c k := by
  refine F.1 c k (fun q => ?_) (fun q => ?_)
  · have := List.all_eq_true.mp hc _ q
    simp at this
  · have := List.all_eq_true.mp hc _ q
    simp at this
theorem MS.fr {W : List (Nat × Option Nat)} {Z : List Nat} {h h' : Hp} {n : Nat} {F T C : Nat → Int32} {g : Int32} (hM : MS h n F T C g) (R : Fr W Z h h') (hw : W.all (fun w => w.1 != 57 && w.1 != 58 && w.1 != 59 && (w.1 != 54 || (w.2 != none && w.2 != some 7 && w.2 != some 11))) = true) : MS h' n F T C g := by
  obtain ⟨m1, m2, m3⟩ := hM
  have key : ∀ (p : Nat × Option Nat → Bool), (∀ w, (w.1 != 57 && w.1 != 58 && w.1 != 59 && (w.1 != 54 || (w.2 != none && w.2 != some 7 && w.2 != some 11))) = true → p w = true) → W.all p = true := fun p hp => List.all_eq_true.mpr (fun w h => hp w (List.all_eq_true.mp hw w h))
  refine ⟨(R.f (key _ (fun w h => ?_))).trans m1, (R.f (key _ (fun w h => ?_))).trans m2, fun i hi => ⟨(R.c (key _ (fun w h => ?_)) i).trans (m3 i hi).1, (R.c (key _ (fun w h => ?_)) i).trans (m3 i hi).2.1, (R.c (key _ (fun w h => ?_)) i).trans (m3 i hi).2.2⟩⟩
  all_goals simp only [Bool.and_eq_true, Bool.or_eq_true] at h ⊢
  · rcases h.2 with q | q
    · exact Or.inl q
    · exact Or.inr ⟨q.1.1, q.1.2⟩
  · rcases h.2 with q | q
    · exact Or.inl q
    · exact Or.inr ⟨q.1.1, q.2⟩
  · exact h.1.1.1
  · exact h.1.1.2
  · exact h.1.2
/-! the cascade -/
def BLs (F T : Nat → Int32) (g : Int32) : Nat → List Int32
  | 0 => []
  | i + 1 => insL (T i - sh F T g i) (insL (F i - sh F T g i) (BLs F T g i))
theorem BLs_len (F T : Nat → Int32) (g : Int32) : ∀ i, (BLs F T g i).length ≤ 2 * i
  | 0 => Nat.le_refl 0
  | i + 1 => by
    have := BLs_len F T g i
    have h1 := insL_len (F i - sh F T g i) (BLs F T g i)
    have h2 := insL_len (T i - sh F T g i) (insL (F i - sh F T g i) (BLs F T g i))
    show (insL (T i - sh F T g i) (insL (F i - sh F T g i) (BLs F T g i))).length ≤ _
    omega
def sur (n : Nat) (F T C : Nat → Int32) (g : Int32) (k : Nat) : Int32 := if k + 1 < (BLs F T g n).length then ((BLs F T g n).getD k 0 - (BLs F T g n).getD (k + 1) 0) * (thr n F T C g 1 ((BLs F T g n).getD k 0) ((BLs F T g n).getD (k + 1) 0) - thr n F T C g 0 ((BLs F T g n).getD k 0) ((BLs F T g n).getD (k + 1) 0)) else 0
def car (n : Nat) (F T C : Nat → Int32) (g : Int32) (k : Nat) : Int32 := sI k (sur n F T C g)
def fuA (n : Nat) (F T C : Nat → Int32) (g : Int32) : Nat → Int32
  | 0 => 0
  | k + 1 => imax (fuA n F T C g k) (-(car n F T C g k))
def fue (n : Nat) (F T C : Nat → Int32) (g : Int32) : Int32 := fuA n F T C g (BLs F T g n).length
def coo (n : Nat) (F T C : Nat → Int32) (g : Int32) : Int32 := if (BLs F T g n).length = 0 then 0 else car n F T C g ((BLs F T g n).length - 1) + fue n F T C g
/-- what works() leaves in the reference -/
def WM (h : Hp) (n : Nat) (F T C : Nat → Int32) (g : Int32) : Prop := h.1 54 17 = nI (BLs F T g n).length ∧ AR h 63 (BLs F T g n) ∧ (∀ k, k < (BLs F T g n).length → h.1 64 k = car n F T C g k + fue n F T C g) ∧ h.1 54 18 = fue n F T C g ∧ h.1 54 19 = coo n F T C g
section Wk
variable {h : Hp} {n : Nat} {F T C : Nat → Int32} {g : Int32}
theorem M_surplus (hM : MS h n F T C g) (hn : n ≤ 10) (hs : h.1 54 17 = nI (BLs F T g n).length) (ha : AR h 63 (BLs F T g n)) {k : Nat} (hk : k < (BLs F T g n).length) : sX6_surplus h (nI k) = some (sur n F T C g k, h) := by
  have hl := BLs_len F T g n
  unfold sX6_surplus sur
  by_cases c : k + 1 < (BLs F T g n).length
  · have c1 : nI (k + 1) < nI (BLs F T g n).length := by rw [lt_n (by omega) (by omega)]; omega
    simp only [nI_1, hs, c1, if_true, c, gd_in (show k < 20 by omega) (show 20 ≤ 1000 by decide), gd_in (show k + 1 < 20 by omega) (show 20 ≤ 1000 by decide), cl_n (show k ≤ 100000 by omega), cl_n (show k + 1 ≤ 100000 by omega), ha k hk, ha _ c, M_through hM hn, Option.bind_some]
  · have c1 : ¬ nI (k + 1) < nI (BLs F T g n).length := by rw [lt_n (by omega) (by omega)]; omega
    simp only [nI_1, hs, c1, if_false, c]
theorem M_works (hM : MS h n F T C g) (hn : n ≤ 10) : ∃ h', sX6_works h = some h' ∧ WM h' n F T C g ∧ MS h' n F T C g := by
  have hl := BLs_len F T g n
  have key : ∃ h', sX6_works h = some h' ∧ WM h' n F T C g := by
    unfold sX6_works
    rw [nm_t rfl]
    refine loopI (fun m (s : Hp × Int32) => sX6_works_b7 m s.1 s.2) (fun i s => s.2 = nI i ∧ MS s.1 n F T C g ∧ s.1.1 54 17 = nI (BLs F T g i).length ∧ AR s.1 63 (BLs F T g i)) n (fun h' => WM h' n F T C g) (by omega) (u1 h 54 17 0, 0) ⟨rfl, hM.fr (Fr.w1 (W := [(54, some 17)]) (Z := []) Fr.rf rfl (by decide)) (by decide), rd1s, fun k hk => by simp [BLs] at hk⟩ (fun m i s hi I => ?_) (fun m s I => ?_)
    · obtain ⟨h1, v⟩ := s
      obtain ⟨i1, i2, i3, i4⟩ := I
      dsimp only at i1 i2 i3 i4
      subst i1
      have c1 : ¬ nI n ≤ nI i := by rw [le_n (by omega) (by omega)]; omega
      have l1 := BLs_len F T g i
      obtain ⟨h2, e1, e2, e3⟩ := M_adds (t := F i - sh F T g i) i3 i4 (by omega)
      have R2 := i2.fr (fX6_addsBorder _ _ _ e1) (by decide)
      have l2 := insL_len (F i - sh F T g i) (BLs F T g i)
      obtain ⟨h3, e4, e5, e6⟩ := M_adds (t := T i - sh F T g i) e2 e3 (by omega)
      have R3 := R2.fr (fX6_addsBorder _ _ _ e4) (by decide)
      refine ⟨(h3, nI (i + 1)), ⟨rfl, R3, e5, e6⟩, ?_⟩
      show sX6_works_c7 (sX6_works_b7 m) h1 (nI i) = sX6_works_b7 m h3 (nI (i + 1))
      simp only [sX6_works_c7, i2.1, c1, if_false, gd_in (show i < 10 by omega) (show 10 ≤ 1000 by decide), M_shift i2 hn hi, M_shift R2 hn hi, Option.bind_some, cl_n (show i ≤ 100000 by omega), (i2.2.2 i hi).1, (R2.2.2 i hi).2.1, e1, e4, nm, nI_1]
    · obtain ⟨h1, v⟩ := s
      obtain ⟨i1, i2, i3, i4⟩ := I
      dsimp only at i1 i2 i3 i4
      subst i1
      have c1 : nI n ≤ nI n := by rw [le_n (by omega) (by omega)]; omega
      show ∃ q, sX6_works_c7 (sX6_works_b7 m) h1 (nI n) = some q ∧ _
      simp only [sX6_works_c7, i2.1, c1, if_true, nm]
      have R0 : Fr [(54, some 18)] [] h1 (u1 h1 54 18 0) := Fr.w1 Fr.rf rfl (by decide)
      refine loopI (fun m (s : Hp × Int32 × Int32) => sX6_works_b62 m s.1 s.2.1 s.2.2) (fun k s => s.2.1 = car n F T C g k ∧ s.2.2 = nI k ∧ MS s.1 n F T C g ∧ s.1.1 54 17 = nI (BLs F T g n).length ∧ AR s.1 63 (BLs F T g n) ∧ s.1.1 54 18 = fuA n F T C g k ∧ ∀ j, j < k → s.1.1 64 j = car n F T C g j) (BLs F T g n).length (fun h' => WM h' n F T C g) (by omega) (u1 h1 54 18 0, 0, 0) ⟨rfl, rfl, i2.fr R0 (by decide), (R0.f (by decide)).trans i3, fun k hk => (R0.c (by decide) k).trans (i4 k hk), rd1s, fun j hj => by omega⟩ (fun m2 k s hk I => ?_) (fun m2 s I => ?_)
      · obtain ⟨h2, v1, v2⟩ := s
        obtain ⟨j1, j2, j3, j4, j5, j6, j7⟩ := I
        dsimp only at j1 j2 j3 j4 j5 j6 j7
        subst j1
        subst j2
        have c2 : ¬ nI (BLs F T g n).length ≤ nI k := by rw [le_n (by omega) (by omega)]; omega
        have R1 : Fr [(64, none), (54, some 18)] [] h2 (u1 (u1 h2 64 k (car n F T C g k)) 54 18 (imax (fuA n F T C g k) (-car n F T C g k))) := Fr.w1 (Fr.w1 Fr.rf rfl (Or.inl (by decide))) rfl (Or.inr (by decide))
        have M1 := j3.fr R1 (by decide)
        refine ⟨(u1 (u1 h2 64 k (car n F T C g k)) 54 18 (imax (fuA n F T C g k) (-car n F T C g k)), car n F T C g (k + 1), nI (k + 1)), ⟨rfl, rfl, M1, (R1.f (by decide)).trans j4, fun x hx => (R1.c (by decide) x).trans (j5 x hx), rd1s, fun j hj => ?_⟩, ?_⟩
        · rw [rd1c (by decide)]
          by_cases e : j = k
          · rw [e, rd1s]
          · rw [rd1k e]; exact j7 j (by omega)
        · show sX6_works_c62 (sX6_works_b62 m2) h2 _ (nI k) = sX6_works_b62 m2 _ (car n F T C g (k + 1)) (nI (k + 1))
          have e9 : (u1 h2 64 k (car n F T C g k)).1 54 18 = fuA n F T C g k := (rd1c (by decide)).trans j6
          simp only [sX6_works_c62, j4, c2, if_false, gd_in (show k < 20 by omega) (show 20 ≤ 1000 by decide), cl_n (show k ≤ 100000 by omega), nm, e9, M_surplus M1 hn ((R1.f (by decide)).trans j4) (fun x hx => (R1.c (by decide) x).trans (j5 x hx)) hk, Option.bind_some, nI_1]
          rfl
      · obtain ⟨h2, v1, v2⟩ := s
        obtain ⟨j1, j2, j3, j4, j5, j6, j7⟩ := I
        dsimp only at j1 j2 j3 j4 j5 j6 j7
        subst j1
        subst j2
        have c2 : nI (BLs F T g n).length ≤ nI (BLs F T g n).length := by rw [le_n (by omega) (by omega)]; omega
        show ∃ q, sX6_works_c62 (sX6_works_b62 m2) h2 _ _ = some q ∧ _
        simp only [sX6_works_c62, j4, c2, if_true]
        refine loopI (fun m (s : Hp × Int32) => sX6_works_b106 m s.1 s.2) (fun k s => s.2 = nI k ∧ s.1.1 54 17 = nI (BLs F T g n).length ∧ AR s.1 63 (BLs F T g n) ∧ s.1.1 54 18 = fue n F T C g ∧ (∀ j, j < k → s.1.1 64 j = car n F T C g j + fue n F T C g) ∧ ∀ j, k ≤ j → j < (BLs F T g n).length → s.1.1 64 j = car n F T C g j) (BLs F T g n).length (fun h' => WM h' n F T C g) (by omega) (h2, 0) ⟨rfl, j4, j5, j6, fun j hj => by omega, fun j _ hj => j7 j hj⟩ (fun m3 k s hk I => ?_) (fun m3 s I => ?_)
        · obtain ⟨h3, v⟩ := s
          obtain ⟨k1, k2, k3, k4, k5, k6⟩ := I
          dsimp only at k1 k2 k3 k4 k5 k6
          subst k1
          have c3 : ¬ nI (BLs F T g n).length ≤ nI k := by rw [le_n (by omega) (by omega)]; omega
          refine ⟨(u1 h3 64 k (car n F T C g k + fue n F T C g), nI (k + 1)), ⟨rfl, (rd1c (by decide)).trans k2, fun x hx => (rd1c (by decide)).trans (k3 x hx), (rd1c (by decide)).trans k4, fun j hj => ?_, fun j h4 h5 => ?_⟩, ?_⟩
          · by_cases e : j = k
            · rw [e]; exact rd1s
            · exact (rd1k e).trans (k5 j (by omega))
          · exact (rd1k (by omega)).trans (k6 j (by omega) h5)
          · show sX6_works_c106 (sX6_works_b106 m3) h3 (nI k) = sX6_works_b106 m3 _ (nI (k + 1))
            simp only [sX6_works_c106, k2, c3, if_false, gd_in (show k < 20 by omega) (show 20 ≤ 1000 by decide), cl_n (show k ≤ 100000 by omega), nm, k4, k6 k (by omega) hk, nI_1]
        · obtain ⟨h3, v⟩ := s
          obtain ⟨k1, k2, k3, k4, k5, k6⟩ := I
          dsimp only at k1 k2 k3 k4 k5 k6
          subst k1
          have R3 : Fr [(54, some 19)] [] h3 (u1 h3 54 19 (coo n F T C g)) := Fr.w1 Fr.rf rfl (by decide)
          refine ⟨u1 h3 54 19 (coo n F T C g), ?_, (R3.f (by decide)).trans k2, fun x hx => (R3.c (by decide) x).trans (k3 x hx), fun j hj => (R3.c (by decide) j).trans (k5 j hj), (R3.f (by decide)).trans k4, rd1s⟩
          show sX6_works_c106 (sX6_works_b106 m3) h3 (nI (BLs F T g n).length) = _
          unfold coo
          by_cases c4 : (BLs F T g n).length = 0
          · simp only [sX6_works_c106, sX6_works_c156, k2, c2, if_true, c4, nm]
            rfl
          · have c5 : ¬ nI (BLs F T g n).length = 0 := by
              show ¬ nI (BLs F T g n).length = nI 0
              rw [eq_n (by omega) (by omega)]; omega
            simp only [sX6_works_c106, sX6_works_c156, k2, c2, if_true, c4, c5, if_false, nm, nI_m1 (show 0 < (BLs F T g n).length by omega), gd_in (show (BLs F T g n).length - 1 < 20 by omega) (show 20 ≤ 1000 by decide), cl_n (show (BLs F T g n).length - 1 ≤ 100000 by omega), k5 _ (show (BLs F T g n).length - 1 < (BLs F T g n).length by omega)]
  obtain ⟨h', e1, e2⟩ := key
  exact ⟨h', e1, e2, hM.fr (fX6_works _ _ e1) (by decide)⟩
end Wk
