/-! pinch, carry, by -/
def zrow (S : SS) : Nat → List Int64
  | 0 => []
  | k + 1 => if car S.1 S.2.1 S.2.2.1 S.2.2.2.1 S.2.2.2.2 k + fue S.1 S.2.1 S.2.2.1 S.2.2.2.1 S.2.2.2.2 = 0 then zrow S k ++ [((1000 : Int32) + (BLs S.2.1 S.2.2.1 S.2.2.2.2 S.1).getD k 0).toInt64] else zrow S k
theorem zrow_len (S : SS) : ∀ k, (zrow S k).length ≤ k
  | 0 => Nat.le_refl 0
  | k + 1 => by
    have := zrow_len S k
    unfold zrow
    split
    · simp; omega
    · omega
theorem z0 {n : Nat} (hn : n ≤ 100000) : (nI n = 0) ↔ n = 0 := by
  show nI n = nI 0 ↔ _
  exact eq_n hn (by omega)
section O2
variable {h : Hp} {S : SS} {Ms : Nat → Mt} {tx : List Int32} {row : List Int64}
theorem op_pinch (R : Rel h S Ms tx row) : Step sX5_pinch sX6_pinch h := by
  have ok := R.1.1
  have X := R.2.1
  have hn := ok.1
  have hl := BLs_len S.2.1 S.2.2.1 S.2.2.2.2 S.1
  by_cases c : S.1 = 0
  · have eX : sX5_pinch h = some (-2, h) := by
      simp only [sX5_pinch, X.1.1.1, (z0 (by omega)).mpr c, if_true]
    refine mkS (S' := S) (Ms' := Ms) R eX (fX5_pinch _ _ eX) (by decide) (by decide) X R.1 (fun hM => ?_) (fX6_pinch h) (by decide) (by decide)
    obtain ⟨m1, t1⟩ := hM.thr 0
    obtain ⟨h2, e2, m2, w2⟩ := m1.works hn
    exact ⟨h2, by simp only [sX6_pinch, nm, e2, Option.bind_some, m2.1.1.1, (z0 (show S.1 ≤ 100000 by omega)).mpr c, if_true], m2⟩
  · have c0 : ¬ nI S.1 = 0 := fun q => c ((z0 (by omega)).mp q)
    obtain ⟨x1, x2⟩ := X.emp
    have key : ∃ hx, sX5_pinch_b22 FU (u1 h 4 1 0) 0 = some ((1000 : Int32) + pinS S, hx) ∧ RX hx S Ms tx (zrow S (BLs S.2.1 S.2.2.1 S.2.2.2.2 S.1).length) := by
      have := loopI (fun m (s : Hp × Int32) => sX5_pinch_b22 m s.1 s.2) (fun k s => s.2 = nI k ∧ RX s.1 S Ms tx (zrow S k)) (BLs S.2.1 S.2.2.1 S.2.2.2.2 S.1).length (fun q => q.1 = (1000 : Int32) + pinS S ∧ RX q.2 S Ms tx (zrow S (BLs S.2.1 S.2.2.1 S.2.2.2.2 S.1).length)) (by omega) (u1 h 4 1 0, 0) ⟨rfl, x2⟩ (fun m k s hk I => ?_) (fun m s I => ?_)
      · obtain ⟨⟨v, hx⟩, e1, e2, e3⟩ := this
        dsimp only at e2 e3
        subst e2
        exact ⟨hx, e1, e3⟩
      · obtain ⟨h1, v⟩ := s
        obtain ⟨i1, i2⟩ := I
        dsimp only at i1 i2
        subst i1
        have C1 := i2.1.2.2.1
        have c1 : ¬ nI (BLs S.2.1 S.2.2.1 S.2.2.2.2 S.1).length ≤ nI k := by rw [le_n (by omega) (by omega)]; omega
        have zl := zrow_len S k
        by_cases c2 : car S.1 S.2.1 S.2.2.1 S.2.2.2.1 S.2.2.2.2 k + fue S.1 S.2.1 S.2.2.1 S.2.2.2.1 S.2.2.2.2 = 0
        · obtain ⟨h2, e2, r2⟩ := i2.add (by omega) ((1000 : Int32) + (BLs S.2.1 S.2.2.1 S.2.2.2.2 S.1).getD k 0).toInt64
          refine ⟨(h2, nI (k + 1)), ⟨rfl, by unfold zrow; rw [if_pos c2]; exact r2⟩, ?_⟩
          show sX5_pinch_c22 (sX5_pinch_b22 m) h1 (nI k) = sX5_pinch_b22 m h2 (nI (k + 1))
          have b1 : h1.1 17 k = (BLs S.2.1 S.2.2.1 S.2.2.2.2 S.1).getD k 0 := C1.2.1 k hk
          have b2 : h1.1 18 k = car S.1 S.2.1 S.2.2.1 S.2.2.2.1 S.2.2.2.2 k + fue S.1 S.2.1 S.2.2.1 S.2.2.2.1 S.2.2.2.2 := (C1.2.2.1 k hk).1
          simp only [sX5_pinch_c22, sX5_pinch_c66, C1.1, c1, if_false, gd_in (show k < 20 by omega) (show 20 ≤ 1000 by decide), cl_n (show k ≤ 100000 by omega), b1, b2, c2, if_true, e2, Option.bind_some, nm, nI_1]
        · refine ⟨(h1, nI (k + 1)), ⟨rfl, by unfold zrow; rw [if_neg c2]; exact i2⟩, ?_⟩
          show sX5_pinch_c22 (sX5_pinch_b22 m) h1 (nI k) = sX5_pinch_b22 m h1 (nI (k + 1))
          have b2 : h1.1 18 k = car S.1 S.2.1 S.2.2.1 S.2.2.2.1 S.2.2.2.2 k + fue S.1 S.2.1 S.2.2.1 S.2.2.2.1 S.2.2.2.2 := (C1.2.2.1 k hk).1
          simp only [sX5_pinch_c22, sX5_pinch_c66, C1.1, c1, if_false, gd_in (show k < 20 by omega) (show 20 ≤ 1000 by decide), cl_n (show k ≤ 100000 by omega), b2, c2, nm, nI_1]
      · obtain ⟨h1, v⟩ := s
        obtain ⟨i1, i2⟩ := I
        dsimp only at i1 i2
        subst i1
        have C1 := i2.1.2.2.1
        have c1 : nI (BLs S.2.1 S.2.2.1 S.2.2.2.2 S.1).length ≤ nI (BLs S.2.1 S.2.2.1 S.2.2.2.2 S.1).length := by rw [le_n (by omega) (by omega)]; omega
        have pa : sX0_pinchAt h1 16 = some (pinS S, h1) := C_pinchAt (by decide) ok C1
        refine ⟨((1000 : Int32) + pinS S, h1), ?_, rfl, i2⟩
        show sX5_pinch_c22 (sX5_pinch_b22 m) h1 (nI (BLs S.2.1 S.2.2.1 S.2.2.2.2 S.1).length) = _
        simp only [sX5_pinch_c22, C1.1, c1, if_true, pa, Option.bind_some]
    obtain ⟨hx, e1, r1⟩ := key
    have eX : sX5_pinch h = some ((1000 : Int32) + pinS S, hx) := by
      simp only [sX5_pinch, X.1.1.1, c0, if_false, x1, Option.bind_some, e1]
    refine mkS (S' := S) (Ms' := Ms) R eX (fX5_pinch _ _ eX) (by decide) (by decide) r1 (invR R.1 (by have := zrow_len S (BLs S.2.1 S.2.2.1 S.2.2.2.2 S.1).length; omega)) (fun hM => ?_) (fX6_pinch hx) (by decide) (by decide)
    obtain ⟨m1, t1⟩ := hM.thr 0
    obtain ⟨h2, e2, m2, w2⟩ := m1.works hn
    obtain ⟨m3, F3⟩ := m2.row0
    have w3 : WM (u1 h2 54 1 0) S.1 S.2.1 S.2.2.1 S.2.2.2.1 S.2.2.2.2 := ⟨(F3.f (by decide)).trans w2.1, fun k hk => (F3.c (by decide) k).trans (w2.2.1 k hk), fun k hk => (F3.c (by decide) k).trans (w2.2.2.1 k hk), (F3.f (by decide)).trans w2.2.2.2.1, (F3.f (by decide)).trans w2.2.2.2.2⟩
    have key : ∃ hm, sX6_pinch_b26 FU (u1 h2 54 1 0) 0 = some ((1000 : Int32) + pinS S, hm) ∧ RM hm S Ms tx (zrow S (BLs S.2.1 S.2.2.1 S.2.2.2.2 S.1).length) := by
      have := loopI (fun m (s : Hp × Int32) => sX6_pinch_b26 m s.1 s.2) (fun k s => s.2 = nI k ∧ RM s.1 S Ms tx (zrow S k) ∧ WM s.1 S.1 S.2.1 S.2.2.1 S.2.2.2.1 S.2.2.2.2) (BLs S.2.1 S.2.2.1 S.2.2.2.2 S.1).length (fun q => q.1 = (1000 : Int32) + pinS S ∧ RM q.2 S Ms tx (zrow S (BLs S.2.1 S.2.2.1 S.2.2.2.2 S.1).length)) (by omega) (u1 h2 54 1 0, 0) ⟨rfl, m3, w3⟩ (fun m k s hk I => ?_) (fun m s I => ?_)
      · obtain ⟨⟨v, hx⟩, e1, e2, e3⟩ := this
        dsimp only at e2 e3
        subst e2
        exact ⟨hx, e1, e3⟩
      · obtain ⟨h1, v⟩ := s
        obtain ⟨i1, i2, i3⟩ := I
        dsimp only at i1 i2 i3
        subst i1
        have c1 : ¬ nI (BLs S.2.1 S.2.2.1 S.2.2.2.2 S.1).length ≤ nI k := by rw [le_n (by omega) (by omega)]; omega
        have zl := zrow_len S k
        by_cases c2 : car S.1 S.2.1 S.2.2.1 S.2.2.2.1 S.2.2.2.2 k + fue S.1 S.2.1 S.2.2.1 S.2.2.2.1 S.2.2.2.2 = 0
        · obtain ⟨h2, e2, r2, F2⟩ := i2.ent (by omega) ((1000 : Int32) + (BLs S.2.1 S.2.2.1 S.2.2.2.2 S.1).getD k 0).toInt64
          refine ⟨(h2, nI (k + 1)), ⟨rfl, by unfold zrow; rw [if_pos c2]; exact r2, (F2.f (by decide)).trans i3.1, fun k hk => (F2.c (by decide) k).trans (i3.2.1 k hk), fun k hk => (F2.c (by decide) k).trans (i3.2.2.1 k hk), (F2.f (by decide)).trans i3.2.2.2.1, (F2.f (by decide)).trans i3.2.2.2.2⟩, ?_⟩
          show sX6_pinch_c26 (sX6_pinch_b26 m) h1 (nI k) = sX6_pinch_b26 m h2 (nI (k + 1))
          simp only [sX6_pinch_c26, sX6_pinch_c58, i3.1, c1, if_false, gd_in (show k < 20 by omega) (show 20 ≤ 1000 by decide), cl_n (show k ≤ 100000 by omega), i3.2.1 k hk, i3.2.2.1 k hk, c2, if_true, e2, Option.bind_some, nm, nI_1]
        · refine ⟨(h1, nI (k + 1)), ⟨rfl, by unfold zrow; rw [if_neg c2]; exact i2, i3⟩, ?_⟩
          show sX6_pinch_c26 (sX6_pinch_b26 m) h1 (nI k) = sX6_pinch_b26 m h1 (nI (k + 1))
          simp only [sX6_pinch_c26, sX6_pinch_c58, i3.1, c1, if_false, gd_in (show k < 20 by omega) (show 20 ≤ 1000 by decide), cl_n (show k ≤ 100000 by omega), i3.2.2.1 k hk, c2, nm, nI_1]
      · obtain ⟨h1, v⟩ := s
        obtain ⟨i1, i2, i3⟩ := I
        dsimp only at i1 i2 i3
        subst i1
        have c1 : nI (BLs S.2.1 S.2.2.1 S.2.2.2.2 S.1).length ≤ nI (BLs S.2.1 S.2.2.1 S.2.2.2.2 S.1).length := by rw [le_n (by omega) (by omega)]; omega
        have pa : sX6_pinchNow h1 = some (pinS S, h1) := M_pinchNow ok i3 (BLs_pos (by omega))
        refine ⟨((1000 : Int32) + pinS S, h1), ?_, rfl, i2⟩
        show sX6_pinch_c26 (sX6_pinch_b26 m) h1 (nI (BLs S.2.1 S.2.2.1 S.2.2.2.2 S.1).length) = _
        simp only [sX6_pinch_c26, i3.1, c1, if_true, pa, Option.bind_some]
    obtain ⟨hm, e3, r3⟩ := key
    refine ⟨hm, ?_, r3⟩
    simp only [sX6_pinch, nm, e2, Option.bind_some, m2.1.1.1, c0, if_false, e3]
/-- where carry() stops -/
def cps (S : SS) (t : Int32) : Nat := fs (fun k => decide (¬ (k + 1 < (BLs S.2.1 S.2.2.1 S.2.2.2.2 S.1).length ∧ t ≤ (BLs S.2.1 S.2.2.1 S.2.2.2.2 S.1).getD (k + 1) 0))) (BLs S.2.1 S.2.2.1 S.2.2.2.2 S.1).length
theorem cps_lt (S : SS) (t : Int32) (hl : 0 < (BLs S.2.1 S.2.2.1 S.2.2.2.2 S.1).length) : cps S t < (BLs S.2.1 S.2.2.1 S.2.2.2.2 S.1).length := by
  have : cps S t ≤ (BLs S.2.1 S.2.2.1 S.2.2.2.2 S.1).length - 1 := fs_lt (by omega) (decide_eq_true (by omega))
  omega
def cat (S : SS) (t : Int32) : Int32 := car S.1 S.2.1 S.2.2.1 S.2.2.2.1 S.2.2.2.2 (cps S t) + fue S.1 S.2.1 S.2.2.1 S.2.2.2.1 S.2.2.2.2 + ((BLs S.2.1 S.2.2.1 S.2.2.2.2 S.1).getD (cps S t) 0 - t) * (hcp S.1 S.2.1 S.2.2.1 S.2.2.2.1 S.2.2.2.2 (cps S t) - ccp S.1 S.2.1 S.2.2.1 S.2.2.2.1 S.2.2.2.2 (cps S t))
theorem op_carry (R : Rel h S Ms tx row) (t : Int32) : Step (fun h => sX5_carry h t) (fun h => sX6_carry h t) h := by
  have ok := R.1.1
  have X := R.2.1
  have hn := ok.1
  have hl := BLs_len S.2.1 S.2.2.1 S.2.2.2.2 S.1
  have CX := X.1.2.2.1
  by_cases c : -60 ≤ t ∧ t ≤ 500
  · have c1 : ¬ t < -60 := by grind
    have cM : ¬ bI ((-60 : Int64).toInt ≤ t.toInt ∧ t.toInt ≤ (500 : Int64).toInt) = 0 := by
      rw [bI_z]
      rw [le_tI, le_tI] at c
      exact fun q => q c
    by_cases d : 0 < S.1 ∧ t ≤ (BLs S.2.1 S.2.2.1 S.2.2.2.2 S.1).getD 0 0 ∧ (BLs S.2.1 S.2.2.1 S.2.2.2.2 S.1).getD ((BLs S.2.1 S.2.2.1 S.2.2.2.2 S.1).length - 1) 0 ≤ t
    · have hp := BLs_pos (F := S.2.1) (T := S.2.2.1) (g := S.2.2.2.2) d.1
      have hk := cps_lt S t hp
      have sp : sX0_spans h 16 t = some (1, h) := by
        have d1 : ¬ nI (BLs S.2.1 S.2.2.1 S.2.2.2.2 S.1).length ≤ 0 := by
          show ¬ nI (BLs S.2.1 S.2.2.1 S.2.2.2.2 S.1).length ≤ nI 0
          rw [le_n (by omega) (by omega)]; omega
        have d2 : ¬ (BLs S.2.1 S.2.2.1 S.2.2.2.2 S.1).getD 0 0 < t := by grind
        have d3 : ¬ t < (BLs S.2.1 S.2.2.1 S.2.2.2.2 S.1).getD ((BLs S.2.1 S.2.2.1 S.2.2.2.2 S.1).length - 1) 0 := by grind
        have b0 : h.1 (16 + 1) ((0 : Int32).toNatClampNeg) = (BLs S.2.1 S.2.2.1 S.2.2.2.2 S.1).getD 0 0 := CX.2.1 0 hp
        have b1 : h.1 (16 + 1) ((BLs S.2.1 S.2.2.1 S.2.2.2.2 S.1).length - 1) = (BLs S.2.1 S.2.2.1 S.2.2.2.2 S.1).getD ((BLs S.2.1 S.2.2.1 S.2.2.2.2 S.1).length - 1) 0 := CX.2.1 _ (by omega)
        unfold sX0_spans sX0_spans_c37
        rw [gd_t (isC_ok (by decide)), CX.1, if_neg d1, b0, if_neg d2, nI_m1 hp, gd_in (show (BLs S.2.1 S.2.2.1 S.2.2.2.2 S.1).length - 1 < 20 by omega) (by decide), cl_n (show (BLs S.2.1 S.2.2.1 S.2.2.2.2 S.1).length - 1 ≤ 100000 by omega), b1, if_neg d3]
        rfl
      have ca : sX0_carryAt h 16 t = some (cat S t, h) := by
        unfold sX0_carryAt
        rw [gd_t (isC_ok (by decide))]
        refine loop0 (fun n (s : Int32) => sX0_carryAt_b2 n h 16 t s) (fun i => nI i) (cps S t) _ (by omega) (fun m i hi' => ?_) (fun m => ?_)
        · show sX0_carryAt_c2 (sX0_carryAt_b2 m) h 16 t (nI i) = _
          have q := of_decide_eq_false (fs_no _ _ _ hi')
          have q1 : i + 1 < (BLs S.2.1 S.2.2.1 S.2.2.2.2 S.1).length ∧ t ≤ (BLs S.2.1 S.2.2.1 S.2.2.2.2 S.1).getD (i + 1) 0 := Classical.not_not.mp q
          have d1 : ¬ nI ((BLs S.2.1 S.2.2.1 S.2.2.2.2 S.1).length - 1) ≤ nI i := by rw [le_n (by omega) (by omega)]; omega
          have d2 : ¬ (BLs S.2.1 S.2.2.1 S.2.2.2.2 S.1).getD (i + 1) 0 < t := by grind
          have b1 : h.1 (16 + 1) (i + 1) = (BLs S.2.1 S.2.2.1 S.2.2.2.2 S.1).getD (i + 1) 0 := CX.2.1 _ q1.1
          unfold sX0_carryAt_c2
          rw [CX.1, nI_m1 hp, if_neg d1, nI_1, gd_in (show i + 1 < 20 by omega) (by decide), cl_n (show i + 1 ≤ 100000 by omega), b1, if_neg d2]
          rfl
        · show sX0_carryAt_c2 (sX0_carryAt_b2 m) h 16 t (nI (cps S t)) = _
          have q : ¬ (cps S t + 1 < (BLs S.2.1 S.2.2.1 S.2.2.2.2 S.1).length ∧ t ≤ (BLs S.2.1 S.2.2.1 S.2.2.2.2 S.1).getD (cps S t + 1) 0) := of_decide_eq_true (fs_yes _ _ hk)
          have b0 : h.1 (16 + 1) (cps S t) = (BLs S.2.1 S.2.2.1 S.2.2.2.2 S.1).getD (cps S t) 0 := CX.2.1 _ hk
          obtain ⟨w1, w2, w3⟩ := CX.2.2.1 _ hk
          have fin : sX0_carryAt_c30 h 16 t (nI (cps S t)) = some (cat S t, h) := by
            unfold sX0_carryAt_c30
            rw [gd_in (show cps S t < 20 by omega) (by decide), gd_in (show cps S t < 20 by omega) (by decide), gd_in (show cps S t < 20 by omega) (by decide), gd_in (show cps S t < 20 by omega) (by decide), cl_n (show cps S t ≤ 100000 by omega), b0, w1, w2, w3]
            rfl
          unfold sX0_carryAt_c2
          rw [CX.1, nI_m1 hp]
          by_cases e : cps S t + 1 < (BLs S.2.1 S.2.2.1 S.2.2.2.2 S.1).length
          · have d1 : ¬ nI ((BLs S.2.1 S.2.2.1 S.2.2.2.2 S.1).length - 1) ≤ nI (cps S t) := by rw [le_n (by omega) (by omega)]; omega
            have d2 : (BLs S.2.1 S.2.2.1 S.2.2.2.2 S.1).getD (cps S t + 1) 0 < t := by
              have : ¬ t ≤ (BLs S.2.1 S.2.2.1 S.2.2.2.2 S.1).getD (cps S t + 1) 0 := fun z => q ⟨e, z⟩
              grind
            have b1 : h.1 (16 + 1) (cps S t + 1) = (BLs S.2.1 S.2.2.1 S.2.2.2.2 S.1).getD (cps S t + 1) 0 := CX.2.1 _ e
            rw [if_neg d1, nI_1, gd_in (show cps S t + 1 < 20 by omega) (by decide), cl_n (show cps S t + 1 ≤ 100000 by omega), b1, if_pos d2]
            exact fin
          · have d1 : nI ((BLs S.2.1 S.2.2.1 S.2.2.2.2 S.1).length - 1) ≤ nI (cps S t) := by rw [le_n (by omega) (by omega)]; omega
            rw [if_pos d1]
            exact fin
      obtain ⟨hx, e1, r1⟩ := X.tell1 (cat S t).toInt64
      have eX : sX5_carry h t = some (0, hx) := by
        simp only [sX5_carry, c1, if_false, c.2, if_true, sp, Option.bind_some, ca, e1]
        rfl
      refine mkS (S' := S) (Ms' := Ms) R eX (fX5_carry _ _ _ eX) (by decide) (by decide) r1 (invR R.1 (by simp)) (fun hM => ?_) (fun q e => fX6_carry hx t q e) (by decide) (by decide)
      obtain ⟨m1, t1⟩ := hM.thr 0
      obtain ⟨h2, e2, m2, w2⟩ := m1.works hn
      obtain ⟨m3, F3⟩ := m2.row0
      obtain ⟨h4, e4, m4, F4⟩ := m3.ent (by simp) (cat S t).toInt64
      refine ⟨h4, ?_, m4⟩
      have d0 : ¬ nI S.1 = 0 := fun q => by have := (z0 (show S.1 ≤ 100000 by omega)).mp q; omega
      have b0 : h2.1 63 ((0 : Int32).toNatClampNeg) = (BLs S.2.1 S.2.2.1 S.2.2.2.2 S.1).getD 0 0 := w2.2.1 0 hp
      have b1 : h2.1 63 ((BLs S.2.1 S.2.2.1 S.2.2.2.2 S.1).length - 1) = (BLs S.2.1 S.2.2.1 S.2.2.2.2 S.1).getD ((BLs S.2.1 S.2.2.1 S.2.2.2.2 S.1).length - 1) 0 := w2.2.1 _ (by omega)
      have d2 : ¬ (BLs S.2.1 S.2.2.1 S.2.2.2.2 S.1).getD 0 0 < t := by grind
      have fin : ∀ x, car S.1 S.2.1 S.2.2.1 S.2.2.2.1 S.2.2.2.2 (cps S t) + fue S.1 S.2.1 S.2.2.1 S.2.2.2.1 S.2.2.2.2 + x = cat S t → sX6_carry_c152 h2 (nI (cps S t)) x = some (0, h4) := by
        intro x hx'
        have b2 : (u1 h2 54 1 0).1 64 (cps S t) = car S.1 S.2.1 S.2.2.1 S.2.2.2.1 S.2.2.2.2 (cps S t) + fue S.1 S.2.1 S.2.2.1 S.2.2.2.1 S.2.2.2.2 := (F3.c (by decide) _).trans (w2.2.2.1 _ hk)
        simp only [sX6_carry_c152, nm, gd_in (show cps S t < 20 by omega) (show 20 ≤ 1000 by decide), cl_n (show cps S t ≤ 100000 by omega), b2, hx', e4, Option.bind_some]
      have at' : sX6_carry_c90 h2 t (nI (cps S t)) = some (0, h4) := by
        have b3 : h2.1 63 (cps S t) = (BLs S.2.1 S.2.2.1 S.2.2.2.2 S.1).getD (cps S t) 0 := w2.2.1 _ hk
        unfold sX6_carry_c90
        rw [gd_in (show cps S t < 20 by omega) (by decide), cl_n (show cps S t ≤ 100000 by omega), b3]
        by_cases e : (BLs S.2.1 S.2.2.1 S.2.2.2.2 S.1).getD (cps S t) 0 = t
        · rw [if_pos e]
          refine fin 0 ?_
          unfold cat
          rw [e]
          grind
        · have e5 : cps S t + 1 < (BLs S.2.1 S.2.2.1 S.2.2.2.2 S.1).length := by
            rcases Nat.lt_or_ge (cps S t + 1) (BLs S.2.1 S.2.2.1 S.2.2.2.2 S.1).length with q | q
            · exact q
            · exfalso
              apply e
              have lk : cps S t = (BLs S.2.1 S.2.2.1 S.2.2.2.2 S.1).length - 1 := by omega
              have ge : t ≤ (BLs S.2.1 S.2.2.1 S.2.2.2.2 S.1).getD (cps S t) 0 := by
                by_cases z : cps S t = 0
                · rw [z]; exact d.2.1
                · have q2 := of_decide_eq_false (fs_no (fun k => decide (¬ (k + 1 < (BLs S.2.1 S.2.2.1 S.2.2.2.2 S.1).length ∧ t ≤ (BLs S.2.1 S.2.2.1 S.2.2.2.2 S.1).getD (k + 1) 0))) (BLs S.2.1 S.2.2.1 S.2.2.2.2 S.1).length (cps S t - 1) (show cps S t - 1 < cps S t by omega))
                  have q3 := (Classical.not_not.mp q2).2
                  rw [show cps S t - 1 + 1 = cps S t by omega] at q3
                  exact q3
              have le : (BLs S.2.1 S.2.2.1 S.2.2.2.2 S.1).getD (cps S t) 0 ≤ t := by rw [lk]; exact d.2.2
              grind
          rw [if_neg e]
          have b4 : h2.1 63 (cps S t + 1) = (BLs S.2.1 S.2.2.1 S.2.2.2.2 S.1).getD (cps S t + 1) 0 := w2.2.1 _ e5
          simp only [nI_1, gd_in (show cps S t < 20 by omega) (show 20 ≤ 1000 by decide), gd_in (show cps S t + 1 < 20 by omega) (show 20 ≤ 1000 by decide), cl_n (show cps S t ≤ 100000 by omega), cl_n (show cps S t + 1 ≤ 100000 by omega), b3, b4, M_through m2.1.1 hn, Option.bind_some]
          refine fin _ ?_
          unfold cat hcp ccp
          rw [if_pos e5, if_pos e5]
      show sX6_carry hx t = _
      unfold sX6_carry
      simp only [nm, M_inI, Option.bind_some, cM, if_false, e2, m2.1.1.1, d0, b0, d2, w2.1, nI_m1 hp, gd_in (show (BLs S.2.1 S.2.2.1 S.2.2.2.2 S.1).length - 1 < 20 by omega) (show 20 ≤ 1000 by decide), cl_n (show (BLs S.2.1 S.2.2.1 S.2.2.2.2 S.1).length - 1 ≤ 100000 by omega), b1, d.2.2, if_true]
      refine loop0 (fun n (s : Int32) => sX6_carry_b62 n h2 t s) (fun i => nI i) (cps S t) _ (by omega) (fun m i hi' => ?_) (fun m => ?_)
      · show sX6_carry_c62 (sX6_carry_b62 m) h2 t (nI i) = _
        have q := of_decide_eq_false (fs_no _ _ _ hi')
        have q1 : i + 1 < (BLs S.2.1 S.2.2.1 S.2.2.2.2 S.1).length ∧ t ≤ (BLs S.2.1 S.2.2.1 S.2.2.2.2 S.1).getD (i + 1) 0 := Classical.not_not.mp q
        have d1 : ¬ nI (BLs S.2.1 S.2.2.1 S.2.2.2.2 S.1).length ≤ nI (i + 1) := by rw [le_n (by omega) (by omega)]; omega
        have d3 : ¬ (BLs S.2.1 S.2.2.1 S.2.2.2.2 S.1).getD (i + 1) 0 < t := by grind
        simp only [sX6_carry_c62, w2.1, nI_1, d1, if_false, gd_in (show i + 1 < 20 by omega) (show 20 ≤ 1000 by decide), cl_n (show i + 1 ≤ 100000 by omega), w2.2.1 _ q1.1, d3, nm]
      · show sX6_carry_c62 (sX6_carry_b62 m) h2 t (nI (cps S t)) = _
        have q : ¬ (cps S t + 1 < (BLs S.2.1 S.2.2.1 S.2.2.2.2 S.1).length ∧ t ≤ (BLs S.2.1 S.2.2.1 S.2.2.2.2 S.1).getD (cps S t + 1) 0) := of_decide_eq_true (fs_yes _ _ hk)
        unfold sX6_carry_c62
        rw [w2.1, nI_1]
        by_cases e : cps S t + 1 < (BLs S.2.1 S.2.2.1 S.2.2.2.2 S.1).length
        · have d1 : ¬ nI (BLs S.2.1 S.2.2.1 S.2.2.2.2 S.1).length ≤ nI (cps S t + 1) := by rw [le_n (by omega) (by omega)]; omega
          have d3 : (BLs S.2.1 S.2.2.1 S.2.2.2.2 S.1).getD (cps S t + 1) 0 < t := by
            have : ¬ t ≤ (BLs S.2.1 S.2.2.1 S.2.2.2.2 S.1).getD (cps S t + 1) 0 := fun z => q ⟨e, z⟩
            grind
          rw [if_neg d1, gd_in (show cps S t + 1 < 20 by omega) (by decide), cl_n (show cps S t + 1 ≤ 100000 by omega), w2.2.1 _ e, if_pos d3]
          exact at'
        · have d1 : nI (BLs S.2.1 S.2.2.1 S.2.2.2.2 S.1).length ≤ nI (cps S t + 1) := by rw [le_n (by omega) (by omega)]; omega
          rw [if_pos d1]
          exact at'
    · have sp : sX0_spans h 16 t = some (0, h) := by
        unfold sX0_spans sX0_spans_c36 sX0_spans_c37
        rw [gd_t (isC_ok (by decide)), CX.1]
        by_cases z : S.1 = 0
        · have z1 : (BLs S.2.1 S.2.2.1 S.2.2.2.2 S.1).length = 0 := BLs_nil z
          rw [if_pos (by rw [z1]; decide)]
          rfl
        · have hp := BLs_pos (F := S.2.1) (T := S.2.2.1) (g := S.2.2.2.2) (show 0 < S.1 by omega)
          have d1 : ¬ nI (BLs S.2.1 S.2.2.1 S.2.2.2.2 S.1).length ≤ 0 := by
            show ¬ nI (BLs S.2.1 S.2.2.1 S.2.2.2.2 S.1).length ≤ nI 0
            rw [le_n (by omega) (by omega)]; omega
          have b0 : h.1 (16 + 1) ((0 : Int32).toNatClampNeg) = (BLs S.2.1 S.2.2.1 S.2.2.2.2 S.1).getD 0 0 := CX.2.1 0 hp
          have b1 : h.1 (16 + 1) ((BLs S.2.1 S.2.2.1 S.2.2.2.2 S.1).length - 1) = (BLs S.2.1 S.2.2.1 S.2.2.2.2 S.1).getD ((BLs S.2.1 S.2.2.1 S.2.2.2.2 S.1).length - 1) 0 := CX.2.1 _ (by omega)
          rw [if_neg d1, b0]
          by_cases d2 : (BLs S.2.1 S.2.2.1 S.2.2.2.2 S.1).getD 0 0 < t
          · rw [if_pos d2]; rfl
          · have d3 : t < (BLs S.2.1 S.2.2.1 S.2.2.2.2 S.1).getD ((BLs S.2.1 S.2.2.1 S.2.2.2.2 S.1).length - 1) 0 := by
              have : ¬ (BLs S.2.1 S.2.2.1 S.2.2.2.2 S.1).getD ((BLs S.2.1 S.2.2.1 S.2.2.2.2 S.1).length - 1) 0 ≤ t := fun q => d ⟨by omega, by grind, q⟩
              grind
            rw [if_neg d2, nI_m1 hp, gd_in (show (BLs S.2.1 S.2.2.1 S.2.2.2.2 S.1).length - 1 < 20 by omega) (by decide), cl_n (show (BLs S.2.1 S.2.2.1 S.2.2.2.2 S.1).length - 1 ≤ 100000 by omega), b1, if_pos d3]
            rfl
      have eX : sX5_carry h t = some (-2, h) := by
        simp only [sX5_carry, c1, if_false, c.2, if_true, sp, Option.bind_some]
      refine mkS (S' := S) (Ms' := Ms) R eX (fX5_carry _ _ _ eX) (by decide) (by decide) X R.1 (fun hM => ?_) (fun q e => fX6_carry h t q e) (by decide) (by decide)
      obtain ⟨m1, t1⟩ := hM.thr 0
      obtain ⟨h2, e2, m2, w2⟩ := m1.works hn
      refine ⟨h2, ?_, m2⟩
      show sX6_carry h t = _
      unfold sX6_carry sX6_carry_c57
      simp only [nm, M_inI, Option.bind_some, cM, if_false, e2, m2.1.1.1]
      by_cases z : S.1 = 0
      · rw [if_pos ((z0 (by omega)).mpr z)]
      · have hp := BLs_pos (F := S.2.1) (T := S.2.2.1) (g := S.2.2.2.2) (show 0 < S.1 by omega)
        have b0 : h2.1 63 ((0 : Int32).toNatClampNeg) = (BLs S.2.1 S.2.2.1 S.2.2.2.2 S.1).getD 0 0 := w2.2.1 0 hp
        have b1 : h2.1 63 ((BLs S.2.1 S.2.2.1 S.2.2.2.2 S.1).length - 1) = (BLs S.2.1 S.2.2.1 S.2.2.2.2 S.1).getD ((BLs S.2.1 S.2.2.1 S.2.2.2.2 S.1).length - 1) 0 := w2.2.1 _ (by omega)
        rw [if_neg (fun q => z ((z0 (by omega)).mp q)), b0]
        by_cases d2 : (BLs S.2.1 S.2.2.1 S.2.2.2.2 S.1).getD 0 0 < t
        · rw [if_pos d2]
        · have d3 : ¬ (BLs S.2.1 S.2.2.1 S.2.2.2.2 S.1).getD ((BLs S.2.1 S.2.2.1 S.2.2.2.2 S.1).length - 1) 0 ≤ t := fun q => d ⟨by omega, by grind, q⟩
          rw [if_neg d2, w2.1, nI_m1 hp, gd_in (show (BLs S.2.1 S.2.2.1 S.2.2.2.2 S.1).length - 1 < 20 by omega) (by decide), cl_n (show (BLs S.2.1 S.2.2.1 S.2.2.2.2 S.1).length - 1 ≤ 100000 by omega), b1, if_neg d3]
  · have eX : sX5_carry h t = some (-1, h) := by
      unfold sX5_carry sX5_carry_c13
      by_cases c1 : t < -60
      · rw [if_pos c1]
      · rw [if_neg c1, if_neg (by grind)]
    refine mkS (S' := S) (Ms' := Ms) R eX (fX5_carry _ _ _ eX) (by decide) (by decide) X R.1 (fun hM => ?_) (fun q e => fX6_carry h t q e) (by decide) (by decide)
    obtain ⟨m1, t1⟩ := hM.thr 0
    refine ⟨u1 h 54 0 0, ?_, m1⟩
    have cM : bI ((-60 : Int64).toInt ≤ t.toInt ∧ t.toInt ≤ (500 : Int64).toInt) = 0 := by
      rw [bI_z]
      rw [le_tI, le_tI] at c
      exact c
    simp only [sX6_carry, nm, M_inI, Option.bind_some, cM, if_true]
end O2
