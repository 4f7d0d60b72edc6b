/-! splits, drops, were, without, dearest -/
def dr (S : SS) (i : Nat) : SS := (S.1 - 1, rmv S.2.1 i, rmv S.2.2.1 i, rmv S.2.2.2.1 i, S.2.2.2.2)
def sp (S : SS) (i : Nat) (v : Int32) : SS := (S.1 + 1, upd S.2.1 S.1 (S.2.1 i), upd S.2.2.1 S.1 (S.2.2.1 i), upd (upd S.2.2.2.1 i (S.2.2.2.1 i - v)) S.1 v, S.2.2.2.2)
theorem okDr {S : SS} (ok : OK S) {i : Nat} (hi' : i < S.1) : OK (dr S i) := by
  have hn := ok.1
  refine ⟨by show S.1 - 1 ≤ 10; omega, ok.2.1, fun j hj => ?_⟩
  have hj' : j < S.1 - 1 := hj
  show 0 ≤ rmv S.2.1 i j ∧ rmv S.2.1 i j ≤ 500 ∧ 0 ≤ rmv S.2.2.1 i j ∧ rmv S.2.2.1 i j ≤ 500 ∧ rmv S.2.1 i j ≠ rmv S.2.2.1 i j ∧ 1 ≤ rmv S.2.2.2.1 i j ∧ rmv S.2.2.2.1 i j ≤ 20
  unfold rmv
  by_cases c : j < i
  · simp only [if_pos c]; exact ok.2.2 j (by omega)
  · simp only [if_neg c]; exact ok.2.2 (j + 1) (by omega)
theorem okSp {S : SS} (ok : OK S) {i : Nat} (hi' : i < S.1) (hn : S.1 < 10) {v : Int32} (hv : 1 ≤ v ∧ v < S.2.2.2.1 i) : OK (sp S i v) := by
  have h1 := ok.2.2 i hi'
  refine ⟨by show S.1 + 1 ≤ 10; omega, ok.2.1, fun j hj => ?_⟩
  have hj' : j < S.1 + 1 := hj
  show 0 ≤ upd S.2.1 S.1 (S.2.1 i) j ∧ upd S.2.1 S.1 (S.2.1 i) j ≤ 500 ∧ 0 ≤ upd S.2.2.1 S.1 (S.2.2.1 i) j ∧ upd S.2.2.1 S.1 (S.2.2.1 i) j ≤ 500 ∧ upd S.2.1 S.1 (S.2.1 i) j ≠ upd S.2.2.1 S.1 (S.2.2.1 i) j ∧ 1 ≤ upd (upd S.2.2.2.1 i (S.2.2.2.1 i - v)) S.1 v j ∧ upd (upd S.2.2.2.1 i (S.2.2.2.1 i - v)) S.1 v j ≤ 20
  by_cases e : j = S.1
  · subst e; simp only [upd_s]; grind
  · simp only [upd_n e]
    by_cases e2 : j = i
    · subst e2; simp only [upd_s]; grind
    · simp only [upd_n e2]; exact ok.2.2 j (by omega)
section O5
variable {h : Hp} {S : SS} {Ms : Nat → Mt} {tx : List Int32} {row : List Int64} {i : Nat}
theorem M_takesOut (hM : MQS h S) (hn : S.1 ≤ 10) (hi' : i < S.1) : ∃ h', sX6_takesOut h (nI i) = some h' ∧ MQS h' (dr S i) := by
  unfold sX6_takesOut
  rw [hM.1, nI_m1 (by omega), nm_t rfl]
  have F0 : Fr [(54, some 7)] [] h (u1 h 54 7 (nI (S.1 - 1))) := Fr.w1 Fr.rf rfl (by decide)
  refine loopE (fun m (s : Hp × Int32) => sX6_takesOut_b12 m s.1 s.2) (fun d s => s.2 = nI (i + d) ∧ s.1.1 54 7 = nI (S.1 - 1) ∧ s.1.1 54 11 = S.2.2.2.2 ∧ (∀ j, i + d ≤ j → j < S.1 → s.1.1 57 j = S.2.1 j ∧ s.1.1 58 j = S.2.2.1 j ∧ s.1.1 59 j = S.2.2.2.1 j) ∧ ∀ j, j < i + d → s.1.1 57 j = rmv S.2.1 i j ∧ s.1.1 58 j = rmv S.2.2.1 i j ∧ s.1.1 59 j = rmv S.2.2.2.1 i j) (S.1 - 1 - i) (fun h' => MQS h' (dr S i)) (fun m d s hd I => ?_) (fun m s I => ?_) (S.1 - 1 - i) 0 FU (u1 h 54 7 (nI (S.1 - 1)), nI i) ⟨rfl, rd1s, (F0.f (by decide)).trans hM.2.1, fun j h1 h2 => ⟨(F0.c (by decide) j).trans (hM.2.2 j h2).1, (F0.c (by decide) j).trans (hM.2.2 j h2).2.1, (F0.c (by decide) j).trans (hM.2.2 j h2).2.2⟩, fun j hj => ?_⟩ (by omega) (by show _ < 1000; omega)
  · obtain ⟨h1, v⟩ := s
    obtain ⟨i1, i2, i3, i4, i5⟩ := I
    dsimp only at i1 i2 i3 i4 i5
    subst i1
    have c1 : ¬ nI (S.1 - 1) ≤ nI (i + d) := by rw [le_n (by omega) (by omega)]; omega
    obtain ⟨a1, a2, a3⟩ := i4 (i + d + 1) (by omega) (by omega)
    have r1 : (u1 h1 57 (i + d) (S.2.1 (i + d + 1))).1 58 (i + d + 1) = S.2.2.1 (i + d + 1) := (rd1c (by decide)).trans a2
    have r2 : (u1 (u1 h1 57 (i + d) (S.2.1 (i + d + 1))) 58 (i + d) (S.2.2.1 (i + d + 1))).1 59 (i + d + 1) = S.2.2.2.1 (i + d + 1) := (rd1c (by decide)).trans ((rd1c (by decide)).trans a3)
    refine ⟨(u1 (u1 (u1 h1 57 (i + d) (S.2.1 (i + d + 1))) 58 (i + d) (S.2.2.1 (i + d + 1))) 59 (i + d) (S.2.2.2.1 (i + d + 1)), nI (i + (d + 1))), ⟨rfl, ?_, ?_, fun j h2 h3 => ?_, fun j hj => ?_⟩, ?_⟩
    · rw [rd1c (by decide), rd1c (by decide), rd1c (by decide)]; exact i2
    · rw [rd1c (by decide), rd1c (by decide), rd1c (by decide)]; exact i3
    · simp only [rd1k (show j ≠ i + d by omega)]
      exact i4 j (by omega) h3
    · by_cases e : j = i + d
      · subst e
        unfold rmv
        simp only [if_neg (show ¬ i + d < i by omega)]
        exact ⟨(rd1c (by decide)).trans ((rd1c (by decide)).trans rd1s), (rd1c (by decide)).trans rd1s, rd1s⟩
      · simp only [rd1k e]
        exact i5 j (by omega)
    · show sX6_takesOut_c12 (sX6_takesOut_b12 m) h1 (nI (i + d)) = sX6_takesOut_b12 m _ (nI (i + (d + 1)))
      have g1 : ∀ f : Option Hp, gd (inb (nI (i + d + 1)) 10) f = f := fun f => gd_in (by omega) (by decide)
      have g2 : ∀ f : Option Hp, gd (inb (nI (i + d)) 10) f = f := fun f => gd_in (by omega) (by decide)
      simp only [sX6_takesOut_c12, i2, c1, if_false, nI_1, g1, g2, cl_n (show i + d + 1 ≤ 100000 by omega), cl_n (show i + d ≤ 100000 by omega), a1, nm, r1, r2]
      rfl
  · obtain ⟨h1, v⟩ := s
    obtain ⟨i1, i2, i3, i4, i5⟩ := I
    dsimp only at i1 i2 i3 i4 i5
    have q : i + (S.1 - 1 - i) = S.1 - 1 := by omega
    rw [q] at i1 i5
    subst i1
    have c1 : nI (S.1 - 1) ≤ nI (S.1 - 1) := by rw [le_n (by omega) (by omega)]; omega
    refine ⟨h1, ?_, i2, i3, i5⟩
    show sX6_takesOut_c12 (sX6_takesOut_b12 m) h1 (nI (S.1 - 1)) = _
    simp only [sX6_takesOut_c12, i2, c1, if_true]
  · unfold rmv
    simp only [if_pos (show j < i by omega)]
    exact ⟨(F0.c (by decide) j).trans (hM.2.2 j (by omega)).1, (F0.c (by decide) j).trans (hM.2.2 j (by omega)).2.1, (F0.c (by decide) j).trans (hM.2.2 j (by omega)).2.2⟩
theorem op_drops (R : Rel h S Ms tx row) (a : Int32) : Step (fun h => sX5_drops h a) (fun h => sX6_drops h a) h := by
  have ok := R.1.1
  have X := R.2.1
  have hn := ok.1
  have ux := (X.1.2.2.2 0 (by decide)).1.1
  have ly := (X.1.2.2.2 1 (by decide)).1.1
  have xh : sX1_has h 6 a = some (bI (0 ≤ a ∧ a < nI S.1), h) := X_has (by decide) X.1.1 _
  by_cases c : 0 ≤ a ∧ a < nI S.1
  · obtain ⟨i, hi', rfl⟩ := str_cs hn c
    have c1 : ¬ bI (0 ≤ nI i ∧ nI i < nI S.1) = 0 := by rw [bI_z]; exact fun q => q c
    have ok' := okDr ok hi'
    obtain ⟨h1, e1, p1⟩ := P_remove (r := 6) (by decide) X.1.1 hn hi'
    have F1 := fX1_remove _ _ _ _ e1
    obtain ⟨h2, e2, r2⟩ := RX.settle (S := dr S i) (Ms' := Ms) (tx := tx) (row := row) (h := h1) ok' p1 ((F1.f (by decide)).trans X.1.2.1) ((F1.f (by decide)).trans ux) ((F1.f (by decide)).trans ly) (X.2.1.fr F1 (by decide)) (X.2.2.fr F1 (by decide) (by decide))
    have eX : sX5_drops h (nI i) = some (nI (S.1 - 1), h2) := by
      have : h2.1 6 4 = nI (S.1 - 1) := r2.1.1.1
      simp only [sX5_drops, xh, Option.bind_some, c1, if_false, e1, e2, this]
    refine mkS R eX (fX5_drops _ _ _ eX) (by decide) (by decide) r2 ⟨ok', fun s _ => VM0 ok' s, R.1.2.2.1, R.1.2.2.2⟩ (fun hM => ?_) (fun q e => fX6_drops h2 (nI i) q e) (by decide) (by decide)
    obtain ⟨m1, t1⟩ := hM.thr 0
    obtain ⟨h3, e3, m3⟩ := M_takesOut m1.1.1 hn hi'
    have F3 := fX6_takesOut _ _ _ e3
    obtain ⟨h4, e4, m4⟩ := RM.go m3 (m1.2.1.fr F3 (by decide)) (m1.2.2.fr F3 (by decide) (by decide))
    refine ⟨h4, ?_, m4⟩
    have : h4.1 54 7 = nI (S.1 - 1) := m4.1.1.1
    simp only [sX6_drops, nm, M_isStream m1.1.1 hn, Option.bind_some, c1, if_false, e3, e4, this]
  · have c1 : bI (0 ≤ a ∧ a < nI S.1) = 0 := by rw [bI_z]; exact c
    have eX : sX5_drops h a = some (-1, h) := by simp only [sX5_drops, xh, Option.bind_some, c1, if_true]
    refine mkS (S' := S) (Ms' := Ms) R eX (fX5_drops _ _ _ eX) (by decide) (by decide) X R.1 (fun hM => ?_) (fun q e => fX6_drops h a q e) (by decide) (by decide)
    obtain ⟨m1, t1⟩ := hM.thr 0
    exact ⟨u1 h 54 0 0, by simp only [sX6_drops, nm, M_isStream m1.1.1 hn, Option.bind_some, c1, if_true], m1⟩
theorem op_splits (R : Rel h S Ms tx row) (a v : Int32) : Step (fun h => sX5_splits h a v) (fun h => sX6_splits h a v) h := by
  have ok := R.1.1
  have X := R.2.1
  have hn := ok.1
  have ux := (X.1.2.2.2 0 (by decide)).1.1
  have ly := (X.1.2.2.2 1 (by decide)).1.1
  have xh : sX1_has h 6 a = some (bI (0 ≤ a ∧ a < nI S.1), h) := X_has (by decide) X.1.1 _
  by_cases c : 0 ≤ a ∧ a < nI S.1
  · obtain ⟨i, hi', rfl⟩ := str_cs hn c
    have c1 : ¬ bI (0 ≤ nI i ∧ nI i < nI S.1) = 0 := by rw [bI_z]; exact fun q => q c
    obtain ⟨a1, a2, a3, a4⟩ := X.1.1.2 i hi'
    have a4' : h.1 10 i = S.2.2.2.1 i := a4
    have ci := ok.2.2 i hi'
    have cap : ∀ {k : Hp}, MQS k S → bI ((1 : Int64).toInt ≤ v.toInt ∧ v.toInt ≤ ((k.1 59 i - 1).toInt64).toInt) = bI (1 ≤ v ∧ v < S.2.2.2.1 i) := by
      intro k hk
      rw [(hk.2.2 i hi').2.2, tL_i]
      have := C20 ok hi'
      refine bI_cg ?_
      have e1 : (1 : Int32).toInt = 1 := by decide
      rw [le_tI, lt_tI, tI_sub (by rw [e1]; omega) (by rw [e1]; omega), e1]
      show (1 : Int) ≤ v.toInt ∧ _ ↔ _
      omega
    by_cases d : 1 ≤ v ∧ v < S.2.2.2.1 i
    · have d1 : ¬ v < 1 := by grind
      have dM : ¬ bI (1 ≤ v ∧ v < S.2.2.2.1 i) = 0 := by rw [bI_z]; exact fun q => q d
      by_cases f : S.1 < 10
      · have f1 : nI S.1 < 10 := by
          show nI S.1 < nI 10
          rw [lt_n (by omega) (by omega)]; omega
        have f2 : ¬ nI S.1 = 10 := by
          show ¬ nI S.1 = nI 10
          rw [eq_n (by omega) (by omega)]; omega
        have ok' := okSp ok hi' f d
        obtain ⟨st1, st2, st3⟩ := stS_i S i 2 (S.2.2.2.1 i - v)
        have hh : hb (stS S i 2 (S.2.2.2.1 i - v)).2.1 (stS S i 2 (S.2.2.2.1 i - v)).2.2.1 i = hb S.2.1 S.2.2.1 i := by
          unfold hb
          rw [st1, st2]
          rfl
        obtain ⟨h1, e1, p1⟩ := X_put (r := 6) (by decide) X.1.1 hn hi' (Or.inr (Or.inr rfl)) hh
        have F1 := fX1_put _ _ _ _ _ _ e1
        obtain ⟨b1, b2, b3, b4⟩ := p1.2 i hi'
        rw [hh] at b1
        rw [st1] at b2
        rw [st2] at b3
        have b1' : h1.1 7 i = hb S.2.1 S.2.2.1 i := b1
        have b2' : h1.1 8 i = S.2.1 i := b2
        have b3' : h1.1 9 i = S.2.2.1 i := b3
        obtain ⟨h2, e2, p2⟩ := P_add (r := 6) (x := hb S.2.1 S.2.2.1 i) (f := S.2.1 i) (t := S.2.2.1 i) (c := v) (by decide) p1 f rfl
        have F2 := fX1_add _ _ _ _ _ _ _ e2
        obtain ⟨h3, e3, r3⟩ := RX.settle (S := sp S i v) (Ms' := Ms) (tx := tx) (row := row) (h := h2) ok' (p2.ext (fun j hj => by
          have w2 : (stS S i 2 (S.2.2.2.1 i - v)).2.1 = S.2.1 ∧ (stS S i 2 (S.2.2.2.1 i - v)).2.2.1 = S.2.2.1 ∧ (stS S i 2 (S.2.2.2.1 i - v)).2.2.2.1 = upd S.2.2.2.1 i (S.2.2.2.1 i - v) := by simp [stS, w_ne]
          rw [w2.1, w2.2.1, w2.2.2]
          exact ⟨rfl, rfl, rfl⟩)) ((F2.f (by decide)).trans ((F1.f (by decide)).trans X.1.2.1)) ((F2.f (by decide)).trans ((F1.f (by decide)).trans ux)) ((F2.f (by decide)).trans ((F1.f (by decide)).trans ly)) ((X.2.1.fr F1 (by decide)).fr F2 (by decide)) ((X.2.2.fr F1 (by decide) (by decide)).fr F2 (by decide) (by decide))
        have eX : sX5_splits h (nI i) v = some (nI S.1, h3) := by
          have e9 : h3.1 6 4 - 1 = nI S.1 := by
            rw [show h3.1 6 4 = nI (S.1 + 1) from r3.1.1.1, nI_m1 (by omega)]
            rfl
          simp only [sX5_splits, xh, Option.bind_some, c1, if_false, d1, gd_in (show i < 10 by omega) (show 10 ≤ 1000 by decide), cl_n (show i ≤ 100000 by omega), a4', d.2, if_true, X.1.1.1, f1, e1, b1', b2', b3', e2, e3, e9]
        refine mkS R eX (fX5_splits _ _ _ _ eX) (by decide) (by decide) r3 ⟨ok', fun s _ => VM0 ok' s, R.1.2.2.1, R.1.2.2.2⟩ (fun hM => ?_) (fun q e => fX6_splits h3 (nI i) v q e) (by decide) (by decide)
        obtain ⟨m1, t1⟩ := hM.thr 0
        obtain ⟨q1, q2, q3⟩ := m1.1.1.2.2 i hi'
        generalize hk0 : u1 h3 54 0 0 = k at m1 t1 q1 q2 q3
        have k1 : (u1 k 57 S.1 (S.2.1 i)).1 54 7 = nI S.1 := (rd1c (by decide)).trans m1.1.1.1
        have k2 : (u1 k 57 S.1 (S.2.1 i)).1 58 i = S.2.2.1 i := (rd1c (by decide)).trans q2
        have k3 : (u1 (u1 k 57 S.1 (S.2.1 i)) 58 S.1 (S.2.2.1 i)).1 54 7 = nI S.1 := (rd1c (by decide)).trans k1
        have k4 : (u1 (u1 (u1 k 57 S.1 (S.2.1 i)) 58 S.1 (S.2.2.1 i)) 59 S.1 v).1 59 i = S.2.2.2.1 i := (rd1k (by omega)).trans ((rd1c (by decide)).trans ((rd1c (by decide)).trans q3))
        have k5 : (u1 (u1 (u1 (u1 k 57 S.1 (S.2.1 i)) 58 S.1 (S.2.2.1 i)) 59 S.1 v) 59 i (S.2.2.2.1 i - v)).1 54 7 = nI S.1 := (rd1c (by decide)).trans ((rd1c (by decide)).trans k3)
        let K := u1 (u1 (u1 (u1 (u1 k 57 S.1 (S.2.1 i)) 58 S.1 (S.2.2.1 i)) 59 S.1 v) 59 i (S.2.2.2.1 i - v)) 54 7 (nI (S.1 + 1))
        have FK : Fr [(57, none), (58, none), (59, none), (54, some 7)] [] k K := Fr.w1 (Fr.w1 (Fr.w1 (Fr.w1 (Fr.w1 Fr.rf rfl (by simp)) rfl (by simp)) rfl (by simp)) rfl (by simp)) rfl (by simp)
        have mK : MQS K (sp S i v) := by
          refine ⟨rd1s, (FK.f (by decide)).trans m1.1.1.2.1, fun j hj => ?_⟩
          have hj' : j < S.1 + 1 := hj
          have r7 : K.1 57 j = if j = S.1 then S.2.1 i else k.1 57 j := by simp [K, rd1]
          have r8 : K.1 58 j = if j = S.1 then S.2.2.1 i else k.1 58 j := by simp [K, rd1]
          have r9 : K.1 59 j = if j = i then S.2.2.2.1 i - v else if j = S.1 then v else k.1 59 j := by simp [K, rd1]
          show K.1 57 j = upd S.2.1 S.1 (S.2.1 i) j ∧ K.1 58 j = upd S.2.2.1 S.1 (S.2.2.1 i) j ∧ K.1 59 j = upd (upd S.2.2.2.1 i (S.2.2.2.1 i - v)) S.1 v j
          rw [r7, r8, r9]
          by_cases e : j = S.1
          · subst e
            simp only [upd_s, if_true, if_neg (show ¬ S.1 = i by omega)]
            exact ⟨trivial, trivial, trivial⟩
          · obtain ⟨g1, g2, g3⟩ := m1.1.1.2.2 j (by omega)
            simp only [upd_n e, if_neg e]
            refine ⟨g1, g2, ?_⟩
            by_cases e2 : j = i
            · subst e2; rw [upd_s, if_pos rfl]
            · rw [upd_n e2, if_neg e2]; exact g3
        obtain ⟨h4, e4, m4⟩ := RM.go mK (m1.2.1.fr FK (by decide)) (m1.2.2.fr FK (by decide) (by decide))
        refine ⟨h4, ?_, m4⟩
        have e9 : h4.1 54 7 - 1 = nI S.1 := by
          rw [show h4.1 54 7 = nI (S.1 + 1) from m4.1.1.1, nI_m1 (by omega)]
          rfl
        have e4' : sX6_allGo (u1 (u1 (u1 (u1 (u1 k 57 S.1 (S.2.1 i)) 58 S.1 (S.2.2.1 i)) 59 S.1 v) 59 i (S.2.2.2.1 i - v)) 54 7 (nI (S.1 + 1))) = some h4 := e4
        have cp := cap m1.1.1
        have gi : ∀ f : Option (Int32 × Hp), gd (inb (nI i) 10) f = f := fun f => gd_in (by omega) (by decide)
        have gn : ∀ f : Option (Int32 × Hp), gd (inb (nI S.1) 10) f = f := fun f => gd_in (by omega) (by decide)
        show sX6_splits h3 (nI i) v = _
        unfold sX6_splits
        rw [nm_t hk0, M_isStream m1.1.1 hn, Option.bind_some]
        simp only [c1, if_false, gi, cl_n (show i ≤ 100000 by omega), M_inI, cp, Option.bind_some, dM, m1.1.1.1, f2, gn, cl_n (show S.1 ≤ 100000 by omega), nm, q1, k1, k2, k3, k4, k5, nI_1, e4', e9]
      · have f1 : ¬ nI S.1 < 10 := by
          show ¬ nI S.1 < nI 10
          rw [lt_n (by omega) (by omega)]; omega
        have f2 : nI S.1 = 10 := by
          show nI S.1 = nI 10
          rw [eq_n (by omega) (by omega)]; omega
        have eX : sX5_splits h (nI i) v = some (-2, h) := by
          simp only [sX5_splits, xh, Option.bind_some, c1, if_false, d1, gd_in (show i < 10 by omega) (show 10 ≤ 1000 by decide), cl_n (show i ≤ 100000 by omega), a4', d.2, if_true, X.1.1.1, f1]
        refine mkS (S' := S) (Ms' := Ms) R eX (fX5_splits _ _ _ _ eX) (by decide) (by decide) X R.1 (fun hM => ?_) (fun q e => fX6_splits h (nI i) v q e) (by decide) (by decide)
        obtain ⟨m1, t1⟩ := hM.thr 0
        have cp := cap m1.1.1
        have c1' := c1
        rw [f2] at c1'
        exact ⟨u1 h 54 0 0, by simp only [sX6_splits, nm, M_isStream m1.1.1 hn, Option.bind_some, c1, c1', if_false, gd_in (show i < 10 by omega) (show 10 ≤ 1000 by decide), cl_n (show i ≤ 100000 by omega), M_inI, cp, dM, m1.1.1.1, f2, if_true], m1⟩
    · have dM : bI (1 ≤ v ∧ v < S.2.2.2.1 i) = 0 := by rw [bI_z]; exact d
      have eX : sX5_splits h (nI i) v = some (-1, h) := by
        simp only [sX5_splits, sX5_splits_c29, xh, Option.bind_some, c1, if_false, gd_in (show i < 10 by omega) (show 10 ≤ 1000 by decide), cl_n (show i ≤ 100000 by omega), a4']
        by_cases d1 : v < 1
        · rw [if_pos d1]
        · rw [if_neg d1, if_neg (by grind)]
      refine mkS (S' := S) (Ms' := Ms) R eX (fX5_splits _ _ _ _ eX) (by decide) (by decide) X R.1 (fun hM => ?_) (fun q e => fX6_splits h (nI i) v q e) (by decide) (by decide)
      obtain ⟨m1, t1⟩ := hM.thr 0
      have cp := cap m1.1.1
      exact ⟨u1 h 54 0 0, by simp only [sX6_splits, sX6_splits_c31, nm, M_isStream m1.1.1 hn, Option.bind_some, c1, if_false, gd_in (show i < 10 by omega) (show 10 ≤ 1000 by decide), cl_n (show i ≤ 100000 by omega), M_inI, cp, dM, if_true], m1⟩
  · have c1 : bI (0 ≤ a ∧ a < nI S.1) = 0 := by rw [bI_z]; exact c
    have eX : sX5_splits h a v = some (-1, h) := by simp only [sX5_splits, sX5_splits_c29, xh, Option.bind_some, c1, if_true]
    refine mkS (S' := S) (Ms' := Ms) R eX (fX5_splits _ _ _ _ eX) (by decide) (by decide) X R.1 (fun hM => ?_) (fun q e => fX6_splits h a v q e) (by decide) (by decide)
    obtain ⟨m1, t1⟩ := hM.thr 0
    exact ⟨u1 h 54 0 0, by simp only [sX6_splits, sX6_splits_c31, nm, M_isStream m1.1.1 hn, Option.bind_some, c1, if_true], m1⟩
/-! without a stream, and back -/
theorem M_fuelWithout (ok : OK S) (hR : RM h S Ms tx row) (hi' : i < S.1) : ∃ h', sX6_fuelWithout h (nI i) = some (fue (dr S i).1 (dr S i).2.1 (dr S i).2.2.1 (dr S i).2.2.2.1 S.2.2.2.2, h') ∧ RM h' S Ms tx row ∧ h'.1 54 20 = coo (dr S i).1 (dr S i).2.1 (dr S i).2.2.1 (dr S i).2.2.2.1 S.2.2.2.2 := by
  have hn := ok.1
  obtain ⟨a1, a2, a3⟩ := hR.1.1.2.2 i hi'
  obtain ⟨h1, e1, m1⟩ := M_takesOut hR.1.1 hn hi'
  have F1 := fX6_takesOut _ _ _ e1
  obtain ⟨h2, e2, w2, m2⟩ := M_works (h := h1) (n := (dr S i).1) (F := (dr S i).2.1) (T := (dr S i).2.2.1) (C := (dr S i).2.2.2.1) (g := S.2.2.2.2) m1 (by show S.1 - 1 ≤ 10; omega)
  have F2 := fX6_works _ _ e2
  have b0 : h2.1 54 7 = nI (S.1 - 1) := m2.1
  have key : ∃ q : Int32 × Hp, sX6_fuelWithout_b37 FU h2 (nI i) (S.2.1 i) (S.2.2.1 i) (S.2.2.2.1 i) (nI (S.1 - 1)) = some q ∧ q.1 = fue (dr S i).1 (dr S i).2.1 (dr S i).2.2.1 (dr S i).2.2.2.1 S.2.2.2.2 ∧ MQS q.2 S ∧ q.2.1 54 20 = coo (dr S i).1 (dr S i).2.1 (dr S i).2.2.1 (dr S i).2.2.2.1 S.2.2.2.2 := by
    refine loopE (fun m (s : Hp × Int32) => sX6_fuelWithout_b37 m s.1 (nI i) (S.2.1 i) (S.2.2.1 i) (S.2.2.2.1 i) s.2) (fun d s => s.2 = nI (S.1 - 1 - d) ∧ s.1.1 54 7 = nI (S.1 - 1) ∧ s.1.1 54 11 = S.2.2.2.2 ∧ s.1.1 54 18 = fue (dr S i).1 (dr S i).2.1 (dr S i).2.2.1 (dr S i).2.2.2.1 S.2.2.2.2 ∧ s.1.1 54 19 = coo (dr S i).1 (dr S i).2.1 (dr S i).2.2.1 (dr S i).2.2.2.1 S.2.2.2.2 ∧ (∀ j, j < S.1 - 1 - d → s.1.1 57 j = rmv S.2.1 i j ∧ s.1.1 58 j = rmv S.2.2.1 i j ∧ s.1.1 59 j = rmv S.2.2.2.1 i j) ∧ ∀ j, S.1 - 1 - d < j → j < S.1 → s.1.1 57 j = S.2.1 j ∧ s.1.1 58 j = S.2.2.1 j ∧ s.1.1 59 j = S.2.2.2.1 j) (S.1 - 1 - i) (fun q : Int32 × Hp => q.1 = fue (dr S i).1 (dr S i).2.1 (dr S i).2.2.1 (dr S i).2.2.2.1 S.2.2.2.2 ∧ MQS q.2 S ∧ q.2.1 54 20 = coo (dr S i).1 (dr S i).2.1 (dr S i).2.2.1 (dr S i).2.2.2.1 S.2.2.2.2) (fun m d s hd I => ?_) (fun m s I => ?_) (S.1 - 1 - i) 0 FU (h2, nI (S.1 - 1)) ⟨rfl, b0, m2.2.1, w2.2.2.2.1, w2.2.2.2.2, fun j hj => m2.2.2 j hj, fun j h1 h2 => by omega⟩ (by omega) (by show _ < 1000; omega)
    · obtain ⟨k, v⟩ := s
      obtain ⟨i1, i2, i3, i4, i5, i6, i7⟩ := I
      dsimp only at i1 i2 i3 i4 i5 i6 i7
      subst i1
      have c1 : ¬ nI (S.1 - 1 - d) ≤ nI i := by rw [le_n (by omega) (by omega)]; omega
      obtain ⟨b1, b2, b3⟩ := i6 (S.1 - 1 - d - 1) (by omega)
      have x1 : rmv S.2.1 i (S.1 - 1 - d - 1) = S.2.1 (S.1 - 1 - d) := by unfold rmv; rw [if_neg (by omega), show S.1 - 1 - d - 1 + 1 = S.1 - 1 - d by omega]
      have x2 : rmv S.2.2.1 i (S.1 - 1 - d - 1) = S.2.2.1 (S.1 - 1 - d) := by unfold rmv; rw [if_neg (by omega), show S.1 - 1 - d - 1 + 1 = S.1 - 1 - d by omega]
      have x3 : rmv S.2.2.2.1 i (S.1 - 1 - d - 1) = S.2.2.2.1 (S.1 - 1 - d) := by unfold rmv; rw [if_neg (by omega), show S.1 - 1 - d - 1 + 1 = S.1 - 1 - d by omega]
      rw [x1] at b1
      rw [x2] at b2
      rw [x3] at b3
      generalize hp : S.1 - 1 - d = p at *
      have r1 : (u1 k 57 p (S.2.1 p)).1 58 (p - 1) = S.2.2.1 p := (rd1c (by decide)).trans b2
      have r2 : (u1 (u1 k 57 p (S.2.1 p)) 58 p (S.2.2.1 p)).1 59 (p - 1) = S.2.2.2.1 p := (rd1c (by decide)).trans ((rd1c (by decide)).trans b3)
      have FK : Fr [(57, none), (58, none), (59, none)] [] k (u1 (u1 (u1 k 57 p (S.2.1 p)) 58 p (S.2.2.1 p)) 59 p (S.2.2.2.1 p)) := Fr.w1 (Fr.w1 (Fr.w1 Fr.rf rfl (by simp)) rfl (by simp)) rfl (by simp)
      have q1 : S.1 - 1 - (d + 1) = p - 1 := by omega
      refine ⟨(u1 (u1 (u1 k 57 p (S.2.1 p)) 58 p (S.2.2.1 p)) 59 p (S.2.2.2.1 p), nI (p - 1)), ⟨by rw [q1], (FK.f (by decide)).trans i2, (FK.f (by decide)).trans i3, (FK.f (by decide)).trans i4, (FK.f (by decide)).trans i5, fun j hj => ?_, fun j h1 h2 => ?_⟩, ?_⟩
      · simp only [rd1k (show j ≠ p by omega)]
        exact i6 j (by omega)
      · by_cases e : j = p
        · subst e
          exact ⟨(rd1c (by decide)).trans ((rd1c (by decide)).trans rd1s), (rd1c (by decide)).trans rd1s, rd1s⟩
        · simp only [rd1k e]
          exact i7 j (by omega) h2
      · show sX6_fuelWithout_c37 (sX6_fuelWithout_b37 m) k (nI i) (S.2.1 i) (S.2.2.1 i) (S.2.2.2.1 i) (nI p) = sX6_fuelWithout_b37 m _ (nI i) (S.2.1 i) (S.2.2.1 i) (S.2.2.2.1 i) (nI (p - 1))
        have g1 : ∀ f : Option (Int32 × Hp), gd (inb (nI p) 10) f = f := fun f => gd_in (by omega) (by decide)
        have g2 : ∀ f : Option (Int32 × Hp), gd (inb (nI (p - 1)) 10) f = f := fun f => gd_in (by omega) (by decide)
        simp only [sX6_fuelWithout_c37, c1, if_false, nI_m1 (show 0 < p by omega), nI_a1 (show 0 < p by omega), g1, g2, cl_n (show p ≤ 100000 by omega), cl_n (show p - 1 ≤ 100000 by omega), b1, nm, r1, r2]
    · obtain ⟨k, v⟩ := s
      obtain ⟨i1, i2, i3, i4, i5, i6, i7⟩ := I
      dsimp only at i1 i2 i3 i4 i5 i6 i7
      have q : S.1 - 1 - (S.1 - 1 - i) = i := by omega
      rw [q] at i1 i6 i7
      subst i1
      have c1 : nI i ≤ nI i := by rw [le_n (by omega) (by omega)]; omega
      let K := u1 (u1 (u1 (u1 (u1 k 57 i (S.2.1 i)) 58 i (S.2.2.1 i)) 59 i (S.2.2.2.1 i)) 54 7 (nI S.1)) 54 20 (coo (dr S i).1 (dr S i).2.1 (dr S i).2.2.1 (dr S i).2.2.2.1 S.2.2.2.2)
      have g1 : ∀ f : Option (Int32 × Hp), gd (inb (nI i) 10) f = f := fun f => gd_in (by omega) (by decide)
      have r1 : (u1 (u1 (u1 k 57 i (S.2.1 i)) 58 i (S.2.2.1 i)) 59 i (S.2.2.2.1 i)).1 54 7 = nI (S.1 - 1) := (rd1c (by decide)).trans ((rd1c (by decide)).trans ((rd1c (by decide)).trans i2))
      have r2 : nI (S.1 - 1) + 1 = nI S.1 := by rw [nI_1]; congr 1; omega
      have r3 : (u1 (u1 (u1 (u1 k 57 i (S.2.1 i)) 58 i (S.2.2.1 i)) 59 i (S.2.2.2.1 i)) 54 7 (nI S.1)).1 54 19 = coo (dr S i).1 (dr S i).2.1 (dr S i).2.2.1 (dr S i).2.2.2.1 S.2.2.2.2 := (rd1k (by decide)).trans ((rd1c (by decide)).trans ((rd1c (by decide)).trans ((rd1c (by decide)).trans i5)))
      have r4 : K.1 54 18 = fue (dr S i).1 (dr S i).2.1 (dr S i).2.2.1 (dr S i).2.2.2.1 S.2.2.2.2 := by
        have : K.1 54 18 = k.1 54 18 := by simp [K, rd1]
        rw [this]; exact i4
      refine ⟨(fue (dr S i).1 (dr S i).2.1 (dr S i).2.2.1 (dr S i).2.2.2.1 S.2.2.2.2, K), ?_, rfl, ⟨?_, ?_, fun j hj => ?_⟩, rd1s⟩
      · show sX6_fuelWithout_c37 (sX6_fuelWithout_b37 m) k (nI i) (S.2.1 i) (S.2.2.1 i) (S.2.2.2.1 i) (nI i) = _
        have r4' : (u1 (u1 (u1 (u1 (u1 k 57 i (S.2.1 i)) 58 i (S.2.2.1 i)) 59 i (S.2.2.2.1 i)) 54 7 (nI S.1)) 54 20 (coo (dr S i).1 (dr S i).2.1 (dr S i).2.2.1 (dr S i).2.2.2.1 S.2.2.2.2)).1 54 18 = fue (dr S i).1 (dr S i).2.1 (dr S i).2.2.1 (dr S i).2.2.2.1 S.2.2.2.2 := r4
        simp only [sX6_fuelWithout_c37, c1, if_true, g1, cl_n (show i ≤ 100000 by omega), nm, r1, r2, r3, r4']
        rfl
      · exact (rd1k (by decide)).trans rd1s
      · have : K.1 54 11 = k.1 54 11 := by simp [K, rd1]
        exact this.trans i3
      · have y1 : K.1 57 j = if j = i then S.2.1 i else k.1 57 j := by simp [K, rd1]
        have y2 : K.1 58 j = if j = i then S.2.2.1 i else k.1 58 j := by simp [K, rd1]
        have y3 : K.1 59 j = if j = i then S.2.2.2.1 i else k.1 59 j := by simp [K, rd1]
        show K.1 57 j = S.2.1 j ∧ K.1 58 j = S.2.2.1 j ∧ K.1 59 j = S.2.2.2.1 j
        rw [y1, y2, y3]
        by_cases e : j = i
        · subst e; simp only [if_true]; exact ⟨trivial, trivial, trivial⟩
        · simp only [if_neg e]
          rcases Nat.lt_or_ge j i with z | z
          · obtain ⟨u1', u2', u3'⟩ := i6 j z
            unfold rmv at u1' u2' u3'
            simp only [if_pos z] at u1' u2' u3'
            exact ⟨u1', u2', u3'⟩
          · exact i7 j (by omega) hj
  obtain ⟨⟨v, hq⟩, e3, e4, m4, e5⟩ := key
  dsimp only at e4 m4 e5
  subst e4
  have eM : sX6_fuelWithout h (nI i) = some (fue (dr S i).1 (dr S i).2.1 (dr S i).2.2.1 (dr S i).2.2.2.1 S.2.2.2.2, hq) := by
    simp only [sX6_fuelWithout, gd_in (show i < 10 by omega) (show 10 ≤ 1000 by decide), cl_n (show i ≤ 100000 by omega), nm, a1, a2, a3, e1, Option.bind_some, e2, b0, e3]
  have FM := fX6_fuelWithout _ _ _ eM
  exact ⟨hq, eM, ⟨⟨m4, fun s hs => (hR.1.2 s hs).fr FM (by decide)⟩, hR.2.1.fr FM (by decide), hR.2.2.fr FM (by decide) (by decide)⟩, e5⟩
/-- the class: fuel of the other streams -/
theorem X_fuelOther {S' : SS} (X : RX h S Ms tx row) (hg : S'.2.2.2.2 = S.2.2.2.2) (ok' : OK S') (hP : PS h 11 S'.1 S'.2.1 S'.2.2.1 S'.2.2.2.1) : ∃ h', sX5_fuelOfOther h = some (fue S'.1 S'.2.1 S'.2.2.1 S'.2.2.2.1 S.2.2.2.2, h') ∧ RX h' S Ms tx [(coo S'.1 S'.2.1 S'.2.2.1 S'.2.2.2.1 S.2.2.2.2).toInt64, (fue S'.1 S'.2.1 S'.2.2.1 S'.2.2.2.1 S.2.2.2.2 - fue S.1 S.2.1 S.2.2.1 S.2.2.2.1 S.2.2.2.2).toInt64] := by
  obtain ⟨h1, e1, w1⟩ := C_work (h := h) (r := 21) (a := 11) (n := S'.1) (F := S'.2.1) (T := S'.2.2.1) (C := S'.2.2.2.1) (g := S.2.2.2.2) (by decide) (by decide) hP (hg ▸ ok')
  have X1 := X.fr0 (fX0_work _ _ _ _ _ e1) (by decide) (by decide)
  have ec : sX0_cool h1 21 = some (coo S'.1 S'.2.1 S'.2.2.1 S'.2.2.2.1 S.2.2.2.2, h1) := C_cool (by decide) ok'.1 w1
  obtain ⟨h2, e2, r2⟩ := X1.tell2 (coo S'.1 S'.2.1 S'.2.2.1 S'.2.2.2.1 S.2.2.2.2).toInt64 (fue S'.1 S'.2.1 S'.2.2.1 S'.2.2.2.1 S.2.2.2.2 - fue S.1 S.2.1 S.2.2.1 S.2.2.2.1 S.2.2.2.2).toInt64
  have w2 : h2.1 21 5 = fue S'.1 S'.2.1 S'.2.2.1 S'.2.2.2.1 S.2.2.2.2 := ((fX4_tell_ _ _ _ _ e2).c (by decide) 5).trans w1.2.2.2
  refine ⟨h2, ?_, r2⟩
  simp only [sX5_fuelOfOther, X.1.2.1, e1, Option.bind_some, ec, w1.2.2.2, X1.1.2.2.1.2.2.2, e2, w2]
theorem op_without (R : Rel h S Ms tx row) (a : Int32) : Step (fun h => sX5_without h a) (fun h => sX6_without h a) h := by
  have ok := R.1.1
  have X := R.2.1
  have hn := ok.1
  have xh : sX1_has h 6 a = some (bI (0 ≤ a ∧ a < nI S.1), h) := X_has (by decide) X.1.1 _
  by_cases c : 0 ≤ a ∧ a < nI S.1
  · obtain ⟨i, hi', rfl⟩ := str_cs hn c
    have c1 : ¬ bI (0 ≤ nI i ∧ nI i < nI S.1) = 0 := by rw [bI_z]; exact fun q => q c
    have ok' := okDr ok hi'
    obtain ⟨h1, e1, p1⟩ := P_copy (r := 11) (a := 6) (by decide) (by decide) (by decide) X.1.1 hn
    have X1 := X.fr0 (fX1_copy _ _ _ _ e1) (by decide) (by decide)
    obtain ⟨h2, e2, p2⟩ := P_remove (r := 11) (by decide) p1 hn hi'
    have X2 := X1.fr0 (fX1_remove _ _ _ _ e2) (by decide) (by decide)
    obtain ⟨h3, e3, r3⟩ := X_fuelOther (S' := dr S i) X2 rfl ok' p2
    have eX : sX5_without h (nI i) = some (fue (dr S i).1 (dr S i).2.1 (dr S i).2.2.1 (dr S i).2.2.2.1 S.2.2.2.2, h3) := by
      simp only [sX5_without, xh, Option.bind_some, c1, if_false, e1, e2, e3]
    refine mkS R eX (fX5_without _ _ _ eX) (by decide) (by decide) r3 (invR R.1 (by simp)) (fun hM => ?_) (fun q e => fX6_without h3 (nI i) q e) (by decide) (by decide)
    obtain ⟨m1, t1⟩ := hM.thr 0
    obtain ⟨h4, e4, m4, w4⟩ := m1.works hn
    obtain ⟨h5, e5, m5, w5⟩ := M_fuelWithout ok m4 hi'
    obtain ⟨m6, F6⟩ := m5.row0
    have b1 : (u1 h5 54 1 0).1 54 20 = coo (dr S i).1 (dr S i).2.1 (dr S i).2.2.1 (dr S i).2.2.2.1 S.2.2.2.2 := (F6.f (by decide)).trans w5
    obtain ⟨h7, e7, m7, F7⟩ := m6.ent (by simp) (coo (dr S i).1 (dr S i).2.1 (dr S i).2.2.1 (dr S i).2.2.2.1 S.2.2.2.2).toInt64
    obtain ⟨h8, e8, m8, F8⟩ := m7.ent (by simp) (fue (dr S i).1 (dr S i).2.1 (dr S i).2.2.1 (dr S i).2.2.2.1 S.2.2.2.2 - fue S.1 S.2.1 S.2.2.1 S.2.2.2.1 S.2.2.2.2).toInt64
    refine ⟨h8, ?_, m8⟩
    simp only [sX6_without, nm, M_isStream m1.1.1 hn, Option.bind_some, c1, if_false, e4, w4.2.2.2.1, e5, b1, e7, e8]
  · have c1 : bI (0 ≤ a ∧ a < nI S.1) = 0 := by rw [bI_z]; exact c
    have eX : sX5_without h a = some (-1, h) := by simp only [sX5_without, xh, Option.bind_some, c1, if_true]
    refine mkS (S' := S) (Ms' := Ms) R eX (fX5_without _ _ _ eX) (by decide) (by decide) X R.1 (fun hM => ?_) (fun q e => fX6_without h a q e) (by decide) (by decide)
    obtain ⟨m1, t1⟩ := hM.thr 0
    exact ⟨u1 h 54 0 0, by simp only [sX6_without, nm, M_isStream m1.1.1 hn, Option.bind_some, c1, if_true], m1⟩
end O5
