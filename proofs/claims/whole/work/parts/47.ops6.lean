/-! were, dearest -/
theorem MS.ext {h : Hp} {n : Nat} {F T C F' T' C' : Nat → Int32} {g : Int32} (hP : MS h n F T C g) (e : ∀ i, i < n → F i = F' i ∧ T i = T' i ∧ C i = C' i) : MS h n F' T' C' g := by
  refine ⟨hP.1, hP.2.1, fun i hi' => ?_⟩
  obtain ⟨e1, e2, e3⟩ := e i hi'
  obtain ⟨a2, a3, a4⟩ := hP.2.2 i hi'
  exact ⟨a2.trans e1, a3.trans e2, a4.trans e3⟩
theorem stS_back (S : SS) (i : Nat) {w v : Int32} (hw : w = 0 ∨ w = 1 ∨ w = 2) (j : Nat) : (stS (stS S i w v) i w (vAt S i w)).2.1 j = S.2.1 j ∧ (stS (stS S i w v) i w (vAt S i w)).2.2.1 j = S.2.2.1 j ∧ (stS (stS S i w v) i w (vAt S i w)).2.2.2.1 j = S.2.2.2.1 j := by
  by_cases e : j = i
  · subst e
    obtain ⟨a1, a2, a3⟩ := stS_i (stS S j w v) j w (vAt S j w)
    obtain ⟨b1, b2, b3⟩ := stS_i S j w v
    rw [a1, a2, a3, b3]
    unfold vBg vEn vAt
    rw [b1, b2]
    unfold vBg vEn
    have wn := w_ne
    rcases hw with rfl | rfl | rfl <;> simp only [wn, if_true, if_false] <;> exact ⟨trivial, trivial, trivial⟩
  · obtain ⟨a1, a2, a3⟩ := stS_n (stS S i w v) e w (vAt S i w)
    obtain ⟨b1, b2, b3⟩ := stS_n S e w v
    rw [a1, a2, a3, b1, b2, b3]
    exact ⟨rfl, rfl, rfl⟩
section O6
variable {h : Hp} {S : SS} {Ms : Nat → Mt} {tx : List Int32} {row : List Int64} {i : Nat}
theorem op_were (R : Rel h S Ms tx row) (a w v : Int32) : Step (fun h => sX5_were h a w v) (fun h => sX6_were h a w v) h := by
  have ok := R.1.1
  have X := R.2.1
  have hn := ok.1
  by_cases c : (0 ≤ a ∧ a < nI S.1) ∧ vOk w v
  · obtain ⟨i, hi', rfl⟩ := str_cs hn c.1
    have c1 : ¬ bI (0 ≤ nI i ∧ nI i < nI S.1) = 0 := by rw [bI_z]; exact fun q => q c.1
    have c2 : ¬ bI (vOk w v) = 0 := by rw [bI_z]; exact fun q => q c.2
    have cM : ¬ bI ((0 ≤ nI i ∧ nI i < nI S.1) ∧ vOk w v) = 0 := by rw [bI_z]; exact fun q => q c
    have hw := vOk_w c.2
    have xh : sX1_has h 6 (nI i) = some (bI (0 ≤ nI i ∧ nI i < nI S.1), h) := X_has (by decide) X.1.1 _
    have xt : sX1_turns h 6 (nI i) w v = some (bI (trn S i w v), h) := X_turns (by decide) X.1.1 hn hi' w v
    by_cases t : trn S i w v
    · have c3 : ¬ bI (trn S i w v) = 0 := by rw [bI_z]; exact fun q => q t
      have eX : sX5_were h (nI i) w v = some (-3, h) := by
        simp only [sX5_were, xh, X_isValue, xt, Option.bind_some, c1, c2, c3, if_false]
      refine mkS (S' := S) (Ms' := Ms) R eX (fX5_were _ _ _ _ _ eX) (by decide) (by decide) X R.1 (fun hM => ?_) (fun q e => fX6_were h (nI i) w v q e) (by decide) (by decide)
      obtain ⟨m1, t1⟩ := hM.thr 0
      exact ⟨u1 h 54 0 0, by simp only [sX6_were, nm, M_canSet m1.1.1 hn, Option.bind_some, cM, if_false, M_wouldTurn m1.1.1 hn hi', c3], m1⟩
    · have c3 : bI (trn S i w v) = 0 := by rw [bI_z]; exact t
      obtain ⟨ok', hh⟩ := okSt ok hi' c.2 t
      obtain ⟨h1, e1, p1⟩ := P_copy (r := 11) (a := 6) (by decide) (by decide) (by decide) X.1.1 hn
      have X1 := X.fr0 (fX1_copy _ _ _ _ e1) (by decide) (by decide)
      obtain ⟨h2, e2, p2⟩ := X_put (r := 11) (by decide) p1 hn hi' hw hh
      have X2 := X1.fr0 (fX1_put _ _ _ _ _ _ e2) (by decide) (by decide)
      obtain ⟨h3, e3, r3⟩ := X_fuelOther (S' := stS S i w v) X2 rfl ok' p2
      have eX : sX5_were h (nI i) w v = some (fue (stS S i w v).1 (stS S i w v).2.1 (stS S i w v).2.2.1 (stS S i w v).2.2.2.1 S.2.2.2.2, h3) := by
        simp only [sX5_were, xh, X_isValue, xt, Option.bind_some, c1, c2, c3, if_false, if_true, e1, e2, e3]
      refine mkS R eX (fX5_were _ _ _ _ _ eX) (by decide) (by decide) r3 (invR R.1 (by simp)) (fun hM => ?_) (fun q e => fX6_were h3 (nI i) w v q e) (by decide) (by decide)
      obtain ⟨m1, t1⟩ := hM.thr 0
      obtain ⟨h4, e4, m4, w4⟩ := m1.works hn
      obtain ⟨h5, e5, m5⟩ := M_becomes (w := w) (v := v) m4.1.1 hn hi'
      have F5 := fX6_becomes _ _ _ _ _ e5
      obtain ⟨h6, e6, w6, m6⟩ := M_works (h := h5) (n := (stS S i w v).1) (F := (stS S i w v).2.1) (T := (stS S i w v).2.2.1) (C := (stS S i w v).2.2.2.1) (g := S.2.2.2.2) m5 hn
      have F6 := fX6_works _ _ e6
      obtain ⟨h7, e7, m7⟩ := M_becomes (S := stS S i w v) (w := w) (v := vAt S i w) m6 hn hi'
      have F7 := fX6_becomes _ _ _ _ _ e7
      have M7 : RM h7 S Ms tx row := ⟨⟨MS.ext (F := (stS (stS S i w v) i w (vAt S i w)).2.1) (T := (stS (stS S i w v) i w (vAt S i w)).2.2.1) (C := (stS (stS S i w v) i w (vAt S i w)).2.2.2.1) m7 (fun j _ => stS_back S i hw j), fun s hs => (((m4.1.2 s hs).fr F5 (by decide)).fr F6 (by decide)).fr F7 (by decide)⟩, ((m4.2.1.fr F5 (by decide)).fr F6 (by decide)).fr F7 (by decide), ((m4.2.2.fr F5 (by decide) (by decide)).fr F6 (by decide) (by decide)).fr F7 (by decide) (by decide)⟩
      obtain ⟨m8, F8⟩ := M7.row0
      have b1 : (u1 h7 54 1 0).1 54 19 = coo (stS S i w v).1 (stS S i w v).2.1 (stS S i w v).2.2.1 (stS S i w v).2.2.2.1 S.2.2.2.2 := (F8.f (by decide)).trans ((F7.f (by decide)).trans w6.2.2.2.2)
      obtain ⟨h9, e9, m9, F9⟩ := m8.ent (by simp) (coo (stS S i w v).1 (stS S i w v).2.1 (stS S i w v).2.2.1 (stS S i w v).2.2.2.1 S.2.2.2.2).toInt64
      have b2 : h9.1 54 18 = fue (stS S i w v).1 (stS S i w v).2.1 (stS S i w v).2.2.1 (stS S i w v).2.2.2.1 S.2.2.2.2 := (F9.f (by decide)).trans ((F8.f (by decide)).trans ((F7.f (by decide)).trans w6.2.2.2.1))
      obtain ⟨h10, e10, m10, F10⟩ := m9.ent (by simp) (fue (stS S i w v).1 (stS S i w v).2.1 (stS S i w v).2.2.1 (stS S i w v).2.2.2.1 S.2.2.2.2 - fue S.1 S.2.1 S.2.2.1 S.2.2.2.1 S.2.2.2.2).toInt64
      have b3 : h10.1 54 18 = fue (stS S i w v).1 (stS S i w v).2.1 (stS S i w v).2.2.1 (stS S i w v).2.2.2.1 S.2.2.2.2 := (F10.f (by decide)).trans b2
      refine ⟨h10, ?_, m10⟩
      simp only [sX6_were, nm, M_canSet m1.1.1 hn, Option.bind_some, cM, if_false, M_wouldTurn m1.1.1 hn hi', c3, if_true, e4, w4.2.2.2.1, M_of m4.1.1 hn hi', e5, e6, e7, b1, e9, b2, e10, b3]
  · have xh : sX1_has h 6 a = some (bI (0 ≤ a ∧ a < nI S.1), h) := X_has (by decide) X.1.1 _
    have eX : sX5_were h a w v = some (-1, h) := by
      simp only [sX5_were, sX5_were_c19, xh, X_isValue, Option.bind_some, bI_z]
      by_cases d : 0 ≤ a ∧ a < nI S.1
      · rw [if_neg (fun q => q d), if_pos (fun q => c ⟨d, q⟩)]
      · rw [if_pos d]
    have cM : bI ((0 ≤ a ∧ a < nI S.1) ∧ vOk w v) = 0 := by rw [bI_z]; exact c
    refine mkS (S' := S) (Ms' := Ms) R eX (fX5_were _ _ _ _ _ eX) (by decide) (by decide) X R.1 (fun hM => ?_) (fun q e => fX6_were h a w v q e) (by decide) (by decide)
    obtain ⟨m1, t1⟩ := hM.thr 0
    exact ⟨u1 h 54 0 0, by simp only [sX6_were, nm, M_canSet m1.1.1 hn, Option.bind_some, cM, if_true], m1⟩
def fw (S : SS) (i : Nat) : Int32 := fue (dr S i).1 (dr S i).2.1 (dr S i).2.2.1 (dr S i).2.2.2.1 S.2.2.2.2
def bst (S : SS) : Nat → Nat
  | 0 => 0
  | k + 1 => if fw S (k + 1) < fw S (bst S k) then k + 1 else bst S k
theorem bst_le (S : SS) : ∀ k, bst S k ≤ k
  | 0 => Nat.le_refl 0
  | k + 1 => by
    have := bst_le S k
    unfold bst
    split <;> omega
theorem op_dearest (R : Rel h S Ms tx row) : Step sX5_dearest sX6_dearest h := by
  have ok := R.1.1
  have X := R.2.1
  have hn := ok.1
  by_cases z : S.1 = 0
  · have z1 := (z0 (show S.1 ≤ 100000 by omega)).mpr z
    have eX : sX5_dearest h = some (-2, h) := by simp only [sX5_dearest, X.1.1.1, z1, if_true]
    refine mkS (S' := S) (Ms' := Ms) R eX (fX5_dearest _ _ eX) (by decide) (by decide) X R.1 (fun hM => ?_) (fX6_dearest h) (by decide) (by decide)
    obtain ⟨m1, t1⟩ := hM.thr 0
    exact ⟨u1 h 54 0 0, by simp only [sX6_dearest, nm, m1.1.1.1, z1, if_true], m1⟩
  · have z1 : ¬ nI S.1 = 0 := fun q => z ((z0 (by omega)).mp q)
    have bl := bst_le S (S.1 - 1)
    have key : ∃ q : Int32 × Hp, sX5_dearest_b19 FU h (-1) 0 0 = some q ∧ q.1 = nI (bst S (S.1 - 1)) ∧ RX q.2 S Ms tx [(fw S (bst S (S.1 - 1))).toInt64] := by
      refine loopI (fun m (s : Hp × Int32 × Int32 × Int32) => sX5_dearest_b19 m s.1 s.2.1 s.2.2.1 s.2.2.2) (fun i s => RX s.1 S Ms tx row ∧ s.2.2.2 = nI i ∧ ((i = 0 ∧ s.2.1 = -1) ∨ (0 < i ∧ s.2.1 = nI (bst S (i - 1)) ∧ s.2.2.1 = fw S (bst S (i - 1))))) S.1 (fun q : Int32 × Hp => q.1 = nI (bst S (S.1 - 1)) ∧ RX q.2 S Ms tx [(fw S (bst S (S.1 - 1))).toInt64]) (by omega) (h, -1, 0, 0) ⟨X, rfl, Or.inl ⟨rfl, rfl⟩⟩ (fun m i s hi' I => ?_) (fun m s I => ?_)
      · obtain ⟨h1, v1, v2, v3⟩ := s
        obtain ⟨X1, i2, i3⟩ := I
        dsimp only at X1 i2 i3
        subst i2
        have c1 : ¬ nI S.1 ≤ nI i := by rw [le_n (by omega) (by omega)]; omega
        obtain ⟨h2, e2, p2⟩ := P_copy (r := 11) (a := 6) (by decide) (by decide) (by decide) X1.1.1 hn
        have X2 := X1.fr0 (fX1_copy _ _ _ _ e2) (by decide) (by decide)
        obtain ⟨h3, e3, p3⟩ := P_remove (r := 11) (by decide) p2 hn hi'
        have X3 := X2.fr0 (fX1_remove _ _ _ _ e3) (by decide) (by decide)
        obtain ⟨h4, e4, w4⟩ := C_work (h := h3) (r := 21) (a := 11) (n := (dr S i).1) (F := (dr S i).2.1) (T := (dr S i).2.2.1) (C := (dr S i).2.2.2.1) (g := S.2.2.2.2) (by decide) (by decide) p3 (okDr ok hi')
        have X4 := X3.fr0 (fX0_work _ _ _ _ _ e4) (by decide) (by decide)
        have b1 : h4.1 21 5 = fw S i := w4.2.2.2
        have base : sX5_dearest_c19 (sX5_dearest_b19 m) h1 v1 v2 (nI i) = if v1 = -1 then sX5_dearest_b19 m h4 (nI i) (fw S i) (nI (i + 1)) else (if v2 ≤ fw S i then sX5_dearest_b19 m h4 v1 v2 (nI (i + 1)) else sX5_dearest_b19 m h4 (nI i) (fw S i) (nI (i + 1))) := by
          simp only [sX5_dearest_c19, sX5_dearest_c80, sX5_dearest_c90, X1.1.1.1, c1, if_false, e2, e3, X3.1.2.1, e4, Option.bind_some, b1, nm, nI_1]
        rcases i3 with ⟨rfl, rfl⟩ | ⟨i3, rfl, rfl⟩
        · refine ⟨(h4, nI 0, fw S 0, nI 1), ⟨X4, rfl, Or.inr ⟨by omega, rfl, rfl⟩⟩, ?_⟩
          show sX5_dearest_c19 (sX5_dearest_b19 m) h1 (-1) v2 (nI 0) = _
          rw [base, if_pos rfl]
        · have bl2 := bst_le S (i - 1)
          have n1 : ¬ nI (bst S (i - 1)) = -1 := by
            rw [eq_tI, tI_n (by omega)]
            show ¬ ((bst S (i - 1) : Int) = -1)
            omega
          by_cases d : fw S i < fw S (bst S (i - 1))
          · refine ⟨(h4, nI i, fw S i, nI (i + 1)), ⟨X4, rfl, Or.inr ⟨by omega, ?_, ?_⟩⟩, ?_⟩
            · show nI i = nI (bst S (i + 1 - 1))
              rw [Nat.add_sub_cancel]
              obtain ⟨j, rfl⟩ : ∃ j, i = j + 1 := ⟨i - 1, by omega⟩
              rw [Nat.add_sub_cancel] at d
              show _ = nI (bst S (j + 1))
              unfold bst
              rw [if_pos d]
            · show fw S i = fw S (bst S (i + 1 - 1))
              rw [Nat.add_sub_cancel]
              obtain ⟨j, rfl⟩ : ∃ j, i = j + 1 := ⟨i - 1, by omega⟩
              rw [Nat.add_sub_cancel] at d
              have : bst S (j + 1) = j + 1 := by
                show (if _ then _ else _) = _
                rw [if_pos d]
              rw [this]
            · show sX5_dearest_c19 (sX5_dearest_b19 m) h1 _ _ (nI i) = _
              rw [base, if_neg n1, if_neg (by grind)]
          · refine ⟨(h4, nI (bst S (i - 1)), fw S (bst S (i - 1)), nI (i + 1)), ⟨X4, rfl, Or.inr ⟨by omega, ?_, ?_⟩⟩, ?_⟩
            · show nI (bst S (i - 1)) = nI (bst S (i + 1 - 1))
              rw [Nat.add_sub_cancel]
              obtain ⟨j, rfl⟩ : ∃ j, i = j + 1 := ⟨i - 1, by omega⟩
              rw [Nat.add_sub_cancel] at d ⊢
              have : bst S (j + 1) = bst S j := by
                show (if _ then _ else _) = _
                rw [if_neg d]
              rw [this]
            · show fw S (bst S (i - 1)) = fw S (bst S (i + 1 - 1))
              rw [Nat.add_sub_cancel]
              obtain ⟨j, rfl⟩ : ∃ j, i = j + 1 := ⟨i - 1, by omega⟩
              rw [Nat.add_sub_cancel] at d ⊢
              have : bst S (j + 1) = bst S j := by
                show (if _ then _ else _) = _
                rw [if_neg d]
              rw [this]
            · show sX5_dearest_c19 (sX5_dearest_b19 m) h1 _ _ (nI i) = _
              rw [base, if_neg n1, if_pos (by grind)]
      · obtain ⟨h1, v1, v2, v3⟩ := s
        obtain ⟨X1, i2, i3⟩ := I
        dsimp only at X1 i2 i3
        subst i2
        rcases i3 with ⟨q, -⟩ | ⟨-, rfl, rfl⟩
        · exact absurd q z
        · have c1 : nI S.1 ≤ nI S.1 := by rw [le_n (by omega) (by omega)]; omega
          obtain ⟨h2, e2, r2⟩ := X1.tell1 (fw S (bst S (S.1 - 1))).toInt64
          refine ⟨(nI (bst S (S.1 - 1)), h2), ?_, rfl, r2⟩
          show sX5_dearest_c19 (sX5_dearest_b19 m) h1 _ _ (nI S.1) = _
          simp only [sX5_dearest_c19, X1.1.1.1, c1, if_true, e2, Option.bind_some]
    obtain ⟨⟨v, hx⟩, e1, e2, r1⟩ := key
    dsimp only at e2 r1
    subst e2
    have eX : sX5_dearest h = some (nI (bst S (S.1 - 1)), hx) := by simp only [sX5_dearest, X.1.1.1, z1, if_false, e1]
    refine mkS (S' := S) (Ms' := Ms) R eX (fX5_dearest _ _ eX) (by decide) (by decide) r1 (invR R.1 (by simp)) (fun hM => ?_) (fX6_dearest hx) (by decide) (by decide)
    obtain ⟨m1, t1⟩ := hM.thr 0
    have key : ∃ q : Int32 × Hp, sX6_dearest_b19 FU (u1 hx 54 0 0) 0 1 = some q ∧ q.1 = nI (bst S (S.1 - 1)) ∧ RM q.2 S Ms tx [(fw S (bst S (S.1 - 1))).toInt64] := by
      refine loopI (fun m (s : Hp × Int32 × Int32) => sX6_dearest_b19 m s.1 s.2.1 s.2.2) (fun i s => RM s.1 S Ms tx row ∧ s.2.2 = nI (i + 1) ∧ s.2.1 = nI (bst S i)) (S.1 - 1) (fun q : Int32 × Hp => q.1 = nI (bst S (S.1 - 1)) ∧ RM q.2 S Ms tx [(fw S (bst S (S.1 - 1))).toInt64]) (by omega) (u1 hx 54 0 0, 0, 1) ⟨m1, rfl, rfl⟩ (fun m i s hi' I => ?_) (fun m s I => ?_)
      · obtain ⟨h1, v1, v2⟩ := s
        obtain ⟨M1, i2, i3⟩ := I
        dsimp only at M1 i2 i3
        subst i2
        subst i3
        have bl2 := bst_le S i
        have c1 : ¬ nI S.1 ≤ nI (i + 1) := by rw [le_n (by omega) (by omega)]; omega
        obtain ⟨h2, e2, M2, -⟩ := M_fuelWithout ok M1 (show i + 1 < S.1 by omega)
        obtain ⟨h3, e3, M3, -⟩ := M_fuelWithout ok M2 (show bst S i < S.1 by omega)
        have e2' : sX6_fuelWithout h1 (nI (i + 1)) = some (fw S (i + 1), h2) := e2
        have e3' : sX6_fuelWithout h2 (nI (bst S i)) = some (fw S (bst S i), h3) := e3
        refine ⟨(h3, nI (bst S (i + 1)), nI (i + 1 + 1)), ⟨M3, rfl, rfl⟩, ?_⟩
        show sX6_dearest_c19 (sX6_dearest_b19 m) h1 (nI (bst S i)) (nI (i + 1)) = sX6_dearest_b19 m h3 (nI (bst S (i + 1))) (nI (i + 1 + 1))
        simp only [sX6_dearest_c19, sX6_dearest_c45, M1.1.1.1, c1, if_false, e2', e3', Option.bind_some, nm, nI_1]
        by_cases d : fw S (i + 1) < fw S (bst S i)
        · rw [if_neg (by grind), show bst S (i + 1) = i + 1 from if_pos d]
        · rw [if_pos (by grind), show bst S (i + 1) = bst S i from if_neg d]
      · obtain ⟨h1, v1, v2⟩ := s
        obtain ⟨M1, i2, i3⟩ := I
        dsimp only at M1 i2 i3
        have q : S.1 - 1 + 1 = S.1 := by omega
        rw [q] at i2
        subst i2
        subst i3
        have c1 : nI S.1 ≤ nI S.1 := by rw [le_n (by omega) (by omega)]; omega
        obtain ⟨M2, F2⟩ := M1.row0
        obtain ⟨h3, e3, M3, -⟩ := M_fuelWithout ok M2 (show bst S (S.1 - 1) < S.1 by omega)
        have e3' : sX6_fuelWithout (u1 h1 54 1 0) (nI (bst S (S.1 - 1))) = some (fw S (bst S (S.1 - 1)), h3) := e3
        obtain ⟨h4, e4, M4, F4⟩ := M3.ent (by simp) (fw S (bst S (S.1 - 1))).toInt64
        refine ⟨(nI (bst S (S.1 - 1)), h4), ?_, rfl, M4⟩
        show sX6_dearest_c19 (sX6_dearest_b19 m) h1 _ (nI S.1) = _
        simp only [sX6_dearest_c19, M1.1.1.1, c1, if_true, nm, e3', e4, Option.bind_some]
    obtain ⟨⟨v, hm⟩, e3, e4, r3⟩ := key
    dsimp only at e4 r3
    subst e4
    exact ⟨hm, by simp only [sX6_dearest, nm, m1.1.1.1, z1, if_false, e3], r3⟩
end O6
