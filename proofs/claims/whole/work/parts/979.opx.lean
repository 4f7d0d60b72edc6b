/-! calls that may throw, on both sides; count -/
def StepX (X : Hp → Option RXv) (M : Hp → Option (Int32 × Hp)) (h : Hp) : Prop := ∃ q, X h = some q ∧ ((q.1 = none ∧ ∃ r hm S Ms tx row, M q.2 = some (r, hm) ∧ hm.1 54 0 = 1 ∧ Rel hm S Ms tx row) ∨ ∃ x : Int32, q.1 = some (.int x) ∧ ∃ hm S Ms tx row, M (u2 q.2 0 0 x.toInt64) = some (x, hm) ∧ hm.1 54 0 = 0 ∧ hm.2 0 0 = x.toInt64 ∧ Rel hm S Ms tx row)
def StepL (X : Hp → Option RXv) (M : Hp → Option (Int64 × Hp)) (h : Hp) : Prop := ∃ q, X h = some q ∧ ((q.1 = none ∧ ∃ r hm S Ms tx row, M q.2 = some (r, hm) ∧ hm.1 54 0 = 1 ∧ Rel hm S Ms tx row) ∨ ∃ x : Int64, q.1 = some (.long x) ∧ ∃ hm S Ms tx row, M (u2 q.2 0 0 x) = some (x, hm) ∧ hm.1 54 0 = 0 ∧ hm.2 0 0 = x ∧ Rel hm S Ms tx row)
section OX
variable {h : Hp} {S : SS} {Ms : Nat → Mt} {tx : List Int32} {row : List Int64} {s : Nat}
theorem RX.out (hR : RX h S Ms tx row) (v : Int64) : RX (u2 h 0 0 v) S Ms tx row := by
  have F : Fr [] [0] h (u2 h 0 0 v) := Fr.w2 Fr.rf rfl (by simp)
  exact ⟨hR.1.fr F (by decide), hR.2.1.fr F (by decide), hR.2.2.fr F (by decide) (by decide)⟩
theorem RM.out (hR : RM h S Ms tx row) (v : Int64) : RM (u2 h 0 0 v) S Ms tx row := by
  have F : Fr [] [0] h (u2 h 0 0 v) := Fr.w2 Fr.rf rfl (by simp)
  exact ⟨hR.1.fr F (by decide), hR.2.1.fr F (by decide), hR.2.2.fr F (by decide) (by decide)⟩
theorem mkX0 {X : Hp → Option RXv} {M : Hp → Option (Int32 × Hp)} {W' : List (Nat × Option Nat)} {Z' : List Nat} (R : Rel h S Ms tx row) (eX : X h = some (none, h)) (eM : RM h S Ms tx row → ∃ r hm, M h = some (r, hm) ∧ hm.1 54 0 = 1 ∧ RM hm S Ms tx row) (FM : ∀ q, M h = some q → Fr W' Z' h q.2) (hw' : W'.all (fun w => decide (54 ≤ w.1)) = true) (hz' : Z'.all (fun z => z != 5) = true) : StepX X M h := by
  obtain ⟨r, hm, e1, e2, e3⟩ := eM R.2.2
  exact ⟨(none, h), eX, Or.inl ⟨rfl, r, hm, S, Ms, tx, row, e1, e2, asm R.1 R.2.1 e3 (FM _ e1) hw' hz'⟩⟩
theorem mkX1 {X : Hp → Option RXv} {M : Hp → Option (Int32 × Hp)} {hx : Hp} {row' : List Int64} {x : Int32} {W W' : List (Nat × Option Nat)} {Z Z' : List Nat} (R : Rel h S Ms tx row) (eX : X h = some (some (.int x), hx)) (FX : Fr W Z h hx) (hw : W.all (fun w => decide (w.1 < 54)) = true) (hz : Z.all (fun z => z != 55) = true) (rX : RX hx S Ms tx row') (I' : Inv S Ms tx row') (eM : RM (u2 hx 0 0 x.toInt64) S Ms tx row → ∃ hm, M (u2 hx 0 0 x.toInt64) = some (x, hm) ∧ hm.1 54 0 = 0 ∧ RM hm S Ms tx row') (FM : ∀ q, M (u2 hx 0 0 x.toInt64) = some q → Fr W' Z' (u2 hx 0 0 x.toInt64) q.2) (hw' : W'.all (fun w => decide (54 ≤ w.1)) = true) (hz' : Z'.all (fun z => z != 5) = true) (h0 : 0 ∉ Z') : StepX X M h := by
  obtain ⟨hm, e1, e2, e3⟩ := eM ((R.2.2.frX FX hw hz).out _)
  have F := FM _ e1
  refine ⟨(some (.int x), hx), eX, Or.inr ⟨x, rfl, hm, S, Ms, tx, row', e1, e2, ?_, asm I' (rX.out _) e3 F hw' hz'⟩⟩
  rw [F.2 0 h0, rd2, if_pos ⟨rfl, rfl⟩]
theorem mkL0 {X : Hp → Option RXv} {M : Hp → Option (Int64 × Hp)} {W' : List (Nat × Option Nat)} {Z' : List Nat} (R : Rel h S Ms tx row) (eX : X h = some (none, h)) (eM : RM h S Ms tx row → ∃ r hm, M h = some (r, hm) ∧ hm.1 54 0 = 1 ∧ RM hm S Ms tx row) (FM : ∀ q, M h = some q → Fr W' Z' h q.2) (hw' : W'.all (fun w => decide (54 ≤ w.1)) = true) (hz' : Z'.all (fun z => z != 5) = true) : StepL X M h := by
  obtain ⟨r, hm, e1, e2, e3⟩ := eM R.2.2
  exact ⟨(none, h), eX, Or.inl ⟨rfl, r, hm, S, Ms, tx, row, e1, e2, asm R.1 R.2.1 e3 (FM _ e1) hw' hz'⟩⟩
theorem mkL1 {X : Hp → Option RXv} {M : Hp → Option (Int64 × Hp)} {x : Int64} {W' : List (Nat × Option Nat)} {Z' : List Nat} (R : Rel h S Ms tx row) (eX : X h = some (some (.long x), h)) (eM : RM (u2 h 0 0 x) S Ms tx row → ∃ hm, M (u2 h 0 0 x) = some (x, hm) ∧ hm.1 54 0 = 0 ∧ RM hm S Ms tx row) (FM : ∀ q, M (u2 h 0 0 x) = some q → Fr W' Z' (u2 h 0 0 x) q.2) (hw' : W'.all (fun w => decide (54 ≤ w.1)) = true) (hz' : Z'.all (fun z => z != 5) = true) (h0 : 0 ∉ Z') : StepL X M h := by
  obtain ⟨hm, e1, e2, e3⟩ := eM (R.2.2.out _)
  have F := FM _ e1
  refine ⟨(some (.long x), h), eX, Or.inr ⟨x, rfl, hm, S, Ms, tx, row, e1, e2, ?_, asm R.1 (R.2.1.out _) e3 F hw' hz'⟩⟩
  rw [F.2 0 h0, rd2, if_pos ⟨rfl, rfl⟩]
theorem fl0 (h : Hp) : sX6_flag h 0 = some (0, h) := M_flag h (Or.inl rfl)
theorem fl1 (h : Hp) : sX6_flag h 1 = some (1, h) := M_flag h (Or.inr rfl)
theorem n10 : ¬ (0 : Int32) = 1 := by decide
theorem len_in {x : Int32} {n : Nat} (hn : n ≤ 1000) : bI ((0 : Int64).toInt ≤ x.toInt ∧ x.toInt ≤ ((nI n - 1).toInt64).toInt) = bI (0 ≤ x ∧ x < nI n) := bI_cg (by
  have e : ((nI n - 1).toInt64).toInt = (n : Int) - 1 := by
    rw [tL_i, tI_sub, tI_n (by omega)]
    · rfl
    · rw [tI_n (by omega)]; show -2147483648 ≤ (n : Int) - 1; omega
    · rw [tI_n (by omega)]; show (n : Int) - 1 < 2147483648; omega
  rw [e, le_tI, lt_tI, tI_n (by omega), tI0]
  show (0 : Int) ≤ _ ∧ _ ↔ _
  omega)
theorem op_row (R : Rel h S Ms tx row) (a : Int32) : StepL (fun h => sX5_row h a) (fun h => sX6_row h a) h := by
  have X := R.2.1
  have hl := R.1.2.2.2
  have w0 := X.2.2.1
  by_cases c : 0 ≤ a ∧ a < nI row.length
  · obtain ⟨k, hk, rfl⟩ := mat_cs hl c
    have eX : sX5_row h (nI k) = some (some (.long (row.getD k 0)), h) := by
      unfold sX5_row
      rw [if_neg (by grind), w0, if_pos c.2, gd_in (show k < 24 by omega) (show 24 ≤ 1000 by decide), cl_n (show k ≤ 100000 by omega), X.2.2.2 k hk]
    refine mkL1 R eX (fun hM => ?_) (fun q e => fX6_row _ _ q e) (by decide) (by decide) (by decide)
    obtain ⟨m1, F1⟩ := hM.thr 0
    refine ⟨_, ?_, rd1s, m1⟩
    have c1 : ¬ bI (0 ≤ nI k ∧ nI k < nI row.length) = 0 := by rw [bI_z]; exact fun q => q c
    show sX6_row (u2 h 0 0 (row.getD k 0)) (nI k) = _
    unfold sX6_row
    rw [hM.2.2.1, bd_t (M_inI _ _ _ _)]
    dsimp only
    rw [len_in (by omega), if_neg c1]
    unfold sX6_row_c22 sX6_row_c46
    rw [bd_t (fl0 _)]
    dsimp only
    rw [nm_t rfl, rd1s, if_neg n10, gd_in (show k < 64 by omega) (show 64 ≤ 1000 by decide), cl_n (show k ≤ 100000 by omega), m1.2.2.2 k hk]
  · have eX : sX5_row h a = some (none, h) := by
      unfold sX5_row sX5_row_c15
      rw [w0]
      by_cases c1 : a < 0
      · rw [if_pos c1]
      · rw [if_neg c1, if_neg (by grind)]
    refine mkL0 R eX (fun hM => ?_) (fun q e => fX6_row _ _ q e) (by decide) (by decide)
    obtain ⟨m1, F1⟩ := hM.thr 1
    refine ⟨0, _, ?_, rd1s, m1⟩
    have c1 : bI (0 ≤ a ∧ a < nI row.length) = 0 := bI_z.mpr c
    show sX6_row h a = _
    unfold sX6_row
    rw [hM.2.2.1, bd_t (M_inI _ _ _ _)]
    dsimp only
    rw [len_in (by omega), if_pos c1]
    unfold sX6_row_c22 sX6_row_c46
    rw [bd_t (fl1 _)]
    dsimp only
    rw [nm_t rfl, rd1s, if_pos rfl]
theorem op_stream (R : Rel h S Ms tx row) (a b : Int32) : StepX (fun h => sX5_stream h a b) (fun h => sX6_stream h a b) h := by
  have ok := R.1.1
  have X := R.2.1
  have hn := ok.1
  have PX := X.1.1
  have e4 : bI ((0 : Int64).toInt ≤ b.toInt ∧ b.toInt ≤ (4 : Int64).toInt) = bI (0 ≤ b ∧ b ≤ 4) := bI_cg (by rw [le_tI, le_tI, tI0]; show (0 : Int) ≤ _ ∧ _ ≤ 4 ↔ (0 : Int) ≤ _ ∧ _ ≤ 4; exact Iff.rfl)
  by_cases c : (0 ≤ a ∧ a < nI S.1) ∧ (0 ≤ b ∧ b ≤ 4)
  · obtain ⟨ca, cb⟩ := c
    obtain ⟨i, hi', rfl⟩ := str_cs hn ca
    have c1 : ¬ bI (0 ≤ nI i ∧ nI i < nI S.1) = 0 := by rw [bI_z]; exact fun q => q ca
    have c2 : ¬ bI (0 ≤ b ∧ b ≤ 4) = 0 := by rw [bI_z]; exact fun q => q cb
    obtain ⟨x, ex, em⟩ : ∃ x, sX5_stream h (nI i) b = some (some (.int x), h) ∧ ∀ k, MQS k S → (if b = 0 then ((sX6_isHot k (nI i)).bind fun q7 => (sX6_flag q7.2 q7.1).bind fun q8 => sX6_stream_c78 q8.2 q8.1) else (if b = (4 : Int32) then ((sX6_heatOf k (nI i)).bind fun q6 => sX6_stream_c78 q6.2 q6.1) else ((sX6_of k (nI i) (b - (1 : Int32))).bind fun q5 => sX6_stream_c78 q5.2 q5.1))) = some (x, k) := by
      by_cases b0 : b = 0
      · refine ⟨hb S.2.1 S.2.2.1 i, ?_, fun k hk => ?_⟩
        · unfold sX5_stream sX5_stream_c51
          rw [bd_t (X_has (by decide) PX _)]
          dsimp only
          rw [if_neg c1, if_neg (by grind), if_pos cb.2, if_pos b0, gd_in (show i < 10 by omega) (show 10 ≤ 1000 by decide), cl_n (show i ≤ 100000 by omega), (PX.2 i hi').1]
          rcases hb01 S.2.1 S.2.2.1 i with z | z
          · rw [z, if_pos rfl]
          · rw [z, if_neg (by decide)]
        · rw [if_pos b0, bd_t (M_isHot hk hn hi')]
          dsimp only
          rw [bd_t (M_flag _ (hb01 _ _ _))]
          rfl
      · by_cases b4 : b = 4
        · refine ⟨S.2.2.2.1 i * (hi S.2.1 S.2.2.1 i - lo S.2.1 S.2.2.1 i), ?_, fun k hk => ?_⟩
          · unfold sX5_stream sX5_stream_c79
            rw [bd_t (X_has (by decide) PX _)]
            dsimp only
            rw [if_neg c1, if_neg (by grind), if_pos cb.2, if_neg b0, if_pos b4, bd_t (P_heatOf (by decide) PX hn hi')]
          · rw [if_neg b0, if_pos b4, bd_t (M_heatOf hk hn hi')]
            rfl
        · have bw : b - 1 = 0 ∨ b - 1 = 1 ∨ b - 1 = 2 := by
            have h1 := cb.1
            have h2 := cb.2
            rw [le_tI, tI0] at h1
            rw [le_tI] at h2
            rw [eq_tI, tI0] at b0
            rw [eq_tI] at b4
            have e4' : (4 : Int32).toInt = 4 := rfl
            have e1' : (1 : Int32).toInt = 1 := rfl
            have e2' : (2 : Int32).toInt = 2 := rfl
            rw [e4'] at h2 b4
            have es : (b - 1).toInt = b.toInt - 1 := tI_sub (by rw [e1']; omega) (by rw [e1']; omega)
            rw [eq_tI, eq_tI, eq_tI, es, tI0, e1', e2']
            omega
          refine ⟨vAt S i (b - 1), ?_, fun k hk => ?_⟩
          · unfold sX5_stream sX5_stream_c79
            rw [bd_t (X_has (by decide) PX _)]
            dsimp only
            rw [if_neg c1, if_neg (by grind), if_pos cb.2, if_neg b0, if_neg b4, bd_t (X_value (by decide) PX hn hi' bw)]
          · rw [if_neg b0, if_neg b4, bd_t (M_of hk hn hi' _)]
            rfl
    refine mkX1 (row' := row) R ex (fX5_stream _ _ _ _ ex) (by decide) (by decide) X R.1 (fun hM => ?_) (fun q e => fX6_stream _ _ _ q e) (by decide) (by decide) (by decide)
    obtain ⟨m1, F1⟩ := hM.thr 0
    refine ⟨_, ?_, rd1s, m1⟩
    show sX6_stream (u2 h 0 0 x.toInt64) (nI i) b = _
    unfold sX6_stream
    rw [bd_t (M_isStream hM.1.1 hn _)]
    dsimp only
    rw [if_neg c1, bd_t (M_inI _ _ _ _)]
    dsimp only
    rw [e4, if_neg c2]
    unfold sX6_stream_c26
    rw [bd_t (fl0 _)]
    dsimp only
    rw [nm_t rfl, rd1s, if_neg n10]
    exact em _ m1.1.1
  · have eX : sX5_stream h a b = some (none, h) := by
      unfold sX5_stream sX5_stream_c20
      rw [bd_t (X_has (by decide) PX _)]
      dsimp only
      by_cases ca : 0 ≤ a ∧ a < nI S.1
      · rw [if_neg (by rw [bI_z]; exact fun q => q ca)]
        by_cases cb : b < 0
        · rw [if_pos cb]
        · rw [if_neg cb, if_neg (by grind)]
      · rw [if_pos (bI_z.mpr ca)]
    refine mkX0 R eX (fun hM => ?_) (fun q e => fX6_stream _ _ _ q e) (by decide) (by decide)
    obtain ⟨m1, F1⟩ := hM.thr 1
    have e26 : sX6_stream_c26 h a b 1 = some (0, u1 h 54 0 1) := by
      unfold sX6_stream_c26
      rw [bd_t (fl1 _)]
      dsimp only
      rw [nm_t rfl, rd1s, if_pos rfl]
    refine ⟨0, _, ?_, rd1s, m1⟩
    show sX6_stream h a b = _
    unfold sX6_stream sX6_stream_c21
    rw [bd_t (M_isStream hM.1.1 hn _)]
    dsimp only
    by_cases ca : 0 ≤ a ∧ a < nI S.1
    · rw [if_neg (by rw [bI_z]; exact fun q => q ca), bd_t (M_inI _ _ _ _)]
      dsimp only
      rw [e4, if_pos (bI_z.mpr (fun q => c ⟨ca, q⟩))]
      exact e26
    · rw [if_pos (bI_z.mpr ca)]
      exact e26
theorem op_border (R : Rel h S Ms tx row) (a : Int32) : StepX (fun h => sX5_border h a) (fun h => sX6_border h a) h := by
  have ok := R.1.1
  have X := R.2.1
  have hn := ok.1
  have CX := X.1.2.2.1
  have hl := BLs_len S.2.1 S.2.2.1 S.2.2.2.2 S.1
  have hs := CX.1
  by_cases c : 0 ≤ a ∧ a < nI (BLs S.2.1 S.2.2.1 S.2.2.2.2 S.1).length
  · obtain ⟨k, hk, rfl⟩ := mat_cs (show (BLs S.2.1 S.2.2.1 S.2.2.2.2 S.1).length ≤ 24 by omega) c
    obtain ⟨q1, q2, q3⟩ := CX.2.2.1 k hk
    obtain ⟨h1, e1, r1⟩ := X.tell4 (car S.1 S.2.1 S.2.2.1 S.2.2.2.1 S.2.2.2.2 k + fue S.1 S.2.1 S.2.2.1 S.2.2.2.1 S.2.2.2.2).toInt64 (sur S.1 S.2.1 S.2.2.1 S.2.2.2.1 S.2.2.2.2 k).toInt64 (hcp S.1 S.2.1 S.2.2.1 S.2.2.2.1 S.2.2.2.2 k).toInt64 (ccp S.1 S.2.1 S.2.2.1 S.2.2.2.1 S.2.2.2.2 k).toInt64
    have eX : sX5_border h (nI k) = some (some (.int ((BLs S.2.1 S.2.2.1 S.2.2.2.2 S.1).getD k 0)), h1) := by
      unfold sX5_border
      rw [if_neg (by grind), hs, if_pos c.2, gd_in (show k < 20 by omega) (show 20 ≤ 1000 by decide), bd_t (C_surplusOf (r := 16) (by decide) hn hs CX.2.1 hk q2 q3)]
      dsimp only
      rw [gd_in (show k < 20 by omega) (show 20 ≤ 1000 by decide), gd_in (show k < 20 by omega) (show 20 ≤ 1000 by decide), cl_n (show k ≤ 100000 by omega), q1, q2, q3, bd_t e1, gd_in (show k < 20 by omega) (show 20 ≤ 1000 by decide), r1.1.2.2.1.2.1 k hk]
    refine mkX1 R eX (fX5_border _ _ _ eX) (by decide) (by decide) r1 (invR R.1 (by simp)) (fun hM => ?_) (fun q e => fX6_border _ _ q e) (by decide) (by decide) (by decide)
    obtain ⟨h2, o2, m2, w2⟩ := hM.works hn
    obtain ⟨m3, F3⟩ := m2.thr 0
    obtain ⟨m4, F4⟩ := m3.row0
    obtain ⟨h5, o5, m5, F5⟩ := m4.ent (by simp) (car S.1 S.2.1 S.2.2.1 S.2.2.2.1 S.2.2.2.2 k + fue S.1 S.2.1 S.2.2.1 S.2.2.2.1 S.2.2.2.2).toInt64
    obtain ⟨h6, o6, m6, F6⟩ := m5.ent (by simp) (sur S.1 S.2.1 S.2.2.1 S.2.2.2.1 S.2.2.2.2 k).toInt64
    obtain ⟨h7, o7, m7, F7⟩ := m6.ent (by simp) (hcp S.1 S.2.1 S.2.2.1 S.2.2.2.1 S.2.2.2.2 k).toInt64
    obtain ⟨h8, o8, m8, F8⟩ := m7.ent (by simp) (ccp S.1 S.2.1 S.2.2.1 S.2.2.2.1 S.2.2.2.2 k).toInt64
    have b3 : (u1 h2 54 0 0).1 54 17 = nI (BLs S.2.1 S.2.2.1 S.2.2.2.2 S.1).length := (F3.f (by decide)).trans w2.1
    have a4 : (u1 (u1 h2 54 0 0) 54 1 0).1 64 k = car S.1 S.2.1 S.2.2.1 S.2.2.2.1 S.2.2.2.2 k + fue S.1 S.2.1 S.2.2.1 S.2.2.2.1 S.2.2.2.2 := (F4.c (by decide) k).trans ((F3.c (by decide) k).trans (w2.2.2.1 k hk))
    have b5 : h5.1 54 17 = nI (BLs S.2.1 S.2.2.1 S.2.2.2.2 S.1).length := (F5.f (by decide)).trans ((F4.f (by decide)).trans b3)
    have r5 : AR h5 63 (BLs S.2.1 S.2.2.1 S.2.2.2.2 S.1) := fun j hj => (F5.c (by decide) j).trans ((F4.c (by decide) j).trans ((F3.c (by decide) j).trans (w2.2.1 j hj)))
    have r6 : AR h6 63 (BLs S.2.1 S.2.2.1 S.2.2.2.2 S.1) := fun j hj => (F6.c (by decide) j).trans (r5 j hj)
    have r7 : AR h7 63 (BLs S.2.1 S.2.2.1 S.2.2.2.2 S.1) := fun j hj => (F7.c (by decide) j).trans (r6 j hj)
    have r8 : AR h8 63 (BLs S.2.1 S.2.2.1 S.2.2.2.2 S.1) := fun j hj => (F8.c (by decide) j).trans (r7 j hj)
    have z8 : h8.1 54 0 = 0 := (F8.f (by decide)).trans ((F7.f (by decide)).trans ((F6.f (by decide)).trans ((F5.f (by decide)).trans ((F4.f (by decide)).trans rd1s))))
    have c1 : ¬ bI (0 ≤ nI k ∧ nI k < nI (BLs S.2.1 S.2.2.1 S.2.2.2.2 S.1).length) = 0 := by rw [bI_z]; exact fun q => q c
    refine ⟨h8, ?_, z8, m8⟩
    show sX6_border (u2 h1 0 0 ((BLs S.2.1 S.2.2.1 S.2.2.2.2 S.1).getD k 0).toInt64) (nI k) = _
    unfold sX6_border
    rw [bd_t o2, w2.1, bd_t (M_inI _ _ _ _)]
    dsimp only
    rw [len_in (by omega), if_neg c1]
    unfold sX6_border_c26
    rw [bd_t (fl0 _)]
    dsimp only
    rw [nm_t rfl, rd1s, if_neg n10, nI_1, b3]
    have fin : sX6_border_c145 h7 (nI k) (ccp S.1 S.2.1 S.2.2.1 S.2.2.2.1 S.2.2.2.2 k).toInt64 = some ((BLs S.2.1 S.2.2.1 S.2.2.2.2 S.1).getD k 0, h8) := by
      unfold sX6_border_c145
      rw [bd_t o8, gd_in (show k < 20 by omega) (show 20 ≤ 1000 by decide), cl_n (show k ≤ 100000 by omega), r8 k hk]
    by_cases cl : k + 1 = (BLs S.2.1 S.2.2.1 S.2.2.2.2 S.1).length
    · have hc0 : hcp S.1 S.2.1 S.2.2.1 S.2.2.2.1 S.2.2.2.2 k = 0 := by unfold hcp; rw [if_neg (by omega)]
      have cc0 : ccp S.1 S.2.1 S.2.2.1 S.2.2.2.1 S.2.2.2.2 k = 0 := by unfold ccp; rw [if_neg (by omega)]
      rw [if_pos (by rw [cl])]
      unfold sX6_border_c57
      rw [nm_t rfl, gd_in (show k < 20 by omega) (show 20 ≤ 1000 by decide), cl_n (show k ≤ 100000 by omega), a4, bd_t o5, bd_t (M_surplus m5.1.1 hn b5 r5 hk)]
      dsimp only
      rw [bd_t o6, if_neg (show ¬ (1 : Int32) = 0 by decide)]
      unfold sX6_border_c113
      rw [hc0] at o7
      have o7' : sX6_enters h6 0 = some h7 := o7
      rw [bd_t o7', if_neg (show ¬ (1 : Int32) = 0 by decide)]
      rw [cc0] at fin
      exact fin
    · have kl : k + 1 < (BLs S.2.1 S.2.2.1 S.2.2.2.2 S.1).length := by omega
      have hc1 : hcp S.1 S.2.1 S.2.2.1 S.2.2.2.1 S.2.2.2.2 k = thr S.1 S.2.1 S.2.2.1 S.2.2.2.1 S.2.2.2.2 1 ((BLs S.2.1 S.2.2.1 S.2.2.2.2 S.1).getD k 0) ((BLs S.2.1 S.2.2.1 S.2.2.2.2 S.1).getD (k + 1) 0) := by unfold hcp; rw [if_pos kl]
      have cc1 : ccp S.1 S.2.1 S.2.2.1 S.2.2.2.1 S.2.2.2.2 k = thr S.1 S.2.1 S.2.2.1 S.2.2.2.1 S.2.2.2.2 0 ((BLs S.2.1 S.2.2.1 S.2.2.2.2 S.1).getD k 0) ((BLs S.2.1 S.2.2.1 S.2.2.2.2 S.1).getD (k + 1) 0) := by unfold ccp; rw [if_pos kl]
      rw [if_neg (by rw [eq_n (by omega) (by omega)]; exact cl)]
      unfold sX6_border_c57
      rw [nm_t rfl, gd_in (show k < 20 by omega) (show 20 ≤ 1000 by decide), cl_n (show k ≤ 100000 by omega), a4, bd_t o5, bd_t (M_surplus m5.1.1 hn b5 r5 hk)]
      dsimp only
      rw [bd_t o6, if_pos rfl, gd_in (show k < 20 by omega) (show 20 ≤ 1000 by decide), nI_1, gd_in (show k + 1 < 20 by omega) (show 20 ≤ 1000 by decide), cl_n (show k + 1 ≤ 100000 by omega), r6 k hk, r6 _ kl, bd_t (M_through m6.1.1 hn _ _ _)]
      dsimp only
      unfold sX6_border_c113
      rw [← hc1, bd_t o7, if_pos rfl, gd_in (show k < 20 by omega) (show 20 ≤ 1000 by decide), nI_1, gd_in (show k + 1 < 20 by omega) (show 20 ≤ 1000 by decide), cl_n (show k ≤ 100000 by omega), cl_n (show k + 1 ≤ 100000 by omega), r7 k hk, r7 _ kl, bd_t (M_through m7.1.1 hn _ _ _)]
      dsimp only
      rw [← cc1]
      exact fin
  · have eX : sX5_border h a = some (none, h) := by
      unfold sX5_border sX5_border_c15
      rw [hs]
      by_cases c1 : a < 0
      · rw [if_pos c1]
      · rw [if_neg c1, if_neg (by grind)]
    refine mkX0 R eX (fun hM => ?_) (fun q e => fX6_border _ _ q e) (by decide) (by decide)
    obtain ⟨h2, o2, m2, w2⟩ := hM.works hn
    obtain ⟨m3, F3⟩ := m2.thr 1
    refine ⟨0, _, ?_, rd1s, m3⟩
    show sX6_border h a = _
    unfold sX6_border
    rw [bd_t o2, w2.1, bd_t (M_inI _ _ _ _)]
    dsimp only
    rw [len_in (by omega), if_pos (bI_z.mpr c)]
    unfold sX6_border_c26
    rw [bd_t (fl1 _)]
    dsimp only
    rw [nm_t rfl, rd1s, if_pos rfl]
end OX
