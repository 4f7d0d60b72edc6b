/-! one call on both sides -/
def Step (X M : Hp → Option (Int32 × Hp)) (h : Hp) : Prop := ∃ r hx hm S Ms tx row, X h = some (r, hx) ∧ M hx = some (r, hm) ∧ Rel hm S Ms tx row
theorem mkS {X M : Hp → Option (Int32 × Hp)} {h hx : Hp} {S S' : SS} {Ms Ms' : Nat → Mt} {tx tx' : List Int32} {row row' : List Int64} {r : Int32} {W W' : List (Nat × Option Nat)} {Z Z' : List Nat} (R : Rel h S Ms tx row) (eX : X h = some (r, hx)) (FX : Fr W Z h hx) (hw : W.all (fun w => decide (w.1 < 54)) = true) (hz : Z.all (fun z => z != 55) = true) (rX : RX hx S' Ms' tx' row') (I' : Inv S' Ms' tx' row') (eM : RM hx S Ms tx row → ∃ hm, M hx = some (r, hm) ∧ RM hm S' Ms' tx' row') (FM : ∀ q, M hx = some q → Fr W' Z' hx q.2) (hw' : W'.all (fun w => decide (54 ≤ w.1)) = true) (hz' : Z'.all (fun z => z != 5) = true) : Step X M h := by
  obtain ⟨hm, e1, e2⟩ := eM (R.2.2.frX FX hw hz)
  exact ⟨r, hx, hm, S', Ms', tx', row', eX, e1, asm I' rX e2 (FM _ e1) hw' hz'⟩
def bI (p : Prop) [Decidable p] : Int32 := if p then 1 else 0
theorem bI_z {p : Prop} [Decidable p] : (bI p = 0) ↔ ¬ p := by
  unfold bI
  split
  · simp [*]
  · simp [*]
theorem bI01 {p : Prop} [Decidable p] : bI p = 0 ∨ bI p = 1 := by
  unfold bI
  split
  · exact Or.inr rfl
  · exact Or.inl rfl
theorem zb_b {p : Prop} [Decidable p] : zb (bI p) = true := decide_eq_true bI01
theorem zb_hb {F T : Nat → Int32} {i : Nat} : zb (hb F T i) = true := decide_eq_true (hb01 F T i)
theorem M_in (h : Hp) (a b c : Int64) : sX6_in h a b c = some (bI (b.toInt ≤ a.toInt ∧ a.toInt ≤ c.toInt), h) := by
  simp only [sX6_in, sX6_in_c17, sX6_in_c18, lg_lt0, lg_gt0]
  unfold bI
  by_cases c1 : a.toInt < b.toInt
  · rw [if_pos c1, if_neg (by omega)]; rfl
  · rw [if_neg c1]
    by_cases c2 : c.toInt < a.toInt
    · rw [if_pos c2, if_neg (by omega)]; rfl
    · rw [if_neg c2, if_pos (by omega)]; rfl
theorem bI_cg {p q : Prop} [Decidable p] [Decidable q] (h : p ↔ q) : bI p = bI q := by
  unfold bI
  by_cases c : p
  · rw [if_pos c, if_pos (h.mp c)]
  · rw [if_neg c, if_neg (fun z => c (h.mpr z))]
theorem M_inI (h : Hp) (a : Int32) (b c : Int64) : sX6_in h a.toInt64 b c = some (bI (b.toInt ≤ a.toInt ∧ a.toInt ≤ c.toInt), h) := by rw [M_in, tL_i]
theorem M_isStream {h : Hp} {S : SS} (hM : MQS h S) (hn : S.1 ≤ 10) (a : Int32) : sX6_isStream h a = some (bI (0 ≤ a ∧ a < nI S.1), h) := by
  unfold sX6_isStream
  rw [M_inI, Option.bind_some]
  have e : ((h.1 54 7 - 1).toInt64).toInt = (S.1 : Int) - 1 := by
    rw [tL_i, hM.1, tI_sub, tI_n (by omega)]
    · rfl
    · rw [tI_n (by omega)]; show -2147483648 ≤ (S.1 : Int) - 1; omega
    · rw [tI_n (by omega)]; show (S.1 : Int) - 1 < 2147483648; omega
  rw [e]
  have : bI ((0 : Int64).toInt ≤ a.toInt ∧ a.toInt ≤ (S.1 : Int) - 1) = bI (0 ≤ a ∧ a < nI S.1) := bI_cg (by
    rw [le_tI, lt_tI, tI_n (by omega), tI0]
    show (0 : Int) ≤ _ ∧ _ ↔ _
    omega)
  rw [this, gd_t zb_b]
theorem M_isSide (h : Hp) (a : Int32) : sX6_isSide h a = some (bI (a = 0 ∨ a = 1), h) := by
  unfold sX6_isSide
  rw [M_inI, Option.bind_some]
  have : bI ((0 : Int64).toInt ≤ a.toInt ∧ a.toInt ≤ (1 : Int64).toInt) = bI (a = 0 ∨ a = 1) := bI_cg (by
    rw [eq_tI, eq_tI, tI0]
    show (0 : Int) ≤ a.toInt ∧ a.toInt ≤ 1 ↔ a.toInt = 0 ∨ a.toInt = 1
    omega)
  rw [this, gd_t zb_b]
theorem X_has {h : Hp} {r n : Nat} {F T C : Nat → Int32} (hr : ck r = 1) (hP : PS h r n F T C) (a : Int32) : sX1_has h r a = some (bI (0 ≤ a ∧ a < nI n), h) := by
  simp only [sX1_has, sX1_has_c16, sX1_has_c17, gd_t (isC_ok hr), hP.1]
  unfold bI
  by_cases c1 : a < 0
  · rw [if_pos c1, if_neg (by grind)]; rfl
  · rw [if_neg c1]
    by_cases c2 : nI n ≤ a
    · rw [if_pos c2, if_neg (by grind)]; rfl
    · rw [if_neg c2, if_pos (by grind)]; rfl
theorem X_isSide (h : Hp) (a : Int32) : sX5_isSide h a = some (bI (a = 0 ∨ a = 1), h) := by
  simp only [sX5_isSide, sX5_isSide_c9, sX5_isSide_c14]
  unfold bI
  by_cases c1 : a = 0
  · rw [if_pos c1, if_pos (Or.inl c1)]; rfl
  · rw [if_neg c1]
    by_cases c2 : a = 1
    · rw [if_pos c2, if_pos (Or.inr c2)]; rfl
    · rw [if_neg c2, if_neg (by grind)]; rfl
theorem X_isDegree (h : Hp) (a : Int32) : sX5_isDegree h a = some (bI (0 ≤ a ∧ a ≤ 500), h) := by
  simp only [sX5_isDegree, sX5_isDegree_c15, sX5_isDegree_c16]
  unfold bI
  by_cases c1 : a < 0
  · rw [if_pos c1, if_neg (by grind)]; rfl
  · rw [if_neg c1]
    by_cases c2 : 500 < a
    · rw [if_pos c2, if_neg (by grind)]; rfl
    · rw [if_neg c2, if_pos (by grind)]; rfl
theorem X_isGap (h : Hp) (a : Int32) : sX5_isGap h a = some (bI (0 ≤ a ∧ a ≤ 60), h) := by
  simp only [sX5_isGap, sX5_isGap_c14, sX5_isGap_c15]
  unfold bI
  by_cases c1 : a < 0
  · rw [if_pos c1, if_neg (by grind)]; rfl
  · rw [if_neg c1]
    by_cases c2 : 60 < a
    · rw [if_pos c2, if_neg (by grind)]; rfl
    · rw [if_neg c2, if_pos (by grind)]; rfl
theorem side_cs {a : Int32} (h : a = 0 ∨ a = 1) : ∃ s : Nat, s < 2 ∧ a = nI s := by
  rcases h with rfl | rfl
  · exact ⟨0, by decide, rfl⟩
  · exact ⟨1, by decide, rfl⟩
theorem X_sideOf (h : Hp) {s : Nat} (hs : s < 2) : sX5_sideOf h (nI s) = some (26 + 14 * s, h) := by
  simp only [sX5_sideOf, sX5_sideOf_c15, s01 hs]
  rcases (show s = 0 ∨ s = 1 by omega) with rfl | rfl <;> rfl
theorem str_cs {a : Int32} {n : Nat} (hn : n ≤ 10) (h : 0 ≤ a ∧ a < nI n) : ∃ i : Nat, i < n ∧ a = nI i := by
  rcases nI_cs a n (by omega) with q | q
  · exact absurd h q
  · exact q
section O1
variable {h : Hp} {S : SS} {Ms : Nat → Mt} {tx : List Int32} {row : List Int64}
theorem invR (I : Inv S Ms tx row) {row' : List Int64} (hl : row'.length ≤ 24) : Inv S Ms tx row' := ⟨I.1, I.2.1, I.2.2.1, hl⟩
theorem op_fuel (R : Rel h S Ms tx row) : Step sX5_fuel sX6_fuel h := by
  have ok := R.1.1
  have X := R.2.1
  have hn := ok.1
  have CX := X.1.2.2.1
  have ec : sX0_cool h 16 = some (coo S.1 S.2.1 S.2.2.1 S.2.2.2.1 S.2.2.2.2, h) := C_cool (by decide) hn CX
  obtain ⟨h1, e1, r1⟩ := X.tell2 (coo S.1 S.2.1 S.2.2.1 S.2.2.2.1 S.2.2.2.2).toInt64 (nI (BLs S.2.1 S.2.2.1 S.2.2.2.2 S.1).length).toInt64
  have eX : sX5_fuel h = some (fue S.1 S.2.1 S.2.2.1 S.2.2.2.1 S.2.2.2.2, h1) := by
    simp only [sX5_fuel, ec, Option.bind_some, CX.1, e1, r1.1.2.2.1.2.2.2]
  refine mkS (S' := S) (Ms' := Ms) R eX (fX5_fuel _ _ eX) (by decide) (by decide) r1 (invR R.1 (by simp)) (fun hM => ?_) (fX6_fuel h1) (by decide) (by decide)
  obtain ⟨m1, t1⟩ := hM.thr 0
  obtain ⟨h2, e2, m2, w2⟩ := m1.works hn
  obtain ⟨m3, F3⟩ := m2.row0
  obtain ⟨h4, e4, m4, F4⟩ := m3.ent (by simp) (coo S.1 S.2.1 S.2.2.1 S.2.2.2.1 S.2.2.2.2).toInt64
  obtain ⟨h5, e5, m5, F5⟩ := m4.ent (by simp) (nI (BLs S.2.1 S.2.2.1 S.2.2.2.2 S.1).length).toInt64
  refine ⟨h5, ?_, m5⟩
  have a1 : (u1 h2 54 1 0).1 54 19 = coo S.1 S.2.1 S.2.2.1 S.2.2.2.1 S.2.2.2.2 := (F3.f (by decide)).trans w2.2.2.2.2
  have a2 : h4.1 54 17 = nI (BLs S.2.1 S.2.2.1 S.2.2.2.2 S.1).length := (F4.f (by decide)).trans ((F3.f (by decide)).trans w2.1)
  have a3 : h5.1 54 18 = fue S.1 S.2.1 S.2.2.1 S.2.2.2.1 S.2.2.2.2 := (F5.f (by decide)).trans ((F4.f (by decide)).trans ((F3.f (by decide)).trans w2.2.2.2.1))
  simp only [sX6_fuel, nm, e2, Option.bind_some, a1, e4, a2, e5, a3]
theorem op_above (R : Rel h S Ms tx row) (a t : Int32) : Step (fun h => sX5_above h a t) (fun h => sX6_above h a t) h := by
  have ok := R.1.1
  have X := R.2.1
  have hn := ok.1
  have PX := X.1.1
  by_cases c : 0 ≤ t ∧ t ≤ 500
  · obtain ⟨h1, e1, r1⟩ := X.tell1 (hmT S.1 S.2.1 S.2.2.1 a t).toInt64
    have eX : sX5_above h a t = some (haT S.1 S.2.1 S.2.2.1 S.2.2.2.1 a t, h1) := by
      have c1 : ¬ bI (0 ≤ t ∧ t ≤ 500) = 0 := by rw [bI_z]; simp [c]
      simp only [sX5_above, X_isDegree, Option.bind_some, c1, if_false, P_howMany (r := 6) (by decide) PX hn, e1, P_heatAbove (r := 6) (by decide) r1.1.1 hn]
    refine mkS (S' := S) (Ms' := Ms) R eX (fX5_above _ _ _ _ eX) (by decide) (by decide) r1 (invR R.1 (by simp)) (fun hM => ?_) (fun q e => fX6_above h1 a t q e) (by decide) (by decide)
    obtain ⟨m1, t1⟩ := hM.thr 0
    have ha : ∀ {k : Hp}, MQS k S → sX6_aboveOf k a t = some (haT S.1 S.2.1 S.2.2.1 S.2.2.2.1 a t, k) := by
      intro k hk
      unfold sX6_aboveOf
      refine loop0 (fun n (s : Int32 × Int32) => sX6_aboveOf_b5 n k a t s.1 s.2) (fun i => (sI i (fun i => if hb S.2.1 S.2.2.1 i = a ∧ t < hi S.2.1 S.2.2.1 i then S.2.2.2.1 i * (hi S.2.1 S.2.2.1 i - imax (lo S.2.1 S.2.2.1 i) t) else 0), nI i)) S.1 _ (by omega) (fun m i hi' => ?_) (fun m => ?_)
      · show sX6_aboveOf_c5 (sX6_aboveOf_b5 m) k a t _ (nI i) = _
        have hle : ¬ nI S.1 ≤ nI i := by rw [le_n (by omega) (by omega)]; omega
        have em : imax t (lo S.2.1 S.2.2.1 i) = imax (lo S.2.1 S.2.2.1 i) t := by unfold imax; grind
        simp only [sX6_aboveOf_c5, sX6_aboveOf_c63, sX6_aboveOf_c64, hk.1, hle, if_false, M_isHot hk hn hi', M_low hk hn hi', M_high hk hn hi', Option.bind_some, nm, nI_1, gd_in (show i < 10 by omega) (show 10 ≤ 1000 by decide), cl_n (show i ≤ 100000 by omega), (hk.2.2 i hi').2.2, sI, em]
        grind
      · show sX6_aboveOf_c5 (sX6_aboveOf_b5 m) k a t _ (nI S.1) = _
        have hle : nI S.1 ≤ nI S.1 := by rw [le_n (by omega) (by omega)]; omega
        simp only [sX6_aboveOf_c5, hk.1, hle, if_true]
        rfl
    obtain ⟨m3, F3⟩ := m1.row0
    obtain ⟨h4, e4, m4, F4⟩ := m3.ent (by simp) (hmT S.1 S.2.1 S.2.2.1 a t).toInt64
    refine ⟨h4, ?_, m4⟩
    have c1 : ¬ bI ((0 : Int64).toInt ≤ t.toInt ∧ t.toInt ≤ (500 : Int64).toInt) = 0 := by
      rw [bI_z]
      obtain ⟨c2, c3⟩ := c
      rw [le_tI] at c2 c3
      have e5 : (500 : Int64).toInt = 500 := by decide
      have e6 : (500 : Int32).toInt = 500 := by decide
      have e7 : (0 : Int64).toInt = 0 := by decide
      rw [tI0] at c2
      rw [e6] at c3
      rw [e5, e7]
      omega
    show sX6_above h1 a t = _
    unfold sX6_above
    simp only [nm, M_inI, Option.bind_some, c1, if_false]
    refine loop0 (fun n (s : Int32 × Int32) => sX6_above_b24 n (u1 h1 54 0 0) a t s.1 s.2) (fun i => (sI i (fun i => if hb S.2.1 S.2.2.1 i = a ∧ lo S.2.1 S.2.2.1 i ≤ t ∧ t ≤ hi S.2.1 S.2.2.1 i then 1 else 0), nI i)) S.1 _ (by omega) (fun m i hi' => ?_) (fun m => ?_)
    · show sX6_above_c24 (sX6_above_b24 m) _ a t _ (nI i) = _
      have hle : ¬ nI S.1 ≤ nI i := by rw [le_n (by omega) (by omega)]; omega
      have hk := m1.1.1
      simp only [sX6_above_c24, sX6_above_c70, sX6_above_c71, sX6_flag, sX6_flag_c9, hk.1, hle, if_false, M_isHot hk hn hi', M_low hk hn hi', M_high hk hn hi', Option.bind_some, nm, nI_1, sI, M_inI, tL_i, ← le_tI, bI_z]
      by_cases c1 : hb S.2.1 S.2.2.1 i = a <;> by_cases c2 : (lo S.2.1 S.2.2.1 i ≤ t ∧ t ≤ hi S.2.1 S.2.2.1 i) <;> simp [c1, c2]
    · show sX6_above_c24 (sX6_above_b24 m) _ a t _ (nI S.1) = _
      have hle : nI S.1 ≤ nI S.1 := by rw [le_n (by omega) (by omega)]; omega
      have hk := m1.1.1
      have e4' : sX6_enters (u1 (u1 h1 54 0 0) 54 1 0) (sI S.1 (fun i => if hb S.2.1 S.2.2.1 i = a ∧ lo S.2.1 S.2.2.1 i ≤ t ∧ t ≤ hi S.2.1 S.2.2.1 i then (1 : Int32) else 0)).toInt64 = some h4 := e4
      simp only [sX6_above_c24, hk.1, hle, if_true, nm, e4', Option.bind_some, ha m4.1.1]
  · have c1 : bI (0 ≤ t ∧ t ≤ 500) = 0 := by rw [bI_z]; exact c
    have eX : sX5_above h a t = some (-1, h) := by
      simp only [sX5_above, X_isDegree, Option.bind_some, c1, if_true]
    refine mkS (S' := S) (Ms' := Ms) R eX (fX5_above _ _ _ _ eX) (by decide) (by decide) X R.1 (fun hM => ?_) (fun q e => fX6_above h a t q e) (by decide) (by decide)
    obtain ⟨m1, t1⟩ := hM.thr 0
    refine ⟨u1 h 54 0 0, ?_, m1⟩
    have c1 : bI ((0 : Int64).toInt ≤ t.toInt ∧ t.toInt ≤ (500 : Int64).toInt) = 0 := by
      rw [bI_z]
      rw [le_tI, le_tI] at c
      exact c
    simp only [sX6_above, nm, M_inI, Option.bind_some, c1, if_true]
end O1
