/-! by, clears, left, range, end -/
theorem RX.fr0 {W : List (Nat × Option Nat)} {Z : List Nat} {h h' : Hp} {S : SS} {Ms : Nat → Mt} {tx : List Int32} {row : List Int64} (hR : RX h S Ms tx row) (R : Fr W Z h h') (hw : W.all (fun w => safeX w && decide (w.1 ≠ 2 ∧ w.1 ≠ 3 ∧ w.1 ≠ 4)) = true) (hz : Z.all (fun z => z != 5) = true) : RX h' S Ms tx row :=
  ⟨hR.1.fr R (all_mono hw (fun w q => by simp only [Bool.and_eq_true] at q; exact q.1)), hR.2.1.fr R (all_mono hw (fun w q => by simp only [Bool.and_eq_true, decide_eq_true_eq] at q; simp; omega)), hR.2.2.fr R (all_mono hw (fun w q => by simp only [Bool.and_eq_true, decide_eq_true_eq] at q; simp; omega)) hz⟩
/-- the same streams by another gap -/
def gp (S : SS) (g : Int32) : SS := (S.1, S.2.1, S.2.2.1, S.2.2.2.1, g)
theorem OK.gp {S : SS} (ok : OK S) {g : Int32} (hg : 0 ≤ g ∧ g ≤ 60) : OK (gp S g) := ⟨ok.1, hg, ok.2.2⟩
theorem L0 : (0 : Int64).toInt = 0 := by decide
theorem RM.byG {h : Hp} {S : SS} {Ms : Nat → Mt} {tx : List Int32} {row : List Int64} (hR : RM h S Ms tx row) (hn : S.1 ≤ 10) (g : Int32) : ∃ h', sX6_works (u1 h 54 11 g) = some h' ∧ WM h' S.1 S.2.1 S.2.2.1 S.2.2.2.1 g ∧ MS h' S.1 S.2.1 S.2.2.1 S.2.2.2.1 g ∧ RM (u1 h' 54 11 S.2.2.2.2) S Ms tx row := by
  have F0 : Fr [(54, some 11)] [] h (u1 h 54 11 g) := Fr.w1 Fr.rf rfl (by decide)
  have M0 : MS (u1 h 54 11 g) S.1 S.2.1 S.2.2.1 S.2.2.2.1 g := ⟨(F0.f (by decide)).trans hR.1.1.1, rd1s, fun i hi' => ⟨(F0.c (by decide) i).trans (hR.1.1.2.2 i hi').1, (F0.c (by decide) i).trans (hR.1.1.2.2 i hi').2.1, (F0.c (by decide) i).trans (hR.1.1.2.2 i hi').2.2⟩⟩
  obtain ⟨h', e1, e2, e3⟩ := M_works M0 hn
  have F1 := fX6_works _ _ e1
  have F2 : Fr [(54, some 11)] [] h' (u1 h' 54 11 S.2.2.2.2) := Fr.w1 Fr.rf rfl (by decide)
  refine ⟨h', e1, e2, e3, ⟨⟨(F2.f (by decide)).trans e3.1, rd1s, fun i hi' => ⟨(F2.c (by decide) i).trans (e3.2.2 i hi').1, (F2.c (by decide) i).trans (e3.2.2 i hi').2.1, (F2.c (by decide) i).trans (e3.2.2 i hi').2.2⟩⟩, fun s hs => (((hR.1.2 s hs).fr F0 (by decide)).fr F1 (by decide)).fr F2 (by decide)⟩, ((hR.2.1.fr F0 (by decide)).fr F1 (by decide)).fr F2 (by decide), ((hR.2.2.fr F0 (by decide) (by decide)).fr F1 (by decide) (by decide)).fr F2 (by decide) (by decide)⟩
section O3
variable {h : Hp} {S : SS} {Ms : Nat → Mt} {tx : List Int32} {row : List Int64}
theorem op_by (R : Rel h S Ms tx row) (a : Int32) : Step (fun h => sX5_by h a) (fun h => sX6_by h a) h := by
  have ok := R.1.1
  have X := R.2.1
  have hn := ok.1
  by_cases c : 0 ≤ a ∧ a ≤ 60
  · have c1 : ¬ bI (0 ≤ a ∧ a ≤ 60) = 0 := by rw [bI_z]; exact fun q => q c
    have cM : ¬ bI ((0 : Int64).toInt ≤ a.toInt ∧ a.toInt ≤ (60 : Int64).toInt) = 0 := by
      rw [bI_z]
      rw [le_tI, le_tI] at c
      exact fun q => q c
    by_cases z : S.1 = 0
    · have eX : sX5_by h a = some (-2, h) := by
        simp only [sX5_by, X_isGap, Option.bind_some, c1, if_false, X.1.1.1, (z0 (show S.1 ≤ 100000 by omega)).mpr z, if_true]
      refine mkS (S' := S) (Ms' := Ms) R eX (fX5_by _ _ _ eX) (by decide) (by decide) X R.1 (fun hM => ?_) (fun q e => fX6_by h a q e) (by decide) (by decide)
      obtain ⟨m1, t1⟩ := hM.thr 0
      exact ⟨u1 h 54 0 0, by simp only [sX6_by, nm, M_inI, Option.bind_some, cM, if_false, m1.1.1.1, (z0 (show S.1 ≤ 100000 by omega)).mpr z, if_true], m1⟩
    · have z1 : ¬ nI S.1 = 0 := fun q => z ((z0 (by omega)).mp q)
      have ok' : OK (gp S a) := ok.gp c
      obtain ⟨h1, e1, w1⟩ := C_work (h := h) (r := 21) (a := 6) (n := S.1) (F := S.2.1) (T := S.2.2.1) (C := S.2.2.2.1) (g := a) (by decide) (by decide) X.1.1 ok'
      have X1 := X.fr0 (fX0_work _ _ _ _ _ e1) (by decide) (by decide)
      have ec : sX0_cool h1 21 = some (coo S.1 S.2.1 S.2.2.1 S.2.2.2.1 a, h1) := C_cool (by decide) hn w1
      have ep : sX0_pinchAt h1 21 = some (pin S.1 S.2.1 S.2.2.1 S.2.2.2.1 a, h1) := C_pinchAt (by decide) ok' w1
      obtain ⟨h2, e2, r2⟩ := X1.tell2 (coo S.1 S.2.1 S.2.2.1 S.2.2.2.1 a).toInt64 ((1000 : Int32) + pin S.1 S.2.1 S.2.2.1 S.2.2.2.1 a).toInt64
      have w2 : h2.1 21 5 = fue S.1 S.2.1 S.2.2.1 S.2.2.2.1 a := ((fX4_tell_ _ _ _ _ e2).c (by decide) 5).trans w1.2.2.2
      have eX : sX5_by h a = some (fue S.1 S.2.1 S.2.2.1 S.2.2.2.1 a, h2) := by
        simp only [sX5_by, X_isGap, Option.bind_some, c1, if_false, X.1.1.1, z1, e1, ec, ep, e2, w2]
      refine mkS (S' := S) (Ms' := Ms) R eX (fX5_by _ _ _ eX) (by decide) (by decide) r2 (invR R.1 (by simp)) (fun hM => ?_) (fun q e => fX6_by h2 a q e) (by decide) (by decide)
      obtain ⟨m1, t1⟩ := hM.thr 0
      obtain ⟨h3, e3, w3, ms3, m3⟩ := m1.byG hn a
      have pa : sX6_pinchNow h3 = some (pin S.1 S.2.1 S.2.2.1 S.2.2.2.1 a, h3) := M_pinchNow ok' w3 (BLs_pos (by omega))
      obtain ⟨m4, F4⟩ := m3.row0
      have F3 : Fr [(54, some 11)] [] h3 (u1 h3 54 11 S.2.2.2.2) := Fr.w1 Fr.rf rfl (by decide)
      obtain ⟨h5, e5, m5, F5⟩ := m4.ent (by simp) (coo S.1 S.2.1 S.2.2.1 S.2.2.2.1 a).toInt64
      obtain ⟨h6, e6, m6, F6⟩ := m5.ent (by simp) ((1000 : Int32) + pin S.1 S.2.1 S.2.2.1 S.2.2.2.1 a).toInt64
      refine ⟨h6, ?_, m6⟩
      have a1 : (u1 (u1 h3 54 11 S.2.2.2.2) 54 1 0).1 54 19 = coo S.1 S.2.1 S.2.2.1 S.2.2.2.1 a := (F4.f (by decide)).trans ((F3.f (by decide)).trans w3.2.2.2.2)
      have a3 : h6.1 54 18 = fue S.1 S.2.1 S.2.2.1 S.2.2.2.1 a := (F6.f (by decide)).trans ((F5.f (by decide)).trans ((F4.f (by decide)).trans ((F3.f (by decide)).trans w3.2.2.2.1)))
      simp only [sX6_by, nm, M_inI, Option.bind_some, cM, if_false, m1.1.1.1, z1, m1.1.1.2.1, e3, pa, a1, e5, e6, a3]
  · have c1 : bI (0 ≤ a ∧ a ≤ 60) = 0 := by rw [bI_z]; exact c
    have eX : sX5_by h a = some (-1, h) := by simp only [sX5_by, X_isGap, Option.bind_some, c1, if_true]
    refine mkS (S' := S) (Ms' := Ms) R eX (fX5_by _ _ _ eX) (by decide) (by decide) X R.1 (fun hM => ?_) (fun q e => fX6_by h a q e) (by decide) (by decide)
    obtain ⟨m1, t1⟩ := hM.thr 0
    have cM : bI ((0 : Int64).toInt ≤ a.toInt ∧ a.toInt ≤ (60 : Int64).toInt) = 0 := by
      rw [bI_z]
      rw [le_tI, le_tI] at c
      exact c
    exact ⟨u1 h 54 0 0, by simp only [sX6_by, nm, M_inI, Option.bind_some, cM, if_true], m1⟩
theorem op_end (R : Rel h S Ms tx row) (a : Int32) : Step (fun h => sX5_end h a) (fun h => sX6_end h a) h := by
  have X := R.2.1
  have hl := R.1.2.2.1
  by_cases c : 0 ≤ a ∧ a ≤ nI tx.length
  · obtain ⟨k, hk, rfl⟩ : ∃ k : Nat, k ≤ tx.length ∧ a = nI k := by
      rcases nI_cs a (tx.length + 1) (by omega) with q | ⟨j, hj, e⟩
      · exfalso
        apply q
        refine ⟨c.1, ?_⟩
        rw [lt_tI, tI_n (by omega)]
        have := c.2
        rw [le_tI, tI_n (by omega)] at this
        omega
      · exact ⟨j, by omega, e⟩
    have F1 : Fr [(2, some 1)] [] h (u1 h 2 1 (nI k)) := Fr.w1 Fr.rf rfl (by decide)
    have c1 : ¬ nI k < 0 := by grind
    have eX : sX5_end h (nI k) = some (1, u1 h 2 1 (nI k)) := by
      simp only [sX5_end, sX3_cut, c1, if_false, X.2.1.1, c.2, if_true, nm, Option.bind_some]
      rfl
    have tk : ∀ j, j < (tx.take k).length → (tx.take k).getD j 0 = tx.getD j 0 := by
      intro j hj
      rw [List.length_take] at hj
      rw [List.getD_eq_getElem?_getD, List.getD_eq_getElem?_getD, List.getElem?_take, if_pos (by omega)]
    have tl : (tx.take k).length = k := by rw [List.length_take]; omega
    refine mkS (S' := S) (Ms' := Ms) (tx' := tx.take k) (row' := row) R eX (fX5_end _ _ _ eX) (by decide) (by decide) ⟨X.1.fr F1 (by decide), ⟨by rw [rd1s, tl], fun j hj => ?_⟩, X.2.2.fr F1 (by decide) (by decide)⟩ ⟨R.1.1, R.1.2.1, by omega, R.1.2.2.2⟩ (fun hM => ?_) (fun q e => fX6_end _ (nI k) q e) (by decide) (by decide)
    · rw [rd1c (by decide), tk j hj]
      exact X.2.1.2 j (by omega)
    · obtain ⟨m1, t1⟩ := hM.thr 0
      have F2 : Fr [(54, some 4)] [] (u1 (u1 h 2 1 (nI k)) 54 0 0) (u1 (u1 (u1 h 2 1 (nI k)) 54 0 0) 54 4 (nI k)) := Fr.w1 Fr.rf rfl (by decide)
      refine ⟨u1 (u1 (u1 h 2 1 (nI k)) 54 0 0) 54 4 (nI k), ?_, m1.1.fr F2 (by decide), ⟨by rw [rd1s, tl], fun j hj => ?_⟩, m1.2.2.fr F2 (by decide) (by decide)⟩
      · have cM : ¬ bI ((0 : Int64).toInt ≤ (nI k).toInt ∧ (nI k).toInt ≤ (nI tx.length).toInt) = 0 := by
          rw [bI_z, tI_n (by omega), tI_n (by omega), L0]
          omega
        simp only [sX6_end, nm, M_inI, m1.2.1.1, tL_i, Option.bind_some, cM, if_false]
      · rw [rd1c (by decide), tk j hj]
        exact m1.2.1.2 j (by omega)
  · have eX : sX5_end h a = some (0, h) := by
      unfold sX5_end sX3_cut sX3_cut_c12
      rw [X.2.1.1]
      by_cases c1 : a < 0
      · rw [if_pos c1]; rfl
      · rw [if_neg c1, if_neg (by grind)]; rfl
    refine mkS (S' := S) (Ms' := Ms) R eX (fX5_end _ _ _ eX) (by decide) (by decide) X R.1 (fun hM => ?_) (fun q e => fX6_end h a q e) (by decide) (by decide)
    obtain ⟨m1, t1⟩ := hM.thr 0
    have cM : bI ((0 : Int64).toInt ≤ a.toInt ∧ a.toInt ≤ (nI tx.length).toInt) = 0 := by
      rw [bI_z]
      rw [le_tI, le_tI] at c
      exact c
    exact ⟨u1 h 54 0 0, by simp only [sX6_end, nm, M_inI, m1.2.1.1, tL_i, Option.bind_some, cM, if_true], m1⟩
/-! rests of a kind -/
def rk (S : SS) (s : Nat) (M : Mt) (k : Int32) : Int32 := sI S.1 (fun i => if hb S.2.1 S.2.2.1 i = k then rs S s M i else 0)
theorem S_restK {r s : Nat} {M : Mt} (hr : ck r = 2) (hn : S.1 ≤ 10) (hD : SD h r s S) (hM : XM h r S M) (k : Int32) : sX2_restOfKind h r k = some (rk S s M k, h) := by
  unfold sX2_restOfKind
  rw [gd_t (isC_ok hr)]
  refine loop0 (fun n (q : Int32 × Int32) => sX2_restOfKind_b4 n h r k q.1 q.2) (fun i => (sI i (fun i => if hb S.2.1 S.2.2.1 i = k then rs S s M i else 0), nI i)) S.1 _ (by omega) (fun m i hi' => ?_) (fun m => ?_)
  · show sX2_restOfKind_c4 (sX2_restOfKind_b4 m) h r k _ (nI i) = _
    have hle : ¬ nI S.1 ≤ nI i := by rw [le_n (by omega) (by omega)]; omega
    simp only [sX2_restOfKind_c4, sX2_restOfKind_c30, hD.2.2.1, hle, if_false, gd_in (show i < 10 by omega) (show 10 ≤ 1000 by decide), cl_n (show i ≤ 100000 by omega), (hD.2.2.2 i hi').1, S_rest hr hn hD hM hi', Option.bind_some, nm, nI_1, sI]
    grind
  · show sX2_restOfKind_c4 (sX2_restOfKind_b4 m) h r k _ (nI S.1) = _
    have hle : nI S.1 ≤ nI S.1 := by rw [le_n (by omega) (by omega)]; omega
    simp only [sX2_restOfKind_c4, hD.2.2.1, hle, if_true]
    rfl
theorem M_rests {s : Nat} {M : Mt} (ok : OK S) (hs : s < 2) (hF : FD h S) (hM : MM h s M) (hl : M.length ≤ 24) (hv : ∀ k, k < M.length → mh M k < 10 ∧ mc M k < 10) (k : Int32) : sX6_rests h (nI s) k = some (rk S s M k, h) := by
  have hn := ok.1
  unfold sX6_rests
  refine loop0 (fun n (q : Int32 × Int32) => sX6_rests_b5 n h (nI s) k q.1 q.2) (fun i => (sI i (fun i => if hb S.2.1 S.2.2.1 i = k then rs S s M i else 0), nI i)) S.1 _ (by omega) (fun m i hi' => ?_) (fun m => ?_)
  · show sX6_rests_c5 (sX6_rests_b5 m) h (nI s) k _ (nI i) = _
    have hle : ¬ nI S.1 ≤ nI i := by rw [le_n (by omega) (by omega)]; omega
    simp only [sX6_rests_c5, sX6_rests_c36, hF.1.1, hle, if_false, M_isHot hF.1 hn hi', M_rest ok hs hF hM hl hv hi', Option.bind_some, nm, nI_1, sI]
    grind
  · show sX6_rests_c5 (sX6_rests_b5 m) h (nI s) k _ (nI S.1) = _
    have hle : nI S.1 ≤ nI S.1 := by rw [le_n (by omega) (by omega)]; omega
    simp only [sX6_rests_c5, hF.1.1, hle, if_true]
    rfl
theorem FD.fr {W : List (Nat × Option Nat)} {Z : List Nat} {h' : Hp} (hF : FD h S) (R : Fr W Z h h') (hw : W.all (fun w => w.1 != 57 && w.1 != 58 && w.1 != 59 && (w.1 != 54 || (w.2 != none && w.2 != some 7 && w.2 != some 11))) = true) (hw2 : W.all (fun w => w.1 != 54 || (w.2 != none && w.2 != some 21)) = true) : FD h' S := ⟨MQS.fr hF.1 R hw, (R.f hw2).trans hF.2⟩
theorem op_left (R : Rel h S Ms tx row) : Step sX5_left sX6_left h := by
  have ok := R.1.1
  have X := R.2.1
  have hn := ok.1
  have s0 := X.1.2.2.2 0 (by decide)
  have s1 := X.1.2.2.2 1 (by decide)
  have k1 : ∀ k, sX2_restOfKind h 26 k = some (rk S 0 (Ms 0) k, h) := S_restK (r := 26) (by decide) hn s0.1 s0.2
  have k2 : ∀ k, sX2_restOfKind h 40 k = some (rk S 1 (Ms 1) k, h) := S_restK (r := 40) (by decide) hn s1.1 s1.2
  obtain ⟨h1, e1, r1⟩ := X.tell2 (rk S 0 (Ms 0) 1 + rk S 1 (Ms 1) 1).toInt64 (rk S 0 (Ms 0) 0 + rk S 1 (Ms 1) 0 - fue S.1 S.2.1 S.2.2.1 S.2.2.2.1 S.2.2.2.2).toInt64
  have eX : sX5_left h = some (rk S 0 (Ms 0) 0 + rk S 1 (Ms 1) 0, h1) := by
    simp only [sX5_left, k1, k2, Option.bind_some, nm, X.1.2.2.1.2.2.2, e1]
  refine mkS (S' := S) (Ms' := Ms) R eX (fX5_left _ _ eX) (by decide) (by decide) r1 (invR R.1 (by simp)) (fun hM => ?_) (fX6_left h1) (by decide) (by decide)
  obtain ⟨m1, t1⟩ := hM.thr 0
  obtain ⟨h2, e2, m2, f2⟩ := m1.finds ok
  have v0 := R.1.2.1 0 (by decide)
  have v1 := R.1.2.1 1 (by decide)
  have q0 : ∀ {k : Hp}, FD k S → RM k S Ms tx row ∨ RM k S Ms tx [] → ∀ x, sX6_rests k 0 x = some (rk S 0 (Ms 0) x, k) := fun fk mk x => M_rests (s := 0) ok (by decide) fk (by rcases mk with q | q <;> exact q.1.2 0 (by decide)) v0.1 (v0.lt ok) x
  have q1 : ∀ {k : Hp}, FD k S → RM k S Ms tx row ∨ RM k S Ms tx [] → ∀ x, sX6_rests k 1 x = some (rk S 1 (Ms 1) x, k) := fun fk mk x => M_rests (s := 1) ok (by decide) fk (by rcases mk with q | q <;> exact q.1.2 1 (by decide)) v1.1 (v1.lt ok) x
  obtain ⟨m3, F3⟩ := m2.row0
  have f3 := FD.fr f2 F3 (by decide) (by decide)
  obtain ⟨h4, e4, m4, F4⟩ := m3.ent (by simp) (rk S 0 (Ms 0) 1 + rk S 1 (Ms 1) 1).toInt64
  obtain ⟨h5, e5, m5, F5⟩ := m4.ent (by simp) (rk S 0 (Ms 0) 0 + rk S 1 (Ms 1) 0 - fue S.1 S.2.1 S.2.2.1 S.2.2.2.1 S.2.2.2.2).toInt64
  refine ⟨h5, ?_, m5⟩
  have a0 : h2.1 54 18 = fue S.1 S.2.1 S.2.2.1 S.2.2.2.1 S.2.2.2.2 := by
    obtain ⟨hw, ew1, ew2, ew3, ew4⟩ := M_finds m1.1.1 ok
    have : h2 = hw := Option.some.inj (e2.symm.trans ew1)
    rw [this]; exact ew2.2.2.2.1
  have a1 : h4.1 54 18 = fue S.1 S.2.1 S.2.2.1 S.2.2.2.1 S.2.2.2.2 := (F4.f (by decide)).trans ((F3.f (by decide)).trans a0)
  simp only [sX6_left, nm, e2, Option.bind_some, q0 f2 (Or.inl m2), q1 f2 (Or.inl m2), q0 f3 (Or.inr m3), q1 f3 (Or.inr m3), e4, a1, e5]
theorem op_clears (R : Rel h S Ms tx row) (a : Int32) : Step (fun h => sX5_clears h a) (fun h => sX6_clears h a) h := by
  have ok := R.1.1
  have X := R.2.1
  have hn := ok.1
  by_cases c : a = 0 ∨ a = 1
  · obtain ⟨s, hs, rfl⟩ := side_cs c
    have cb : ¬ bI (nI s = 0 ∨ nI s = 1) = 0 := by rw [bI_z]; exact fun q => q c
    obtain ⟨d1, x1⟩ := X.1.2.2.2 s hs
    obtain ⟨h1, e1, e2, e3⟩ := S_empty (r := 26 + 14 * s) (ck_sd hs) hn d1.2.2.1
    have eX : sX5_clears h (nI s) = some (nI (Ms s).length, h1) := by
      simp only [sX5_clears, X_isSide, Option.bind_some, cb, if_false, X_sideOf _ hs, gd_t (isC_ok (ck_sd hs)), nm, x1.1, e1]
    have F1 := fX2_empty _ _ _ e1
    have rX : RX h1 S (upM Ms s []) tx row := by
      have hs' : s = 0 ∨ s = 1 := by omega
      refine ⟨⟨X.1.1.fr F1 (fun w hw => ?_), (F1.1 1 8 (fun q => ?_) (fun q => ?_)).trans X.1.2.1, X.1.2.2.1.fr F1 (fun w hw => ?_), fun t ht' => ?_⟩, ?_, ?_⟩
      · simp only [wX2_empty, List.mem_cons, List.not_mem_nil, or_false] at hw; rcases hw with rfl | rfl <;> (dsimp only; omega)
      · simp [wX2_empty] at q <;> omega
      · simp [wX2_empty] at q <;> omega
      · simp only [wX2_empty, List.mem_cons, List.not_mem_nil, or_false] at hw; rcases hw with rfl | rfl <;> (dsimp only; omega)
      · obtain ⟨d2, x2⟩ := X.1.2.2.2 t ht'
        by_cases e : t = s
        · subst e
          refine ⟨d2.fr F1 (fun w hw => ?_), ?_⟩
          · simp only [wX2_empty, List.mem_cons, List.not_mem_nil, or_false] at hw
            rcases hw with rfl | rfl
            · exact Or.inr (Or.inr ⟨rfl, 14, rfl, by omega⟩)
            · right; left; dsimp only; omega
          · unfold upM
            rw [if_pos rfl]
            exact ⟨e2, fun k hk => by simp at hk, e3⟩
        · unfold upM
          rw [if_neg e]
          refine ⟨d2.fr F1 (fun w hw => ?_), x2.fr F1 (fun w hw => ?_)⟩
          · simp only [wX2_empty, List.mem_cons, List.not_mem_nil, or_false] at hw
            rcases hw with rfl | rfl <;> (dsimp only; omega)
          · simp only [wX2_empty, List.mem_cons, List.not_mem_nil, or_false] at hw
            rcases hw with rfl | rfl <;> (dsimp only; omega)
      · rcases hs' with rfl | rfl
        · exact X.2.1.fr F1 (by decide)
        · exact X.2.1.fr F1 (by decide)
      · rcases hs' with rfl | rfl
        · exact X.2.2.fr F1 (by decide) (by decide)
        · exact X.2.2.fr F1 (by decide) (by decide)
    have iv : Inv S (upM Ms s []) tx row := by
      refine ⟨ok, fun t ht' => ?_, R.1.2.2.1, R.1.2.2.2⟩
      unfold upM
      by_cases e : t = s
      · rw [if_pos e]
        refine ⟨by simp, fun k hk => by simp at hk, fun i hi' => ?_, fun k hk => by simp at hk⟩
        exact (ht_bd ok hi').1
      · rw [if_neg e]; exact R.1.2.1 t ht'
    refine mkS R eX (fX5_clears _ _ _ eX) (by decide) (by decide) rX iv (fun hM => ?_) (fun q e => fX6_clears h1 (nI s) q e) (by decide) (by decide)
    obtain ⟨m1, t1⟩ := hM.thr 0
    have F2 : Fr [(67, none)] [] (u1 h1 54 0 0) (u1 (u1 h1 54 0 0) 67 s 0) := Fr.w1 Fr.rf rfl (Or.inl (by decide))
    refine ⟨u1 (u1 h1 54 0 0) 67 s 0, ?_, ⟨MQS.fr m1.1.1 F2 (by decide), fun t ht' => ?_⟩, m1.2.1.fr F2 (by decide), m1.2.2.fr F2 (by decide) (by decide)⟩
    · simp only [sX6_clears, nm, M_isSide, Option.bind_some, cb, if_false, gd_in (show s < 2 by omega) (show 2 ≤ 1000 by decide), cl_n (show s ≤ 100000 by omega), (m1.1.2 s hs).1]
    · unfold upM
      by_cases e : t = s
      · rw [if_pos e, e]
        exact ⟨rd1s, fun k hk => by simp at hk⟩
      · rw [if_neg e]
        obtain ⟨q1, q2⟩ := m1.1.2 t ht'
        exact ⟨(rd1k e).trans q1, fun k hk => ⟨(rd1c (by decide)).trans (q2 k hk).1, (rd1c (by decide)).trans (q2 k hk).2.1, (rd1c (by decide)).trans (q2 k hk).2.2⟩⟩
  · have cb : bI (a = 0 ∨ a = 1) = 0 := by rw [bI_z]; exact c
    have eX : sX5_clears h a = some (-1, h) := by simp only [sX5_clears, X_isSide, Option.bind_some, cb, if_true]
    refine mkS (S' := S) (Ms' := Ms) R eX (fX5_clears _ _ _ eX) (by decide) (by decide) X R.1 (fun hM => ?_) (fun q e => fX6_clears h a q e) (by decide) (by decide)
    obtain ⟨m1, t1⟩ := hM.thr 0
    exact ⟨u1 h 54 0 0, by simp only [sX6_clears, nm, M_isSide, Option.bind_some, cb, if_true], m1⟩
end O3
