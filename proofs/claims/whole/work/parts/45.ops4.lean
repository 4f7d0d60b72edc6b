/-! sets, gap, splits, drops -/
section O4
variable {h : Hp} {S : SS} {Ms : Nat → Mt} {tx : List Int32} {row : List Int64} {i : Nat}
theorem X_isValue (h : Hp) (w v : Int32) : sX5_isValue h w v = some (bI (vOk w v), h) := by
  have wn := w_ne
  simp only [sX5_isValue, sX5_isValue_c20, sX5_isValue_c21, sX5_isValue_c31, sX5_isValue_c42, sX5_isValue_c43, X_isDegree, Option.bind_some, bI_z]
  by_cases c2 : w = 2
  · subst c2
    rw [if_pos rfl]
    by_cases c3 : v < 1
    · rw [if_pos c3, show bI (vOk 2 v) = 0 from bI_z.mpr (by grind)]; rfl
    · rw [if_neg c3]
      by_cases c4 : 20 < v
      · rw [if_pos c4, show bI (vOk 2 v) = 0 from bI_z.mpr (by grind)]; rfl
      · rw [if_neg c4, show bI (vOk 2 v) = 1 from if_pos (by grind)]; rfl
  · rw [if_neg c2]
    by_cases c0 : w = 0 ∨ w = 1
    · by_cases c5 : 0 ≤ v ∧ v ≤ 500
      · rw [show bI (vOk w v) = 1 from if_pos (Or.inr ⟨c0, c5⟩)]
        simp only [c5, and_self, not_true, if_false]
        rcases c0 with rfl | rfl
        · rfl
        · rfl
      · rw [show bI (vOk w v) = 0 from bI_z.mpr (by grind)]
        simp only [c5, not_false_iff, if_true]
        rcases c0 with rfl | rfl
        · rfl
        · rfl
    · rw [if_neg (fun q => c0 (Or.inl q)), if_neg (fun q => c0 (Or.inr q)), show bI (vOk w v) = 0 from bI_z.mpr (by grind)]; rfl
theorem X_turns {r : Nat} (hr : ck r = 1) (hP : PS h r S.1 S.2.1 S.2.2.1 S.2.2.2.1) (hn : S.1 ≤ 10) (hi' : i < S.1) (w v : Int32) : sX1_turns h r (nI i) w v = some (bI (trn S i w v), h) := by
  obtain ⟨a1, a2, a3, a4⟩ := hP.2 i hi'
  have e : sX1_turns h r (nI i) w v = sX1_turns_c31 h r (nI i) (vBg S i w v) (vEn S i w v) := by
    unfold vBg vEn
    simp only [sX1_turns, sX1_turns_c14, gd_t (isC_ok hr), gd_in (show i < 10 by omega) (show 10 ≤ 1000 by decide), cl_n (show i ≤ 100000 by omega), a2, a3]
    by_cases c0 : w = 0 <;> by_cases c1 : w = 1 <;> simp [c0, c1]
  rw [e]
  simp only [sX1_turns_c31, sX1_turns_c69, gd_in (show i < 10 by omega) (show 10 ≤ 1000 by decide), cl_n (show i ≤ 100000 by omega), a1]
  unfold hb
  by_cases c : S.2.2.1 i < S.2.1 i
  · rw [if_pos c, if_neg (by decide)]
    by_cases d : vEn S i w v < vBg S i w v
    · rw [if_pos d, show bI (trn S i w v) = 0 from bI_z.mpr (by grind)]; rfl
    · rw [if_neg d, show bI (trn S i w v) = 1 from if_pos (by grind)]; rfl
  · rw [if_neg c, if_pos rfl]
    by_cases d : vBg S i w v < vEn S i w v
    · rw [if_pos d, show bI (trn S i w v) = 0 from bI_z.mpr (by grind)]; rfl
    · rw [if_neg d, show bI (trn S i w v) = 1 from if_pos (by grind)]; rfl
theorem X_value {r : Nat} (hr : ck r = 1) (hP : PS h r S.1 S.2.1 S.2.2.1 S.2.2.2.1) (hn : S.1 ≤ 10) (hi' : i < S.1) {w : Int32} (hw : w = 0 ∨ w = 1 ∨ w = 2) : sX1_value h r (nI i) w = some (vAt S i w, h) := by
  obtain ⟨a1, a2, a3, a4⟩ := hP.2 i hi'
  simp only [sX1_value, sX1_value_c31, gd_t (isC_ok hr), gd_in (show i < 10 by omega) (show 10 ≤ 1000 by decide), cl_n (show i ≤ 100000 by omega), a2, a3, a4]
  unfold vAt
  rcases hw with rfl | rfl | rfl <;> rfl
theorem X_put {r : Nat} (hr : ck r = 1) (hP : PS h r S.1 S.2.1 S.2.2.1 S.2.2.2.1) (hn : S.1 ≤ 10) (hi' : i < S.1) {w v : Int32} (hw : w = 0 ∨ w = 1 ∨ w = 2) (hh : hb (stS S i w v).2.1 (stS S i w v).2.2.1 i = hb S.2.1 S.2.2.1 i) : ∃ h', sX1_put h r (nI i) w v = some h' ∧ PS h' r S.1 (stS S i w v).2.1 (stS S i w v).2.2.1 (stS S i w v).2.2.2.1 := by
  have key : ∀ (o : Nat) (F' T' C' : Nat → Int32), (o = 2 ∨ o = 3 ∨ o = 4) → F' = (if o = 2 then upd S.2.1 i v else S.2.1) → T' = (if o = 3 then upd S.2.2.1 i v else S.2.2.1) → C' = (if o = 4 then upd S.2.2.2.1 i v else S.2.2.2.1) → hb F' T' i = hb S.2.1 S.2.2.1 i → PS (u1 h (r + o) i v) r S.1 F' T' C' := by
    intro o F' T' C' ho e1 e2 e3 e4
    refine ⟨(rd1c (by omega)).trans hP.1, fun j hj => ?_⟩
    obtain ⟨a1, a2, a3, a4⟩ := hP.2 j hj
    by_cases e : j = i
    · subst e
      refine ⟨(rd1c (by omega)).trans (a1.trans e4.symm), ?_, ?_, ?_⟩
      · rw [e1]; by_cases c : o = 2
        · subst c; rw [if_pos rfl, upd_s]; exact rd1s
        · rw [if_neg c]; exact (rd1c (by omega)).trans a2
      · rw [e2]; by_cases c : o = 3
        · subst c; rw [if_pos rfl, upd_s]; exact rd1s
        · rw [if_neg c]; exact (rd1c (by omega)).trans a3
      · rw [e3]; by_cases c : o = 4
        · subst c; rw [if_pos rfl, upd_s]; exact rd1s
        · rw [if_neg c]; exact (rd1c (by omega)).trans a4
    · have f1 : F' j = S.2.1 j := by rw [e1]; split; exact upd_n e; rfl
      have f2 : T' j = S.2.2.1 j := by rw [e2]; split; exact upd_n e; rfl
      have f3 : C' j = S.2.2.2.1 j := by rw [e3]; split; exact upd_n e; rfl
      unfold hb at a1 ⊢
      rw [f1, f2, f3, rd1k e, rd1k e, rd1k e, rd1k e]
      exact ⟨a1, a2, a3, a4⟩
  have wn := w_ne
  rcases hw with rfl | rfl | rfl
  · refine ⟨u1 h (r + 2) i v, ?_, key 2 _ _ _ (by omega) ?_ ?_ ?_ hh⟩
    · simp only [sX1_put, sX1_put_c36, gd_t (isC_ok hr), wn, if_false, if_true, gd_in (show i < 10 by omega) (show 10 ≤ 1000 by decide), cl_n (show i ≤ 100000 by omega), nm]
    all_goals simp [stS, wn]
  · refine ⟨u1 h (r + 3) i v, ?_, key 3 _ _ _ (by omega) ?_ ?_ ?_ hh⟩
    · simp only [sX1_put, sX1_put_c36, gd_t (isC_ok hr), wn, if_false, gd_in (show i < 10 by omega) (show 10 ≤ 1000 by decide), cl_n (show i ≤ 100000 by omega), nm]
    all_goals simp [stS, wn]
  · refine ⟨u1 h (r + 4) i v, ?_, key 4 _ _ _ (by omega) ?_ ?_ ?_ hh⟩
    · simp only [sX1_put, sX1_put_c36, gd_t (isC_ok hr), if_true, gd_in (show i < 10 by omega) (show 10 ≤ 1000 by decide), cl_n (show i ≤ 100000 by omega), nm]
    all_goals simp [stS, wn]
theorem M_canSet (hM : MQS h S) (hn : S.1 ≤ 10) (a w v : Int32) : sX6_canSet h a w v = some (bI ((0 ≤ a ∧ a < nI S.1) ∧ vOk w v), h) := by
  simp only [sX6_canSet, sX6_canSet_c52, sX6_canSet_c56, sX6_canSet_c57, M_isStream hM hn, Option.bind_some, bI_z, M_inI]
  by_cases c : 0 ≤ a ∧ a < nI S.1
  · rw [if_neg (fun q => q c)]
    have w1 : ((0 : Int64).toInt ≤ w.toInt ∧ w.toInt ≤ (2 : Int64).toInt) ↔ (w = 0 ∨ w = 1 ∨ w = 2) := by
      rw [eq_tI, eq_tI, eq_tI]
      show (0 : Int) ≤ w.toInt ∧ w.toInt ≤ 2 ↔ w.toInt = 0 ∨ w.toInt = 1 ∨ w.toInt = 2
      omega
    have w2 : ((1 : Int64).toInt ≤ v.toInt ∧ v.toInt ≤ (20 : Int64).toInt) ↔ (1 ≤ v ∧ v ≤ 20) := by rw [le_tI, le_tI]; rfl
    have w3 : ((0 : Int64).toInt ≤ v.toInt ∧ v.toInt ≤ (500 : Int64).toInt) ↔ (0 ≤ v ∧ v ≤ 500) := by rw [le_tI, le_tI]; rfl
    simp only [w1, w2, w3]
    have wn := w_ne
    by_cases d : w = 0 ∨ w = 1 ∨ w = 2
    · rw [if_neg (fun q => q d)]
      by_cases d2 : w = 2
      · rw [if_pos d2]
        by_cases d3 : 1 ≤ v ∧ v ≤ 20
        · rw [if_neg (fun q => q d3), show bI ((0 ≤ a ∧ a < nI S.1) ∧ vOk w v) = 1 from if_pos ⟨c, Or.inl ⟨d2, d3⟩⟩]; rfl
        · rw [if_pos d3, show bI ((0 ≤ a ∧ a < nI S.1) ∧ vOk w v) = 0 from bI_z.mpr (by grind)]; rfl
      · rw [if_neg d2]
        by_cases d3 : 0 ≤ v ∧ v ≤ 500
        · rw [if_neg (fun q => q d3), show bI ((0 ≤ a ∧ a < nI S.1) ∧ vOk w v) = 1 from if_pos ⟨c, Or.inr ⟨by grind, d3⟩⟩]; rfl
        · rw [if_pos d3, show bI ((0 ≤ a ∧ a < nI S.1) ∧ vOk w v) = 0 from bI_z.mpr (by grind)]; rfl
    · rw [if_pos d, show bI ((0 ≤ a ∧ a < nI S.1) ∧ vOk w v) = 0 from bI_z.mpr (by grind)]; rfl
  · rw [if_pos c, show bI ((0 ≤ a ∧ a < nI S.1) ∧ vOk w v) = 0 from bI_z.mpr (fun q => c q.1)]; rfl
theorem M_wouldTurn (hM : MQS h S) (hn : S.1 ≤ 10) (hi' : i < S.1) (w v : Int32) : sX6_wouldTurn h (nI i) w v = some (bI (trn S i w v), h) := by
  obtain ⟨a1, a2, a3⟩ := hM.2.2 i hi'
  have e : sX6_wouldTurn h (nI i) w v = sX6_wouldTurn_c31 h (nI i) (vBg S i w v) (vEn S i w v) := by
    unfold vBg vEn
    simp only [sX6_wouldTurn, sX6_wouldTurn_c14, gd_in (show i < 10 by omega) (show 10 ≤ 1000 by decide), cl_n (show i ≤ 100000 by omega), a1, a2]
    by_cases c0 : w = 0 <;> by_cases c1 : w = 1 <;> simp [c0, c1]
  rw [e]
  simp only [sX6_wouldTurn_c31, sX6_wouldTurn_c68, M_isHot hM hn hi', Option.bind_some]
  unfold hb
  by_cases c : S.2.2.1 i < S.2.1 i
  · rw [if_pos c, if_neg (by decide)]
    by_cases d : vEn S i w v < vBg S i w v
    · rw [if_pos d, show bI (trn S i w v) = 0 from bI_z.mpr (by grind)]; rfl
    · rw [if_neg d, show bI (trn S i w v) = 1 from if_pos (by grind)]; rfl
  · rw [if_neg c, if_pos rfl]
    by_cases d : vBg S i w v < vEn S i w v
    · rw [if_pos d, show bI (trn S i w v) = 0 from bI_z.mpr (by grind)]; rfl
    · rw [if_neg d, show bI (trn S i w v) = 1 from if_pos (by grind)]; rfl
theorem M_of (hM : MQS h S) (hn : S.1 ≤ 10) (hi' : i < S.1) (w : Int32) : sX6_of h (nI i) w = some (vAt S i w, h) := by
  obtain ⟨a1, a2, a3⟩ := hM.2.2 i hi'
  simp only [sX6_of, sX6_of_c33, gd_in (show i < 10 by omega) (show 10 ≤ 1000 by decide), cl_n (show i ≤ 100000 by omega), a1, a2, a3]
  unfold vAt
  by_cases c0 : w = 0
  · simp [c0]
  · by_cases c1 : w = 1 <;> simp [c0, c1]
theorem M_becomes (hM : MQS h S) (hn : S.1 ≤ 10) (hi' : i < S.1) {w v : Int32} : ∃ h', sX6_becomes h (nI i) w v = some h' ∧ MQS h' (stS S i w v) := by
  obtain ⟨a1, a2, a3⟩ := hM.2.2 i hi'
  obtain ⟨s1, s2, s3⟩ := stS_i S i w v
  have b2 : (u1 h 57 i (vBg S i w v)).1 58 i = S.2.2.1 i := (rd1c (by decide)).trans a2
  have b3 : (u1 (u1 h 57 i (vBg S i w v)) 58 i (vEn S i w v)).1 59 i = S.2.2.2.1 i := (rd1c (by decide)).trans ((rd1c (by decide)).trans a3)
  refine ⟨u1 (u1 (u1 h 57 i (vBg S i w v)) 58 i (vEn S i w v)) 59 i (if w = 2 then v else S.2.2.2.1 i), ?_, ?_, ?_, fun j hj => ?_⟩
  · have e : sX6_becomes h (nI i) w v = sX6_becomes_c19 h (nI i) w v (vBg S i w v) (nI i) := by
      unfold vBg
      simp only [sX6_becomes, gd_in (show i < 10 by omega) (show 10 ≤ 1000 by decide), cl_n (show i ≤ 100000 by omega), a1]
      by_cases c0 : w = 0 <;> simp [c0]
    rw [e]
    have e2 : sX6_becomes_c19 h (nI i) w v (vBg S i w v) (nI i) = sX6_becomes_c40 (u1 h 57 i (vBg S i w v)) (nI i) w v (vEn S i w v) (nI i) := by
      simp only [sX6_becomes_c19, gd_in (show i < 10 by omega) (show 10 ≤ 1000 by decide), cl_n (show i ≤ 100000 by omega), nm, b2]
      unfold vEn
      by_cases c0 : w = 1 <;> simp [c0]
    rw [e2]
    simp only [sX6_becomes_c40, sX6_becomes_c61, gd_in (show i < 10 by omega) (show 10 ≤ 1000 by decide), cl_n (show i ≤ 100000 by omega), nm, b3]
    by_cases c0 : w = 2 <;> simp [c0]
  · exact (rd1c (by decide)).trans ((rd1c (by decide)).trans ((rd1c (by decide)).trans hM.1))
  · exact (rd1c (by decide)).trans ((rd1c (by decide)).trans ((rd1c (by decide)).trans hM.2.1))
  · by_cases e : j = i
    · subst e
      rw [s1, s2, s3]
      exact ⟨(rd1c (by decide)).trans ((rd1c (by decide)).trans rd1s), (rd1c (by decide)).trans rd1s, rd1s⟩
    · obtain ⟨f1, f2, f3⟩ := stS_n S e w v
      obtain ⟨g1, g2, g3⟩ := hM.2.2 j hj
      rw [f1, f2, f3]
      simp only [rd1k e]
      exact ⟨g1, g2, g3⟩
theorem M_allGo (h : Hp) : sX6_allGo h = some (u1 (u1 h 67 0 0) 67 1 0) := rfl
/-- all matches go: the reference -/
theorem RM.go {S' : SS} (hM : MQS h S') (hT : TM h tx) (hW : WMr h row) : ∃ h', sX6_allGo h = some h' ∧ RM h' S' (fun _ => []) tx row := by
  have F : Fr [(67, none)] [] h (u1 (u1 h 67 0 0) 67 1 0) := Fr.w1 (Fr.w1 Fr.rf rfl (by decide)) rfl (by decide)
  refine ⟨_, M_allGo h, ⟨MQS.fr hM F (by decide), fun s hs => ⟨?_, fun k hk => by simp at hk⟩⟩, hT.fr F (by decide), hW.fr F (by decide) (by decide)⟩
  rcases (show s = 0 ∨ s = 1 by omega) with rfl | rfl
  · exact (rd1k (by decide)).trans rd1s
  · exact rd1s
theorem VM0 {S : SS} (ok : OK S) (s : Nat) : VM S s [] := ⟨by simp, fun k hk => by simp at hk, fun i hi' => (ht_bd ok hi').1, fun k hk => by simp at hk⟩
theorem vOk_w {w v : Int32} (hv : vOk w v) : w = 0 ∨ w = 1 ∨ w = 2 := by
  rcases hv with ⟨q, -⟩ | ⟨q | q, -⟩
  · exact Or.inr (Or.inr q)
  · exact Or.inl q
  · exact Or.inr (Or.inl q)
theorem op_sets (R : Rel h S Ms tx row) (a w v : Int32) : Step (fun h => sX5_sets h a w v) (fun h => sX6_sets h a w v) h := by
  have ok := R.1.1
  have X := R.2.1
  have hn := ok.1
  have ux := (X.1.2.2.2 0 (by decide)).1.1
  have ly := (X.1.2.2.2 1 (by decide)).1.1
  by_cases c : (0 ≤ a ∧ a < nI S.1) ∧ vOk w v
  · obtain ⟨i, hi', rfl⟩ := str_cs hn c.1
    have c1 : ¬ bI (0 ≤ nI i ∧ nI i < nI S.1) = 0 := by rw [bI_z]; exact fun q => q c.1
    have c2 : ¬ bI (vOk w v) = 0 := by rw [bI_z]; exact fun q => q c.2
    have cM : ¬ bI ((0 ≤ nI i ∧ nI i < nI S.1) ∧ vOk w v) = 0 := by rw [bI_z]; exact fun q => q c
    have hw := vOk_w c.2
    have xh : sX1_has h 6 (nI i) = some (bI (0 ≤ nI i ∧ nI i < nI S.1), h) := X_has (by decide) X.1.1 _
    have xv : sX1_value h 6 (nI i) w = some (vAt S i w, h) := X_value (by decide) X.1.1 hn hi' hw
    have xt : sX1_turns h 6 (nI i) w v = some (bI (trn S i w v), h) := X_turns (by decide) X.1.1 hn hi' w v
    by_cases d : vAt S i w = v
    · have eX : sX5_sets h (nI i) w v = some (-2, h) := by
        simp only [sX5_sets, xh, X_isValue, xv, Option.bind_some, c1, c2, if_false, d, if_true]
      refine mkS (S' := S) (Ms' := Ms) R eX (fX5_sets _ _ _ _ _ eX) (by decide) (by decide) X R.1 (fun hM => ?_) (fun q e => fX6_sets h (nI i) w v q e) (by decide) (by decide)
      obtain ⟨m1, t1⟩ := hM.thr 0
      exact ⟨u1 h 54 0 0, by simp only [sX6_sets, nm, M_canSet m1.1.1 hn, Option.bind_some, cM, if_false, M_of m1.1.1 hn hi', d, if_true], m1⟩
    · by_cases t : trn S i w v
      · have c3 : ¬ bI (trn S i w v) = 0 := by rw [bI_z]; exact fun q => q t
        have eX : sX5_sets h (nI i) w v = some (-3, h) := by
          simp only [sX5_sets, xh, X_isValue, xv, xt, Option.bind_some, c1, c2, c3, if_false, d]
        refine mkS (S' := S) (Ms' := Ms) R eX (fX5_sets _ _ _ _ _ eX) (by decide) (by decide) X R.1 (fun hM => ?_) (fun q e => fX6_sets h (nI i) w v q e) (by decide) (by decide)
        obtain ⟨m1, t1⟩ := hM.thr 0
        exact ⟨u1 h 54 0 0, by simp only [sX6_sets, nm, M_canSet m1.1.1 hn, Option.bind_some, cM, if_false, M_of m1.1.1 hn hi', d, M_wouldTurn m1.1.1 hn hi', c3], m1⟩
      · have c3 : bI (trn S i w v) = 0 := by rw [bI_z]; exact t
        obtain ⟨ok', hh⟩ := okSt ok hi' c.2 t
        obtain ⟨h1, e1, p1⟩ := X_put (r := 6) (by decide) X.1.1 hn hi' hw hh
        have F1 := fX1_put _ _ _ _ _ _ e1
        obtain ⟨h2, e2, r2⟩ := RX.settle (S := stS S i w v) (Ms' := Ms) (tx := tx) (row := row) (h := h1) ok' p1 ((F1.f (by decide)).trans X.1.2.1) ((F1.f (by decide)).trans ux) ((F1.f (by decide)).trans ly) (X.2.1.fr F1 (by decide)) (X.2.2.fr F1 (by decide) (by decide))
        have eX : sX5_sets h (nI i) w v = some (vAt S i w, h2) := by
          simp only [sX5_sets, xh, X_isValue, xv, xt, Option.bind_some, c1, c2, c3, if_false, if_true, d, e1, e2]
        refine mkS R eX (fX5_sets _ _ _ _ _ eX) (by decide) (by decide) r2 ⟨ok', fun s _ => VM0 ok' s, R.1.2.2.1, R.1.2.2.2⟩ (fun hM => ?_) (fun q e => fX6_sets h2 (nI i) w v q e) (by decide) (by decide)
        obtain ⟨m1, t1⟩ := hM.thr 0
        obtain ⟨h3, e3, m3⟩ := M_becomes (w := w) (v := v) m1.1.1 hn hi'
        have F3 := fX6_becomes _ _ _ _ _ e3
        obtain ⟨h4, e4, m4⟩ := RM.go m3 (m1.2.1.fr F3 (by decide)) (m1.2.2.fr F3 (by decide) (by decide))
        exact ⟨h4, by simp only [sX6_sets, nm, M_canSet m1.1.1 hn, Option.bind_some, cM, if_false, M_of m1.1.1 hn hi', d, M_wouldTurn m1.1.1 hn hi', c3, if_true, e3, e4], m4⟩
  · have xh : sX1_has h 6 a = some (bI (0 ≤ a ∧ a < nI S.1), h) := X_has (by decide) X.1.1 _
    have eX : sX5_sets h a w v = some (-1, h) := by
      simp only [sX5_sets, sX5_sets_c19, xh, X_isValue, Option.bind_some, bI_z]
      by_cases d : 0 ≤ a ∧ a < nI S.1
      · rw [if_neg (fun q => q d), if_pos (fun q => c ⟨d, q⟩)]
      · rw [if_pos d]
    have cM : bI ((0 ≤ a ∧ a < nI S.1) ∧ vOk w v) = 0 := by rw [bI_z]; exact c
    refine mkS (S' := S) (Ms' := Ms) R eX (fX5_sets _ _ _ _ _ eX) (by decide) (by decide) X R.1 (fun hM => ?_) (fun q e => fX6_sets h a w v q e) (by decide) (by decide)
    obtain ⟨m1, t1⟩ := hM.thr 0
    exact ⟨u1 h 54 0 0, by simp only [sX6_sets, nm, M_canSet m1.1.1 hn, Option.bind_some, cM, if_true], m1⟩
theorem op_gap (R : Rel h S Ms tx row) (a : Int32) : Step (fun h => sX5_gap h a) (fun h => sX6_gap h a) h := by
  have ok := R.1.1
  have X := R.2.1
  have hn := ok.1
  have ux := (X.1.2.2.2 0 (by decide)).1.1
  have ly := (X.1.2.2.2 1 (by decide)).1.1
  by_cases c : 0 ≤ a ∧ a ≤ 60
  · have c1 : ¬ bI (0 ≤ a ∧ a ≤ 60) = 0 := by rw [bI_z]; exact fun q => q c
    have cM : ¬ bI ((0 : Int64).toInt ≤ a.toInt ∧ a.toInt ≤ (60 : Int64).toInt) = 0 := by
      rw [bI_z]
      have c' := c
      rw [le_tI, le_tI] at c'
      exact fun q => q c'
    by_cases d : S.2.2.2.2 = a
    · have eX : sX5_gap h a = some (-2, h) := by simp only [sX5_gap, X_isGap, Option.bind_some, c1, if_false, nm, X.1.2.1, d, if_true]
      refine mkS (S' := S) (Ms' := Ms) R eX (fX5_gap _ _ _ eX) (by decide) (by decide) X R.1 (fun hM => ?_) (fun q e => fX6_gap h a q e) (by decide) (by decide)
      obtain ⟨m1, t1⟩ := hM.thr 0
      exact ⟨u1 h 54 0 0, by simp only [sX6_gap, nm, M_inI, Option.bind_some, cM, if_false, m1.1.1.2.1, d, if_true], m1⟩
    · have ok' : OK (gp S a) := ok.gp c
      have F1 : Fr [(1, some 8)] [] h (u1 h 1 8 a) := Fr.w1 Fr.rf rfl (by decide)
      obtain ⟨h2, e2, r2⟩ := RX.settle (S := gp S a) (Ms' := Ms) (tx := tx) (row := row) (h := u1 h 1 8 a) ok' (X.1.1.fr F1 (by decide)) rd1s ((F1.f (by decide)).trans ux) ((F1.f (by decide)).trans ly) (X.2.1.fr F1 (by decide)) (X.2.2.fr F1 (by decide) (by decide))
      have eX : sX5_gap h a = some (S.2.2.2.2, h2) := by simp only [sX5_gap, X_isGap, Option.bind_some, c1, if_false, nm, X.1.2.1, d, e2]
      refine mkS R eX (fX5_gap _ _ _ eX) (by decide) (by decide) r2 ⟨ok', fun s _ => VM0 ok' s, R.1.2.2.1, R.1.2.2.2⟩ (fun hM => ?_) (fun q e => fX6_gap h2 a q e) (by decide) (by decide)
      obtain ⟨m1, t1⟩ := hM.thr 0
      have F3 : Fr [(54, some 11)] [] (u1 h2 54 0 0) (u1 (u1 h2 54 0 0) 54 11 a) := Fr.w1 Fr.rf rfl (by decide)
      have m3 : MQS (u1 (u1 h2 54 0 0) 54 11 a) (gp S a) := ⟨(F3.f (by decide)).trans m1.1.1.1, rd1s, fun i hi' => ⟨(F3.c (by decide) i).trans (m1.1.1.2.2 i hi').1, (F3.c (by decide) i).trans (m1.1.1.2.2 i hi').2.1, (F3.c (by decide) i).trans (m1.1.1.2.2 i hi').2.2⟩⟩
      obtain ⟨h4, e4, m4⟩ := RM.go m3 (m1.2.1.fr F3 (by decide)) (m1.2.2.fr F3 (by decide) (by decide))
      exact ⟨h4, by simp only [sX6_gap, nm, M_inI, Option.bind_some, cM, if_false, m1.1.1.2.1, d, e4], m4⟩
  · have c1 : bI (0 ≤ a ∧ a ≤ 60) = 0 := by rw [bI_z]; exact c
    have cM : bI ((0 : Int64).toInt ≤ a.toInt ∧ a.toInt ≤ (60 : Int64).toInt) = 0 := by
      rw [bI_z]
      rw [le_tI, le_tI] at c
      exact c
    have eX : sX5_gap h a = some (-1, h) := by simp only [sX5_gap, X_isGap, Option.bind_some, c1, if_true]
    refine mkS (S' := S) (Ms' := Ms) R eX (fX5_gap _ _ _ eX) (by decide) (by decide) X R.1 (fun hM => ?_) (fun q e => fX6_gap h a q e) (by decide) (by decide)
    obtain ⟨m1, t1⟩ := hM.thr 0
    exact ⟨u1 h 54 0 0, by simp only [sX6_gap, nm, M_inI, Option.bind_some, cM, if_true], m1⟩
end O4
