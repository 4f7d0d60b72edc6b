/-! loops: the reference counts the parts; the call -/
section O34
variable {h : Hp} {S : SS} {Ms : Nat → Mt} {tx : List Int32} {row : List Int64} {s : Nat} {M : Mt}
def pC (M : Mt) : Nat → Nat
  | 0 => 0
  | i + 1 => pC M i + (if mnL (lbM M M.length).1 i ∧ ¬ us M M.length i ≤ 0 then 1 else 0)
theorem pC_z : ∀ {n : Nat}, (pC M n : Int) = sZ n (fun j => if mnL (lbM M M.length).1 j ∧ ¬ us M M.length j ≤ 0 then 1 else 0)
  | 0 => rfl
  | n + 1 => by
    have ih := pC_z (n := n)
    show ((pC M n + (if mnL (lbM M M.length).1 n ∧ ¬ us M M.length n ≤ 0 then 1 else 0) : Nat) : Int) = sZ n (fun j => if mnL (lbM M M.length).1 j ∧ ¬ us M M.length j ≤ 0 then (1 : Int) else 0) + (if mnL (lbM M M.length).1 n ∧ ¬ us M M.length n ≤ 0 then (1 : Int) else 0)
    rw [← ih]
    by_cases c : mnL (lbM M M.length).1 n ∧ ¬ us M M.length n ≤ 0
    · rw [if_pos c, if_pos c]; omega
    · rw [if_neg c, if_neg c]; omega
theorem cJ_le : ∀ {n : Nat}, cJ S M n ≤ n
  | 0 => Nat.le_refl 0
  | n + 1 => by
    have ih := cJ_le (n := n)
    show cJ S M n + (if us M M.length n ≤ 0 then 0 else 1) ≤ n + 1
    split <;> omega
theorem pC_le : ∀ {n : Nat}, pC M n ≤ n
  | 0 => Nat.le_refl 0
  | n + 1 => by
    have ih := pC_le (n := n)
    show pC M n + (if mnL (lbM M M.length).1 n ∧ ¬ us M M.length n ≤ 0 then 1 else 0) ≤ n + 1
    split <;> omega
/-- who has the label of a joined one is joined, too -/
theorem lb_jn {i j : Nat} (e : (lbM M M.length).1 i = (lbM M M.length).1 j) (hne : i ≠ j) : ∃ m, m < M.length ∧ (mh M m = i ∨ mc M m = i) := by
  by_cases z : ∃ m, m < M.length ∧ (mh M m = i ∨ mc M m = i)
  · exact z
  · exfalso
    have := (lb_con (M := M) (P := fun x => x = i) (k := M.length) (fun m hm => by
      constructor
      · intro q; exact absurd ⟨m, hm, Or.inl q⟩ z
      · intro q; exact absurd ⟨m, hm, Or.inr q⟩ z) i j e).mp rfl
    exact hne this.symm
theorem M_scan (ok : OK S) (hs : s < 2) (v : VM S s (Ms s)) (hM : RM h S Ms tx row) : ∃ h', sX6_loops_b79 FU h (nI s) 0 0 (jbt (Ms s) (Ms s).length) 0 0 = some (nI (Ms s).length - nI (cJ S (Ms s) S.1) + nI (pC (Ms s) S.1), h') ∧ RM h' S Ms tx [(nI (Ms s).length).toInt64, (nI (cJ S (Ms s) S.1)).toInt64, (nI (pC (Ms s) S.1)).toInt64] := by
  have hn := ok.1
  have mm := hM.1.2 s hs
  have hv := v.lt ok
  have jn : ∀ i, i < S.1 → (tb (jbt (Ms s) (Ms s).length) i = true ↔ ¬ us (Ms s) (Ms s).length i ≤ 0) := by
    intro i hi'
    rw [jbt_t hv (by omega) (Nat.le_refl _), us_no ok v hi']
    constructor
    · rintro ⟨m, m1, m2⟩ q
      exact q m m1 m2
    · intro q
      by_cases z : ∃ m, m < (Ms s).length ∧ (mh (Ms s) m = i ∨ mc (Ms s) m = i)
      · exact z
      · exact absurd (fun m hm w => z ⟨m, hm, w⟩) q
  obtain ⟨r1, F1⟩ := hM.row0
  obtain ⟨h2, e2, r2, F2⟩ := r1.ent (by simp) (nI (Ms s).length).toInt64
  obtain ⟨h3, e3, r3, F3⟩ := r2.ent (by simp) (nI (cJ S (Ms s) S.1)).toInt64
  obtain ⟨h4, e4, r4, F4⟩ := r3.ent (by simp) (nI (pC (Ms s) S.1)).toInt64
  have L := loopI (fun m (q : Int32 × Int32 × Int32 × Int32) => sX6_loops_b79 m h (nI s) q.1 q.2.1 (jbt (Ms s) (Ms s).length) q.2.2.1 q.2.2.2) (fun j q => q.2.1 = nI (pC (Ms s) j) ∧ q.2.2.1 = nI (cJ S (Ms s) j) ∧ q.2.2.2 = nI j ∧ ∀ x, x < 10 → (tb q.1 x = true ↔ ∃ t, t < j ∧ ¬ us (Ms s) (Ms s).length t ≤ 0 ∧ (lbM (Ms s) (Ms s).length).1 x = (lbM (Ms s) (Ms s).length).1 t)) S.1 (fun q => q = (nI (Ms s).length - nI (cJ S (Ms s) S.1) + nI (pC (Ms s) S.1), h4)) (by omega) (0, 0, 0, 0) ⟨rfl, rfl, rfl, fun x hx => ⟨fun q => (by have z : tb 0 x = true := q; rw [tb_0] at z; cases z), fun ⟨t, ht', _⟩ => absurd ht' (Nat.not_lt_zero t)⟩⟩ (fun m j q hj I => by
    obtain ⟨i1, i2, i3, i4⟩ := I
    have hle : ¬ nI S.1 ≤ nI j := by rw [le_n (by omega) (by omega)]; omega
    have b1 : ((jbt (Ms s) (Ms s).length) >>> (nI j &&& 31)) &&& 1 = (if tb (jbt (Ms s) (Ms s).length) j = true then 1 else 0) := tb_sh (by omega)
    have b2 : (q.1 >>> (nI j &&& 31)) &&& 1 = (if tb q.1 j = true then 1 else 0) := tb_sh (by omega)
    have e0 : sX6_loops_b79 (m + 1) h (nI s) q.1 q.2.1 (jbt (Ms s) (Ms s).length) q.2.2.1 q.2.2.2 = sX6_loops_c79 (sX6_loops_b79 m) h (nI s) q.1 (nI (pC (Ms s) j)) (jbt (Ms s) (Ms s).length) (nI (cJ S (Ms s) j)) (nI j) := by
      rw [← i1, ← i2, ← i3]; rfl
    have g1 : h.1 54 7 = nI S.1 := hM.1.1.1
    by_cases c : us (Ms s) (Ms s).length j ≤ 0
    · have c' : ¬ tb (jbt (Ms s) (Ms s).length) j = true := by rw [jn j hj]; exact fun z => z c
      have ep : pC (Ms s) (j + 1) = pC (Ms s) j := by
        show pC (Ms s) j + (if _ then 1 else 0) = _
        rw [if_neg (fun z => z.2 c)]; rfl
      have ec : cJ S (Ms s) (j + 1) = cJ S (Ms s) j := by
        show cJ S (Ms s) j + (if _ then 0 else 1) = _
        rw [if_pos c]; rfl
      refine ⟨(q.1, nI (pC (Ms s) j), nI (cJ S (Ms s) j), nI (j + 1)), ⟨by rw [ep], by rw [ec], rfl, fun x hx => ?_⟩, ?_⟩
      · rw [i4 x hx]
        constructor
        · rintro ⟨t, t1, t2, t3⟩
          exact ⟨t, by omega, t2, t3⟩
        · rintro ⟨t, t1, t2, t3⟩
          by_cases z : t = j
          · subst z; exact absurd c t2
          · exact ⟨t, by omega, t2, t3⟩
      · refine e0.trans ?_
        unfold sX6_loops_c79 sX6_loops_c133
        rw [g1, if_neg hle, b1, if_neg c', nm_t (show nI (cJ S (Ms s) j) + 0 = nI (cJ S (Ms s) j) from Int32.add_zero _), if_neg (show ¬ (0 : Int32) = 1 by decide), nI_1, nm_t rfl]
    · have c' : tb (jbt (Ms s) (Ms s).length) j = true := (jn j hj).mpr c
      have ec : cJ S (Ms s) (j + 1) = cJ S (Ms s) j + 1 := by
        show cJ S (Ms s) j + (if _ then 0 else 1) = _
        rw [if_neg c]
      have mt : tb q.1 j = true ↔ ¬ mnL (lbM (Ms s) (Ms s).length).1 j := by
        rw [i4 j (by omega)]
        constructor
        · rintro ⟨t, t1, t2, t3⟩ z
          exact z t t1 t3.symm
        · intro z
          by_cases w : ∃ t, t < j ∧ (lbM (Ms s) (Ms s).length).1 t = (lbM (Ms s) (Ms s).length).1 j
          · obtain ⟨t, t1, t2⟩ := w
            refine ⟨t, t1, ?_, t2.symm⟩
            rw [us_no ok v (by omega)]
            intro y
            obtain ⟨m', m1, m2⟩ := lb_jn t2 (by omega)
            exact y m' m1 m2
          · exact absurd (fun t t1 t2 => w ⟨t, t1, t2⟩) z
      by_cases d : tb q.1 j = true
      · have ep : pC (Ms s) (j + 1) = pC (Ms s) j := by
          show pC (Ms s) j + (if _ then 1 else 0) = _
          rw [if_neg (fun z => mt.mp d z.1)]; rfl
        refine ⟨(q.1, nI (pC (Ms s) j), nI (cJ S (Ms s) (j + 1)), nI (j + 1)), ⟨by rw [ep], rfl, rfl, fun x hx => ?_⟩, ?_⟩
        · rw [i4 x hx]
          constructor
          · rintro ⟨t, t1, t2, t3⟩
            exact ⟨t, by omega, t2, t3⟩
          · rintro ⟨t, t1, t2, t3⟩
            by_cases z : t = j
            · subst z
              obtain ⟨u, u1', u2', u3'⟩ := (i4 t (by omega)).mp d
              exact ⟨u, u1', u2', t3.trans u3'⟩
            · exact ⟨t, by omega, t2, t3⟩
        · refine e0.trans ?_
          unfold sX6_loops_c79 sX6_loops_c133
          rw [g1, if_neg hle, b1, if_pos c', b2, if_pos d, nI_1, nm_t rfl, if_pos rfl, if_neg (show ¬ (1 : Int32) = 0 by decide), nI_1, nm_t rfl, ec]
      · have dm : mnL (lbM (Ms s) (Ms s).length).1 j := by
          by_cases z : mnL (lbM (Ms s) (Ms s).length).1 j
          · exact z
          · exact absurd (mt.mpr z) d
        have ep : pC (Ms s) (j + 1) = pC (Ms s) j + 1 := by
          show pC (Ms s) j + (if _ then 1 else 0) = _
          rw [if_pos ⟨dm, c⟩]
        obtain ⟨x, x1, x2⟩ := M_hangs hs mm v.1 hv (a := j) (by omega)
        refine ⟨(q.1 ||| x, nI (pC (Ms s) (j + 1)), nI (cJ S (Ms s) (j + 1)), nI (j + 1)), ⟨rfl, rfl, rfl, fun y hy => ?_⟩, ?_⟩
        · show tb (q.1 ||| x) y = true ↔ _
          rw [tb_or, Bool.or_eq_true, i4 y hy, x2 y (by omega)]
          constructor
          · rintro (⟨t, t1, t2, t3⟩ | z)
            · exact ⟨t, by omega, t2, t3⟩
            · exact ⟨j, by omega, c, z⟩
          · rintro ⟨t, t1, t2, t3⟩
            by_cases z : t = j
            · subst z; exact Or.inr t3
            · exact Or.inl ⟨t, by omega, t2, t3⟩
        · refine e0.trans ?_
          unfold sX6_loops_c79 sX6_loops_c133
          rw [g1, if_neg hle, b1, if_pos c', b2, if_neg d, nI_1, nm_t rfl, if_pos rfl, if_pos rfl, nI_1, nm_t rfl, bd_t x1, nm_t rfl, nI_1, nm_t rfl, ec, ep]) (fun m q I => by
    obtain ⟨i1, i2, i3, i4⟩ := I
    refine ⟨_, ?_, rfl⟩
    have hle : nI S.1 ≤ nI S.1 := by rw [le_n (by omega) (by omega)]; omega
    show sX6_loops_c79 (sX6_loops_b79 m) h (nI s) q.1 q.2.1 (jbt (Ms s) (Ms s).length) q.2.2.1 q.2.2.2 = _
    have g1 : h.1 54 7 = nI S.1 := hM.1.1.1
    unfold sX6_loops_c79
    rw [i1, i2, i3, g1, if_pos hle, nm_t rfl, gd_in (show s < 2 by omega) (show 2 ≤ 1000 by decide), cl_n (show s ≤ 100000 by omega), (r1.1.2 s hs).1, bd_t e2, bd_t e3, bd_t e4, gd_in (show s < 2 by omega) (show 2 ≤ 1000 by decide), (r4.1.2 s hs).1])
  obtain ⟨q, q1, q2⟩ := L
  subst q2
  exact ⟨h4, q1, r4⟩
theorem op_loops (R : Rel h S Ms tx row) (a : Int32) : Step (fun h => sX5_loops h a) (fun h => sX6_loops h a) h := by
  have ok := R.1.1
  have X := R.2.1
  have hn := ok.1
  by_cases c : a = 0 ∨ a = 1
  · obtain ⟨s, hs, rfl⟩ := side_cs c
    have cb : ¬ bI (nI s = 0 ∨ nI s = 1) = 0 := by rw [bI_z]; exact fun q => q c
    have v := R.1.2.1 s hs
    obtain ⟨d1, x1⟩ := X.1.2.2.2 s hs
    have hv : ∀ k, k < (Ms s).length → mh (Ms s) k < S.1 ∧ mc (Ms s) k < S.1 := fun k hk => ⟨(v.2.1 k hk).1.1, (v.2.1 k hk).1.2.1⟩
    obtain ⟨h1, e1, F1⟩ := S_mergers hs hn d1 x1 v.1 hv
    have X1 := X.w11 hs F1 (fun w q => by simp at q; subst q; dsimp only; omega) (by decide)
    obtain ⟨h2, e2, r2⟩ := X1.tell3 (nI (Ms s).length).toInt64 (nI (cJ S (Ms s) S.1)).toInt64 (nI (pC (Ms s) S.1)).toInt64
    have cnt := jn_cnt ok v
    rw [← pC_z] at cnt
    have l1 := cJ_le (S := S) (M := Ms s) (n := S.1)
    have l2 := pC_le (M := Ms s) (n := S.1)
    have l3 := (lbM_lt hv (Nat.le_refl _)).2
    have l4 := v.1
    have sub : nI (cJ S (Ms s) S.1) - nI (lbM (Ms s) (Ms s).length).2 = nI (pC (Ms s) S.1) := by
      rw [eq_tI, tI_sub, tI_n (by omega), tI_n (by omega), tI_n (by omega)]
      · omega
      · rw [tI_n (by omega), tI_n (by omega)]; omega
      · rw [tI_n (by omega), tI_n (by omega)]; omega
    have eX : sX5_loops h (nI s) = some (nI (Ms s).length - nI (cJ S (Ms s) S.1) + nI (pC (Ms s) S.1), h2) := by
      unfold sX5_loops
      rw [bd_t (X_isSide _ _)]
      dsimp only
      rw [if_neg cb, bd_t (X_sideOf _ hs)]
      dsimp only
      rw [gd_t (isC_ok (ck_sd hs)), bd_t (S_joined (ck_sd hs) hn d1 x1)]
      dsimp only
      rw [bd_t e1]
      dsimp only
      rw [nm_t sub, (X1.1.2.2.2 s hs).2.1, bd_t e2, (r2.1.2.2.2 s hs).2.1]
    refine mkS (S' := S) (Ms' := Ms) R eX (fX5_loops _ _ _ eX) (by decide) (by decide) r2 (invR R.1 (by simp)) (fun hM => ?_) (fun q e => fX6_loops h2 _ q e) (by decide) (by decide)
    obtain ⟨m1, t1⟩ := hM.thr 0
    obtain ⟨h3, o3, m3⟩ := M_scan ok hs v m1
    refine ⟨h3, ?_, m3⟩
    show sX6_loops h2 (nI s) = _
    unfold sX6_loops
    rw [nm_t rfl, bd_t (M_isSide _ _)]
    dsimp only
    rw [if_neg cb, M_jbt hs (m1.1.2 s hs) v.1]
    exact o3
  · have cb : bI (a = 0 ∨ a = 1) = 0 := bI_z.mpr c
    have eX : sX5_loops h a = some (-1, h) := by
      unfold sX5_loops
      rw [bd_t (X_isSide _ _)]
      dsimp only
      rw [if_pos cb]
    refine mkS (S' := S) (Ms' := Ms) R eX (fX5_loops _ _ _ eX) (by decide) (by decide) X R.1 (fun hM => ?_) (fun q e => fX6_loops h _ q e) (by decide) (by decide)
    obtain ⟨m1, t1⟩ := hM.thr 0
    refine ⟨u1 h 54 0 0, ?_, m1⟩
    show sX6_loops h a = _
    unfold sX6_loops
    rw [nm_t rfl, bd_t (M_isSide _ _)]
    dsimp only
    rw [if_pos cb]
end O34
