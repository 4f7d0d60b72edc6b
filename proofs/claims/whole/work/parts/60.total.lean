/-! total -/
abbrev T4 := Int32 × Int32 × Int32 × Int32
def tS (s k : Nat) (a : Int32) (q : T4) : T4 := if 0 ≤ a then (if a ≤ q.2.2.1 then (q.1 + a, q.2.1, q.2.2.1, q.2.2.2) else (q.1 + a, q.2.1, a, 100 * nI s + nI k)) else (q.1, q.2.1 + 1, q.2.2.1, q.2.2.2)
def tF (S : SS) (s : Nat) (M : Mt) (q : T4) : Nat → T4
  | 0 => q
  | k + 1 => tS s k (ar S s M k) (tF S s M q k)
def tG (S : SS) (Ms : Nat → Mt) : Nat → T4
  | 0 => (0, 0, 0, -1)
  | s + 1 => tF S s (Ms s) (tG S Ms s) (Ms s).length
theorem tS_0 {s k : Nat} {a : Int32} {q : T4} (h : 0 ≤ q.2.2.1) : 0 ≤ (tS s k a q).2.2.1 := by
  unfold tS
  split
  · split
    · exact h
    · assumption
  · exact h
theorem tF_0 {S : SS} {s : Nat} {M : Mt} {q : T4} (h : 0 ≤ q.2.2.1) : ∀ {k : Nat}, 0 ≤ (tF S s M q k).2.2.1
  | 0 => h
  | k + 1 => tS_0 (tF_0 h (k := k))
theorem tG_0 {S : SS} {Ms : Nat → Mt} : ∀ {s : Nat}, 0 ≤ (tG S Ms s).2.2.1
  | 0 => show (0 : Int32) ≤ 0 by decide
  | s + 1 => tF_0 (tG_0 (s := s))
section O20
variable {h : Hp} {S : SS} {Ms : Nat → Mt} {tx : List Int32} {row : List Int64} {r s : Nat} {M : Mt}
theorem X_total (ok : OK S) (X : RX h S Ms tx row) (v : ∀ s, s < 2 → VM S s (Ms s)) : ∃ h', sX5_total h = some ((tG S Ms 2).1, h') ∧ RX h' S Ms tx [(tG S Ms 2).2.1.toInt64, (tG S Ms 2).2.2.2.toInt64] := by
  obtain ⟨h1, e1, r1⟩ := X.tell2 (tG S Ms 2).2.1.toInt64 (tG S Ms 2).2.2.2.toInt64
  refine ⟨h1, ?_, r1⟩
  unfold sX5_total
  refine loop0 (fun n (q : T4 × Int32) => sX5_total_b12 n h q.1.1 q.1.2.1 q.1.2.2.1 q.1.2.2.2 q.2) (fun s => (tG S Ms s, nI s)) 2 _ (by omega) (fun m s hs => ?_) (fun m => ?_)
  · show sX5_total_c12 (sX5_total_b12 m) h (tG S Ms s).1 (tG S Ms s).2.1 (tG S Ms s).2.2.1 (tG S Ms s).2.2.2 (nI s) = _
    have hle : ¬ (2 : Int32) ≤ nI s := by show ¬ nI 2 ≤ nI s; rw [le_n (by omega) (by omega)]; omega
    have hr := ck_sd hs
    obtain ⟨hD, hX⟩ := X.1.2.2.2 s hs
    have vs := v s hs
    have hl := vs.1
    unfold sX5_total_c12
    rw [if_neg hle, bd_t (X_sideOf _ hs)]
    dsimp only
    rw [gd_t (isC_ok hr)]
    refine loop0 (fun n (q : T4 × Int32) => sX5_total_b29 (sX5_total_b12 m) n h q.1.1 q.1.2.1 q.1.2.2.1 q.1.2.2.2 (nI s) (26 + 14 * s) q.2) (fun k => (tF S s (Ms s) (tG S Ms s) k, nI k)) (Ms s).length _ (by omega) (fun m' k hk => ?_) (fun m' => ?_)
    · show sX5_total_c29 (sX5_total_b12 m) (sX5_total_b29 (sX5_total_b12 m) m') h (tF S s (Ms s) (tG S Ms s) k).1 (tF S s (Ms s) (tG S Ms s) k).2.1 (tF S s (Ms s) (tG S Ms s) k).2.2.1 (tF S s (Ms s) (tG S Ms s) k).2.2.2 (nI s) (26 + 14 * s) (nI k) = sX5_total_b29 (sX5_total_b12 m) m' h (tS s k (ar S s (Ms s) k) (tF S s (Ms s) (tG S Ms s) k)).1 (tS s k (ar S s (Ms s) k) (tF S s (Ms s) (tG S Ms s) k)).2.1 (tS s k (ar S s (Ms s) k) (tF S s (Ms s) (tG S Ms s) k)).2.2.1 (tS s k (ar S s (Ms s) k) (tF S s (Ms s) (tG S Ms s) k)).2.2.2 (nI s) (26 + 14 * s) (nI (k + 1))
      generalize tF S s (Ms s) (tG S Ms s) k = q
      have hle : ¬ nI (Ms s).length ≤ nI k := by rw [le_n (by omega) (by omega)]; omega
      unfold sX5_total_c29 sX5_total_c83 tS
      rw [hX.1, if_neg hle, bd_t (S_areaOf ok hs hD hX vs hk)]
      dsimp only
      by_cases c : 0 ≤ ar S s (Ms s) k
      · rw [if_pos c, if_pos c]
        by_cases c2 : ar S s (Ms s) k ≤ q.2.2.1
        · simp only [nm, c2, if_true, nI_1]
        · simp only [nm, c2, if_false, nI_1]
      · simp only [nm, c, if_false, nI_1]
    · show sX5_total_c29 (sX5_total_b12 m) (sX5_total_b29 (sX5_total_b12 m) m') h _ _ _ _ (nI s) (26 + 14 * s) (nI (Ms s).length) = _
      have hle : nI (Ms s).length ≤ nI (Ms s).length := by rw [le_n (by omega) (by omega)]; omega
      unfold sX5_total_c29
      rw [hX.1, if_pos hle, nI_1, nm_t rfl]
      rfl
  · show sX5_total_c12 (sX5_total_b12 m) h (tG S Ms 2).1 (tG S Ms 2).2.1 (tG S Ms 2).2.2.1 (tG S Ms 2).2.2.2 (nI 2) = _
    unfold sX5_total_c12
    rw [if_pos (by decide), bd_t e1]
theorem M_total (ok : OK S) (hM : RM h S Ms tx row) (hF : FD h S) (v : ∀ s, s < 2 → VM S s (Ms s)) : ∃ h', sX6_total_b21 FU h 0 0 (-1) 0 0 = some ((tG S Ms 2).1, h') ∧ RM h' S Ms tx [(tG S Ms 2).2.1.toInt64, (tG S Ms 2).2.2.2.toInt64] := by
  obtain ⟨r1, F1⟩ := hM.row0
  obtain ⟨h2, e2, r2, F2⟩ := r1.ent (by simp) (tG S Ms 2).2.1.toInt64
  obtain ⟨h3, e3, r3, F3⟩ := r2.ent (by simp) (tG S Ms 2).2.2.2.toInt64
  refine ⟨h3, ?_, r3⟩
  refine loop0 (fun n (q : T4 × Int32) => sX6_total_b21 n h q.1.1 q.1.2.1 q.1.2.2.2 q.1.2.2.1 q.2) (fun s => (tG S Ms s, nI s)) 2 _ (by omega) (fun m s hs => ?_) (fun m => ?_)
  · show sX6_total_c21 (sX6_total_b21 m) h (tG S Ms s).1 (tG S Ms s).2.1 (tG S Ms s).2.2.2 (tG S Ms s).2.2.1 (nI s) = _
    have hle : ¬ (2 : Int32) ≤ nI s := by show ¬ nI 2 ≤ nI s; rw [le_n (by omega) (by omega)]; omega
    have mm := hM.1.2 s hs
    have vs := v s hs
    have hl := vs.1
    unfold sX6_total_c21
    rw [if_neg hle]
    refine loop0 (fun n (q : T4 × Int32) => sX6_total_b30 (sX6_total_b21 m) n h q.1.1 q.1.2.1 q.1.2.2.2 q.1.2.2.1 (nI s) q.2) (fun k => (tF S s (Ms s) (tG S Ms s) k, nI k)) (Ms s).length _ (by omega) (fun m' k hk => ?_) (fun m' => ?_)
    · show sX6_total_c30 (sX6_total_b21 m) (sX6_total_b30 (sX6_total_b21 m) m') h (tF S s (Ms s) (tG S Ms s) k).1 (tF S s (Ms s) (tG S Ms s) k).2.1 (tF S s (Ms s) (tG S Ms s) k).2.2.2 (tF S s (Ms s) (tG S Ms s) k).2.2.1 (nI s) (nI k) = sX6_total_b30 (sX6_total_b21 m) m' h (tS s k (ar S s (Ms s) k) (tF S s (Ms s) (tG S Ms s) k)).1 (tS s k (ar S s (Ms s) k) (tF S s (Ms s) (tG S Ms s) k)).2.1 (tS s k (ar S s (Ms s) k) (tF S s (Ms s) (tG S Ms s) k)).2.2.2 (tS s k (ar S s (Ms s) k) (tF S s (Ms s) (tG S Ms s) k)).2.2.1 (nI s) (nI (k + 1))
      have q0 := tF_0 (S := S) (s := s) (M := Ms s) (k := k) (tG_0 (S := S) (Ms := Ms) (s := s))
      generalize tF S s (Ms s) (tG S Ms s) k = q at *
      have hle : ¬ nI (Ms s).length ≤ nI k := by rw [le_n (by omega) (by omega)]; omega
      unfold sX6_total_c30 tS
      rw [gd_in (show s < 2 by omega) (show 2 ≤ 1000 by decide), cl_n (show s ≤ 100000 by omega), mm.1, if_neg hle, bd_t (M_areaOf ok hF hs mm vs hk)]
      dsimp only
      generalize ar S s (Ms s) k = a
      by_cases c : 0 ≤ a
      · rw [if_pos c, if_pos c]
        have e1 : imax 0 a = a := by
          unfold imax
          split
          · rfl
          · grind
        by_cases c2 : a ≤ q.2.2.1
        · have e2 : imax q.2.2.1 a = q.2.2.1 := by
            unfold imax
            rw [if_neg (by grind)]
          simp only [sX6_total_c63, sX6_total_c96, sX6_flag, sX6_flag_c9, if_true, Option.bind_some, nm, c2, nI_1, e1, e2, Int32.add_zero]
        · have e2 : imax q.2.2.1 a = a := by
            unfold imax
            rw [if_pos (by grind)]
          simp only [sX6_total_c63, sX6_total_c96, sX6_flag, sX6_flag_c9, if_true, Option.bind_some, nm, c2, if_false, nI_1, e1, e2, Int32.add_zero]
      · rw [if_neg c, if_neg c]
        have e1 : imax 0 a = 0 := by
          unfold imax
          rw [if_neg (by grind)]
        have c2 : a ≤ q.2.2.1 := by grind
        have e2 : imax q.2.2.1 a = q.2.2.1 := by
          unfold imax
          rw [if_neg (by grind)]
        have n1 : ¬ (1 : Int32) = 0 := by decide
        simp only [sX6_total_c63, sX6_total_c96, sX6_flag, sX6_flag_c9, n1, if_false, Option.bind_some, nm, c2, if_true, nI_1, e1, e2, Int32.add_zero]
    · show sX6_total_c30 (sX6_total_b21 m) (sX6_total_b30 (sX6_total_b21 m) m') h _ _ _ _ (nI s) (nI (Ms s).length) = _
      have hle : nI (Ms s).length ≤ nI (Ms s).length := by rw [le_n (by omega) (by omega)]; omega
      unfold sX6_total_c30
      rw [gd_in (show s < 2 by omega) (show 2 ≤ 1000 by decide), cl_n (show s ≤ 100000 by omega), mm.1, if_pos hle, nI_1, nm_t rfl]
      rfl
  · show sX6_total_c21 (sX6_total_b21 m) h (tG S Ms 2).1 (tG S Ms 2).2.1 (tG S Ms 2).2.2.2 (tG S Ms 2).2.2.1 (nI 2) = _
    unfold sX6_total_c21
    rw [if_pos (by decide), nm_t rfl, bd_t e2, bd_t e3]
theorem op_total (R : Rel h S Ms tx row) : Step (fun h => sX5_total h) (fun h => sX6_total h) h := by
  have ok := R.1.1
  obtain ⟨h1, e1, r1⟩ := X_total ok R.2.1 R.1.2.1
  refine mkS (S' := S) (Ms' := Ms) R e1 (fX5_total _ _ e1) (by decide) (by decide) r1 (invR R.1 (by simp)) (fun hM => ?_) (fun q e => fX6_total h1 q e) (by decide) (by decide)
  obtain ⟨m1, F1⟩ := hM.thr 0
  obtain ⟨h2, o2, m2, f2⟩ := m1.finds ok
  obtain ⟨h3, o3, m3⟩ := M_total ok m2 f2 R.1.2.1
  refine ⟨h3, ?_, m3⟩
  show sX6_total h1 = _
  unfold sX6_total
  rw [nm_t rfl, bd_t o2]
  exact o3
end O20
