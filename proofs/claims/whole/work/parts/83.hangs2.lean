/-! loops: the reference's pass -/
section O30
variable {h : Hp} {s : Nat} {M : Mt}
theorem M_pass (hs : s < 2) (hM : MM h s M) (hl : M.length ≤ 24) (k7 : Hp → Int32 → Int32 → Int32 → Option (Int32 × Hp)) (y v4 : Int32) : sX6_hangsWith_b19 k7 FU h (nI s) y v4 0 = k7 h (nI s) (pas M y M.length) v4 := by
  refine loop0 (fun m (q : Int32 × Int32) => sX6_hangsWith_b19 k7 m h (nI s) q.1 v4 q.2) (fun i => (pas M y i, nI i)) M.length _ (by omega) (fun m i hi' => ?_) (fun m => ?_)
  · show sX6_hangsWith_c19 k7 (sX6_hangsWith_b19 k7 m) h (nI s) (pas M y i) v4 (nI i) = sX6_hangsWith_b19 k7 m h (nI s) (pas M y (i + 1)) v4 (nI (i + 1))
    have hle : ¬ nI M.length ≤ nI i := by rw [le_n (by omega) (by omega)]; omega
    obtain ⟨a1, a2, a3⟩ := hM.2 i hi'
    unfold sX6_hangsWith_c19 sX6_hangsWith_c73
    rw [gd_in (show s < 2 by omega) (show 2 ≤ 1000 by decide), cl_n (show s ≤ 100000 by omega), hM.1, if_neg hle, bd_t M_place]
    dsimp only
    rw [gd_in (show 25 * s + i < 50 by omega) (show 50 ≤ 1000 by decide), cl_n (show 25 * s + i ≤ 100000 by omega), bd_t M_place]
    dsimp only
    rw [gd_in (show 25 * s + i < 50 by omega) (show 50 ≤ 1000 by decide), cl_n (show 25 * s + i ≤ 100000 by omega), a1, a2]
    rw [nm_t (show ((1 : Int32) <<< (nI (mh M i) &&& 31)) ||| ((1 : Int32) <<< (nI (mc M i) &&& 31)) = mbt M i from rfl)]
    by_cases c : pas M y i &&& mbt M i = 0
    · have e : pas M y (i + 1) = pas M y i := if_pos c
      rw [if_pos c, e, nI_1, Int32.or_zero, nm_t rfl, nm_t rfl]
    · have e : pas M y (i + 1) = pas M y i ||| mbt M i := if_neg c
      rw [if_neg c, e, nI_1, nm_t rfl, nm_t rfl]
  · show sX6_hangsWith_c19 k7 (sX6_hangsWith_b19 k7 m) h (nI s) (pas M y M.length) v4 (nI M.length) = _
    have hle : nI M.length ≤ nI M.length := by rw [le_n (by omega) (by omega)]; omega
    unfold sX6_hangsWith_c19
    rw [gd_in (show s < 2 by omega) (show 2 ≤ 1000 by decide), cl_n (show s ≤ 100000 by omega), hM.1, if_pos hle]
end O30
