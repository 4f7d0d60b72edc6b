/-! one stream in the text: all of it -/
section Rs3
variable {h k : Hp} {tx : List Int32} {p n : Nat} {F T C : Nat → Int32}
theorem fail2_x {h h' k k' : Hp} {X M : Option (Int32 × Hp)} (H : fail2 tx h k X M) : fail2 tx h' k' X M := H
theorem rd_from (hT : TX h tx) (kT : MT k tx) (hP : PS h 11 n F T C) (hn : n < 10) (hl : tx.length ≤ 120) (hp : h.1 2 2 = nI p) (kp : k.1 54 5 = nI p) (hpl : p ≤ tx.length) {v : Int32} (hv : v = 0 ∨ v = 1) : fail2 tx h k (sX3_readStream_c29 h 11 v) (sX6_readsStream_c22 k (nI n) v) ∨ read2 tx p n F T C k (sX3_readStream_c29 h 11 v) (sX6_readsStream_c22 k (nI n) v) := by
  obtain ⟨x, h3, y, k3, e1, F2, e2, F3, res⟩ := num2 (m := 3) hT kT hl hp kp hpl (by omega) 0 500
  unfold sX3_readStream_c29 sX6_readsStream_c22
  rw [bd_t (show sX3_readNumber h 3 0 500 = some (x, h3) from e1), bd_t (show sX6_number k 3 = some (y, k3) from e2)]
  dsimp only
  rcases res with ⟨e, l, x0, h4, y0, k5⟩ | ⟨q, pq, ql, y0, y1, k5, res⟩
  · left
    exact ⟨h3, k3, e, l, by rw [if_pos x0], h4, by rw [if_pos y0]; rfl, k5⟩
  · have yn : ¬ y < 0 := by rw [lt_tI, tI0]; omega
    have yp : 0 ≤ y := by rw [le_tI, tI0]; exact y0
    rw [if_neg yn]
    rcases res with ⟨nf, x0, h4⟩ | ⟨fit, x1, h2, h3'⟩
    · left
      obtain ⟨k4, z1, z2, z3⟩ := M_fit0 k5 (by omega)
      refine ⟨h3, k4, q - 1, by omega, by rw [if_pos x0], h4, ?_, z2⟩
      have w : (500 : Int32) < y := by
        have : ¬ y ≤ 500 := fun z => nf ⟨yp, z⟩
        grind
      rw [if_pos w]
      unfold sX6_readsStream_c45 sX6_readsStream_c60
      rw [bd_t z1]
      dsimp only
      rw [if_pos rfl]
    · obtain ⟨k4, z1, z2, z3⟩ := M_fit1 k5
      have kT4 := (kT.f5 F3).f5 z3
      have hT3 := hT.f2 F2
      have hP3 := PS_f2 hP F2
      have w : ¬ (500 : Int32) < y := by have := fit.2; grind
      rw [x1, if_neg (by decide), h3', nm_t rfl, if_neg w]
      obtain ⟨xs1, xs2⟩ := X_sgn hT3 hl h2 ql 45
      obtain ⟨k6, g1, g2', g3⟩ := M_sgn kT4 hl z2 ql 45
      unfold sX6_readsStream_c45
      rw [bd_t z1]
      dsimp only
      rw [if_neg (show ¬ (1 : Int32) = 0 by decide)]
      by_cases s : isS tx q 45
      · obtain ⟨m1, m2⟩ := g2' s
        have F4 : Fr [(2, some 2), (2, some 3), (2, some 4)] [] h3 (u1 h3 2 2 (nI (q + 1))) := Fr.w1 Fr.rf rfl (by simp)
        have H := rd_to (p := q + 1) (v := v) (f := y) (hT3.f2 F4) (kT4.f5 g1) (PS_f2 hP3 F4) hn hl rd1s m2 (by have := s.1; omega) hv ⟨yp, fit.2⟩
        rw [bd_t (xs1 s), bd_t m1]
        dsimp only
        rw [if_neg (show ¬ (1 : Int32) = 0 by decide), if_neg (show ¬ (1 : Int32) = 0 by decide)]
        rcases H with H | H
        · exact Or.inl H
        · exact Or.inr (read2_mn H (by omega) ((F3.tr z3 (fun _ z => z) (fun _ z => z)).tr g1 (fun _ z => z) (fun _ z => z)))
      · left
        obtain ⟨m1, m2⟩ := g3 s
        refine ⟨u1 h3 2 4 (nI q), k6, q, ql, ?_, rd1s, ?_, m2⟩
        · rw [bd_t (xs2 s)]
          dsimp only
          rw [if_pos rfl, h2]
          rfl
        · rw [bd_t m1]
          dsimp only
          rw [if_pos rfl]
          rfl
theorem rd_stream (hT : TX h tx) (kT : MT k tx) (hP : PS h 11 n F T C) (hn : n < 10) (hl : tx.length ≤ 120) (hp : h.1 2 2 = nI p) (kp : k.1 54 5 = nI p) (hpl : p ≤ tx.length) : fail2 tx h k (sX3_readStream h 11) (sX6_readsStream k (nI n)) ∨ read2 tx p n F T C k (sX3_readStream h 11) (sX6_readsStream k (nI n)) := by
  obtain ⟨xs1, xs2⟩ := X_sgn hT hl hp hpl 104
  obtain ⟨k1, g1, g2', g3⟩ := M_sgn kT hl kp hpl 104
  unfold sX3_readStream sX6_readsStream
  rw [gd_t (isC_ok (show ck 11 = 1 by decide))]
  have F4 : Fr [(2, some 2), (2, some 3), (2, some 4)] [] h (u1 h 2 2 (nI (p + 1))) := Fr.w1 Fr.rf rfl (by simp)
  by_cases s : isS tx p 104
  · obtain ⟨m1, m2⟩ := g2' s
    have H := rd_from (p := p + 1) (v := 1) (hT.f2 F4) (kT.f5 g1) (PS_f2 hP F4) hn hl rd1s m2 (by have := s.1; omega) (Or.inr rfl)
    rw [bd_t (xs1 s), bd_t m1]
    dsimp only
    rw [if_neg (show ¬ (1 : Int32) = 0 by decide), if_neg (show ¬ (1 : Int32) = 0 by decide)]
    rcases H with H | H
    · exact Or.inl H
    · exact Or.inr (read2_mn H (by omega) g1)
  · obtain ⟨m1, m2⟩ := g3 s
    rw [bd_t (xs2 s), bd_t m1]
    dsimp only
    rw [if_pos rfl, if_pos rfl]
    obtain ⟨ys1, ys2⟩ := X_sgn hT hl hp hpl 99
    have kT1 := kT.f5 g1
    obtain ⟨k2, j1, j2, j3⟩ := M_sgn kT1 hl m2 hpl 99
    by_cases s2 : isS tx p 99
    · obtain ⟨n1, n2⟩ := j2 s2
      have H := rd_from (p := p + 1) (v := 0) (hT.f2 F4) (kT1.f5 j1) (PS_f2 hP F4) hn hl rd1s n2 (by have := s2.1; omega) (Or.inl rfl)
      rw [bd_t (ys1 s2), bd_t n1]
      dsimp only
      rw [if_neg (show ¬ (1 : Int32) = 0 by decide), if_neg (show ¬ (1 : Int32) = 0 by decide)]
      rcases H with H | H
      · exact Or.inl H
      · exact Or.inr (read2_mn H (by omega) (g1.tr j1 (fun _ z => z) (fun _ z => z)))
    · left
      obtain ⟨n1, n2⟩ := j3 s2
      refine ⟨u1 h 2 4 (nI p), k2, p, hpl, ?_, rd1s, ?_, n2⟩
      · rw [bd_t (ys2 s2)]
        dsimp only
        rw [if_pos rfl, hp]
        rfl
      · rw [bd_t n1]
        dsimp only
        rw [if_pos rfl]
end Rs3
