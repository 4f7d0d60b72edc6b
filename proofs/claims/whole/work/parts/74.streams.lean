/-! all streams in the text -/
theorem Fr.tr' {W W' : List (Nat × Option Nat)} {Z : List Nat} {h h' : Hp} (F : Fr W' Z h h') (hW : ∀ w ∈ W', w ∈ W) : Fr W Z h h' := ⟨fun c k h1 h2 => F.1 c k (fun q => h1 (hW _ q)) (fun q => h2 (hW _ q)), F.2⟩
section St
variable {tx : List Int32}
def gdS (n : Nat) (F T C : Nat → Int32) : Prop := ∀ i, i < n → 0 ≤ F i ∧ F i ≤ 500 ∧ 0 ≤ T i ∧ T i ≤ 500 ∧ F i ≠ T i ∧ 1 ≤ C i ∧ C i ≤ 20
def rw60 (k : Hp) (n : Nat) (F T C : Nat → Int32) : Prop := ∀ i, i < n → k.1 60 i = F i ∧ k.1 61 i = T i ∧ k.1 62 i = C i
abbrev wM6 : List (Nat × Option Nat) := [(54, some 5), (60, none), (61, none), (62, none)]
abbrev wX3 : List (Nat × Option Nat) := [(2, some 2), (2, some 4), (2, some 3), (12, none), (13, none), (14, none), (15, none), (11, some 4)]
theorem gd_upd {n : Nat} {F T C : Nat → Int32} {f t c : Int32} (H : gdS n F T C) (h1 : 0 ≤ f ∧ f ≤ 500 ∧ 0 ≤ t ∧ t ≤ 500 ∧ f ≠ t ∧ 1 ≤ c ∧ c ≤ 20) : gdS (n + 1) (upd F n f) (upd T n t) (upd C n c) := by
  intro i hi'
  by_cases e : i = n
  · subst e; rw [upd_s, upd_s, upd_s]; exact h1
  · rw [upd_n e, upd_n e, upd_n e]; exact H i (by omega)
theorem str_go (hl : tx.length ≤ 120) : ∀ (d n p N M : Nat) (h k : Hp) (F T C : Nat → Int32), n + d = 10 → 0 < d → d < N → d < M → TX h tx → MT k tx → h.1 2 2 = nI p → k.1 54 5 = nI p → p ≤ tx.length → PS h 11 n F T C → rw60 k n F T C → gdS n F T C → (∃ e h' k', e ≤ tx.length ∧ sX3_readInto_b25 N h 11 (nI (n + 1)) = some (nI e, h') ∧ sX6_streams_c60 (sX6_streams_b25 M) k (nI n) 1 = some ((-1 : Int32) - nI e, k') ∧ Fr wM6 [] k k') ∨ (∃ n' F' T' C' h' k', n' ≤ 10 ∧ gdS n' F' T' C' ∧ sX3_readInto_b25 N h 11 (nI (n + 1)) = some (-1, h') ∧ PS h' 11 n' F' T' C' ∧ sX6_streams_c60 (sX6_streams_b25 M) k (nI n) 1 = sX6_streams_b93 FU (u1 k' 54 7 (nI n')) (nI n') 0 ∧ rw60 k' n' F' T' C' ∧ Fr wM6 [] k k')
  | 0, n, p, N, M, h, k, F, T, C, hnd, h0, _, _, _, _, _, _, _, _, _, _ => absurd h0 (by decide)
  | d + 1, n, p, N, M, h, k, F, T, C, hnd, h0, hN, hM', hT, kT, hp, kp, hpl, hP, hr, hg => by
    obtain ⟨N', rfl⟩ : ∃ q, N = q + 1 := ⟨N - 1, by omega⟩
    obtain ⟨M', rfl⟩ : ∃ q, M = q + 1 := ⟨M - 1, by omega⟩
    have hv : ¬ (10 : Int32) < nI (n + 1) := by show ¬ nI 10 < nI (n + 1); rw [lt_n (by omega) (by omega)]; omega
    have eX0 : sX3_readInto_b25 (N' + 1) h 11 (nI (n + 1)) = ((sX3_readStream h 11).bind fun q4 => if q4.1 = 0 then (some ((q4.2.1 2 4), q4.2)) else (if (q4.2.1 2 2) < (q4.2.1 2 1) then (if nI (n + 1) = (10 : Int32) then (sX3_readInto_c72 q4.2) else ((sX3_readSign q4.2 (44 : Int32)).bind fun q5 => if q5.1 = 0 then (sX3_readInto_c72 q5.2) else (nm (nI (n + 1) + (1 : Int32)) fun x6 => sX3_readInto_b25 N' q5.2 11 x6))) else (some ((-1 : Int32), q4.2)))) := by
      show sX3_readInto_c25 (sX3_readInto_b25 N') h 11 (nI (n + 1)) = _
      unfold sX3_readInto_c25
      rw [if_neg hv]
    have eM0 : sX6_streams_c60 (sX6_streams_b25 (M' + 1)) k (nI n) 1 = ((sX6_readsStream k (nI n)).bind fun q7 => if q7.1 = 0 then (sX6_streams_c73 q7.2) else (nm (nI n + (1 : Int32)) fun x8 => sX6_streams_b25 (M' + 1) q7.2 x8)) := by
      unfold sX6_streams_c60
      rw [if_neg (by decide)]
    rw [eX0, eM0]
    rcases rd_stream hT kT hP (show n < 10 by omega) hl hp kp hpl with H | H
    · obtain ⟨h', k', e, l, x1, x2, y1, y2⟩ := H
      left
      refine ⟨e, h', k', l, ?_, ?_, fX6_readsStream _ _ _ y1⟩
      · rw [bd_t x1]
        dsimp only
        rw [if_pos rfl, x2]
      · rw [bd_t y1]
        dsimp only
        rw [if_pos rfl]
        unfold sX6_streams_c73
        rw [y2]
    · obtain ⟨h', k', k0, f, t, c, q, pq, ql, vd, x1, x2, x3, y1, y2, y3, y4⟩ := H
      have FX := fX3_readStream _ _ _ x1
      have hT1 : TX h' tx := hT.fr FX (by decide)
      have Fk : Fr wM6 [] k k' := by
        rw [y2]
        exact Fr.w1 (Fr.w1 (Fr.w1 (y3.tr' (by simp)) rfl (by simp)) rfl (by simp)) rfl (by simp)
      have kT1 : MT k' tx := ⟨(Fk.f (by decide)).trans kT.1, fun j hj => (Fk.c (by decide) j).trans (kT.2 j hj)⟩
      have k5 : k'.1 54 5 = nI q := by rw [y2]; exact (rd1c (by decide)).trans ((rd1c (by decide)).trans ((rd1c (by decide)).trans y4))
      have r6 : rw60 k' (n + 1) (upd F n f) (upd T n t) (upd C n c) := by
        intro i hi'
        rw [y2]
        by_cases e : i = n
        · subst e
          rw [upd_s, upd_s, upd_s]
          exact ⟨(rd1c (by decide)).trans ((rd1c (by decide)).trans rd1s), (rd1c (by decide)).trans rd1s, rd1s⟩
        · rw [upd_n e, upd_n e, upd_n e]
          obtain ⟨r1, r2, r3⟩ := hr i (by omega)
          exact ⟨(rd1c (by decide)).trans ((rd1c (by decide)).trans ((rd1k e).trans ((y3.c (by decide) i).trans r1))), (rd1c (by decide)).trans ((rd1k e).trans ((rd1c (by decide)).trans ((y3.c (by decide) i).trans r2))), (rd1k e).trans ((rd1c (by decide)).trans ((rd1c (by decide)).trans ((y3.c (by decide) i).trans r3)))⟩
      have g' := gd_upd hg vd
      rw [bd_t x1, bd_t y1]
      dsimp only
      rw [if_neg (show ¬ (1 : Int32) = 0 by decide), if_neg (show ¬ (1 : Int32) = 0 by decide), nI_1 n, nm_t rfl, x2, hT1.1]
      have eM1 : sX6_streams_b25 (M' + 1) k' (nI (n + 1)) = if tx.length ≤ q then (nm (u1 k' 54 7 (nI (n + 1))) fun h5 => sX6_streams_b93 FU h5 (nI (n + 1)) (0 : Int32)) else (if n + 1 = 10 then (sX6_streams_c59 (sX6_streams_b25 M') k' (nI (n + 1))) else ((sX6_takes k' (44 : Int32)).bind fun q6 => if q6.1 = 0 then (sX6_streams_c59 (sX6_streams_b25 M') q6.2 (nI (n + 1))) else (sX6_streams_c55 (sX6_streams_b25 M') q6.2 (nI (n + 1))))) := by
        show sX6_streams_c25 (sX6_streams_b25 M') k' (nI (n + 1)) = _
        unfold sX6_streams_c25
        rw [kT1.1, k5]
        have n0 : ¬ nI (n + 1) = 0 := by show ¬ nI (n + 1) = nI 0; rw [eq_n (by omega) (by omega)]; omega
        by_cases z : tx.length ≤ q
        · rw [if_pos (by rw [le_n (by omega) (by omega)]; exact z), if_pos z]
        · rw [if_neg (by rw [le_n (by omega) (by omega)]; exact z), if_neg z, if_neg n0]
          by_cases w : n + 1 = 10
          · rw [if_pos (by show nI 10 ≤ _; rw [le_n (by omega) (by omega)]; omega), if_pos w]
          · rw [if_neg (by show ¬ nI 10 ≤ _; rw [le_n (by omega) (by omega)]; omega), if_neg w]
      rw [eM1]
      by_cases z : tx.length ≤ q
      · right
        rw [if_neg (by rw [lt_n (by omega) (by omega)]; omega), if_pos z, nm_t rfl]
        exact ⟨n + 1, _, _, _, h', k', by omega, g', rfl, x3, rfl, r6, Fk⟩
      · rw [if_pos (by rw [lt_n (by omega) (by omega)]; omega), if_neg z]
        have c72 : ∀ {hh : Hp}, hh.1 2 2 = nI q → sX3_readInto_c72 hh = some (nI q, hh) := fun e => by unfold sX3_readInto_c72; rw [e]
        have c59 : ∀ {kk : Hp}, kk.1 54 5 = nI q → sX6_streams_c59 (sX6_streams_b25 M') kk (nI (n + 1)) = some ((-1 : Int32) - nI q, kk) := fun e => by unfold sX6_streams_c59 sX6_streams_c60 sX6_streams_c73; rw [if_pos rfl, e]
        by_cases w : n + 1 = 10
        · left
          rw [if_pos w, if_pos (by rw [w]; rfl)]
          exact ⟨q, h', k', ql, c72 x2, c59 k5, Fk⟩
        · rw [if_neg w, if_neg (by show ¬ nI (n + 1) = nI 10; rw [eq_n (by omega) (by omega)]; exact w)]
          obtain ⟨xs1, xs2⟩ := X_sgn hT1 hl x2 ql 44
          obtain ⟨k6, g1, g2', g3⟩ := M_sgn kT1 hl k5 ql 44
          by_cases s : isS tx q 44
          · obtain ⟨m1, m2⟩ := g2' s
            have F4 : Fr [(2, some 2), (2, some 3), (2, some 4)] [] h' (u1 h' 2 2 (nI (q + 1))) := Fr.w1 Fr.rf rfl (by simp)
            have r7 : rw60 k6 (n + 1) (upd F n f) (upd T n t) (upd C n c) := fun i hi' => ⟨(g1.c (by decide) i).trans (r6 i hi').1, (g1.c (by decide) i).trans (r6 i hi').2.1, (g1.c (by decide) i).trans (r6 i hi').2.2⟩
            have IH := str_go hl d (n + 1) (q + 1) N' M' (u1 h' 2 2 (nI (q + 1))) k6 _ _ _ (by omega) (by omega) (by omega) (by omega) (hT1.f2 F4) (kT1.f5 g1) rd1s m2 (by have := s.1; omega) (PS_f2 x3 F4) r7 g'
            rw [bd_t (xs1 s), bd_t m1]
            dsimp only
            rw [if_neg (show ¬ (1 : Int32) = 0 by decide), if_neg (show ¬ (1 : Int32) = 0 by decide), nI_1, nm_t rfl]
            rcases IH with ⟨e, h2, k2, i1, i2, i3, i4⟩ | ⟨n', F', T', C', h2, k2, i1, i2, i3, i4, i5, i6, i7⟩
            · exact Or.inl ⟨e, h2, k2, i1, i2, i3, (Fk.tr (g1.tr' (by simp)) (fun _ z => z) (fun _ z => z)).tr i4 (fun _ z => z) (fun _ z => z)⟩
            · exact Or.inr ⟨n', F', T', C', h2, k2, i1, i2, i3, i4, i5, i6, (Fk.tr (g1.tr' (by simp)) (fun _ z => z) (fun _ z => z)).tr i7 (fun _ z => z) (fun _ z => z)⟩
          · left
            obtain ⟨m1, m2⟩ := g3 s
            rw [bd_t (xs2 s), bd_t m1]
            dsimp only
            rw [if_pos rfl, if_pos rfl]
            exact ⟨q, h', k6, ql, c72 x2, c59 m2, Fk.tr (g1.tr' (by simp)) (fun _ z => z) (fun _ z => z)⟩
end St
