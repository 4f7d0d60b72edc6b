/-! streams -/
section St3
variable {h : Hp} {S : SS} {Ms : Nat → Mt} {tx : List Int32} {row : List Int64}
theorem wM6_safe {g k' : Hp} {n : Nat} (hM : RM g S Ms tx row) (F : Fr wM6 [] (kk g n) k') : RMs k' S Ms ∧ TM k' [] ∧ WMr k' row := by
  have Fk := kk_F g n
  refine ⟨(hM.1.fr Fk (by decide)).fr F (by decide), ⟨?_, fun j hj => absurd hj (Nat.not_lt_zero j)⟩, (hM.2.2.fr Fk (by decide) (by decide)).fr F (by decide) (by decide)⟩
  exact (F.f (by decide)).trans ((rd1k (by decide)).trans rd1s)
theorem op_streams (R : Rel h S Ms tx row) : Step (fun h => sX5_streams h) (fun h => sX6_streams h) h := by
  have ok := R.1.1
  have X := R.2.1
  have hl := R.1.2.2.1
  have ux := (X.1.2.2.2 0 (by decide)).1.1
  have ly := (X.1.2.2.2 1 (by decide)).1.1
  have neE : ∀ e : Nat, e ≤ 120 → ¬ nI e = -1 := by
    intro e he q
    have := congrArg Int32.toInt q
    rw [tI_n (by omega)] at this
    have m1' : (-1 : Int32).toInt = -1 := rfl
    omega
  have cutE : ∀ h1 : Hp, Fr (wX3_readInto 11) zX3_readInto h h1 → sX3_cut h1 0 = some (1, u1 h1 2 1 0) := by
    intro h1 F1
    have t1 : h1.1 2 1 = nI tx.length := (F1.f (by decide)).trans X.2.1.1
    unfold sX3_cut
    rw [if_neg (by decide), t1, if_pos (nI_pos' (by omega)), nm_t rfl]
  rcases str_all X hl R.2.2 with ⟨e, h1, l, e1, -⟩ | ⟨n', F', T', C', h1, n10, gd', e1, p1, -⟩
  · have F1 := fX3_readInto _ _ _ e1
    have F2 : Fr [(2, some 1)] [] h1 (u1 h1 2 1 0) := Fr.w1 Fr.rf rfl (by simp)
    have eX : sX5_streams h = some ((-1 : Int32) - nI e, u1 h1 2 1 0) := by
      unfold sX5_streams
      rw [bd_t e1]
      dsimp only
      rw [bd_t (cutE h1 F1)]
      dsimp only
      rw [if_neg (neE e (by omega))]
    have rX : RX (u1 h1 2 1 0) S Ms [] row := ⟨(X.1.fr F1 (by decide)).fr F2 (by decide), ⟨rd1s, fun j hj => absurd hj (Nat.not_lt_zero j)⟩, (X.2.2.fr F1 (by decide) (by decide)).fr F2 (by decide) (by decide)⟩
    refine mkS (S' := S) (Ms' := Ms) (tx' := []) R eX (fX5_streams _ _ eX) (by decide) (by decide) rX ⟨ok, R.1.2.1, by decide, R.1.2.2.2⟩ (fun hM => ?_) (fun q e => fX6_streams (u1 h1 2 1 0) q e) (by decide) (by decide)
    rcases str_all X hl hM with ⟨e', h2, l', e2, k', e3, F3⟩ | ⟨n', F', T', C', h2, n10, gd', e2, p2, -⟩
    · have ee : nI e' = nI e := by rw [e1] at e2; exact (congrArg Prod.fst (Option.some.inj e2)).symm
      exact ⟨k', by show sX6_streams _ = _; rw [e3, ee], wM6_safe hM F3⟩
    · exfalso
      rw [e1] at e2
      exact neE e (by omega) (congrArg Prod.fst (Option.some.inj e2))
  · have F1 := fX3_readInto _ _ _ e1
    have F2 : Fr [(2, some 1)] [] h1 (u1 h1 2 1 0) := Fr.w1 Fr.rf rfl (by simp)
    have p2 : PS (u1 h1 2 1 0) 11 n' F' T' C' := p1.fr F2 (fun w hw => by simp at hw; subst hw; dsimp only; omega)
    obtain ⟨h3, e3, p3⟩ := P_copy (r := 6) (a := 11) (by decide) (by decide) (by decide) p2 n10
    have F3 := fX1_copy _ _ _ _ e3
    have ok' : OK (n', F', T', C', S.2.2.2.2) := ⟨n10, ok.2.1, gd'⟩
    have g3 : h3.1 1 8 = S.2.2.2.2 := (F3.f (by decide)).trans ((F2.f (by decide)).trans ((F1.f (by decide)).trans X.1.2.1))
    have u3 : h3.1 26 0 = 1 := (F3.f (by decide)).trans ((F2.f (by decide)).trans ((F1.f (by decide)).trans ux))
    have l3 : h3.1 40 0 = -1 := (F3.f (by decide)).trans ((F2.f (by decide)).trans ((F1.f (by decide)).trans ly))
    have t2 : TX (u1 h1 2 1 0) [] := ⟨rd1s, fun j hj => absurd hj (Nat.not_lt_zero j)⟩
    obtain ⟨h4, e4, r4⟩ := RX.settle (S := (n', F', T', C', S.2.2.2.2)) (Ms' := Ms) (tx := []) (row := row) (h := h3) ok' p3 g3 u3 l3 (t2.fr F3 (by decide)) (((X.2.2.fr F1 (by decide) (by decide)).fr F2 (by decide) (by decide)).fr F3 (by decide) (by decide))
    have eX : sX5_streams h = some (nI n', h4) := by
      have : h4.1 6 4 = nI n' := r4.1.1.1
      unfold sX5_streams
      rw [bd_t e1]
      dsimp only
      rw [bd_t (cutE h1 F1)]
      dsimp only
      rw [if_pos rfl, bd_t e3, bd_t e4, this]
    refine mkS (S' := (n', F', T', C', S.2.2.2.2)) (Ms' := fun _ => []) (tx' := []) R eX (fX5_streams _ _ eX) (by decide) (by decide) r4 ⟨ok', fun s _ => VM0 ok' s, by decide, R.1.2.2.2⟩ (fun hM => ?_) (fun q e => fX6_streams h4 q e) (by decide) (by decide)
    rcases str_all X hl hM with ⟨e', h2, l', e2, k', -, -⟩ | ⟨n2, F2', T2, C2, h2, n10', gd2, e2, p2', k', e5, r5, F5⟩
    · exfalso
      rw [e1] at e2
      exact neE e' (by omega) (congrArg Prod.fst (Option.some.inj e2)).symm
    · have hh : h2 = h1 := by rw [e1] at e2; exact (congrArg Prod.snd (Option.some.inj e2)).symm
      subst hh
      have en : n2 = n' := (eq_n (by omega) (by omega)).mp (p2'.1.symm.trans p1.1)
      subst en
      have r6 : rw60 (u1 k' 54 7 (nI n2)) n2 F' T' C' := by
        intro i hi'
        obtain ⟨a1, a2, a3⟩ := r5 i hi'
        obtain ⟨-, b1, b2, b3⟩ := p2'.2 i hi'
        obtain ⟨-, c1, c2, c3⟩ := p1.2 i hi'
        exact ⟨(rd1c (by decide)).trans (a1.trans (b1.symm.trans c1)), (rd1c (by decide)).trans (a2.trans (b2.symm.trans c2)), (rd1c (by decide)).trans (a3.trans (b3.symm.trans c3))⟩
      obtain ⟨s1, s2, s3⟩ := wM6_safe hM F5
      have F7 : Fr [(54, some 7)] [] k' (u1 k' 54 7 (nI n2)) := Fr.w1 Fr.rf rfl (by simp)
      obtain ⟨k8, e8, m8, F8⟩ := M_cp93 (g := S.2.2.2.2) n10 r6 rd1s ((F7.f (by decide)).trans s1.1.2.1)
      obtain ⟨k9, e9, m9⟩ := RM.go (S' := (n2, F', T', C', S.2.2.2.2)) (tx := []) (row := row) m8 ((s2.fr F7 (by decide)).fr F8 (by decide)) ((s3.fr F7 (by decide) (by decide)).fr F8 (by decide) (by decide))
      refine ⟨k9, ?_, m9⟩
      show sX6_streams h4 = _
      rw [e5, e8, bd_t e9]
end St3
