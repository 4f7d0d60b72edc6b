/-! streams, both -/
section St2
variable {h : Hp} {S : SS} {Ms : Nat → Mt} {tx : List Int32} {row : List Int64}
theorem M_cp93 {n : Nat} {F T C : Nat → Int32} {g : Int32} (hn : n ≤ 10) (hr : rw60 h n F T C) (h7 : h.1 54 7 = nI n) (h11 : h.1 54 11 = g) : ∃ h', sX6_streams_b93 FU h (nI n) 0 = ((sX6_allGo h').bind fun q9 => some (nI n, q9)) ∧ MS h' n F T C g ∧ Fr [(57, none), (58, none), (59, none)] [] h h' := by
  have L := loopS (fun m (q : Hp × Int32) => sX6_streams_b93 m q.1 (nI n) q.2) (fun i q => q.2 = nI i ∧ Fr [(57, none), (58, none), (59, none)] [] h q.1 ∧ ∀ j, j < i → q.1.1 57 j = F j ∧ q.1.1 58 j = T j ∧ q.1.1 59 j = C j) n (fun m i q hi' I => by
    obtain ⟨i1, i2, i3⟩ := I
    obtain ⟨a1, a2, a3⟩ := hr i hi'
    have b1 : q.1.1 60 i = F i := (i2.c (by decide) i).trans a1
    have b2 : (u1 q.1 57 i (F i)).1 61 i = T i := (rd1c (by decide)).trans ((i2.c (by decide) i).trans a2)
    have b3 : (u1 (u1 q.1 57 i (F i)) 58 i (T i)).1 62 i = C i := (rd1c (by decide)).trans ((rd1c (by decide)).trans ((i2.c (by decide) i).trans a3))
    refine ⟨(u1 (u1 (u1 q.1 57 i (F i)) 58 i (T i)) 59 i (C i), nI (i + 1)), ⟨rfl, Fr.w1 (Fr.w1 (Fr.w1 i2 rfl (by simp)) rfl (by simp)) rfl (by simp), fun j hj => ?_⟩, ?_⟩
    · by_cases e : j = i
      · subst e
        exact ⟨(rd1c (by decide)).trans ((rd1c (by decide)).trans rd1s), (rd1c (by decide)).trans rd1s, rd1s⟩
      · obtain ⟨c1, c2, c3⟩ := i3 j (by omega)
        exact ⟨(rd1k e).trans ((rd1k e).trans ((rd1k e).trans c1)), (rd1k e).trans ((rd1k e).trans ((rd1k e).trans c2)), (rd1k e).trans ((rd1k e).trans ((rd1k e).trans c3))⟩
    · show sX6_streams_c93 (sX6_streams_b93 m) q.1 (nI n) q.2 = _
      have hle : ¬ nI n ≤ nI i := by rw [le_n (by omega) (by omega)]; omega
      simp only [sX6_streams_c93, i1, hle, if_false, gd_in (show i < 10 by omega) (show 10 ≤ 1000 by decide), cl_n (show i ≤ 100000 by omega), nm, b1, b2, b3, nI_1]) n 0 FU (h, 0) ⟨rfl, Fr.rf, fun j hj => absurd hj (Nat.not_lt_zero j)⟩ (by omega) (show n < 1000 by omega)
  obtain ⟨q, m, ⟨i1, i2, i3⟩, e⟩ := L
  refine ⟨q.1, ?_, ⟨(i2.f (by decide)).trans h7, (i2.f (by decide)).trans h11, i3⟩, i2⟩
  refine Eq.trans e ?_
  show sX6_streams_c93 (sX6_streams_b93 m) q.1 (nI n) q.2 = _
  unfold sX6_streams_c93
  rw [i1, if_pos (by rw [le_n (by omega) (by omega)]; omega)]
/-- the reference's contents when it begins to read -/
def kk (g : Hp) (n : Nat) : Hp := u1 (u1 (u1 (u1 g 54 0 0) 54 6 (nI n)) 54 4 0) 54 5 0
theorem kk_F (g : Hp) (n : Nat) : Fr [(54, some 0), (54, some 6), (54, some 4), (54, some 5)] [] g (kk g n) := Fr.w1 (Fr.w1 (Fr.w1 (Fr.w1 Fr.rf rfl (by simp)) rfl (by simp)) rfl (by simp)) rfl (by simp)
/-- what reading comes to, at the class's contents h and the reference's g -/
theorem str_all (X : RX h S Ms tx row) (hl : tx.length ≤ 120) {g : Hp} (hM : RM g S Ms tx row) : (∃ e h', e ≤ tx.length ∧ sX3_readInto h 11 = some (nI e, h') ∧ ∃ k', sX6_streams g = some ((-1 : Int32) - nI e, k') ∧ Fr wM6 [] (kk g tx.length) k') ∨ (∃ n' F' T' C' h', n' ≤ 10 ∧ gdS n' F' T' C' ∧ sX3_readInto h 11 = some (-1, h') ∧ PS h' 11 n' F' T' C' ∧ ∃ k', sX6_streams g = sX6_streams_b93 FU (u1 k' 54 7 (nI n')) (nI n') 0 ∧ rw60 k' n' F' T' C' ∧ Fr wM6 [] (kk g tx.length) k') := by
  have Fk := kk_F g tx.length
  have kT : MT (kk g tx.length) tx := ⟨(rd1k (by decide)).trans ((rd1k (by decide)).trans rd1s), fun j hj => (Fk.c (by decide) j).trans (hM.2.1.2 j hj)⟩
  have k5 : (kk g tx.length).1 54 5 = nI 0 := rd1s
  have g4 : (u1 g 54 0 0).1 54 4 = nI tx.length := (rd1k (by decide)).trans hM.2.1.1
  have eM : sX6_streams g = sX6_streams_b25 FU (kk g tx.length) 0 := by
    unfold sX6_streams
    rw [nm_t rfl, g4, nm_t rfl, nm_t rfl, nm_t rfl]
    rfl
  obtain ⟨h1, hh1⟩ : ∃ h1, h1 = u1 (u1 (u1 h 11 4 0) 2 2 0) 2 4 (-1) := ⟨_, rfl⟩
  have F1 : Fr [(11, some 4), (2, some 2), (2, some 4)] [] h h1 := by rw [hh1]; exact Fr.w1 (Fr.w1 (Fr.w1 Fr.rf rfl (by simp)) rfl (by simp)) rfl (by simp)
  have hT1 : TX h1 tx := X.2.1.fr F1 (by decide)
  have h12 : h1.1 2 2 = nI 0 := by rw [hh1]; exact (rd1k (by decide)).trans rd1s
  have P1 : ∀ F T C, PS h1 11 0 F T C := fun F T C => ⟨by rw [hh1]; exact (rd1c (by decide)).trans ((rd1c (by decide)).trans rd1s), fun i hi' => absurd hi' (Nat.not_lt_zero i)⟩
  have eX : sX3_readInto h 11 = if tx.length = 0 then some (-1, h1) else sX3_readInto_b25 FU h1 11 (nI 1) := by
    unfold sX3_readInto sX1_empty
    rw [gd_t (isC_ok (show ck 11 = 1 by decide)), gd_t (isC_ok (show ck 11 = 1 by decide)), nm_t rfl, Option.bind_some, nm_t rfl, nm_t rfl, ← hh1, hT1.1]
    by_cases z : tx.length = 0
    · rw [if_pos z, if_pos (by rw [z]; rfl)]
    · rw [if_neg z, if_neg (by show ¬ nI tx.length = nI 0; rw [eq_n (by omega) (by omega)]; exact z)]
      rfl
  have eM2 : sX6_streams_b25 FU (kk g tx.length) 0 = if tx.length = 0 then sX6_streams_b93 FU (u1 (kk g tx.length) 54 7 (nI 0)) (nI 0) 0 else sX6_streams_c60 (sX6_streams_b25 999) (kk g tx.length) (nI 0) 1 := by
    show sX6_streams_c25 (sX6_streams_b25 999) (kk g tx.length) 0 = _
    unfold sX6_streams_c25
    rw [kT.1, k5]
    by_cases z : tx.length = 0
    · rw [if_pos (by rw [le_n (by omega) (by omega)]; omega), if_pos z, nm_t rfl]
      rfl
    · rw [if_neg (by rw [le_n (by omega) (by omega)]; omega), if_neg z, if_pos rfl]
      rfl
  rw [eX, eM, eM2]
  by_cases z : tx.length = 0
  · right
    rw [if_pos z, if_pos z]
    exact ⟨0, fun _ => 0, fun _ => 0, fun _ => 0, h1, by omega, fun i hi' => absurd hi' (Nat.not_lt_zero i), rfl, P1 _ _ _, _, rfl, fun i hi' => absurd hi' (Nat.not_lt_zero i), Fr.rf⟩
  · rw [if_neg z, if_neg z]
    rcases str_go hl 10 0 0 FU 999 h1 (kk g tx.length) (fun _ => 0) (fun _ => 0) (fun _ => 0) (by omega) (by omega) (by show 10 < 1000; omega) (by omega) hT1 kT h12 k5 (by omega) (P1 _ _ _) (fun i hi' => absurd hi' (Nat.not_lt_zero i)) (fun i hi' => absurd hi' (Nat.not_lt_zero i)) with ⟨e, h', k', a1, a2, a3, a4⟩ | ⟨n', F', T', C', h', k', a1, a2, a3, a4, a5, a6, a7⟩
    · exact Or.inl ⟨e, h', a1, a2, k', a3, a4⟩
    · exact Or.inr ⟨n', F', T', C', h', a1, a2, a3, a4, k', a5, a6, a7⟩
end St2
