/-! a match comes: joins, ticks -/
theorem gD_l {M : Mt} {m : Nat × Nat × Int32} {k : Nat} (hk : k < M.length) : (M ++ [m]).getD k (0, 0, 0) = M.getD k (0, 0, 0) := by
  rw [List.getD_eq_getElem?_getD, List.getD_eq_getElem?_getD, List.getElem?_append_left hk]
theorem gD_e {M : Mt} {m : Nat × Nat × Int32} : (M ++ [m]).getD M.length (0, 0, 0) = m := by
  rw [List.getD_eq_getElem?_getD, List.getElem?_append_right (Nat.le_refl _)]
  simp
section Sn
variable {M : Mt} {a b : Nat} {v : Int32}
theorem sn_l {k : Nat} (hk : k < M.length) : mh (M ++ [(a, b, v)]) k = mh M k ∧ mc (M ++ [(a, b, v)]) k = mc M k ∧ ml (M ++ [(a, b, v)]) k = ml M k := by
  unfold mh mc ml
  rw [gD_l hk]
  exact ⟨rfl, rfl, rfl⟩
theorem sn_e : mh (M ++ [(a, b, v)]) M.length = a ∧ mc (M ++ [(a, b, v)]) M.length = b ∧ ml (M ++ [(a, b, v)]) M.length = v := by
  unfold mh mc ml
  rw [gD_e]
  exact ⟨rfl, rfl, rfl⟩
theorem sn_us {k i : Nat} (hk : k ≤ M.length) : us (M ++ [(a, b, v)]) k i = us M k i ∧ uz (M ++ [(a, b, v)]) k i = uz M k i := by
  refine ⟨sI_cg (fun j hj => ?_), sZ_cg (fun j hj => ?_)⟩
  · obtain ⟨e1, e2, e3⟩ := sn_l (a := a) (b := b) (v := v) (show j < M.length by omega)
    rw [e1, e2, e3]
  · obtain ⟨e1, e2, e3⟩ := sn_l (a := a) (b := b) (v := v) (show j < M.length by omega)
    rw [e1, e2, e3]
theorem sn_len : (M ++ [(a, b, v)]).length = M.length + 1 := by simp
theorem sn_us1 {i : Nat} : us (M ++ [(a, b, v)]) (M.length + 1) i = us M M.length i + (if a = i ∨ b = i then v else 0) ∧ uz (M ++ [(a, b, v)]) (M.length + 1) i = uz M M.length i + (if a = i ∨ b = i then v.toInt else 0) := by
  obtain ⟨e1, e2, e3⟩ := sn_e (M := M) (a := a) (b := b) (v := v)
  have e4 := sn_us (M := M) (a := a) (b := b) (v := v) (i := i) (Nat.le_refl _)
  constructor
  · show us (M ++ [(a, b, v)]) M.length i + (if mh (M ++ [(a, b, v)]) M.length = i ∨ mc (M ++ [(a, b, v)]) M.length = i then ml (M ++ [(a, b, v)]) M.length else 0) = _
    rw [e1, e2, e3, e4.1]
  · show uz (M ++ [(a, b, v)]) M.length i + (if mh (M ++ [(a, b, v)]) M.length = i ∨ mc (M ++ [(a, b, v)]) M.length = i then (ml (M ++ [(a, b, v)]) M.length).toInt else 0) = _
    rw [e1, e2, e3, e4.2]
end Sn
theorem Pr_ne {S : SS} {s a b : Nat} (hp : Pr S s a b) : a ≠ b := by
  intro e
  subst e
  obtain ⟨-, -, h1, h2, -⟩ := hp
  rw [h1] at h2
  exact absurd h2 (by decide)
theorem VM_snoc {S : SS} {s : Nat} {M : Mt} (ok : OK S) (w : VM S s M) (hl : M.length < 24) {a b : Nat} (hp : Pr S s a b) {v : Int32} (hv : 1 ≤ v.toInt) (ha : v.toInt ≤ (rs S s M a).toInt) (hb' : v.toInt ≤ (rs S s M b).toInt) (k1 : leI S a b ≤ wI S s a b (uz M M.length a) (uz M M.length b)) (k2 : leI S a b ≤ wI S s a b (uz M M.length a + v.toInt) (uz M M.length b + v.toInt)) : VM S s (M ++ [(a, b, v)]) := by
  refine ⟨by rw [sn_len]; omega, fun k hk => ?_, fun i hi' => ?_, fun k hk => ?_⟩
  · rw [sn_len] at hk
    by_cases e : k = M.length
    · subst e
      obtain ⟨e1, e2, e3⟩ := sn_e (M := M) (a := a) (b := b) (v := v)
      rw [e1, e2, e3]
      exact ⟨hp, hv⟩
    · obtain ⟨e1, e2, e3⟩ := sn_l (a := a) (b := b) (v := v) (show k < M.length by omega)
      rw [e1, e2, e3]
      exact w.2.1 k (by omega)
  · rw [sn_len, sn_us1.2]
    have h1 := w.2.2.1 i hi'
    by_cases c : a = i ∨ b = i
    · rw [if_pos c]
      rcases c with rfl | rfl
      · have := w.rst ok hi'; omega
      · have := w.rst ok hi'; omega
    · rw [if_neg c]; omega
  · rw [sn_len] at hk
    by_cases e : k = M.length
    · subst e
      obtain ⟨e1, e2, e3⟩ := sn_e (M := M) (a := a) (b := b) (v := v)
      rw [e1, e2, e3, (sn_us (Nat.le_refl _)).2, (sn_us (Nat.le_refl _)).2]
      exact ⟨k1, k2⟩
    · obtain ⟨e1, e2, e3⟩ := sn_l (a := a) (b := b) (v := v) (show k < M.length by omega)
      rw [e1, e2, e3, (sn_us (show k ≤ M.length by omega)).2, (sn_us (show k ≤ M.length by omega)).2]
      exact w.2.2.2 k (by omega)
section O8
variable {h : Hp} {S : SS} {Ms : Nat → Mt} {tx : List Int32} {row : List Int64} {r s : Nat}
theorem S_addE {M : Mt} (hr : ck r = 2) (hn : S.1 ≤ 10) (hX : XM h r S M) (hl : M.length < 24) {a b : Nat} (ha : a < S.1) (hb' : b < S.1) (hab : a ≠ b) (v : Int32) : ∃ h', sX2_add h r (nI a) (nI b) v = some h' ∧ XM h' r S (M ++ [(a, b, v)]) ∧ (∀ j, j ≠ M.length → h'.1 (r + 8) j = h.1 (r + 8) j ∧ h'.1 (r + 9) j = h.1 (r + 9) j) ∧ ∀ c j, r + 10 < c → h'.1 c j = h.1 c j := by
  have hr' := hsX2 hr
  have c1 : ¬ (24 : Int32) ≤ nI M.length := by
    show ¬ nI 24 ≤ nI M.length
    rw [le_n (by omega) (by omega)]; omega
  generalize hp : M.length = p at *
  have b1 : (u1 h (r + 8) p (nI a)).1 r 14 = nI p := (rd1c (by omega)).trans (hp ▸ hX.1)
  have b2 : (u1 (u1 h (r + 8) p (nI a)) (r + 9) p (nI b)).1 r 14 = nI p := (rd1c (by omega)).trans b1
  have b3 : (u1 (u1 (u1 h (r + 8) p (nI a)) (r + 9) p (nI b)) (r + 10) p v).1 r 14 = nI p := (rd1c (by omega)).trans b2
  have b4 : ∀ i, i < S.1 → (u1 (u1 (u1 (u1 h (r + 8) p (nI a)) (r + 9) p (nI b)) (r + 10) p v) r 14 (nI (p + 1))).1 (r + 7) i = us M p i := fun i hi' => (rd1c (by omega)).trans ((rd1c (by omega)).trans ((rd1c (by omega)).trans ((rd1c (by omega)).trans (hp ▸ hX.2.2 i hi'))))
  have b5 : (u1 (u1 (u1 (u1 (u1 h (r + 8) p (nI a)) (r + 9) p (nI b)) (r + 10) p v) r 14 (nI (p + 1))) (r + 7) a (us M p a + v)).1 (r + 7) b = us M p b := (rd1k (fun q => hab q.symm)).trans (b4 b hb')
  let K := u1 (u1 (u1 (u1 (u1 (u1 h (r + 8) p (nI a)) (r + 9) p (nI b)) (r + 10) p v) r 14 (nI (p + 1))) (r + 7) a (us M p a + v)) (r + 7) b (us M p b + v)
  refine ⟨K, ?_, ⟨?_, fun k hk => ?_, fun i hi' => ?_⟩, fun j hj => ⟨?_, ?_⟩, fun c j hc => ?_⟩
  · have x1 : h.1 r 14 = nI p := hp ▸ hX.1
    simp only [sX2_add, sX2_add_c69, gd_t (isC_ok hr), x1, c1, if_false, gd_in (show p < 24 by omega) (show 24 ≤ 1000 by decide), cl_n (show p ≤ 100000 by omega), nm, b1, b2, b3, nI_1, gd_in (show a < 10 by omega) (show 10 ≤ 1000 by decide), gd_in (show b < 10 by omega) (show 10 ≤ 1000 by decide), cl_n (show a ≤ 100000 by omega), cl_n (show b ≤ 100000 by omega), b4 a ha, b5]
    rfl
  · rw [sn_len, hp]
    exact (rd1c (by omega)).trans ((rd1c (by omega)).trans rd1s)
  · rw [sn_len, hp] at hk
    by_cases e : k = p
    · subst e
      rw [← hp]
      obtain ⟨e1, e2, e3⟩ := sn_e (M := M) (a := a) (b := b) (v := v)
      rw [e1, e2, e3, hp]
      refine ⟨?_, ?_, ?_⟩
      · exact (rd1c (by omega)).trans ((rd1c (by omega)).trans ((rd1c (by omega)).trans ((rd1c (by omega)).trans ((rd1c (by omega)).trans rd1s))))
      · exact (rd1c (by omega)).trans ((rd1c (by omega)).trans ((rd1c (by omega)).trans ((rd1c (by omega)).trans rd1s)))
      · exact (rd1c (by omega)).trans ((rd1c (by omega)).trans ((rd1c (by omega)).trans rd1s))
    · obtain ⟨e1, e2, e3⟩ := sn_l (a := a) (b := b) (v := v) (show k < M.length by omega)
      rw [e1, e2, e3]
      obtain ⟨g1, g2, g3⟩ := hX.2.1 k (by omega)
      refine ⟨?_, ?_, ?_⟩
      · exact (rd1c (by omega)).trans ((rd1c (by omega)).trans ((rd1c (by omega)).trans ((rd1c (by omega)).trans ((rd1c (by omega)).trans ((rd1k e).trans g1)))))
      · exact (rd1c (by omega)).trans ((rd1c (by omega)).trans ((rd1c (by omega)).trans ((rd1c (by omega)).trans ((rd1k e).trans ((rd1c (by omega)).trans g2)))))
      · exact (rd1c (by omega)).trans ((rd1c (by omega)).trans ((rd1c (by omega)).trans ((rd1k e).trans ((rd1c (by omega)).trans ((rd1c (by omega)).trans g3)))))
  · rw [sn_len, sn_us1.1, hp]
    by_cases e : i = b
    · subst e
      rw [if_pos (Or.inr rfl)]
      exact rd1s
    · by_cases e2 : i = a
      · subst e2
        rw [if_pos (Or.inl rfl)]
        exact (rd1k e).trans rd1s
      · rw [if_neg (fun q => q.elim (fun z => e2 z.symm) (fun z => e z.symm)), Int32.add_zero]
        exact (rd1k e).trans ((rd1k e2).trans (b4 i hi'))
  · exact (rd1c (by omega)).trans ((rd1c (by omega)).trans ((rd1c (by omega)).trans ((rd1c (by omega)).trans ((rd1c (by omega)).trans (rd1k hj)))))
  · exact (rd1c (by omega)).trans ((rd1c (by omega)).trans ((rd1c (by omega)).trans ((rd1c (by omega)).trans ((rd1k hj).trans (rd1c (by omega))))))
  · exact (rd1c (by omega)).trans ((rd1c (by omega)).trans ((rd1c (by omega)).trans ((rd1c (by omega)).trans ((rd1c (by omega)).trans (rd1c (by omega))))))
theorem S_add {M : Mt} (hr : ck r = 2) (hn : S.1 ≤ 10) (hX : XM h r S M) (hl : M.length < 24) {a b : Nat} (ha : a < S.1) (hb' : b < S.1) (hab : a ≠ b) (v : Int32) : ∃ h', sX2_add h r (nI a) (nI b) v = some h' ∧ XM h' r S (M ++ [(a, b, v)]) := by
  obtain ⟨h', e1, e2, -⟩ := S_addE hr hn hX hl ha hb' hab v
  exact ⟨h', e1, e2⟩
/-- the matches of one side are others: the class -/
theorem RX.up {h' : Hp} {W : List (Nat × Option Nat)} {Z : List Nat} {M' : Mt} (hR : RX h S Ms tx row) (hs : s < 2) (R : Fr W Z h h') (hw : ∀ w ∈ W, (w.1 = 26 + 14 * s ∧ (w.2 = some 14 ∨ w.2 = some 16)) ∨ (26 + 14 * s + 7 ≤ w.1 ∧ w.1 ≤ 26 + 14 * s + 13)) (hz : Z.all (fun z => z != 5) = true) (hX : XM h' (26 + 14 * s) S M') : RX h' S (upM Ms s M') tx row := by
  have key : ∀ c k, (c < 26 ∨ 54 ≤ c) → h'.1 c k = h.1 c k := fun c k hc => R.1 c k (fun q => by have := hw _ q; simp at this; omega) (fun q => by have := hw _ q; simp at this; omega)
  refine ⟨⟨hR.1.1.fr R (fun w hw' => by have := hw w hw'; omega), (key 1 8 (by omega)).trans hR.1.2.1, hR.1.2.2.1.fr R (fun w hw' => by have := hw w hw'; omega), fun t ht' => ?_⟩, ⟨(key 2 1 (by omega)).trans hR.2.1.1, fun k hk => (key 3 k (by omega)).trans (hR.2.1.2 k hk)⟩, ⟨(key 4 1 (by omega)).trans hR.2.2.1, fun k hk => by rw [R.2 5 (fun q => by have := List.all_eq_true.mp hz _ q; simp at this)]; exact hR.2.2.2 k hk⟩⟩
  obtain ⟨d2, x2⟩ := hR.1.2.2.2 t ht'
  by_cases e : t = s
  · subst e
    refine ⟨d2.fr R (fun w hw' => ?_), ?_⟩
    · rcases hw w hw' with ⟨q1, q2⟩ | q
      · refine Or.inr (Or.inr ⟨q1, ?_⟩)
        rcases q2 with q2 | q2
        · exact ⟨14, q2, by omega⟩
        · exact ⟨16, q2, by omega⟩
      · omega
    · unfold upM
      rw [if_pos rfl]
      exact hX
  · unfold upM
    rw [if_neg e]
    exact ⟨d2.fr R (fun w hw' => by have := hw w hw'; omega), x2.fr R (fun w hw' => by have := hw w hw'; omega)⟩
theorem wX2_add_ok {s : Nat} : ∀ w ∈ wX2_add (26 + 14 * s), (w.1 = 26 + 14 * s ∧ (w.2 = some 14 ∨ w.2 = some 16)) ∨ (26 + 14 * s + 7 ≤ w.1 ∧ w.1 ≤ 26 + 14 * s + 13) := by
  intro w hw
  simp only [wX2_add, List.mem_cons, List.not_mem_nil, or_false] at hw
  rcases hw with rfl | rfl | rfl | rfl | rfl <;> simp <;> omega
theorem M_lays (hs : s < 2) (hM : RM h S Ms tx row) (hls : ∀ t, t < 2 → (Ms t).length ≤ 24) (a b : Nat) (v : Int32) : ∃ h', sX6_laysMatch h (nI s) (nI a) (nI b) v = some h' ∧ RM h' S Ms tx row ∧ MMk h' s (Ms s ++ [(a, b, v)]) := by
  have m := hM.1.2 s hs
  have hl := hls s hs
  generalize hp : (Ms s).length = p at *
  have F : Fr [(68, none), (69, none), (70, none)] [] h (u1 (u1 (u1 h 68 (25 * s + p) (nI a)) 69 (25 * s + p) (nI b)) 70 (25 * s + p) v) := Fr.w1 (Fr.w1 (Fr.w1 Fr.rf rfl (by simp)) rfl (by simp)) rfl (by simp)
  refine ⟨u1 (u1 (u1 h 68 (25 * s + p) (nI a)) 69 (25 * s + p) (nI b)) 70 (25 * s + p) v, ?_, ⟨⟨MQS.fr hM.1.1 F (by decide), fun t ht' => ?_⟩, hM.2.1.fr F (by decide), hM.2.2.fr F (by decide) (by decide)⟩, fun k hk => ?_⟩
  · have x1 : h.1 67 s = nI p := hp ▸ m.1
    simp only [sX6_laysMatch, gd_in (show s < 2 by omega) (show 2 ≤ 1000 by decide), cl_n (show s ≤ 100000 by omega), x1, M_place, Option.bind_some, gd_in (show 25 * s + p < 50 by omega) (show 50 ≤ 1000 by decide), cl_n (show 25 * s + p ≤ 100000 by omega), nm]
  · obtain ⟨q1, q2⟩ := hM.1.2 t ht'
    refine ⟨(F.c (by decide) t).trans q1, fun k hk => ?_⟩
    have ne : 25 * t + k ≠ 25 * s + p := by
      by_cases e : t = s
      · subst e; omega
      · have hlt := hls t ht'
        intro q
        have : t = 0 ∧ s = 1 ∨ t = 1 ∧ s = 0 := by omega
        rcases this with ⟨rfl, rfl⟩ | ⟨rfl, rfl⟩ <;> omega
    obtain ⟨g1, g2, g3⟩ := q2 k hk
    exact ⟨(rd1k ne).trans ((rd1k ne).trans ((rd1k ne).trans g1)), (rd1k ne).trans ((rd1k ne).trans ((rd1k ne).trans g2)), (rd1k ne).trans ((rd1k ne).trans ((rd1k ne).trans g3))⟩
  · rw [sn_len, hp] at hk
    by_cases e : k = p
    · subst e
      rw [← hp]
      obtain ⟨e1, e2, e3⟩ := sn_e (M := Ms s) (a := a) (b := b) (v := v)
      rw [e1, e2, e3, hp]
      exact ⟨(rd1c (by decide)).trans ((rd1c (by decide)).trans rd1s), (rd1c (by decide)).trans rd1s, rd1s⟩
    · obtain ⟨e1, e2, e3⟩ := sn_l (a := a) (b := b) (v := v) (show k < (Ms s).length by omega)
      rw [e1, e2, e3]
      have ne : 25 * s + k ≠ 25 * s + p := by omega
      obtain ⟨g1, g2, g3⟩ := m.2 k (by omega)
      exact ⟨(rd1k ne).trans ((rd1k ne).trans ((rd1k ne).trans g1)), (rd1k ne).trans ((rd1k ne).trans ((rd1k ne).trans g2)), (rd1k ne).trans ((rd1k ne).trans ((rd1k ne).trans g3))⟩
/-- one match more counts -/
theorem M_cnt {M' : Mt} (hs : s < 2) (hM : RM h S Ms tx row) (hk : MMk h s M') : RM (u1 h 67 s (nI M'.length)) S (upM Ms s M') tx row := by
  have F : Fr [(67, none)] [] h (u1 h 67 s (nI M'.length)) := Fr.w1 Fr.rf rfl (by simp)
  refine ⟨⟨MQS.fr hM.1.1 F (by decide), fun t ht' => ?_⟩, hM.2.1.fr F (by decide), hM.2.2.fr F (by decide) (by decide)⟩
  unfold upM
  by_cases e : t = s
  · subst e
    rw [if_pos rfl]
    exact ⟨rd1s, fun k hk' => ⟨(rd1c (by decide)).trans (hk k hk').1, (rd1c (by decide)).trans (hk k hk').2.1, (rd1c (by decide)).trans (hk k hk').2.2⟩⟩
  · rw [if_neg e]
    obtain ⟨q1, q2⟩ := hM.1.2 t ht'
    exact ⟨(rd1k e).trans q1, fun k hk' => ⟨(rd1c (by decide)).trans (q2 k hk').1, (rd1c (by decide)).trans (q2 k hk').2.1, (rd1c (by decide)).trans (q2 k hk').2.2⟩⟩
end O8
