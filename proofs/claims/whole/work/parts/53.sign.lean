/-! sign -/
theorem by_eq (n : Nat) (hn : n ≤ 24) (x : Int32) : (x.toUInt32 >>> ((nI n).toUInt32 &&& Int32.toUInt32 31)).toInt32 &&& 255 = (x >>> (nI n &&& 31)) &&& 255 := by
  have k1 : ∀ n, n < 32 → ((nI n &&& 31).toBitVec.smod 32).toNat = n := by decide +kernel
  have k2 : ∀ n, n < 32 → (((nI n).toUInt32 &&& Int32.toUInt32 31).toBitVec % 32).toNat = n := by decide +kernel
  have k3 : ∀ i, i < 32 → (255 : Int32).toBitVec.getLsbD i = decide (i < 8) := by decide +kernel
  apply Int32.toBitVec_inj.mp
  apply BitVec.eq_of_getLsbD_eq
  intro i hi'
  have e1 : ((x.toUInt32 >>> ((nI n).toUInt32 &&& Int32.toUInt32 31)).toInt32).toBitVec.getLsbD i = x.toBitVec.getLsbD (n + i) := by
    show (x.toUInt32 >>> ((nI n).toUInt32 &&& Int32.toUInt32 31)).toBitVec.getLsbD i = x.toUInt32.toBitVec.getLsbD (n + i)
    rw [UInt32.toBitVec_shiftRight]
    show (x.toUInt32.toBitVec >>> (((nI n).toUInt32 &&& Int32.toUInt32 31).toBitVec % 32).toNat).getLsbD i = _
    rw [k2 n (by omega), BitVec.getLsbD_ushiftRight]
  have e2 : i < 8 → (x >>> (nI n &&& 31)).toBitVec.getLsbD i = x.toBitVec.getLsbD (n + i) := by
    intro h8
    rw [Int32.toBitVec_shiftRight]
    show (x.toBitVec.sshiftRight ((nI n &&& 31).toBitVec.smod 32).toNat).getLsbD i = _
    rw [k1 n (by omega), BitVec.getLsbD_sshiftRight, if_pos (by omega)]
    simp [hi']
  rw [Int32.toBitVec_and, Int32.toBitVec_and, BitVec.getLsbD_and, BitVec.getLsbD_and, k3 i hi', e1]
  by_cases c : i < 8
  · rw [e2 c]
  · simp [c]
def byt (x : Int32) (k : Nat) : Int32 := (x >>> (nI (24 - 8 * k) &&& 31)) &&& 255
def txA (tx : List Int32) (x : Int32) : Nat → List Int32
  | 0 => tx
  | k + 1 => txA tx x k ++ [byt x k]
theorem txA_len {tx : List Int32} {x : Int32} : ∀ {k : Nat}, (txA tx x k).length = tx.length + k
  | 0 => rfl
  | k + 1 => by show (txA tx x k ++ [byt x k]).length = _; rw [List.length_append, txA_len]; rfl
theorem tx_snoc {tx : List Int32} {v : Int32} {k : Nat} (hk : k < (tx ++ [v]).length) : (tx ++ [v]).getD k 0 = if k = tx.length then v else tx.getD k 0 := by
  simp only [List.length_append, List.length_cons, List.length_nil] at hk
  by_cases c : k = tx.length
  · rw [if_pos c, c]; simp
  · rw [if_neg c, List.getD_eq_getElem?_getD, List.getD_eq_getElem?_getD, List.getElem?_append_left (by omega)]
section O13
variable {h : Hp} {S : SS} {Ms : Nat → Mt} {tx : List Int32} {row : List Int64}
theorem X_puts (hR : RX h S Ms tx row) (hl : tx.length ≤ 116) (x : Int32) : ∃ h', sX3_put h x = some (1, h') ∧ RX h' S Ms (txA tx x 4) row := by
  have c0 : nI tx.length + (4 : Int32) ≤ (120 : Int32) := by
    rw [le_tI, tI_add (by rw [tI_n (by omega)]; show -2147483648 ≤ (tx.length : Int) + 4; omega) (by rw [tI_n (by omega)]; show (tx.length : Int) + 4 < 2147483648; omega), tI_n (by omega)]
    show (tx.length : Int) + 4 ≤ 120
    omega
  unfold sX3_put
  rw [hR.2.1.1, if_pos c0]
  have sh : ∀ i, i < 4 → (nI (24 - 8 * i) + (-8 : Int32) = if i + 1 = 4 then -8 else nI (24 - 8 * (i + 1))) ∧ ¬ nI (24 - 8 * i) < 0 := by decide
  refine loopI (fun n (q : Hp × Int32) => sX3_put_b16 n q.1 x q.2) (fun k q => RX q.1 S Ms (txA tx x k) row ∧ q.2 = if k = 4 then -8 else nI (24 - 8 * k)) 4 (fun q => q.1 = 1 ∧ RX q.2 S Ms (txA tx x 4) row) (by omega) (h, 24) ⟨hR, rfl⟩ (fun m k q hk I => ?_) (fun m q I => ?_) |>.imp (fun q Q => ?_) |> fun ⟨q, Q⟩ => ⟨q.2, Q⟩
  · obtain ⟨i1, i2⟩ := I
    rw [if_neg (by omega)] at i2
    have lk : (txA tx x k).length = tx.length + k := txA_len
    have F : Fr [(3, none), (2, some 1)] [] q.1 (u1 (u1 q.1 3 (tx.length + k) (byt x k)) 2 1 (nI (tx.length + (k + 1)))) := Fr.w1 (Fr.w1 Fr.rf rfl (by simp)) rfl (by simp)
    refine ⟨(u1 (u1 q.1 3 (tx.length + k) (byt x k)) 2 1 (nI (tx.length + (k + 1))), if k + 1 = 4 then -8 else nI (24 - 8 * (k + 1))), ⟨⟨i1.1.fr F (by decide), ⟨?_, fun j hj => ?_⟩, i1.2.2.fr F (by decide) (by decide)⟩, rfl⟩, ?_⟩
    · rw [txA_len]; exact rd1s
    · refine (rd1c (by decide)).trans ?_
      have hj' : j < tx.length + (k + 1) := by rw [txA_len] at hj; exact hj
      rw [show txA tx x (k + 1) = txA tx x k ++ [byt x k] from rfl, tx_snoc (by exact hj), lk]
      by_cases c : j = tx.length + k
      · subst c
        rw [if_pos rfl]
        exact rd1s
      · rw [if_neg c]
        exact (rd1k c).trans (i1.2.1.2 j (by omega))
    · show sX3_put_c16 (sX3_put_b16 m) q.1 x q.2 = _
      have i3 := i1.2.1.1
      rw [lk] at i3
      have s1 := sh k hk
      have s2 : nI (24 - 8 * k) + (-8 : Int32) = if k + 1 = 4 then -8 else nI (24 - 8 * (k + 1)) := s1.1
      have b1 : ((u1 q.1 3 (tx.length + k) (byt x k)).1 2 1) = nI (tx.length + k) := (rd1c (by decide)).trans i3
      unfold sX3_put_c16
      rw [i2, if_neg s1.2, i3, gd_in (show tx.length + k < 120 by omega) (show 120 ≤ 1000 by decide), cl_n (show tx.length + k ≤ 100000 by omega), by_eq _ (by omega)]
      rw [nm_t (show u1 q.1 3 (tx.length + k) ((x >>> (nI (24 - 8 * k) &&& 31)) &&& 255) = u1 q.1 3 (tx.length + k) (byt x k) from rfl), b1, nI_1, nm_t rfl, s2, nm_t rfl]
      rfl
  · obtain ⟨i1, i2⟩ := I
    rw [if_pos rfl] at i2
    refine ⟨(1, q.1), ?_, rfl, i1⟩
    show sX3_put_c16 (sX3_put_b16 m) q.1 x q.2 = _
    unfold sX3_put_c16
    rw [i2, if_pos (by decide)]
  · exact ⟨by rw [Q.1, ← Q.2.1], Q.2.2⟩
theorem M_sg (hR : RM h S Ms tx row) (hl : tx.length ≤ 116) (x : Int32) : ∃ h', sX6_sign_b18 FU h x 0 = some (nI (tx.length + 4), h') ∧ RM h' S Ms (txA tx x 4) row := by
  have sh : ∀ i, i < 4 → ((24 : Int32) - (8 : Int32) * nI i = nI (24 - 8 * i)) ∧ ¬ (4 : Int32) ≤ nI i := by decide
  have ad : ∀ k, k ≤ 4 → nI tx.length + nI k = nI (tx.length + k) := by
    intro k hk
    rw [eq_tI, tI_add (by rw [tI_n (by omega), tI_n (by omega)]; omega) (by rw [tI_n (by omega), tI_n (by omega)]; omega), tI_n (by omega), tI_n (by omega), tI_n (by omega)]
    omega
  have L := loopI (fun n (q : Hp × Int32) => sX6_sign_b18 n q.1 x q.2) (fun k q => (RMs q.1 S Ms ∧ q.1.1 54 4 = nI tx.length ∧ (∀ j, j < (txA tx x k).length → q.1.1 56 j = (txA tx x k).getD j 0) ∧ WMr q.1 row) ∧ q.2 = nI k) 4 (fun q => q.1 = nI (tx.length + 4) ∧ RM q.2 S Ms (txA tx x 4) row) (by omega) (h, 0) ⟨⟨hR.1, hR.2.1.1, hR.2.1.2, hR.2.2⟩, rfl⟩ (fun m k q hk I => by
    obtain ⟨⟨i1, i3, i4, i5⟩, i2⟩ := I
    have lk : (txA tx x k).length = tx.length + k := txA_len
    have F : Fr [(56, none)] [] q.1 (u1 q.1 56 (tx.length + k) (byt x k)) := Fr.w1 Fr.rf rfl (by simp)
    refine ⟨(u1 q.1 56 (tx.length + k) (byt x k), nI (k + 1)), ⟨⟨i1.fr F (by decide), (rd1c (by decide)).trans i3, fun j hj => ?_, i5.fr F (by decide) (by decide)⟩, rfl⟩, ?_⟩
    · have hj' : j < tx.length + (k + 1) := by rw [txA_len] at hj; exact hj
      rw [show txA tx x (k + 1) = txA tx x k ++ [byt x k] from rfl, tx_snoc (by exact hj), lk]
      by_cases c : j = tx.length + k
      · subst c
        rw [if_pos rfl]
        exact rd1s
      · rw [if_neg c]
        exact (rd1k c).trans (i4 j (by omega))
    · show sX6_sign_c18 (sX6_sign_b18 m) q.1 x q.2 = _
      have s1 := sh k hk
      unfold sX6_sign_c18
      rw [i2, if_neg s1.2, i3, ad k (by omega), gd_in (show tx.length + k < 120 by omega) (show 120 ≤ 1000 by decide), cl_n (show tx.length + k ≤ 100000 by omega), s1.1]
      rw [nm_t (show u1 q.1 56 (tx.length + k) ((x >>> (nI (24 - 8 * k) &&& 31)) &&& 255) = u1 q.1 56 (tx.length + k) (byt x k) from rfl), nI_1, nm_t rfl]) (fun m q I => by
    obtain ⟨⟨i1, i3, i4, i5⟩, i2⟩ := I
    have a4 := ad 4 (by omega)
    have F : Fr [(54, some 4)] [] q.1 (u1 q.1 54 4 (nI (tx.length + 4))) := Fr.w1 Fr.rf rfl (by simp)
    refine ⟨(nI (tx.length + 4), u1 q.1 54 4 (nI (tx.length + 4))), ?_, rfl, i1.fr F (by decide), ⟨by rw [txA_len]; exact rd1s, fun j hj => (rd1c (by decide)).trans (i4 j hj)⟩, i5.fr F (by decide) (by decide)⟩
    show sX6_sign_c18 (sX6_sign_b18 m) q.1 x q.2 = _
    unfold sX6_sign_c18
    rw [i2, if_pos (by decide), i3, show nI tx.length + (4 : Int32) = nI (tx.length + 4) from a4, nm_t rfl]
    rw [rd1s])
  obtain ⟨q, Q⟩ := L
  refine ⟨q.2, ?_, Q.2.2⟩
  rw [← Q.2.1]
  exact Q.1
theorem op_sign (R : Rel h S Ms tx row) (x : Int32) : Step (fun h => sX5_sign h x) (fun h => sX6_sign h x) h := by
  have X := R.2.1
  have ht := R.1.2.2.1
  by_cases c : tx.length ≤ 116
  · obtain ⟨h1, e1, r1⟩ := X_puts X c x
    have eX : sX5_sign h x = some (nI (tx.length + 4), h1) := by
      unfold sX5_sign sX5_sign_c22
      rw [bd_t e1]
      dsimp only
      rw [if_neg (by decide), r1.2.1.1, txA_len]
    refine mkS (S' := S) (Ms' := Ms) R eX (fX5_sign _ _ _ eX) (by decide) (by decide) r1 ⟨R.1.1, R.1.2.1, by rw [txA_len]; omega, R.1.2.2.2⟩ (fun hM => ?_) (fun q e => fX6_sign h1 x q e) (by decide) (by decide)
    obtain ⟨m1, t1⟩ := hM.thr 0
    obtain ⟨h2, e2, m2⟩ := M_sg m1 c x
    refine ⟨h2, ?_, m2⟩
    show sX6_sign h1 x = _
    unfold sX6_sign
    rw [nm_t rfl, m1.2.1.1, if_pos (by show _ ≤ nI 116; rw [le_n (by omega) (by omega)]; exact c)]
    exact e2
  · have c0 : ¬ nI tx.length + (4 : Int32) ≤ (120 : Int32) := by
      rw [le_tI, tI_add (by rw [tI_n (by omega)]; show -2147483648 ≤ (tx.length : Int) + 4; omega) (by rw [tI_n (by omega)]; show (tx.length : Int) + 4 < 2147483648; omega), tI_n (by omega)]
      show ¬ (tx.length : Int) + 4 ≤ 120
      omega
    have eX : sX5_sign h x = some (-1, h) := by
      unfold sX5_sign sX5_sign_c22 sX3_put
      rw [X.2.1.1, if_neg c0]
      rfl
    refine mkS (S' := S) (Ms' := Ms) R eX (fX5_sign _ _ _ eX) (by decide) (by decide) X R.1 (fun hM => ?_) (fun q e => fX6_sign h x q e) (by decide) (by decide)
    obtain ⟨m1, t1⟩ := hM.thr 0
    refine ⟨u1 h 54 0 0, ?_, m1⟩
    show sX6_sign h x = _
    unfold sX6_sign
    rw [nm_t rfl, m1.2.1.1, if_neg (by show ¬ _ ≤ nI 116; rw [le_n (by omega) (by omega)]; exact c)]
end O13
