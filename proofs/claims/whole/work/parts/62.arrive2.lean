/-! arrive: the reference -/
section O22
variable {h : Hp} {S : SS} {Ms : Nat → Mt} {tx : List Int32} {row : List Int64} {r s : Nat}
theorem M_shft {c i n : Nat} {f : Nat → Int32} {v1 v2 : Int32} (k6 : Hp → Int32 → Int32 → Nat → Int32 → Int32 → Option (Int32 × Hp)) (hc : c = 65 ∨ c = 66) (hi' : i < 10) (hn : n < 10) (hf : ∀ j, j < n → h.1 c j = f j) : ∀ (p fuel : Nat) (h' : Hp), p ≤ n → p < fuel → Fr [(c, none)] [] h h' → (∀ j, j < p → h'.1 c j = f j) → (∀ j, p < j → j ≤ n → h'.1 c j = f (j - 1)) → (p < n → f p ≤ h.1 59 i) → ∃ q h'', q ≤ n ∧ (q = 0 ∨ h.1 59 i ≤ f (q - 1)) ∧ (q < n → f q ≤ h.1 59 i) ∧ Fr [(c, none)] [] h h'' ∧ (∀ j, j ≤ n → h''.1 c j = insA f q (h.1 59 i) j) ∧ sX6_laysArriving_b58 k6 fuel h' v1 v2 c (nI n) (nI i) (nI p) = k6 h'' v1 v2 c (nI (n + 1)) (nI (i + 1))
  | p, fuel, h', hp, hfu, F, a1, a2, a3 => by
    obtain ⟨m, rfl⟩ : ∃ m, fuel = m + 1 := ⟨fuel - 1, by omega⟩
    have c9 : h'.1 59 i = h.1 59 i := F.c (by rcases hc with rfl | rfl <;> decide) i
    have fin : (p = 0 ∨ h.1 59 i ≤ f (p - 1)) → sX6_laysArriving_b58 k6 (m + 1) h' v1 v2 c (nI n) (nI i) (nI p) = sX6_laysArriving_c95 k6 h' v1 v2 c (nI n) (nI i) (nI p) → ∃ q h'', q ≤ n ∧ (q = 0 ∨ h.1 59 i ≤ f (q - 1)) ∧ (q < n → f q ≤ h.1 59 i) ∧ Fr [(c, none)] [] h h'' ∧ (∀ j, j ≤ n → h''.1 c j = insA f q (h.1 59 i) j) ∧ sX6_laysArriving_b58 k6 (m + 1) h' v1 v2 c (nI n) (nI i) (nI p) = k6 h'' v1 v2 c (nI (n + 1)) (nI (i + 1)) := by
      intro b1 e
      refine ⟨p, u1 h' c p (h.1 59 i), hp, b1, a3, Fr.w1 F rfl (by simp), fun j hj => ?_, ?_⟩
      · unfold insA
        by_cases z : j = p
        · subst z
          rw [if_neg (Nat.lt_irrefl _), if_pos rfl]
          exact rd1s
        · refine (rd1k z).trans ?_
          by_cases z2 : j < p
          · rw [if_pos z2]; exact a1 j z2
          · rw [if_neg z2, if_neg z]; exact a2 j (by omega) hj
      · rw [e]
        unfold sX6_laysArriving_c95 sX6_laysArriving_c109
        rw [gd_in (show i < 10 by omega) (show 10 ≤ 1000 by decide), gd_in (show p < 10 by omega) (show 10 ≤ 1000 by decide), cl_n (show p ≤ 100000 by omega), cl_n (show i ≤ 100000 by omega), c9, nm_t rfl, nI_1, nI_1, nm_t rfl, nm_t rfl]
    by_cases z : p = 0
    · refine fin (Or.inl z) ?_
      show sX6_laysArriving_c58 k6 (sX6_laysArriving_b58 k6 m) h' v1 v2 c (nI n) (nI i) (nI p) = _
      unfold sX6_laysArriving_c58
      rw [z, if_pos (by decide)]
    · have hp0 : ¬ nI p ≤ 0 := by show ¬ nI p ≤ nI 0; rw [le_n (by omega) (by omega)]; omega
      have r1 := a1 (p - 1) (by omega)
      have e1 : nI p - 1 = nI (p - 1) := nI_m1 (by omega)
      have e2 : nI p + (-1) = nI (p - 1) := nI_a1 (by omega)
      have e0 : sX6_laysArriving_b58 k6 (m + 1) h' v1 v2 c (nI n) (nI i) (nI p) = if h.1 59 i ≤ f (p - 1) then sX6_laysArriving_c95 k6 h' v1 v2 c (nI n) (nI i) (nI p) else sX6_laysArriving_b58 k6 m (u1 h' c p (f (p - 1))) v1 v2 c (nI n) (nI i) (nI (p - 1)) := by
        show sX6_laysArriving_c58 k6 (sX6_laysArriving_b58 k6 m) h' v1 v2 c (nI n) (nI i) (nI p) = _
        unfold sX6_laysArriving_c58
        simp only [hp0, if_false, e1, e2, gd_in (show p - 1 < 10 by omega) (show 10 ≤ 1000 by decide), gd_in (show p < 10 by omega) (show 10 ≤ 1000 by decide), gd_in (show i < 10 by omega) (show 10 ≤ 1000 by decide), cl_n (show p - 1 ≤ 100000 by omega), cl_n (show p ≤ 100000 by omega), cl_n (show i ≤ 100000 by omega), c9, r1, nm]
      by_cases z2 : h.1 59 i ≤ f (p - 1)
      · exact fin (Or.inr z2) (by rw [e0, if_pos z2])
      · rw [e0, if_neg z2]
        refine M_shft k6 hc hi' hn hf (p - 1) m (u1 h' c p (f (p - 1))) (by omega) (by omega) (Fr.w1 F rfl (by simp)) (fun j hj => (rd1k (by omega)).trans (a1 j (by omega))) (fun j h1 h2 => ?_) (fun _ => by grind)
        by_cases y : j = p
        · subst y; exact rd1s
        · exact (rd1k y).trans (a2 j (by omega) h2)
  termination_by p => p
/-- a row of capacities of what arrives -/
def ARv (S : SS) (s : Nat) (k : Int32) (f : Nat → Int32) (i : Nat) : Prop := dsc f (cA S s k 0 i) ∧ (∀ m, cG f m (cA S s k 0 i) = cA S s k m i) ∧ ∀ j, j < cA S s k 0 i → 1 ≤ (f j).toInt ∧ (f j).toInt ≤ 20
theorem ARv_cg {k : Int32} {f g : Nat → Int32} {i : Nat} (H : ARv S s k f i) (e : ∀ j, j < cA S s k 0 i → f j = g j) : ARv S s k g i := by
  refine ⟨fun a b h1 h2 => ?_, fun m => ?_, fun j hj => ?_⟩
  · rw [← e a (by omega), ← e b h2]; exact H.1 a b h1 h2
  · rw [← cG_cg e]; exact H.2.1 m
  · rw [← e j hj]; exact H.2.2 j hj
theorem M_laysA (ok : OK S) (hF : FD h S) (hs : s < 2) {k : Int32} {c : Nat} (hc : c = 65 ∨ c = 66) : ∃ h', sX6_laysArriving h (nI s) k c = some (nI (cA S s k 0 S.1), h') ∧ Fr [(c, none)] [] h h' ∧ ARv S s k (fun j => h'.1 c j) S.1 := by
  have hn := ok.1
  have ia : isA c 10 10 = true := by rcases hc with rfl | rfl <;> decide
  unfold sX6_laysArriving
  rw [gd_t ia]
  have L := loopS (fun n (q : Hp × Int32 × Int32) => sX6_laysArriving_b6 n q.1 (nI s) k c q.2.1 q.2.2) (fun i q => Fr [(c, none)] [] h q.1 ∧ ARv S s k (fun j => q.1.1 c j) i ∧ q.2.1 = nI (cA S s k 0 i) ∧ q.2.2 = nI i) S.1 (fun m i q hi' I => by
    obtain ⟨F, A, e1, e2⟩ := I
    have F0 := F
    have f1 : FD q.1 S := FD.fr hF F (by rcases hc with rfl | rfl <;> decide) (by rcases hc with rfl | rfl <;> decide)
    have hle : ¬ nI S.1 ≤ nI i := by rw [le_n (by omega) (by omega)]; omega
    have t := ht_bd ok (s := s) hi'
    have h0 : ht S s i = 0 ↔ ¬ 0 < dg S s i := by
      rw [← t.2.2.2, eq_tI, le_tI, tI0]
      omega
    have cl := cA_le (S := S) (s := s) (k := k) (m := 0) (i := i)
    by_cases ca : (0 < dg S s i ∧ nr S s i = pof S i) ∧ hb S.2.1 S.2.2.1 i = k
    · have C0 := C20 ok hi'
      have c59 : q.1.1 59 i = S.2.2.2.1 i := (f1.1.2.2 i hi').2.2
      have e3 : ∀ m : Int32, cA S s k m (i + 1) = cA S s k m i + (if m ≤ S.2.2.2.1 i then 1 else 0) := fun m => by
        show cA S s k m i + (if (0 < dg S s i ∧ nr S s i = pof S i) ∧ hb S.2.1 S.2.2.1 i = k ∧ m ≤ S.2.2.2.1 i then 1 else 0) = _
        by_cases z : m ≤ S.2.2.2.1 i
        · rw [if_pos z, if_pos ⟨ca.1, ca.2, z⟩]
        · rw [if_neg z, if_neg (fun q => z q.2.2)]
      have e4 : cA S s k 0 (i + 1) = cA S s k 0 i + 1 := by rw [e3, if_pos (by rw [le_tI, tI0]; omega)]
      obtain ⟨p, h'', p1, p2, p3, p4, p5, p6⟩ := M_shft (h := q.1) (c := c) (i := i) (n := cA S s k 0 i) (f := fun j => q.1.1 c j) (v1 := nI s) (v2 := k) (sX6_laysArriving_b6 m) hc (by omega) (by omega) (fun j _ => rfl) (cA S s k 0 i) FU q.1 (Nat.le_refl _) (by show _ < 1000; omega) Fr.rf (fun j _ => rfl) (fun j h1 h2 => by omega) (fun z => absurd z (Nat.lt_irrefl _))
      rw [c59] at p2 p3 p5
      have A' : ARv S s k (insA (fun j => q.1.1 c j) p (S.2.2.2.1 i)) (i + 1) := by
        refine ⟨by rw [e4]; exact insA_d p1 A.1 p2 p3, fun m => ?_, fun j hj => ?_⟩
        · have := insA_c (f := fun j => q.1.1 c j) (p := p) (x := S.2.2.2.1 i) (m := m) (d := cA S s k 0 i - p)
          rw [show p + (cA S s k 0 i - p) = cA S s k 0 i by omega] at this
          rw [e4, this, e3 m, A.2.1 m]
        · rw [e4] at hj
          unfold insA
          by_cases z : j < p
          · rw [if_pos z]; exact A.2.2 j (by omega)
          · rw [if_neg z]
            by_cases z2 : j = p
            · rw [if_pos z2]; exact C0
            · rw [if_neg z2]; exact A.2.2 (j - 1) (by omega)
      refine ⟨(h'', nI (cA S s k 0 (i + 1)), nI (i + 1)), ⟨F.tr p4 (fun _ z => z) (fun _ z => z), ARv_cg A' (fun j hj => (p5 j (by omega)).symm), rfl, rfl⟩, ?_⟩
      show sX6_laysArriving_c6 (sX6_laysArriving_b6 m) q.1 (nI s) k c q.2.1 q.2.2 = _
      unfold sX6_laysArriving_c6
      rw [e1, e2, f1.1.1, if_neg hle, bd_t (M_isHot f1.1 hn hi')]
      dsimp only
      rw [if_pos ca.2, bd_t (M_heat f1 hn hs hi')]
      dsimp only
      rw [if_neg (by rw [h0]; exact fun z => z ca.1.1), bd_t (M_near f1 hn hs hi')]
      dsimp only
      rw [bd_t (M_pinchOf f1 hn hi')]
      dsimp only
      rw [if_pos ca.1.2, p6, e4]
    · have e3 : ∀ m : Int32, cA S s k m (i + 1) = cA S s k m i := fun m => by
        show cA S s k m i + (if (0 < dg S s i ∧ nr S s i = pof S i) ∧ hb S.2.1 S.2.2.1 i = k ∧ m ≤ S.2.2.2.1 i then 1 else 0) = _
        rw [if_neg (fun q => ca ⟨q.1, q.2.1⟩)]
        rfl
      refine ⟨(q.1, nI (cA S s k 0 (i + 1)), nI (i + 1)), ⟨F, ⟨by rw [e3]; exact A.1, fun m => by rw [e3, e3]; exact A.2.1 m, fun j hj => A.2.2 j (by rw [e3] at hj; exact hj)⟩, rfl, rfl⟩, ?_⟩
      show sX6_laysArriving_c6 (sX6_laysArriving_b6 m) q.1 (nI s) k c q.2.1 q.2.2 = _
      unfold sX6_laysArriving_c6 sX6_laysArriving_c109
      rw [e1, e2, f1.1.1, if_neg hle, bd_t (M_isHot f1.1 hn hi')]
      dsimp only
      rw [e3, nI_1, nm_t rfl]
      by_cases z1 : hb S.2.1 S.2.2.1 i = k
      · rw [if_pos z1, bd_t (M_heat f1 hn hs hi')]
        dsimp only
        by_cases z2 : 0 < dg S s i
        · rw [if_neg (by rw [h0]; exact fun z => z z2), bd_t (M_near f1 hn hs hi')]
          dsimp only
          rw [bd_t (M_pinchOf f1 hn hi')]
          dsimp only
          rw [if_neg (fun z => ca ⟨⟨z2, z⟩, z1⟩)]
          rfl
        · rw [if_pos (h0.mpr z2)]
          rfl
      · rw [if_neg z1]) S.1 0 FU (h, 0, 0) ⟨Fr.rf, ⟨fun a b _ h2 => absurd h2 (Nat.not_lt_zero b), fun m => rfl, fun j hj => absurd hj (Nat.not_lt_zero j)⟩, rfl, rfl⟩ (by omega) (show S.1 < 1000 by omega)
  obtain ⟨q, m, ⟨F, A, e1, e2⟩, e⟩ := L
  refine ⟨q.1, ?_, F, A⟩
  refine Eq.trans e ?_
  show sX6_laysArriving_c6 (sX6_laysArriving_b6 m) q.1 (nI s) k c q.2.1 q.2.2 = _
  unfold sX6_laysArriving_c6
  have f1 : FD q.1 S := FD.fr hF F (by rcases hc with rfl | rfl <;> decide) (by rcases hc with rfl | rfl <;> decide)
  rw [e1, e2, f1.1.1, if_pos (by rw [le_n (by omega) (by omega)]; omega)]
end O22
