/-! one stream in the text, both -/
section Rs2
variable {h k : Hp} {tx : List Int32} {p n : Nat} {F T C : Nat → Int32}
/-- both fail at the same sign -/
def fail2 (tx : List Int32) (h k : Hp) (X M : Option (Int32 × Hp)) : Prop := ∃ h' k' e, e ≤ tx.length ∧ X = some (0, h') ∧ h'.1 2 4 = nI e ∧ M = some (0, k') ∧ k'.1 54 5 = nI e
/-- both read a stream -/
def read2 (tx : List Int32) (p n : Nat) (F T C : Nat → Int32) (k : Hp) (X M : Option (Int32 × Hp)) : Prop := ∃ h' k' k0 f t c q, p < q ∧ q ≤ tx.length ∧ (0 ≤ f ∧ f ≤ 500 ∧ 0 ≤ t ∧ t ≤ 500 ∧ f ≠ t ∧ 1 ≤ c ∧ c ≤ 20) ∧ X = some (1, h') ∧ h'.1 2 2 = nI q ∧ PS h' 11 (n + 1) (upd F n f) (upd T n t) (upd C n c) ∧ M = some (1, k') ∧ k' = u1 (u1 (u1 k0 60 n f) 61 n t) 62 n c ∧ Fr [(54, some 5)] [] k k0 ∧ k0.1 54 5 = nI q
theorem fitI {x : Int32} {B : Int} (hB : x.toInt < B) (h0 : 0 ≤ x.toInt) : 0 ≤ x := by rw [le_tI, tI0]; exact h0
/-- behind the second number -/
theorem rd_cap (hT : TX h tx) (kT : MT k tx) (hP : PS h 11 n F T C) (hn : n < 10) (hl : tx.length ≤ 120) (hp : h.1 2 2 = nI p) (kp : k.1 54 5 = nI p) (hpl : p ≤ tx.length) {v f t : Int32} (hv : v = if t < f then 1 else 0) (hft : 0 ≤ f ∧ f ≤ 500 ∧ 0 ≤ t ∧ t ≤ 500 ∧ f ≠ t) : fail2 tx h k ((sX3_readSign h (42 : Int32)).bind fun q12 => if q12.1 = 0 then ((sX3_failAt q12.2 (q12.2.1 2 2)).bind fun q15 => gd (zb q15.1) (some (q15.1, q15.2))) else ((sX3_readNumber q12.2 (2 : Int32) (1 : Int32) (20 : Int32)).bind fun q13 => if q13.1 = 0 then (some ((0 : Int32), q13.2)) else ((sX1_add q13.2 11 v f t (q13.2.1 2 3)).bind fun q14 => some ((1 : Int32), q14)))) (sX6_readsStream_c107 k (nI n) f t 1) ∨ read2 tx p n F T C k ((sX3_readSign h (42 : Int32)).bind fun q12 => if q12.1 = 0 then ((sX3_failAt q12.2 (q12.2.1 2 2)).bind fun q15 => gd (zb q15.1) (some (q15.1, q15.2))) else ((sX3_readNumber q12.2 (2 : Int32) (1 : Int32) (20 : Int32)).bind fun q13 => if q13.1 = 0 then (some ((0 : Int32), q13.2)) else ((sX1_add q13.2 11 v f t (q13.2.1 2 3)).bind fun q14 => some ((1 : Int32), q14)))) (sX6_readsStream_c107 k (nI n) f t 1) := by
  obtain ⟨k1, f1, f2, f3⟩ := M_fit1 kp
  have kT1 := kT.f5 f3
  obtain ⟨xs1, xs2⟩ := X_sgn hT hl hp hpl 42
  obtain ⟨k2, g1, g2', g3⟩ := M_sgn kT1 hl f2 hpl 42
  by_cases s : isS tx p 42
  · obtain ⟨m1, m2⟩ := g2' s
    have F1 : Fr [(2, some 2), (2, some 3), (2, some 4)] [] h (u1 h 2 2 (nI (p + 1))) := Fr.w1 Fr.rf rfl (by simp)
    obtain ⟨x, h3, y, k3, e1, F2, e2, F3, res⟩ := num2 (p := p + 1) (m := 2) (hT.f2 F1) (kT1.f5 g1) hl rd1s m2 (by have := s.1; omega) (by omega) 1 20
    have eX : ((sX3_readSign h (42 : Int32)).bind fun q12 => if q12.1 = 0 then ((sX3_failAt q12.2 (q12.2.1 2 2)).bind fun q15 => gd (zb q15.1) (some (q15.1, q15.2))) else ((sX3_readNumber q12.2 (2 : Int32) (1 : Int32) (20 : Int32)).bind fun q13 => if q13.1 = 0 then (some ((0 : Int32), q13.2)) else ((sX1_add q13.2 11 v f t (q13.2.1 2 3)).bind fun q14 => some ((1 : Int32), q14)))) = if x = 0 then (some ((0 : Int32), h3)) else ((sX1_add h3 11 v f t (h3.1 2 3)).bind fun q14 => some ((1 : Int32), q14)) := by
      rw [bd_t (xs1 s)]
      dsimp only
      rw [if_neg (by decide), bd_t (show sX3_readNumber (u1 h 2 2 (nI (p + 1))) 2 1 20 = some (x, h3) from e1)]
    have eM : sX6_readsStream_c107 k (nI n) f t 1 = if y < 0 then some (0, k3) else ((sX6_in k3 y.toInt64 (1 : Int64) (20 : Int64)).bind fun q10 => (sX6_isFit q10.2 q10.1).bind fun q11 => if q11.1 = 0 then (sX6_readsStream_c153 q11.2) else (gd (inb (nI n) 10) (nm (u1 q11.2 60 (nI n).toNatClampNeg f) fun h13 => gd (inb (nI n) 10) (nm (u1 h13 61 (nI n).toNatClampNeg t) fun h15 => gd (inb (nI n) 10) (nm (u1 h15 62 (nI n).toNatClampNeg y) fun h17 => some ((1 : Int32), h17)))))) := by
      unfold sX6_readsStream_c107
      rw [bd_t f1]
      dsimp only
      rw [if_neg (by decide), bd_t m1]
      dsimp only
      rw [if_neg (by decide), bd_t (show sX6_number k2 2 = some (y, k3) from e2)]
      rfl
    rw [eX, eM]
    rcases res with ⟨e, l, x0, h4, y0, k5⟩ | ⟨q, pq, ql, y0, y1, k5, res⟩
    · left
      refine ⟨h3, k3, e, l, by rw [if_pos x0], h4, by rw [if_pos y0], k5⟩
    · have yn : ¬ y < 0 := by rw [lt_tI, tI0]; omega
      have inq : bI ((1 : Int64).toInt ≤ y.toInt ∧ y.toInt ≤ (20 : Int64).toInt) = bI ((1 : Int32) ≤ y ∧ y ≤ 20) := bI_cg (by rw [le_tI, le_tI]; exact Iff.rfl)
      rcases res with ⟨nf, x0, h4⟩ | ⟨fit, x1, h2, h3'⟩
      · left
        obtain ⟨k4, z1, z2, z3⟩ := M_fit0 k5 (by omega)
        refine ⟨h3, k4, q - 1, by omega, by rw [if_pos x0], h4, ?_, z2⟩
        rw [if_neg yn, bd_t (M_inI _ _ _ _)]
        dsimp only
        rw [inq, show bI ((1 : Int32) ≤ y ∧ y ≤ 20) = 0 from bI_z.mpr nf, bd_t z1]
        dsimp only
        rw [if_pos rfl]
        rfl
      · right
        obtain ⟨k4, z1, z2, z3⟩ := M_fit1 k5
        have P1 : PS h3 11 n F T C := (hP.fr F1 (fun w hw => by simp at hw; rcases hw with rfl | rfl | rfl <;> (dsimp only; omega))).fr F2 (fun w hw => by simp at hw; rcases hw with rfl | rfl | rfl <;> (dsimp only; omega))
        obtain ⟨h5, a1, a2⟩ := P_add (r := 11) (f := f) (t := t) (c := h3.1 2 3) (by decide) P1 hn hv
        have F5 := fX1_add _ _ _ _ _ _ _ a1
        refine ⟨h5, _, k4, f, t, y, q, by omega, ql, ⟨hft.1, hft.2.1, hft.2.2.1, hft.2.2.2.1, hft.2.2.2.2, fit.1, fit.2⟩, ?_, ?_, ?_, ?_, rfl, ?_, z2⟩
        · rw [x1, if_neg (by decide), bd_t a1]
        · exact (F5.f (by decide)).trans h2
        · rw [h3'] at a2; exact a2
        · rw [if_neg yn, bd_t (M_inI _ _ _ _)]
          dsimp only
          rw [inq, show bI ((1 : Int32) ≤ y ∧ y ≤ 20) = 1 from if_pos fit, bd_t z1]
          dsimp only
          rw [if_neg (by decide)]
          simp only [gd_in hn (show 10 ≤ 1000 by decide), cl_n (show n ≤ 100000 by omega), nm]
        · exact ((f3.tr g1 (fun _ z => z) (fun _ z => z)).tr F3 (fun _ z => z) (fun _ z => z)).tr z3 (fun _ z => z) (fun _ z => z)
  · left
    obtain ⟨m1, m2⟩ := g3 s
    refine ⟨u1 h 2 4 (nI p), k2, p, hpl, ?_, rd1s, ?_, m2⟩
    · rw [bd_t (xs2 s)]
      dsimp only
      rw [if_pos rfl, hp]
      rfl
    · unfold sX6_readsStream_c107
      rw [bd_t f1]
      dsimp only
      rw [if_neg (by decide), bd_t m1]
      dsimp only
      rw [if_pos rfl]
      rfl
theorem read2_mn {k k' : Hp} {p p' : Nat} {X M : Option (Int32 × Hp)} (H : read2 tx p' n F T C k' X M) (hp : p ≤ p') (Fk : Fr [(54, some 5)] [] k k') : read2 tx p n F T C k X M := by
  obtain ⟨h', k2, k0, f, t, c, q, a1, a2, a3, a4, a5, a6, a7, a8, a9, a10⟩ := H
  exact ⟨h', k2, k0, f, t, c, q, by omega, a2, a3, a4, a5, a6, a7, a8, Fk.tr a9 (fun _ z => z) (fun _ z => z), a10⟩
theorem PS_f2 {h' : Hp} (hP : PS h 11 n F T C) (F1 : Fr [(2, some 2), (2, some 3), (2, some 4)] [] h h') : PS h' 11 n F T C := hP.fr F1 (fun w hw => by simp at hw; rcases hw with rfl | rfl | rfl <;> (dsimp only; omega))
theorem c106_f {q : Nat} (kq : k.1 54 5 = nI q) (q0 : 0 < q) (x f t : Int32) : ∃ k', sX6_readsStream_c107 k x f t 0 = some (0, k') ∧ k'.1 54 5 = nI (q - 1) := by
  obtain ⟨k1, z1, z2, z3⟩ := M_fit0 kq q0
  refine ⟨k1, ?_, z2⟩
  unfold sX6_readsStream_c107 sX6_readsStream_c122
  rw [bd_t z1]
  dsimp only
  rw [if_pos rfl]
/-- behind the bar -/
theorem rd_to (hT : TX h tx) (kT : MT k tx) (hP : PS h 11 n F T C) (hn : n < 10) (hl : tx.length ≤ 120) (hp : h.1 2 2 = nI p) (kp : k.1 54 5 = nI p) (hpl : p ≤ tx.length) {v f : Int32} (hv : v = 0 ∨ v = 1) (hf : 0 ≤ f ∧ f ≤ 500) : fail2 tx h k (if v = 0 then (sX3_readStream_c77 h 11 v f (f + (1 : Int32))) else (sX3_readStream_c77 h 11 v f (0 : Int32))) ((sX6_number k (3 : Int32)).bind fun q6 => if q6.1 < 0 then (sX6_readsStream_c122 q6.2) else (if (500 : Int32) < q6.1 then (sX6_readsStream_c106 q6.2 (nI n) f q6.1) else (if v = 0 then (if q6.1 ≤ f then (sX6_readsStream_c106 q6.2 (nI n) f q6.1) else (sX6_readsStream_c102 q6.2 (nI n) f q6.1)) else (if f ≤ q6.1 then (sX6_readsStream_c106 q6.2 (nI n) f q6.1) else (sX6_readsStream_c102 q6.2 (nI n) f q6.1))))) ∨ read2 tx p n F T C k (if v = 0 then (sX3_readStream_c77 h 11 v f (f + (1 : Int32))) else (sX3_readStream_c77 h 11 v f (0 : Int32))) ((sX6_number k (3 : Int32)).bind fun q6 => if q6.1 < 0 then (sX6_readsStream_c122 q6.2) else (if (500 : Int32) < q6.1 then (sX6_readsStream_c106 q6.2 (nI n) f q6.1) else (if v = 0 then (if q6.1 ≤ f then (sX6_readsStream_c106 q6.2 (nI n) f q6.1) else (sX6_readsStream_c102 q6.2 (nI n) f q6.1)) else (if f ≤ q6.1 then (sX6_readsStream_c106 q6.2 (nI n) f q6.1) else (sX6_readsStream_c102 q6.2 (nI n) f q6.1))))) := by
  obtain ⟨lw, hlw⟩ : ∃ lw : Int32, lw = if v = 0 then f + 1 else 0 := ⟨_, rfl⟩
  obtain ⟨up, hup⟩ : ∃ up : Int32, up = if v = 0 then 500 else f - 1 := ⟨_, rfl⟩
  obtain ⟨x, h3, y, k3, e1, F2, e2, F3, res⟩ := num2 (m := 3) hT kT hl hp kp hpl (by omega) lw up
  have eX : (if v = 0 then (sX3_readStream_c77 h 11 v f (f + (1 : Int32))) else (sX3_readStream_c77 h 11 v f (0 : Int32))) = if x = 0 then (some ((0 : Int32), h3)) else (nm ((h3.1 2 3)) fun x11 => (sX3_readSign h3 (42 : Int32)).bind fun q12 => if q12.1 = 0 then ((sX3_failAt q12.2 (q12.2.1 2 2)).bind fun q15 => gd (zb q15.1) (some (q15.1, q15.2))) else ((sX3_readNumber q12.2 (2 : Int32) (1 : Int32) (20 : Int32)).bind fun q13 => if q13.1 = 0 then (some ((0 : Int32), q13.2)) else ((sX1_add q13.2 11 v f x11 (q13.2.1 2 3)).bind fun q14 => some ((1 : Int32), q14)))) := by
    have e : (if v = 0 then (sX3_readStream_c77 h 11 v f (f + (1 : Int32))) else (sX3_readStream_c77 h 11 v f (0 : Int32))) = sX3_readStream_c92 h 11 v f lw up := by
      unfold sX3_readStream_c77
      rw [hlw, hup]
      by_cases z : v = 0
      · simp only [z, if_true]
      · simp only [z, if_false]
    rw [e]
    unfold sX3_readStream_c92
    rw [bd_t (show sX3_readNumber h 3 lw up = some (x, h3) from e1)]
  rw [eX, bd_t (show sX6_number k 3 = some (y, k3) from e2)]
  dsimp only
  rcases res with ⟨e, l, x0, h4, y0, k5⟩ | ⟨q, pq, ql, y0, y1, k5, res⟩
  · left
    exact ⟨h3, k3, e, l, by rw [if_pos x0], h4, by rw [if_pos y0]; rfl, k5⟩
  · have yn : ¬ y < 0 := by rw [lt_tI, tI0]; omega
    have fitE : (lw ≤ y ∧ y ≤ up) ↔ (¬ (500 : Int32) < y ∧ ((v = 0 ∧ ¬ y ≤ f) ∨ (v = 1 ∧ ¬ f ≤ y))) := by
      rw [hlw, hup]
      have o1 : (1 : Int32).toInt = 1 := rfl
      have o5 : (500 : Int32).toInt = 500 := rfl
      obtain ⟨f0, f5⟩ := hf
      rw [le_tI, tI0] at f0
      rw [le_tI, o5] at f5
      rcases hv with rfl | rfl
      · simp only [if_true]
        rw [le_tI, le_tI, lt_tI, le_tI, tI_add (by rw [o1]; omega) (by rw [o1]; omega), o1, o5]
        have : ¬ (0 : Int32) = 1 := by decide
        simp only [this, false_and, or_false, true_and]
        omega
      · have : ¬ (1 : Int32) = 0 := by decide
        simp only [this, if_false, false_and, false_or, true_and]
        rw [le_tI, le_tI, lt_tI, le_tI, tI_sub (by rw [o1]; omega) (by rw [o1]; omega), o1, o5, tI0]
        omega
    rw [if_neg yn]
    rcases res with ⟨nf, x0, h4⟩ | ⟨fit, x1, h2, h3'⟩
    · left
      obtain ⟨k4, z1, z2⟩ := c106_f k5 (by omega) (nI n) f y
      refine ⟨h3, k4, q - 1, by omega, by rw [if_pos x0], h4, ?_, z2⟩
      have z1' : sX6_readsStream_c106 k3 (nI n) f y = some (0, k4) := z1
      rw [fitE] at nf
      by_cases w : (500 : Int32) < y
      · rw [if_pos w, z1']
      · rw [if_neg w]
        rcases hv with rfl | rfl
        · have z : y ≤ f := Decidable.byContradiction (fun z => nf ⟨w, Or.inl ⟨rfl, z⟩⟩)
          rw [if_pos rfl, if_pos z, z1']
        · have z : f ≤ y := Decidable.byContradiction (fun z => nf ⟨w, Or.inr ⟨rfl, z⟩⟩)
          rw [if_neg (by decide), if_pos z, z1']
    · have fit' := fitE.mp fit
      have vt : v = if y < f then 1 else 0 := by
        rcases fit'.2 with ⟨z1, z2⟩ | ⟨z1, z2⟩
        · rw [z1, if_neg (by grind)]
        · rw [z1, if_pos (by grind)]
      have ft : 0 ≤ f ∧ f ≤ 500 ∧ 0 ≤ y ∧ y ≤ 500 ∧ f ≠ y := by
        refine ⟨hf.1, hf.2, by rw [le_tI, tI0]; exact y0, by grind, fun z => ?_⟩
        rcases fit'.2 with ⟨z1, z2⟩ | ⟨z1, z2⟩
        · exact z2 (by rw [z]; grind)
        · exact z2 (by rw [z]; grind)
      have H := rd_cap (p := q) (v := v) (f := f) (t := y) (hT.f2 F2) (kT.f5 F3) (PS_f2 hP F2) hn hl h2 k5 ql vt ft
      have eM : (if (500 : Int32) < y then (sX6_readsStream_c106 k3 (nI n) f y) else (if v = 0 then (if y ≤ f then (sX6_readsStream_c106 k3 (nI n) f y) else (sX6_readsStream_c102 k3 (nI n) f y)) else (if f ≤ y then (sX6_readsStream_c106 k3 (nI n) f y) else (sX6_readsStream_c102 k3 (nI n) f y)))) = sX6_readsStream_c107 k3 (nI n) f y 1 := by
        rw [if_neg fit'.1]
        rcases fit'.2 with ⟨z1, z2⟩ | ⟨z1, z2⟩
        · rw [if_pos z1, if_neg z2]; rfl
        · rw [if_neg (by rw [z1]; decide), if_neg z2]; rfl
      rw [eM, x1, if_neg (by decide), h3', nm_t rfl]
      rcases H with H | H
      · exact Or.inl H
      · exact Or.inr (read2_mn H (by omega) F3)
end Rs2
