/-! the law's loop -/
section LL
variable {b Ln : Nat} {xs : Nat → Int32}
set_option maxRecDepth 10000 in
theorem law_step (hLn : Ln ≤ 2560) {j : Nat} (hi : 5 * j + 4 < Ln) {h : Hp} {S : SS} {Ms : Nat → Mt} {tx : List Int32} {row : List Int64} (R : Rel h S Ms tx row) {x : Int32} (hk : ∀ hm S Ms tx row, Rel hm S Ms tx row → V (Gl b Ln xs) mL_law ((100 + j) + 1, (2000 + 6 * j) + 6) 1443 (Lw0 (5 * j)) [] hm) : V (Gl b Ln xs) mL_law (100 + j, 2000 + 6 * j) 39 (Lw0 (5 * j)) [.int x] h := by
  by_cases c0 : x = 0
  · refine V.tbIn dL_law_39 (by rw [c0]; decide) (by rw [c0]; decide) (off := 157) (by rw [c0]; rfl) (tgt := 196) (by decide) ?_
    exact law_c0 (z := (100 + j, 2000 + 6 * j)) hi hLn (by dsimp only; omega) (by dsimp only; omega) R hk
  by_cases c1 : x = 1
  · refine V.tbIn dL_law_39 (by rw [c1]; decide) (by rw [c1]; decide) (off := 182) (by rw [c1]; rfl) (tgt := 221) (by decide) ?_
    exact law_c1 (z := (100 + j, 2000 + 6 * j)) hi hLn (by dsimp only; omega) (by dsimp only; omega) R hk
  by_cases c2 : x = 2
  · refine V.tbIn dL_law_39 (by rw [c2]; decide) (by rw [c2]; decide) (off := 207) (by rw [c2]; rfl) (tgt := 246) (by decide) ?_
    exact law_c2 (z := (100 + j, 2000 + 6 * j)) hi hLn (by dsimp only; omega) (by dsimp only; omega) R hk
  by_cases c3 : x = 3
  · refine V.tbIn dL_law_39 (by rw [c3]; decide) (by rw [c3]; decide) (off := 220) (by rw [c3]; rfl) (tgt := 259) (by decide) ?_
    exact law_c3 (z := (100 + j, 2000 + 6 * j)) hi hLn (by dsimp only; omega) (by dsimp only; omega) R hk
  by_cases c4 : x = 4
  · refine V.tbIn dL_law_39 (by rw [c4]; decide) (by rw [c4]; decide) (off := 269) (by rw [c4]; rfl) (tgt := 308) (by decide) ?_
    exact law_c4 (z := (100 + j, 2000 + 6 * j)) hi hLn (by dsimp only; omega) (by dsimp only; omega) R hk
  by_cases c5 : x = 5
  · refine V.tbIn dL_law_39 (by rw [c5]; decide) (by rw [c5]; decide) (off := 294) (by rw [c5]; rfl) (tgt := 333) (by decide) ?_
    exact law_c5 (z := (100 + j, 2000 + 6 * j)) hi hLn (by dsimp only; omega) (by dsimp only; omega) R hk
  by_cases c6 : x = 6
  · refine V.tbIn dL_law_39 (by rw [c6]; decide) (by rw [c6]; decide) (off := 331) (by rw [c6]; rfl) (tgt := 370) (by decide) ?_
    exact law_c6 (z := (100 + j, 2000 + 6 * j)) hi hLn (by dsimp only; omega) (by dsimp only; omega) R hk
  by_cases c7 : x = 7
  · refine V.tbIn dL_law_39 (by rw [c7]; decide) (by rw [c7]; decide) (off := 356) (by rw [c7]; rfl) (tgt := 395) (by decide) ?_
    exact law_c7 (z := (100 + j, 2000 + 6 * j)) hi hLn (by dsimp only; omega) (by dsimp only; omega) R hk
  by_cases c8 : x = 8
  · refine V.tbIn dL_law_39 (by rw [c8]; decide) (by rw [c8]; decide) (off := 424) (by rw [c8]; rfl) (tgt := 463) (by decide) ?_
    exact law_c8 (z := (100 + j, 2000 + 6 * j)) hi hLn (by dsimp only; omega) (by dsimp only; omega) R hk
  by_cases c9 : x = 9
  · refine V.tbIn dL_law_39 (by rw [c9]; decide) (by rw [c9]; decide) (off := 480) (by rw [c9]; rfl) (tgt := 519) (by decide) ?_
    exact law_c9 (z := (100 + j, 2000 + 6 * j)) hi hLn (by dsimp only; omega) (by dsimp only; omega) R hk
  by_cases c10 : x = 10
  · refine V.tbIn dL_law_39 (by rw [c10]; decide) (by rw [c10]; decide) (off := 493) (by rw [c10]; rfl) (tgt := 532) (by decide) ?_
    exact law_c10 (z := (100 + j, 2000 + 6 * j)) hi hLn (by dsimp only; omega) (by dsimp only; omega) R hk
  by_cases c11 : x = 11
  · refine V.tbIn dL_law_39 (by rw [c11]; decide) (by rw [c11]; decide) (off := 506) (by rw [c11]; rfl) (tgt := 545) (by decide) ?_
    exact law_c11 (z := (100 + j, 2000 + 6 * j)) hi hLn (by dsimp only; omega) (by dsimp only; omega) R hk
  by_cases c12 : x = 12
  · refine V.tbIn dL_law_39 (by rw [c12]; decide) (by rw [c12]; decide) (off := 531) (by rw [c12]; rfl) (tgt := 570) (by decide) ?_
    exact law_c12 (z := (100 + j, 2000 + 6 * j)) hi hLn (by dsimp only; omega) (by dsimp only; omega) R hk
  by_cases c13 : x = 13
  · refine V.tbIn dL_law_39 (by rw [c13]; decide) (by rw [c13]; decide) (off := 584) (by rw [c13]; rfl) (tgt := 623) (by decide) ?_
    exact law_c13 (z := (100 + j, 2000 + 6 * j)) hi hLn (by dsimp only; omega) (by dsimp only; omega) R hk
  by_cases c14 : x = 14
  · refine V.tbIn dL_law_39 (by rw [c14]; decide) (by rw [c14]; decide) (off := 637) (by rw [c14]; rfl) (tgt := 676) (by decide) ?_
    exact law_c14 (z := (100 + j, 2000 + 6 * j)) hi hLn (by dsimp only; omega) (by dsimp only; omega) R hk
  by_cases c15 : x = 15
  · refine V.tbIn dL_law_39 (by rw [c15]; decide) (by rw [c15]; decide) (off := 662) (by rw [c15]; rfl) (tgt := 701) (by decide) ?_
    exact law_c15 (z := (100 + j, 2000 + 6 * j)) hi hLn (by dsimp only; omega) (by dsimp only; omega) R hk
  by_cases c16 : x = 16
  · refine V.tbIn dL_law_39 (by rw [c16]; decide) (by rw [c16]; decide) (off := 687) (by rw [c16]; rfl) (tgt := 726) (by decide) ?_
    exact law_c16 (z := (100 + j, 2000 + 6 * j)) hi hLn (by dsimp only; omega) (by dsimp only; omega) R hk
  by_cases c17 : x = 17
  · refine V.tbIn dL_law_39 (by rw [c17]; decide) (by rw [c17]; decide) (off := 736) (by rw [c17]; rfl) (tgt := 775) (by decide) ?_
    exact law_c17 (z := (100 + j, 2000 + 6 * j)) hi hLn (by dsimp only; omega) (by dsimp only; omega) R hk
  by_cases c18 : x = 18
  · refine V.tbIn dL_law_39 (by rw [c18]; decide) (by rw [c18]; decide) (off := 761) (by rw [c18]; rfl) (tgt := 800) (by decide) ?_
    exact law_c18 (z := (100 + j, 2000 + 6 * j)) hi hLn (by dsimp only; omega) (by dsimp only; omega) R hk
  by_cases c19 : x = 19
  · refine V.tbIn dL_law_39 (by rw [c19]; decide) (by rw [c19]; decide) (off := 774) (by rw [c19]; rfl) (tgt := 813) (by decide) ?_
    exact law_c19 (z := (100 + j, 2000 + 6 * j)) hi hLn (by dsimp only; omega) (by dsimp only; omega) R hk
  by_cases c20 : x = 20
  · refine V.tbIn dL_law_39 (by rw [c20]; decide) (by rw [c20]; decide) (off := 799) (by rw [c20]; rfl) (tgt := 838) (by decide) ?_
    exact law_c20 (z := (100 + j, 2000 + 6 * j)) hi hLn (by dsimp only; omega) (by dsimp only; omega) R hk
  by_cases c21 : x = 21
  · refine V.tbIn dL_law_39 (by rw [c21]; decide) (by rw [c21]; decide) (off := 836) (by rw [c21]; rfl) (tgt := 875) (by decide) ?_
    exact law_c21 (z := (100 + j, 2000 + 6 * j)) hi hLn (by dsimp only; omega) (by dsimp only; omega) R hk
  by_cases c22 : x = 22
  · refine V.tbIn dL_law_39 (by rw [c22]; decide) (by rw [c22]; decide) (off := 897) (by rw [c22]; rfl) (tgt := 936) (by decide) ?_
    exact law_c22 (z := (100 + j, 2000 + 6 * j)) hi hLn (by dsimp only; omega) (by dsimp only; omega) R hk
  by_cases c23 : x = 23
  · refine V.tbIn dL_law_39 (by rw [c23]; decide) (by rw [c23]; decide) (off := 946) (by rw [c23]; rfl) (tgt := 985) (by decide) ?_
    exact law_c23 (z := (100 + j, 2000 + 6 * j)) hi hLn (by dsimp only; omega) (by dsimp only; omega) R hk
  by_cases c24 : x = 24
  · refine V.tbIn dL_law_39 (by rw [c24]; decide) (by rw [c24]; decide) (off := 971) (by rw [c24]; rfl) (tgt := 1010) (by decide) ?_
    exact law_c24 (z := (100 + j, 2000 + 6 * j)) hi hLn (by dsimp only; omega) (by dsimp only; omega) R hk
  by_cases c25 : x = 25
  · refine V.tbIn dL_law_39 (by rw [c25]; decide) (by rw [c25]; decide) (off := 1051) (by rw [c25]; rfl) (tgt := 1090) (by decide) ?_
    exact law_c25 (z := (100 + j, 2000 + 6 * j)) hi hLn (by dsimp only; omega) (by dsimp only; omega) R hk
  by_cases c26 : x = 26
  · refine V.tbIn dL_law_39 (by rw [c26]; decide) (by rw [c26]; decide) (off := 1088) (by rw [c26]; rfl) (tgt := 1127) (by decide) ?_
    exact law_c26 (z := (100 + j, 2000 + 6 * j)) hi hLn (by dsimp only; omega) (by dsimp only; omega) R hk
  by_cases c27 : x = 27
  · refine V.tbIn dL_law_39 (by rw [c27]; decide) (by rw [c27]; decide) (off := 1101) (by rw [c27]; rfl) (tgt := 1140) (by decide) ?_
    exact law_c27 (z := (100 + j, 2000 + 6 * j)) hi hLn (by dsimp only; omega) (by dsimp only; omega) R hk
  by_cases c28 : x = 28
  · refine V.tbIn dL_law_39 (by rw [c28]; decide) (by rw [c28]; decide) (off := 1138) (by rw [c28]; rfl) (tgt := 1177) (by decide) ?_
    exact law_c28 (z := (100 + j, 2000 + 6 * j)) hi hLn (by dsimp only; omega) (by dsimp only; omega) R hk
  by_cases c29 : x = 29
  · refine V.tbIn dL_law_39 (by rw [c29]; decide) (by rw [c29]; decide) (off := 1187) (by rw [c29]; rfl) (tgt := 1226) (by decide) ?_
    exact law_c29 (z := (100 + j, 2000 + 6 * j)) hi hLn (by dsimp only; omega) (by dsimp only; omega) R hk
  by_cases c30 : x = 30
  · refine V.tbIn dL_law_39 (by rw [c30]; decide) (by rw [c30]; decide) (off := 1212) (by rw [c30]; rfl) (tgt := 1251) (by decide) ?_
    exact law_c30 (z := (100 + j, 2000 + 6 * j)) hi hLn (by dsimp only; omega) (by dsimp only; omega) R hk
  by_cases c31 : x = 31
  · refine V.tbIn dL_law_39 (by rw [c31]; decide) (by rw [c31]; decide) (off := 1225) (by rw [c31]; rfl) (tgt := 1264) (by decide) ?_
    exact law_c31 (z := (100 + j, 2000 + 6 * j)) hi hLn (by dsimp only; omega) (by dsimp only; omega) R hk
  by_cases c32 : x = 32
  · refine V.tbIn dL_law_39 (by rw [c32]; decide) (by rw [c32]; decide) (off := 1250) (by rw [c32]; rfl) (tgt := 1289) (by decide) ?_
    exact law_c32 (z := (100 + j, 2000 + 6 * j)) hi hLn (by dsimp only; omega) (by dsimp only; omega) R hk
  by_cases c33 : x = 33
  · refine V.tbIn dL_law_39 (by rw [c33]; decide) (by rw [c33]; decide) (off := 1287) (by rw [c33]; rfl) (tgt := 1326) (by decide) ?_
    exact law_c33 (z := (100 + j, 2000 + 6 * j)) hi hLn (by dsimp only; omega) (by dsimp only; omega) R hk
  by_cases c34 : x = 34
  · refine V.tbIn dL_law_39 (by rw [c34]; decide) (by rw [c34]; decide) (off := 1324) (by rw [c34]; rfl) (tgt := 1363) (by decide) ?_
    exact law_c34 (z := (100 + j, 2000 + 6 * j)) hi hLn (by dsimp only; omega) (by dsimp only; omega) R hk
  by_cases c35 : x = 35
  · refine V.tbIn dL_law_39 (by rw [c35]; decide) (by rw [c35]; decide) (off := 1349) (by rw [c35]; rfl) (tgt := 1388) (by decide) ?_
    exact law_c35 (z := (100 + j, 2000 + 6 * j)) hi hLn (by dsimp only; omega) (by dsimp only; omega) R hk
  have n0 : ¬ x.toInt = 0 := fun z => c0 (Int32.toInt_inj.mp z)
  have n1 : ¬ x.toInt = 1 := fun z => c1 (Int32.toInt_inj.mp z)
  have n2 : ¬ x.toInt = 2 := fun z => c2 (Int32.toInt_inj.mp z)
  have n3 : ¬ x.toInt = 3 := fun z => c3 (Int32.toInt_inj.mp z)
  have n4 : ¬ x.toInt = 4 := fun z => c4 (Int32.toInt_inj.mp z)
  have n5 : ¬ x.toInt = 5 := fun z => c5 (Int32.toInt_inj.mp z)
  have n6 : ¬ x.toInt = 6 := fun z => c6 (Int32.toInt_inj.mp z)
  have n7 : ¬ x.toInt = 7 := fun z => c7 (Int32.toInt_inj.mp z)
  have n8 : ¬ x.toInt = 8 := fun z => c8 (Int32.toInt_inj.mp z)
  have n9 : ¬ x.toInt = 9 := fun z => c9 (Int32.toInt_inj.mp z)
  have n10 : ¬ x.toInt = 10 := fun z => c10 (Int32.toInt_inj.mp z)
  have n11 : ¬ x.toInt = 11 := fun z => c11 (Int32.toInt_inj.mp z)
  have n12 : ¬ x.toInt = 12 := fun z => c12 (Int32.toInt_inj.mp z)
  have n13 : ¬ x.toInt = 13 := fun z => c13 (Int32.toInt_inj.mp z)
  have n14 : ¬ x.toInt = 14 := fun z => c14 (Int32.toInt_inj.mp z)
  have n15 : ¬ x.toInt = 15 := fun z => c15 (Int32.toInt_inj.mp z)
  have n16 : ¬ x.toInt = 16 := fun z => c16 (Int32.toInt_inj.mp z)
  have n17 : ¬ x.toInt = 17 := fun z => c17 (Int32.toInt_inj.mp z)
  have n18 : ¬ x.toInt = 18 := fun z => c18 (Int32.toInt_inj.mp z)
  have n19 : ¬ x.toInt = 19 := fun z => c19 (Int32.toInt_inj.mp z)
  have n20 : ¬ x.toInt = 20 := fun z => c20 (Int32.toInt_inj.mp z)
  have n21 : ¬ x.toInt = 21 := fun z => c21 (Int32.toInt_inj.mp z)
  have n22 : ¬ x.toInt = 22 := fun z => c22 (Int32.toInt_inj.mp z)
  have n23 : ¬ x.toInt = 23 := fun z => c23 (Int32.toInt_inj.mp z)
  have n24 : ¬ x.toInt = 24 := fun z => c24 (Int32.toInt_inj.mp z)
  have n25 : ¬ x.toInt = 25 := fun z => c25 (Int32.toInt_inj.mp z)
  have n26 : ¬ x.toInt = 26 := fun z => c26 (Int32.toInt_inj.mp z)
  have n27 : ¬ x.toInt = 27 := fun z => c27 (Int32.toInt_inj.mp z)
  have n28 : ¬ x.toInt = 28 := fun z => c28 (Int32.toInt_inj.mp z)
  have n29 : ¬ x.toInt = 29 := fun z => c29 (Int32.toInt_inj.mp z)
  have n30 : ¬ x.toInt = 30 := fun z => c30 (Int32.toInt_inj.mp z)
  have n31 : ¬ x.toInt = 31 := fun z => c31 (Int32.toInt_inj.mp z)
  have n32 : ¬ x.toInt = 32 := fun z => c32 (Int32.toInt_inj.mp z)
  have n33 : ¬ x.toInt = 33 := fun z => c33 (Int32.toInt_inj.mp z)
  have n34 : ¬ x.toInt = 34 := fun z => c34 (Int32.toInt_inj.mp z)
  have n35 : ¬ x.toInt = 35 := fun z => c35 (Int32.toInt_inj.mp z)
  refine V.tbOut dL_law_39 (by omega) (tgt := 1443) (by decide) ?_
  exact V.wid (z' := ((100 + j) + 1, (2000 + 6 * j) + 6)) (by dsimp only; omega) (by dsimp only; omega) (hk _ _ _ _ _ R)
theorem law_loop (hLn : Ln ≤ 2560) : ∀ (n j : Nat) (h : Hp) (S : SS) (Ms : Nat → Mt) (tx : List Int32) (row : List Int64), Ln ≤ 5 * j + n → 5 * j ≤ Ln → Rel h S Ms tx row → V (Gl b Ln xs) mL_law (100 + j, 2000 + 6 * j) 23 (Lw0 (5 * j)) [] h := by
  intro n
  induction n with
  | zero =>
    intro j h S Ms tx row h1 h2 R
    refine V.il dL_law_23 (pc' := 25) rfl (j := 0) rfl ?_
    refine V.alq dL_law_25 (pc' := 26) rfl (j := 1) rfl ?_
    refine V.slen dL_law_26 (pc' := 27) rfl ?_
    refine V.iconst dL_law_27 (pc' := 28) rfl (v := 5) (by decide) ?_
    refine V.isub dL_law_28 (pc' := 29) rfl ?_
    have e1 := tI_n (j := 5 * j) (by omega)
    have e2 := tI_n (j := Ln) (by omega)
    have e5 : (5 : Int32).toInt = 5 := by decide
    have e3 := tI_sub (a := nI Ln) (b := 5) (by rw [e2, e5]; omega) (by rw [e2, e5]; omega)
    rw [e2, e5] at e3
    refine V.ic_gt dL_law_29 (pc' := 32) rfl (tgt := 1449) (by decide) (fun _ => ?_) (fun c => absurd (Int32.lt_iff_toInt_lt.mpr (by rw [e3, e1]; omega)) c)
    refine V.iconst dL_law_1449 (pc' := 1450) rfl (v := 1) (by decide) ?_
    exact V.lawEnd dL_law_1450 (by dsimp only; omega) (by dsimp only; omega)
  | succ n ih =>
    intro j h S Ms tx row h1 h2 R
    refine V.il dL_law_23 (pc' := 25) rfl (j := 0) rfl ?_
    refine V.alq dL_law_25 (pc' := 26) rfl (j := 1) rfl ?_
    refine V.slen dL_law_26 (pc' := 27) rfl ?_
    refine V.iconst dL_law_27 (pc' := 28) rfl (v := 5) (by decide) ?_
    refine V.isub dL_law_28 (pc' := 29) rfl ?_
    have e1 := tI_n (j := 5 * j) (by omega)
    have e2 := tI_n (j := Ln) (by omega)
    have e5 : (5 : Int32).toInt = 5 := by decide
    have e3 := tI_sub (a := nI Ln) (b := 5) (by rw [e2, e5]; omega) (by rw [e2, e5]; omega)
    rw [e2, e5] at e3
    refine V.ic_gt dL_law_29 (pc' := 32) rfl (tgt := 1449) (by decide) (fun _ => ?_) (fun c => ?_)
    · refine V.iconst dL_law_1449 (pc' := 1450) rfl (v := 1) (by decide) ?_
      exact V.lawEnd dL_law_1450 (by dsimp only; omega) (by dsimp only; omega)
    · have hi : 5 * j + 4 < Ln := by
        rw [Int32.lt_iff_toInt_lt, e3, e1] at c
        omega
      refine V.alq dL_law_32 (pc' := 33) rfl (j := 1) rfl ?_
      refine V.il dL_law_33 (pc' := 35) rfl (j := 0) rfl ?_
      refine V.sld dL_law_35 (pc' := 36) rfl (vp_in_nI (by omega) (by omega)) ?_
      refine V.bipush dL_law_36 (pc' := 38) rfl (v := 63) (by decide) ?_
      refine V.iand dL_law_38 (pc' := 39) rfl ?_
      refine law_step hLn hi R (fun hm S' Ms' tx' row' R' => ?_)
      refine V.iinc dL_law_1443 (pc' := 1446) rfl (j := 0) rfl (v := nI 5) (by decide) (by decide) (x' := nI (5 * (j + 1))) (by rw [nI_add]; rfl) (L' := Lw0 (5 * (j + 1))) rfl ?_
      refine V.goto dL_law_1446 (pc' := 23) (by decide) ?_
      exact ih (j + 1) hm S' Ms' tx' row' (by omega) (by omega) R'
end LL
