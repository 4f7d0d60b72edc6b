/-! the law's four methods that catch -/
def pW (q : RXv) : Option Value → Hp → Prop := fun v k => (q.1 = none ∧ v = some (.int 1) ∧ k = q.2) ∨ (∃ x : Int32, q.1 = some (.int x) ∧ v = some (.int 0) ∧ k = u2 q.2 0 0 x.toInt64) ∨ (∃ x : Int64, q.1 = some (.long x) ∧ v = some (.int 0) ∧ k = u2 q.2 0 0 x)
abbrev mL_stream : MI := (RL, yL_stream, cL_stream, 5, some .int)
theorem CV_L_7 : CV RL 7 5 2 mX5_stream := ⟨⟨rfl, TBm 771 (by decide +kernel) rfl, TBm 79 (by decide +kernel) rfl, TBm 774 (by decide +kernel) rfl, by decide, ⟨by decide, by decide⟩, by decide +kernel⟩, TBm 772 (by decide +kernel) rfl, TBm 773 (by decide +kernel) rfl, TX5, 9, rfl⟩
theorem dL_stream_0 : decode cL_stream 0 = .ok (.aload_n 3, 1) := by decide +kernel
theorem dL_stream_1 : decode cL_stream 1 = .ok (.iconst 0, 1) := by decide +kernel
theorem dL_stream_2 : decode cL_stream 2 = .ok (.aload_n 0, 1) := by decide +kernel
theorem dL_stream_3 : decode cL_stream 3 = .ok (.iload_n 1, 1) := by decide +kernel
theorem dL_stream_4 : decode cL_stream 4 = .ok (.iload_n 2, 1) := by decide +kernel
theorem dL_stream_5 : decode cL_stream 5 = .ok (.invokevirtual 7, 3) := by decide +kernel
theorem dL_stream_8 : decode cL_stream 8 = .ok (.i2l, 1) := by decide +kernel
theorem dL_stream_9 : decode cL_stream 9 = .ok (.lastore, 1) := by decide +kernel
theorem dL_stream_10 : decode cL_stream 10 = .ok (.goto 7, 3) := by decide +kernel
theorem dL_stream_13 : decode cL_stream 13 = .ok (.astore 4, 2) := by decide +kernel
theorem dL_stream_15 : decode cL_stream 15 = .ok (.iconst 1, 1) := by decide +kernel
theorem dL_stream_16 : decode cL_stream 16 = .ok (.ireturn, 1) := by decide +kernel
theorem dL_stream_17 : decode cL_stream 17 = .ok (.iconst 0, 1) := by decide +kernel
theorem dL_stream_18 : decode cL_stream 18 = .ok (.ireturn, 1) := by decide +kernel
set_option maxRecDepth 10000 in
theorem kL_stream (h : Hp) (a1 a2 : Int32) (q : RXv) (e : sX5_stream h a1 a2 = some q) (hi : ∀ v, q.1 = some v → ∃ x : Int32, v = .int x) : KL 10 [(0, 10, 13, 13)] mL_stream [.ref 1, .int a1, .int a2, .ref 0] h (pW q) := by
  refine KL.ofV (by decide) rfl (Nat.le_of_ble_eq_true rfl) ?_
  show V (GsL 10 [(0, 10, 13, 13)] (pW q)) mL_stream (0, 0) 0 [(0, .ref 1), (1, .int a1), (2, .int a2), (3, .ref 0)] [] h
  refine V.alq dL_stream_0 (pc' := 1) rfl (j := 3) rfl ?_
  refine V.iconst dL_stream_1 (pc' := 2) rfl (v := 0) (by decide) ?_
  refine V.alq dL_stream_2 (pc' := 3) rfl (j := 0) rfl ?_
  refine V.ilq dL_stream_3 (pc' := 4) rfl (j := 1) rfl ?_
  refine V.ilq dL_stream_4 (pc' := 5) rfl (j := 2) rfl ?_
  refine V.callX (k := 4) (ln := 2) rfl dL_stream_5 (pc' := 8) rfl CV_L_7 (as := [.int a1, .int a2]) (kX5_stream h a1 a2 q e) (by decide) rfl (by decide) rfl (Nat.le_of_ble_eq_true rfl) rfl rfl rfl (by decide) (Or.inl ⟨dL_stream_13, rfl⟩) (by decide) dL_stream_15 dL_stream_16 (fun z => Or.inl ⟨z, rfl, rfl⟩) (fun v hv => ?_)
  obtain ⟨x, rfl⟩ := hi v hv
  refine V.i2l dL_stream_8 (pc' := 9) rfl ?_
  refine V.last dL_stream_9 (pc' := 10) rfl rfl rfl (inb_t (by decide)) rfl ?_
  refine V.goto dL_stream_10 (pc' := 17) (by decide) ?_
  refine V.iconst dL_stream_17 (pc' := 18) rfl (v := 0) (by decide) ?_
  exact V.liret dL_stream_18 rfl (by decide) (by decide) (Or.inr (Or.inl ⟨x, hv, rfl, rfl⟩))
abbrev mL_border : MI := (RL, yL_border, cL_border, 4, some .int)
theorem CV_L_15 : CV RL 15 5 1 mX5_border := ⟨⟨rfl, TBm 848 (by decide +kernel) rfl, TBm 79 (by decide +kernel) rfl, TBm 851 (by decide +kernel) rfl, by decide, ⟨by decide, by decide⟩, by decide +kernel⟩, TBm 849 (by decide +kernel) rfl, TBm 850 (by decide +kernel) rfl, TX5, 9, rfl⟩
theorem dL_border_0 : decode cL_border 0 = .ok (.aload_n 2, 1) := by decide +kernel
theorem dL_border_1 : decode cL_border 1 = .ok (.iconst 0, 1) := by decide +kernel
theorem dL_border_2 : decode cL_border 2 = .ok (.aload_n 0, 1) := by decide +kernel
theorem dL_border_3 : decode cL_border 3 = .ok (.iload_n 1, 1) := by decide +kernel
theorem dL_border_4 : decode cL_border 4 = .ok (.invokevirtual 15, 3) := by decide +kernel
theorem dL_border_7 : decode cL_border 7 = .ok (.i2l, 1) := by decide +kernel
theorem dL_border_8 : decode cL_border 8 = .ok (.lastore, 1) := by decide +kernel
theorem dL_border_9 : decode cL_border 9 = .ok (.goto 6, 3) := by decide +kernel
theorem dL_border_12 : decode cL_border 12 = .ok (.astore_n 3, 1) := by decide +kernel
theorem dL_border_13 : decode cL_border 13 = .ok (.iconst 1, 1) := by decide +kernel
theorem dL_border_14 : decode cL_border 14 = .ok (.ireturn, 1) := by decide +kernel
theorem dL_border_15 : decode cL_border 15 = .ok (.iconst 0, 1) := by decide +kernel
theorem dL_border_16 : decode cL_border 16 = .ok (.ireturn, 1) := by decide +kernel
set_option maxRecDepth 10000 in
theorem kL_border (h : Hp) (a1 : Int32) (q : RXv) (e : sX5_border h a1 = some q) (hi : ∀ v, q.1 = some v → ∃ x : Int32, v = .int x) : KL 10 [(0, 9, 12, 13)] mL_border [.ref 1, .int a1, .ref 0] h (pW q) := by
  refine KL.ofV (by decide) rfl (Nat.le_of_ble_eq_true rfl) ?_
  show V (GsL 10 [(0, 9, 12, 13)] (pW q)) mL_border (0, 0) 0 [(0, .ref 1), (1, .int a1), (2, .ref 0)] [] h
  refine V.alq dL_border_0 (pc' := 1) rfl (j := 2) rfl ?_
  refine V.iconst dL_border_1 (pc' := 2) rfl (v := 0) (by decide) ?_
  refine V.alq dL_border_2 (pc' := 3) rfl (j := 0) rfl ?_
  refine V.ilq dL_border_3 (pc' := 4) rfl (j := 1) rfl ?_
  refine V.callX (k := 3) (ln := 1) rfl dL_border_4 (pc' := 7) rfl CV_L_15 (as := [.int a1]) (kX5_border h a1 q e) (by decide) rfl (by decide) rfl (Nat.le_of_ble_eq_true rfl) rfl rfl rfl (by decide) (Or.inr ⟨3, rfl, dL_border_12, rfl⟩) (by decide) dL_border_13 dL_border_14 (fun z => Or.inl ⟨z, rfl, rfl⟩) (fun v hv => ?_)
  obtain ⟨x, rfl⟩ := hi v hv
  refine V.i2l dL_border_7 (pc' := 8) rfl ?_
  refine V.last dL_border_8 (pc' := 9) rfl rfl rfl (inb_t (by decide)) rfl ?_
  refine V.goto dL_border_9 (pc' := 15) (by decide) ?_
  refine V.iconst dL_border_15 (pc' := 16) rfl (v := 0) (by decide) ?_
  exact V.liret dL_border_16 rfl (by decide) (by decide) (Or.inr (Or.inl ⟨x, hv, rfl, rfl⟩))
abbrev mL_match : MI := (RL, yL_match, cL_match, 6, some .int)
theorem CV_L_19 : CV RL 19 5 3 mX5_match := ⟨⟨rfl, TBm 857 (by decide +kernel) rfl, TBm 79 (by decide +kernel) rfl, TBm 860 (by decide +kernel) rfl, by decide, ⟨by decide, by decide⟩, by decide +kernel⟩, TBm 858 (by decide +kernel) rfl, TBm 859 (by decide +kernel) rfl, TX5, 9, rfl⟩
theorem dL_match_0 : decode cL_match 0 = .ok (.aload 4, 2) := by decide +kernel
theorem dL_match_2 : decode cL_match 2 = .ok (.iconst 0, 1) := by decide +kernel
theorem dL_match_3 : decode cL_match 3 = .ok (.aload_n 0, 1) := by decide +kernel
theorem dL_match_4 : decode cL_match 4 = .ok (.iload_n 1, 1) := by decide +kernel
theorem dL_match_5 : decode cL_match 5 = .ok (.iload_n 2, 1) := by decide +kernel
theorem dL_match_6 : decode cL_match 6 = .ok (.iload_n 3, 1) := by decide +kernel
theorem dL_match_7 : decode cL_match 7 = .ok (.invokevirtual 19, 3) := by decide +kernel
theorem dL_match_10 : decode cL_match 10 = .ok (.i2l, 1) := by decide +kernel
theorem dL_match_11 : decode cL_match 11 = .ok (.lastore, 1) := by decide +kernel
theorem dL_match_12 : decode cL_match 12 = .ok (.goto 7, 3) := by decide +kernel
theorem dL_match_15 : decode cL_match 15 = .ok (.astore 5, 2) := by decide +kernel
theorem dL_match_17 : decode cL_match 17 = .ok (.iconst 1, 1) := by decide +kernel
theorem dL_match_18 : decode cL_match 18 = .ok (.ireturn, 1) := by decide +kernel
theorem dL_match_19 : decode cL_match 19 = .ok (.iconst 0, 1) := by decide +kernel
theorem dL_match_20 : decode cL_match 20 = .ok (.ireturn, 1) := by decide +kernel
set_option maxRecDepth 10000 in
theorem kL_match (h : Hp) (a1 a2 a3 : Int32) (q : RXv) (e : sX5_match h a1 a2 a3 = some q) (hi : ∀ v, q.1 = some v → ∃ x : Int32, v = .int x) : KL 10 [(0, 12, 15, 13)] mL_match [.ref 1, .int a1, .int a2, .int a3, .ref 0] h (pW q) := by
  refine KL.ofV (by decide) rfl (Nat.le_of_ble_eq_true rfl) ?_
  show V (GsL 10 [(0, 12, 15, 13)] (pW q)) mL_match (0, 0) 0 [(0, .ref 1), (1, .int a1), (2, .int a2), (3, .int a3), (4, .ref 0)] [] h
  refine V.al dL_match_0 (pc' := 2) rfl (j := 4) rfl ?_
  refine V.iconst dL_match_2 (pc' := 3) rfl (v := 0) (by decide) ?_
  refine V.alq dL_match_3 (pc' := 4) rfl (j := 0) rfl ?_
  refine V.ilq dL_match_4 (pc' := 5) rfl (j := 1) rfl ?_
  refine V.ilq dL_match_5 (pc' := 6) rfl (j := 2) rfl ?_
  refine V.ilq dL_match_6 (pc' := 7) rfl (j := 3) rfl ?_
  refine V.callX (k := 5) (ln := 2) rfl dL_match_7 (pc' := 10) rfl CV_L_19 (as := [.int a1, .int a2, .int a3]) (kX5_match h a1 a2 a3 q e) (by decide) rfl (by decide) rfl (Nat.le_of_ble_eq_true rfl) rfl rfl rfl (by decide) (Or.inl ⟨dL_match_15, rfl⟩) (by decide) dL_match_17 dL_match_18 (fun z => Or.inl ⟨z, rfl, rfl⟩) (fun v hv => ?_)
  obtain ⟨x, rfl⟩ := hi v hv
  refine V.i2l dL_match_10 (pc' := 11) rfl ?_
  refine V.last dL_match_11 (pc' := 12) rfl rfl rfl (inb_t (by decide)) rfl ?_
  refine V.goto dL_match_12 (pc' := 19) (by decide) ?_
  refine V.iconst dL_match_19 (pc' := 20) rfl (v := 0) (by decide) ?_
  exact V.liret dL_match_20 rfl (by decide) (by decide) (Or.inr (Or.inl ⟨x, hv, rfl, rfl⟩))
abbrev mL_row : MI := (RL, yL_row, cL_row, 4, some .int)
theorem CV_L_23 : CV RL 23 5 1 mX5_row := ⟨⟨rfl, TBm 867 (by decide +kernel) rfl, TBm 79 (by decide +kernel) rfl, TBm 870 (by decide +kernel) rfl, by decide, ⟨by decide, by decide⟩, by decide +kernel⟩, TBm 868 (by decide +kernel) rfl, TBm 869 (by decide +kernel) rfl, TX5, 9, rfl⟩
theorem dL_row_0 : decode cL_row 0 = .ok (.aload_n 2, 1) := by decide +kernel
theorem dL_row_1 : decode cL_row 1 = .ok (.iconst 0, 1) := by decide +kernel
theorem dL_row_2 : decode cL_row 2 = .ok (.aload_n 0, 1) := by decide +kernel
theorem dL_row_3 : decode cL_row 3 = .ok (.iload_n 1, 1) := by decide +kernel
theorem dL_row_4 : decode cL_row 4 = .ok (.invokevirtual 23, 3) := by decide +kernel
theorem dL_row_7 : decode cL_row 7 = .ok (.lastore, 1) := by decide +kernel
theorem dL_row_8 : decode cL_row 8 = .ok (.goto 6, 3) := by decide +kernel
theorem dL_row_11 : decode cL_row 11 = .ok (.astore_n 3, 1) := by decide +kernel
theorem dL_row_12 : decode cL_row 12 = .ok (.iconst 1, 1) := by decide +kernel
theorem dL_row_13 : decode cL_row 13 = .ok (.ireturn, 1) := by decide +kernel
theorem dL_row_14 : decode cL_row 14 = .ok (.iconst 0, 1) := by decide +kernel
theorem dL_row_15 : decode cL_row 15 = .ok (.ireturn, 1) := by decide +kernel
set_option maxRecDepth 10000 in
theorem kL_row (h : Hp) (a1 : Int32) (q : RXv) (e : sX5_row h a1 = some q) (hi : ∀ v, q.1 = some v → ∃ x : Int64, v = .long x) : KL 10 [(0, 8, 11, 13)] mL_row [.ref 1, .int a1, .ref 0] h (pW q) := by
  refine KL.ofV (by decide) rfl (Nat.le_of_ble_eq_true rfl) ?_
  show V (GsL 10 [(0, 8, 11, 13)] (pW q)) mL_row (0, 0) 0 [(0, .ref 1), (1, .int a1), (2, .ref 0)] [] h
  refine V.alq dL_row_0 (pc' := 1) rfl (j := 2) rfl ?_
  refine V.iconst dL_row_1 (pc' := 2) rfl (v := 0) (by decide) ?_
  refine V.alq dL_row_2 (pc' := 3) rfl (j := 0) rfl ?_
  refine V.ilq dL_row_3 (pc' := 4) rfl (j := 1) rfl ?_
  refine V.callX (k := 3) (ln := 1) rfl dL_row_4 (pc' := 7) rfl CV_L_23 (as := [.int a1]) (kX5_row h a1 q e) (by decide) rfl (by decide) rfl (Nat.le_of_ble_eq_true rfl) rfl rfl rfl (by decide) (Or.inr ⟨3, rfl, dL_row_11, rfl⟩) (by decide) dL_row_12 dL_row_13 (fun z => Or.inl ⟨z, rfl, rfl⟩) (fun v hv => ?_)
  obtain ⟨x, rfl⟩ := hi v hv
  refine V.last dL_row_7 (pc' := 8) rfl rfl rfl (inb_t (by decide)) rfl ?_
  refine V.goto dL_row_8 (pc' := 14) (by decide) ?_
  refine V.iconst dL_row_14 (pc' := 15) rfl (v := 0) (by decide) ?_
  exact V.liret dL_row_15 rfl (by decide) (by decide) (Or.inr (Or.inr ⟨x, hv, rfl, rfl⟩))
