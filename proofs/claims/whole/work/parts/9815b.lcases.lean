/-! the law's cases -/
section LC
variable {b Ln : Nat} {xs : Nat → Int32} {z : Nat × Nat} {h : Hp} {i : Nat} {S : SS} {Ms : Nat → Mt} {tx : List Int32} {row : List Int64}
set_option maxRecDepth 10000 in
theorem law_c18 (hi : i + 4 < Ln) (hLn : Ln ≤ 2560) (hz1 : z.1 ≤ 5000) (hz2 : z.2 ≤ 50000) (R : Rel h S Ms tx row) (hk : ∀ hm S Ms tx row, Rel hm S Ms tx row → V (Gl b Ln xs) mL_law (z.1 + 1, z.2 + 6) 1443 (Lw0 i) [] hm) : V (Gl b Ln xs) mL_law z 800 (Lw0 i) [] h := by
  obtain ⟨r, hx, hm, S1, Ms1, tx1, row1, eX, eM, R1⟩ := op_dearest R
  refine V.alq dL_law_800 (pc' := 801) rfl (j := 2) rfl ?_
  refine V.callVi dL_law_801 (pc' := 804) rfl CV_L_111 (as := []) (kX5_dearest h  _ eX) (Gl_rm (by decide) (by omega) (by omega)) rfl (by decide) rfl (Nat.le_of_ble_eq_true rfl) rfl ?_
  refine V.alq dL_law_804 (pc' := 805) rfl (j := 3) rfl ?_
  refine V.callVi dL_law_805 (pc' := 808) rfl CV_L_114 (as := []) (kX6_dearest hx  _ eM) (Gl_rm (by decide) (by omega) (by omega)) rfl (by decide) rfl (Nat.le_of_ble_eq_true rfl) rfl ?_
  refine V.ic_eq dL_law_808 (pc' := 811) rfl (tgt := 1443) (by decide) (fun _ => V.wid (z' := (z.1 + 1, z.2 + 6)) (by dsimp only; omega) (by dsimp only; omega) (hk _ _ _ _ _ R1)) (fun c => absurd rfl c)
set_option maxRecDepth 10000 in
theorem law_c19 (hi : i + 4 < Ln) (hLn : Ln ≤ 2560) (hz1 : z.1 ≤ 5000) (hz2 : z.2 ≤ 50000) (R : Rel h S Ms tx row) (hk : ∀ hm S Ms tx row, Rel hm S Ms tx row → V (Gl b Ln xs) mL_law (z.1 + 1, z.2 + 6) 1443 (Lw0 i) [] hm) : V (Gl b Ln xs) mL_law z 813 (Lw0 i) [] h := by
  obtain ⟨r, hx, hm, S1, Ms1, tx1, row1, eX, eM, R1⟩ := op_arrive R (xs (i + 1))
  refine V.alq dL_law_813 (pc' := 814) rfl (j := 2) rfl ?_
  refine V.scr (k := 1) (j := 0) (j' := 1) rfl rfl dL_law_814 dL_law_815 dL_law_817 (by decide) dL_law_818 dL_law_819 (pc' := 820) rfl (by omega) hLn ?_
  refine V.callVi dL_law_820 (pc' := 823) rfl CV_L_115 (as := [.int (xs (i + 1))]) (kX5_arrive h (xs (i + 1)) _ eX) (Gl_rm (by decide) (by omega) (by omega)) rfl (by decide) rfl (Nat.le_of_ble_eq_true rfl) rfl ?_
  refine V.alq dL_law_823 (pc' := 824) rfl (j := 3) rfl ?_
  refine V.scr (k := 1) (j := 0) (j' := 1) rfl rfl dL_law_824 dL_law_825 dL_law_827 (by decide) dL_law_828 dL_law_829 (pc' := 830) rfl (by omega) hLn ?_
  refine V.callVi dL_law_830 (pc' := 833) rfl CV_L_118 (as := [.int (xs (i + 1))]) (kX6_arrive hx (xs (i + 1)) _ eM) (Gl_rm (by decide) (by omega) (by omega)) rfl (by decide) rfl (Nat.le_of_ble_eq_true rfl) rfl ?_
  refine V.ic_eq dL_law_833 (pc' := 836) rfl (tgt := 1443) (by decide) (fun _ => V.wid (z' := (z.1 + 1, z.2 + 6)) (by dsimp only; omega) (by dsimp only; omega) (hk _ _ _ _ _ R1)) (fun c => absurd rfl c)
set_option maxRecDepth 10000 in
theorem law_c20 (hi : i + 4 < Ln) (hLn : Ln ≤ 2560) (hz1 : z.1 ≤ 5000) (hz2 : z.2 ≤ 50000) (R : Rel h S Ms tx row) (hk : ∀ hm S Ms tx row, Rel hm S Ms tx row → V (Gl b Ln xs) mL_law (z.1 + 1, z.2 + 6) 1443 (Lw0 i) [] hm) : V (Gl b Ln xs) mL_law z 838 (Lw0 i) [] h := by
  obtain ⟨r, hx, hm, S1, Ms1, tx1, row1, eX, eM, R1⟩ := op_range R (xs (i + 1)) (xs (i + 2))
  refine V.alq dL_law_838 (pc' := 839) rfl (j := 2) rfl ?_
  refine V.scr (k := 1) (j := 0) (j' := 1) rfl rfl dL_law_839 dL_law_840 dL_law_842 (by decide) dL_law_843 dL_law_844 (pc' := 845) rfl (by omega) hLn ?_
  refine V.scr (k := 2) (j := 0) (j' := 1) rfl rfl dL_law_845 dL_law_846 dL_law_848 (by decide) dL_law_849 dL_law_850 (pc' := 851) rfl (by omega) hLn ?_
  refine V.callVi dL_law_851 (pc' := 854) rfl CV_L_119 (as := [.int (xs (i + 1)), .int (xs (i + 2))]) (kX5_range h (xs (i + 1)) (xs (i + 2)) _ eX) (Gl_rm (by decide) (by omega) (by omega)) rfl (by decide) rfl (Nat.le_of_ble_eq_true rfl) rfl ?_
  refine V.alq dL_law_854 (pc' := 855) rfl (j := 3) rfl ?_
  refine V.scr (k := 1) (j := 0) (j' := 1) rfl rfl dL_law_855 dL_law_856 dL_law_858 (by decide) dL_law_859 dL_law_860 (pc' := 861) rfl (by omega) hLn ?_
  refine V.scr (k := 2) (j := 0) (j' := 1) rfl rfl dL_law_861 dL_law_862 dL_law_864 (by decide) dL_law_865 dL_law_866 (pc' := 867) rfl (by omega) hLn ?_
  refine V.callVi dL_law_867 (pc' := 870) rfl CV_L_122 (as := [.int (xs (i + 1)), .int (xs (i + 2))]) (kX6_range hx (xs (i + 1)) (xs (i + 2)) _ eM) (Gl_rm (by decide) (by omega) (by omega)) rfl (by decide) rfl (Nat.le_of_ble_eq_true rfl) rfl ?_
  refine V.ic_eq dL_law_870 (pc' := 873) rfl (tgt := 1443) (by decide) (fun _ => V.wid (z' := (z.1 + 1, z.2 + 6)) (by dsimp only; omega) (by dsimp only; omega) (hk _ _ _ _ _ R1)) (fun c => absurd rfl c)
set_option maxRecDepth 10000 in
theorem law_c21 (hi : i + 4 < Ln) (hLn : Ln ≤ 2560) (hz1 : z.1 ≤ 5000) (hz2 : z.2 ≤ 50000) (R : Rel h S Ms tx row) (hk : ∀ hm S Ms tx row, Rel hm S Ms tx row → V (Gl b Ln xs) mL_law (z.1 + 1, z.2 + 6) 1443 (Lw0 i) [] hm) : V (Gl b Ln xs) mL_law z 875 (Lw0 i) [] h := by
  obtain ⟨r, hx, hm, S1, Ms1, tx1, row1, eX, eM, R1⟩ := op_joins R (xs (i + 1)) (xs (i + 2)) (xs (i + 3)) (xs (i + 4))
  refine V.alq dL_law_875 (pc' := 876) rfl (j := 2) rfl ?_
  refine V.scr (k := 1) (j := 0) (j' := 1) rfl rfl dL_law_876 dL_law_877 dL_law_879 (by decide) dL_law_880 dL_law_881 (pc' := 882) rfl (by omega) hLn ?_
  refine V.scr (k := 2) (j := 0) (j' := 1) rfl rfl dL_law_882 dL_law_883 dL_law_885 (by decide) dL_law_886 dL_law_887 (pc' := 888) rfl (by omega) hLn ?_
  refine V.scr (k := 3) (j := 0) (j' := 1) rfl rfl dL_law_888 dL_law_889 dL_law_891 (by decide) dL_law_892 dL_law_893 (pc' := 894) rfl (by omega) hLn ?_
  refine V.scr (k := 4) (j := 0) (j' := 1) rfl rfl dL_law_894 dL_law_895 dL_law_897 (by decide) dL_law_898 dL_law_899 (pc' := 900) rfl (by omega) hLn ?_
  refine V.callVi dL_law_900 (pc' := 903) rfl CV_L_123 (as := [.int (xs (i + 1)), .int (xs (i + 2)), .int (xs (i + 3)), .int (xs (i + 4))]) (kX5_joins h (xs (i + 1)) (xs (i + 2)) (xs (i + 3)) (xs (i + 4)) _ eX) (Gl_rm (by decide) (by omega) (by omega)) rfl (by decide) rfl (Nat.le_of_ble_eq_true rfl) rfl ?_
  refine V.alq dL_law_903 (pc' := 904) rfl (j := 3) rfl ?_
  refine V.scr (k := 1) (j := 0) (j' := 1) rfl rfl dL_law_904 dL_law_905 dL_law_907 (by decide) dL_law_908 dL_law_909 (pc' := 910) rfl (by omega) hLn ?_
  refine V.scr (k := 2) (j := 0) (j' := 1) rfl rfl dL_law_910 dL_law_911 dL_law_913 (by decide) dL_law_914 dL_law_915 (pc' := 916) rfl (by omega) hLn ?_
  refine V.scr (k := 3) (j := 0) (j' := 1) rfl rfl dL_law_916 dL_law_917 dL_law_919 (by decide) dL_law_920 dL_law_921 (pc' := 922) rfl (by omega) hLn ?_
  refine V.scr (k := 4) (j := 0) (j' := 1) rfl rfl dL_law_922 dL_law_923 dL_law_925 (by decide) dL_law_926 dL_law_927 (pc' := 928) rfl (by omega) hLn ?_
  refine V.callVi dL_law_928 (pc' := 931) rfl CV_L_127 (as := [.int (xs (i + 1)), .int (xs (i + 2)), .int (xs (i + 3)), .int (xs (i + 4))]) (kX6_joins hx (xs (i + 1)) (xs (i + 2)) (xs (i + 3)) (xs (i + 4)) _ eM) (Gl_rm (by decide) (by omega) (by omega)) rfl (by decide) rfl (Nat.le_of_ble_eq_true rfl) rfl ?_
  refine V.ic_eq dL_law_931 (pc' := 934) rfl (tgt := 1443) (by decide) (fun _ => V.wid (z' := (z.1 + 1, z.2 + 6)) (by dsimp only; omega) (by dsimp only; omega) (hk _ _ _ _ _ R1)) (fun c => absurd rfl c)
set_option maxRecDepth 10000 in
theorem law_c22 (hi : i + 4 < Ln) (hLn : Ln ≤ 2560) (hz1 : z.1 ≤ 5000) (hz2 : z.2 ≤ 50000) (R : Rel h S Ms tx row) (hk : ∀ hm S Ms tx row, Rel hm S Ms tx row → V (Gl b Ln xs) mL_law (z.1 + 1, z.2 + 6) 1443 (Lw0 i) [] hm) : V (Gl b Ln xs) mL_law z 936 (Lw0 i) [] h := by
  obtain ⟨r, hx, hm, S1, Ms1, tx1, row1, eX, eM, R1⟩ := op_most R (xs (i + 1)) (xs (i + 2)) (xs (i + 3))
  refine V.alq dL_law_936 (pc' := 937) rfl (j := 2) rfl ?_
  refine V.scr (k := 1) (j := 0) (j' := 1) rfl rfl dL_law_937 dL_law_938 dL_law_940 (by decide) dL_law_941 dL_law_942 (pc' := 943) rfl (by omega) hLn ?_
  refine V.scr (k := 2) (j := 0) (j' := 1) rfl rfl dL_law_943 dL_law_944 dL_law_946 (by decide) dL_law_947 dL_law_948 (pc' := 949) rfl (by omega) hLn ?_
  refine V.scr (k := 3) (j := 0) (j' := 1) rfl rfl dL_law_949 dL_law_950 dL_law_952 (by decide) dL_law_953 dL_law_954 (pc' := 955) rfl (by omega) hLn ?_
  refine V.callVi dL_law_955 (pc' := 958) rfl CV_L_128 (as := [.int (xs (i + 1)), .int (xs (i + 2)), .int (xs (i + 3))]) (kX5_most h (xs (i + 1)) (xs (i + 2)) (xs (i + 3)) _ eX) (Gl_rm (by decide) (by omega) (by omega)) rfl (by decide) rfl (Nat.le_of_ble_eq_true rfl) rfl ?_
  refine V.alq dL_law_958 (pc' := 959) rfl (j := 3) rfl ?_
  refine V.scr (k := 1) (j := 0) (j' := 1) rfl rfl dL_law_959 dL_law_960 dL_law_962 (by decide) dL_law_963 dL_law_964 (pc' := 965) rfl (by omega) hLn ?_
  refine V.scr (k := 2) (j := 0) (j' := 1) rfl rfl dL_law_965 dL_law_966 dL_law_968 (by decide) dL_law_969 dL_law_970 (pc' := 971) rfl (by omega) hLn ?_
  refine V.scr (k := 3) (j := 0) (j' := 1) rfl rfl dL_law_971 dL_law_972 dL_law_974 (by decide) dL_law_975 dL_law_976 (pc' := 977) rfl (by omega) hLn ?_
  refine V.callVi dL_law_977 (pc' := 980) rfl CV_L_131 (as := [.int (xs (i + 1)), .int (xs (i + 2)), .int (xs (i + 3))]) (kX6_most hx (xs (i + 1)) (xs (i + 2)) (xs (i + 3)) _ eM) (Gl_rm (by decide) (by omega) (by omega)) rfl (by decide) rfl (Nat.le_of_ble_eq_true rfl) rfl ?_
  refine V.ic_eq dL_law_980 (pc' := 983) rfl (tgt := 1443) (by decide) (fun _ => V.wid (z' := (z.1 + 1, z.2 + 6)) (by dsimp only; omega) (by dsimp only; omega) (hk _ _ _ _ _ R1)) (fun c => absurd rfl c)
set_option maxRecDepth 10000 in
theorem law_c23 (hi : i + 4 < Ln) (hLn : Ln ≤ 2560) (hz1 : z.1 ≤ 5000) (hz2 : z.2 ≤ 50000) (R : Rel h S Ms tx row) (hk : ∀ hm S Ms tx row, Rel hm S Ms tx row → V (Gl b Ln xs) mL_law (z.1 + 1, z.2 + 6) 1443 (Lw0 i) [] hm) : V (Gl b Ln xs) mL_law z 985 (Lw0 i) [] h := by
  obtain ⟨r, hx, hm, S1, Ms1, tx1, row1, eX, eM, R1⟩ := op_ticks R (xs (i + 1))
  refine V.alq dL_law_985 (pc' := 986) rfl (j := 2) rfl ?_
  refine V.scr (k := 1) (j := 0) (j' := 1) rfl rfl dL_law_986 dL_law_987 dL_law_989 (by decide) dL_law_990 dL_law_991 (pc' := 992) rfl (by omega) hLn ?_
  refine V.callVi dL_law_992 (pc' := 995) rfl CV_L_132 (as := [.int (xs (i + 1))]) (kX5_ticks h (xs (i + 1)) _ eX) (Gl_rm (by decide) (by omega) (by omega)) rfl (by decide) rfl (Nat.le_of_ble_eq_true rfl) rfl ?_
  refine V.alq dL_law_995 (pc' := 996) rfl (j := 3) rfl ?_
  refine V.scr (k := 1) (j := 0) (j' := 1) rfl rfl dL_law_996 dL_law_997 dL_law_999 (by decide) dL_law_1000 dL_law_1001 (pc' := 1002) rfl (by omega) hLn ?_
  refine V.callVi dL_law_1002 (pc' := 1005) rfl CV_L_135 (as := [.int (xs (i + 1))]) (kX6_ticks hx (xs (i + 1)) _ eM) (Gl_rm (by decide) (by omega) (by omega)) rfl (by decide) rfl (Nat.le_of_ble_eq_true rfl) rfl ?_
  refine V.ic_eq dL_law_1005 (pc' := 1008) rfl (tgt := 1443) (by decide) (fun _ => V.wid (z' := (z.1 + 1, z.2 + 6)) (by dsimp only; omega) (by dsimp only; omega) (hk _ _ _ _ _ R1)) (fun c => absurd rfl c)
set_option maxRecDepth 10000 in
theorem law_c24 (hi : i + 4 < Ln) (hLn : Ln ≤ 2560) (hz1 : z.1 ≤ 5000) (hz2 : z.2 ≤ 50000) (R : Rel h S Ms tx row) (hk : ∀ hm S Ms tx row, Rel hm S Ms tx row → V (Gl b Ln xs) mL_law (z.1 + 1, z.2 + 6) 1443 (Lw0 i) [] hm) : V (Gl b Ln xs) mL_law z 1010 (Lw0 i) [] h := by
  obtain ⟨q, eX, cs⟩ := op_match R (xs (i + 1)) (xs (i + 2)) (xs (i + 3))
  have hi9 : ∀ v, q.1 = some v → ∃ x : Int32, v = .int x := by
    rcases cs with ⟨c1, -⟩ | ⟨x, c1, -⟩
    · intro v hv; rw [c1] at hv; cases hv
    · intro v hv; rw [c1] at hv; cases hv; exact ⟨x, rfl⟩
  refine V.alq dL_law_1010 (pc' := 1011) rfl (j := 2) rfl ?_
  refine V.scr (k := 1) (j := 0) (j' := 1) rfl rfl dL_law_1011 dL_law_1012 dL_law_1014 (by decide) dL_law_1015 dL_law_1016 (pc' := 1017) rfl (by omega) hLn ?_
  refine V.scr (k := 2) (j := 0) (j' := 1) rfl rfl dL_law_1017 dL_law_1018 dL_law_1020 (by decide) dL_law_1021 dL_law_1022 (pc' := 1023) rfl (by omega) hLn ?_
  refine V.scr (k := 3) (j := 0) (j' := 1) rfl rfl dL_law_1023 dL_law_1024 dL_law_1026 (by decide) dL_law_1027 dL_law_1028 (pc' := 1029) rfl (by omega) hLn ?_
  refine V.alq dL_law_1029 (pc' := 1030) rfl (j := 4) rfl ?_
  refine V.callL dL_law_1030 (pc' := 1033) rfl CT_L_136 (as := [.ref 1, .int (xs (i + 1)), .int (xs (i + 2)), .int (xs (i + 3)), .ref 0]) (kL_match h (xs (i + 1)) (xs (i + 2)) (xs (i + 3)) q eX hi9) (Gl_rm (by decide) (by omega) (by omega)) rfl (Nat.le_of_ble_eq_true rfl) rfl (fun v h9 hpw => ?_)
  rcases hpw with ⟨w1, rfl, rfl⟩ | ⟨x, w1, rfl, rfl⟩ | ⟨x, w1, rfl, rfl⟩
  · rcases cs with ⟨-, r, hm, S1, Ms1, tx1, row1, eM, z1, R1⟩ | ⟨x, c1, -⟩
    · show V (Gl b Ln xs) mL_law (z.1 + 1, z.2 + 6) 1033 (Lw0 i) [.int 1] q.2
      refine V.is dL_law_1033 (pc' := 1035) rfl (by decide) rfl (L' := [(5, .int 1), (4, .int (nI i)), (0, .ref 75), (1, .ref 1), (2, .ref 54), (3, .ref 0)]) rfl ?_
      refine V.alq dL_law_1035 (pc' := 1036) rfl (j := 4) rfl ?_
      refine V.scr (k := 1) (j := 1) (j' := 2) rfl rfl dL_law_1036 dL_law_1037 dL_law_1039 (by decide) dL_law_1040 dL_law_1041 (pc' := 1042) rfl (by omega) hLn ?_
      refine V.scr (k := 2) (j := 1) (j' := 2) rfl rfl dL_law_1042 dL_law_1043 dL_law_1045 (by decide) dL_law_1046 dL_law_1047 (pc' := 1048) rfl (by omega) hLn ?_
      refine V.scr (k := 3) (j := 1) (j' := 2) rfl rfl dL_law_1048 dL_law_1049 dL_law_1051 (by decide) dL_law_1052 dL_law_1053 (pc' := 1054) rfl (by omega) hLn ?_
      refine V.callVi dL_law_1054 (pc' := 1057) rfl CV_L_139 (as := [.int (xs (i + 1)), .int (xs (i + 2)), .int (xs (i + 3))]) (kX6_match q.2 (xs (i + 1)) (xs (i + 2)) (xs (i + 3)) _ eM) (Gl_rm (by decide) (by omega) (by omega)) rfl (by decide) rfl (Nat.le_of_ble_eq_true rfl) rfl ?_
      refine V.is dL_law_1057 (pc' := 1059) rfl (by decide) rfl (L' := [(6, .int r), (5, .int 1), (4, .int (nI i)), (0, .ref 75), (1, .ref 1), (2, .ref 54), (3, .ref 0)]) rfl ?_
      refine V.alq dL_law_1059 (pc' := 1060) rfl (j := 5) rfl ?_
      refine V.callVi dL_law_1060 (pc' := 1063) rfl CV_L_67 (as := []) (kX6_thrown hm _ rfl) (Gl_rm (by decide) (by omega) (by omega)) rfl (by decide) rfl (Nat.le_of_ble_eq_true rfl) rfl ?_
      refine V.il dL_law_1063 (pc' := 1065) rfl (j := 1) rfl ?_
      refine V.ic_eq dL_law_1065 (pc' := 1068) rfl (tgt := 1070) (by decide) (fun _ => ?_) (fun c => absurd z1 c)
      refine V.il dL_law_1070 (pc' := 1072) rfl (j := 1) rfl ?_
      refine V.if_ne dL_law_1072 (pc' := 1075) rfl (tgt := 1087) (by decide) (fun _ => ?_) (fun c => absurd c (by decide))
      refine V.goto dL_law_1087 (pc' := 1443) (by decide) ?_
      refine V.pk [2, 3, 4, 5, 6] (L' := Lw0 i) rfl ?_
      exact hk _ _ _ _ _ R1
    · rw [w1] at c1; cases c1
  · rcases cs with ⟨c1, -⟩ | ⟨x1, c1, hm, S1, Ms1, tx1, row1, eM, z1, z2, R1⟩
    · rw [w1] at c1; cases c1
    · rw [w1] at c1
      cases c1
      show V (Gl b Ln xs) mL_law (z.1 + 1, z.2 + 6) 1033 (Lw0 i) [.int 0] (u2 q.2 0 0 x.toInt64)
      refine V.is dL_law_1033 (pc' := 1035) rfl (by decide) rfl (L' := [(5, .int 0), (4, .int (nI i)), (0, .ref 75), (1, .ref 1), (2, .ref 54), (3, .ref 0)]) rfl ?_
      refine V.alq dL_law_1035 (pc' := 1036) rfl (j := 4) rfl ?_
      refine V.scr (k := 1) (j := 1) (j' := 2) rfl rfl dL_law_1036 dL_law_1037 dL_law_1039 (by decide) dL_law_1040 dL_law_1041 (pc' := 1042) rfl (by omega) hLn ?_
      refine V.scr (k := 2) (j := 1) (j' := 2) rfl rfl dL_law_1042 dL_law_1043 dL_law_1045 (by decide) dL_law_1046 dL_law_1047 (pc' := 1048) rfl (by omega) hLn ?_
      refine V.scr (k := 3) (j := 1) (j' := 2) rfl rfl dL_law_1048 dL_law_1049 dL_law_1051 (by decide) dL_law_1052 dL_law_1053 (pc' := 1054) rfl (by omega) hLn ?_
      refine V.callVi dL_law_1054 (pc' := 1057) rfl CV_L_139 (as := [.int (xs (i + 1)), .int (xs (i + 2)), .int (xs (i + 3))]) (kX6_match (u2 q.2 0 0 x.toInt64) (xs (i + 1)) (xs (i + 2)) (xs (i + 3)) _ eM) (Gl_rm (by decide) (by omega) (by omega)) rfl (by decide) rfl (Nat.le_of_ble_eq_true rfl) rfl ?_
      refine V.is dL_law_1057 (pc' := 1059) rfl (by decide) rfl (L' := [(6, .int x), (5, .int 0), (4, .int (nI i)), (0, .ref 75), (1, .ref 1), (2, .ref 54), (3, .ref 0)]) rfl ?_
      refine V.alq dL_law_1059 (pc' := 1060) rfl (j := 5) rfl ?_
      refine V.callVi dL_law_1060 (pc' := 1063) rfl CV_L_67 (as := []) (kX6_thrown hm _ rfl) (Gl_rm (by decide) (by omega) (by omega)) rfl (by decide) rfl (Nat.le_of_ble_eq_true rfl) rfl ?_
      refine V.il dL_law_1063 (pc' := 1065) rfl (j := 1) rfl ?_
      refine V.ic_eq dL_law_1065 (pc' := 1068) rfl (tgt := 1070) (by decide) (fun _ => ?_) (fun c => absurd z1 c)
      refine V.il dL_law_1070 (pc' := 1072) rfl (j := 1) rfl ?_
      refine V.if_ne dL_law_1072 (pc' := 1075) rfl (tgt := 1087) (by decide) (fun c => absurd rfl c) (fun _ => ?_)
      refine V.alq dL_law_1075 (pc' := 1076) rfl (j := 6) rfl ?_
      refine V.iconst dL_law_1076 (pc' := 1077) rfl (v := 0) (by decide) ?_
      refine V.lald dL_law_1077 (pc' := 1078) rfl rfl rfl (inb_t (by decide)) ?_
      refine V.il dL_law_1078 (pc' := 1080) rfl (j := 0) rfl ?_
      refine V.i2l dL_law_1080 (pc' := 1081) rfl ?_
      refine V.lcmp dL_law_1081 (pc' := 1082) rfl ?_
      refine V.if_eq dL_law_1082 (pc' := 1085) rfl (tgt := 1087) (by decide) (fun _ => ?_) (fun c => absurd (lg_eq0.mpr (congrArg Int64.toInt z2)) c)
      refine V.goto dL_law_1087 (pc' := 1443) (by decide) ?_
      refine V.pk [2, 3, 4, 5, 6] (L' := Lw0 i) rfl ?_
      exact hk _ _ _ _ _ R1
  · obtain ⟨x1, hx1⟩ := hi9 _ w1
    cases hx1
set_option maxRecDepth 10000 in
theorem law_c25 (hi : i + 4 < Ln) (hLn : Ln ≤ 2560) (hz1 : z.1 ≤ 5000) (hz2 : z.2 ≤ 50000) (R : Rel h S Ms tx row) (hk : ∀ hm S Ms tx row, Rel hm S Ms tx row → V (Gl b Ln xs) mL_law (z.1 + 1, z.2 + 6) 1443 (Lw0 i) [] hm) : V (Gl b Ln xs) mL_law z 1090 (Lw0 i) [] h := by
  obtain ⟨r, hx, hm, S1, Ms1, tx1, row1, eX, eM, R1⟩ := op_area R (xs (i + 1)) (xs (i + 2))
  refine V.alq dL_law_1090 (pc' := 1091) rfl (j := 2) rfl ?_
  refine V.scr (k := 1) (j := 0) (j' := 1) rfl rfl dL_law_1091 dL_law_1092 dL_law_1094 (by decide) dL_law_1095 dL_law_1096 (pc' := 1097) rfl (by omega) hLn ?_
  refine V.scr (k := 2) (j := 0) (j' := 1) rfl rfl dL_law_1097 dL_law_1098 dL_law_1100 (by decide) dL_law_1101 dL_law_1102 (pc' := 1103) rfl (by omega) hLn ?_
  refine V.callVi dL_law_1103 (pc' := 1106) rfl CV_L_140 (as := [.int (xs (i + 1)), .int (xs (i + 2))]) (kX5_area h (xs (i + 1)) (xs (i + 2)) _ eX) (Gl_rm (by decide) (by omega) (by omega)) rfl (by decide) rfl (Nat.le_of_ble_eq_true rfl) rfl ?_
  refine V.alq dL_law_1106 (pc' := 1107) rfl (j := 3) rfl ?_
  refine V.scr (k := 1) (j := 0) (j' := 1) rfl rfl dL_law_1107 dL_law_1108 dL_law_1110 (by decide) dL_law_1111 dL_law_1112 (pc' := 1113) rfl (by omega) hLn ?_
  refine V.scr (k := 2) (j := 0) (j' := 1) rfl rfl dL_law_1113 dL_law_1114 dL_law_1116 (by decide) dL_law_1117 dL_law_1118 (pc' := 1119) rfl (by omega) hLn ?_
  refine V.callVi dL_law_1119 (pc' := 1122) rfl CV_L_143 (as := [.int (xs (i + 1)), .int (xs (i + 2))]) (kX6_area hx (xs (i + 1)) (xs (i + 2)) _ eM) (Gl_rm (by decide) (by omega) (by omega)) rfl (by decide) rfl (Nat.le_of_ble_eq_true rfl) rfl ?_
  refine V.ic_eq dL_law_1122 (pc' := 1125) rfl (tgt := 1443) (by decide) (fun _ => V.wid (z' := (z.1 + 1, z.2 + 6)) (by dsimp only; omega) (by dsimp only; omega) (hk _ _ _ _ _ R1)) (fun c => absurd rfl c)
set_option maxRecDepth 10000 in
theorem law_c26 (hi : i + 4 < Ln) (hLn : Ln ≤ 2560) (hz1 : z.1 ≤ 5000) (hz2 : z.2 ≤ 50000) (R : Rel h S Ms tx row) (hk : ∀ hm S Ms tx row, Rel hm S Ms tx row → V (Gl b Ln xs) mL_law (z.1 + 1, z.2 + 6) 1443 (Lw0 i) [] hm) : V (Gl b Ln xs) mL_law z 1127 (Lw0 i) [] h := by
  obtain ⟨r, hx, hm, S1, Ms1, tx1, row1, eX, eM, R1⟩ := op_total R
  refine V.alq dL_law_1127 (pc' := 1128) rfl (j := 2) rfl ?_
  refine V.callVi dL_law_1128 (pc' := 1131) rfl CV_L_144 (as := []) (kX5_total h  _ eX) (Gl_rm (by decide) (by omega) (by omega)) rfl (by decide) rfl (Nat.le_of_ble_eq_true rfl) rfl ?_
  refine V.alq dL_law_1131 (pc' := 1132) rfl (j := 3) rfl ?_
  refine V.callVi dL_law_1132 (pc' := 1135) rfl CV_L_147 (as := []) (kX6_total hx  _ eM) (Gl_rm (by decide) (by omega) (by omega)) rfl (by decide) rfl (Nat.le_of_ble_eq_true rfl) rfl ?_
  refine V.ic_eq dL_law_1135 (pc' := 1138) rfl (tgt := 1443) (by decide) (fun _ => V.wid (z' := (z.1 + 1, z.2 + 6)) (by dsimp only; omega) (by dsimp only; omega) (hk _ _ _ _ _ R1)) (fun c => absurd rfl c)
set_option maxRecDepth 10000 in
theorem law_c27 (hi : i + 4 < Ln) (hLn : Ln ≤ 2560) (hz1 : z.1 ≤ 5000) (hz2 : z.2 ≤ 50000) (R : Rel h S Ms tx row) (hk : ∀ hm S Ms tx row, Rel hm S Ms tx row → V (Gl b Ln xs) mL_law (z.1 + 1, z.2 + 6) 1443 (Lw0 i) [] hm) : V (Gl b Ln xs) mL_law z 1140 (Lw0 i) [] h := by
  obtain ⟨r, hx, hm, S1, Ms1, tx1, row1, eX, eM, R1⟩ := op_leaves R (xs (i + 1)) (xs (i + 2))
  refine V.alq dL_law_1140 (pc' := 1141) rfl (j := 2) rfl ?_
  refine V.scr (k := 1) (j := 0) (j' := 1) rfl rfl dL_law_1141 dL_law_1142 dL_law_1144 (by decide) dL_law_1145 dL_law_1146 (pc' := 1147) rfl (by omega) hLn ?_
  refine V.scr (k := 2) (j := 0) (j' := 1) rfl rfl dL_law_1147 dL_law_1148 dL_law_1150 (by decide) dL_law_1151 dL_law_1152 (pc' := 1153) rfl (by omega) hLn ?_
  refine V.callVi dL_law_1153 (pc' := 1156) rfl CV_L_148 (as := [.int (xs (i + 1)), .int (xs (i + 2))]) (kX5_leaves h (xs (i + 1)) (xs (i + 2)) _ eX) (Gl_rm (by decide) (by omega) (by omega)) rfl (by decide) rfl (Nat.le_of_ble_eq_true rfl) rfl ?_
  refine V.alq dL_law_1156 (pc' := 1157) rfl (j := 3) rfl ?_
  refine V.scr (k := 1) (j := 0) (j' := 1) rfl rfl dL_law_1157 dL_law_1158 dL_law_1160 (by decide) dL_law_1161 dL_law_1162 (pc' := 1163) rfl (by omega) hLn ?_
  refine V.scr (k := 2) (j := 0) (j' := 1) rfl rfl dL_law_1163 dL_law_1164 dL_law_1166 (by decide) dL_law_1167 dL_law_1168 (pc' := 1169) rfl (by omega) hLn ?_
  refine V.callVi dL_law_1169 (pc' := 1172) rfl CV_L_151 (as := [.int (xs (i + 1)), .int (xs (i + 2))]) (kX6_leaves hx (xs (i + 1)) (xs (i + 2)) _ eM) (Gl_rm (by decide) (by omega) (by omega)) rfl (by decide) rfl (Nat.le_of_ble_eq_true rfl) rfl ?_
  refine V.ic_eq dL_law_1172 (pc' := 1175) rfl (tgt := 1443) (by decide) (fun _ => V.wid (z' := (z.1 + 1, z.2 + 6)) (by dsimp only; omega) (by dsimp only; omega) (hk _ _ _ _ _ R1)) (fun c => absurd rfl c)
set_option maxRecDepth 10000 in
theorem law_c28 (hi : i + 4 < Ln) (hLn : Ln ≤ 2560) (hz1 : z.1 ≤ 5000) (hz2 : z.2 ≤ 50000) (R : Rel h S Ms tx row) (hk : ∀ hm S Ms tx row, Rel hm S Ms tx row → V (Gl b Ln xs) mL_law (z.1 + 1, z.2 + 6) 1443 (Lw0 i) [] hm) : V (Gl b Ln xs) mL_law z 1177 (Lw0 i) [] h := by
  obtain ⟨r, hx, hm, S1, Ms1, tx1, row1, eX, eM, R1⟩ := op_loads R (xs (i + 1)) (xs (i + 2)) (xs (i + 3))
  refine V.alq dL_law_1177 (pc' := 1178) rfl (j := 2) rfl ?_
  refine V.scr (k := 1) (j := 0) (j' := 1) rfl rfl dL_law_1178 dL_law_1179 dL_law_1181 (by decide) dL_law_1182 dL_law_1183 (pc' := 1184) rfl (by omega) hLn ?_
  refine V.scr (k := 2) (j := 0) (j' := 1) rfl rfl dL_law_1184 dL_law_1185 dL_law_1187 (by decide) dL_law_1188 dL_law_1189 (pc' := 1190) rfl (by omega) hLn ?_
  refine V.scr (k := 3) (j := 0) (j' := 1) rfl rfl dL_law_1190 dL_law_1191 dL_law_1193 (by decide) dL_law_1194 dL_law_1195 (pc' := 1196) rfl (by omega) hLn ?_
  refine V.callVi dL_law_1196 (pc' := 1199) rfl CV_L_152 (as := [.int (xs (i + 1)), .int (xs (i + 2)), .int (xs (i + 3))]) (kX5_loads h (xs (i + 1)) (xs (i + 2)) (xs (i + 3)) _ eX) (Gl_rm (by decide) (by omega) (by omega)) rfl (by decide) rfl (Nat.le_of_ble_eq_true rfl) rfl ?_
  refine V.alq dL_law_1199 (pc' := 1200) rfl (j := 3) rfl ?_
  refine V.scr (k := 1) (j := 0) (j' := 1) rfl rfl dL_law_1200 dL_law_1201 dL_law_1203 (by decide) dL_law_1204 dL_law_1205 (pc' := 1206) rfl (by omega) hLn ?_
  refine V.scr (k := 2) (j := 0) (j' := 1) rfl rfl dL_law_1206 dL_law_1207 dL_law_1209 (by decide) dL_law_1210 dL_law_1211 (pc' := 1212) rfl (by omega) hLn ?_
  refine V.scr (k := 3) (j := 0) (j' := 1) rfl rfl dL_law_1212 dL_law_1213 dL_law_1215 (by decide) dL_law_1216 dL_law_1217 (pc' := 1218) rfl (by omega) hLn ?_
  refine V.callVi dL_law_1218 (pc' := 1221) rfl CV_L_155 (as := [.int (xs (i + 1)), .int (xs (i + 2)), .int (xs (i + 3))]) (kX6_loads hx (xs (i + 1)) (xs (i + 2)) (xs (i + 3)) _ eM) (Gl_rm (by decide) (by omega) (by omega)) rfl (by decide) rfl (Nat.le_of_ble_eq_true rfl) rfl ?_
  refine V.ic_eq dL_law_1221 (pc' := 1224) rfl (tgt := 1443) (by decide) (fun _ => V.wid (z' := (z.1 + 1, z.2 + 6)) (by dsimp only; omega) (by dsimp only; omega) (hk _ _ _ _ _ R1)) (fun c => absurd rfl c)
set_option maxRecDepth 10000 in
theorem law_c29 (hi : i + 4 < Ln) (hLn : Ln ≤ 2560) (hz1 : z.1 ≤ 5000) (hz2 : z.2 ≤ 50000) (R : Rel h S Ms tx row) (hk : ∀ hm S Ms tx row, Rel hm S Ms tx row → V (Gl b Ln xs) mL_law (z.1 + 1, z.2 + 6) 1443 (Lw0 i) [] hm) : V (Gl b Ln xs) mL_law z 1226 (Lw0 i) [] h := by
  obtain ⟨r, hx, hm, S1, Ms1, tx1, row1, eX, eM, R1⟩ := op_clears R (xs (i + 1))
  refine V.alq dL_law_1226 (pc' := 1227) rfl (j := 2) rfl ?_
  refine V.scr (k := 1) (j := 0) (j' := 1) rfl rfl dL_law_1227 dL_law_1228 dL_law_1230 (by decide) dL_law_1231 dL_law_1232 (pc' := 1233) rfl (by omega) hLn ?_
  refine V.callVi dL_law_1233 (pc' := 1236) rfl CV_L_156 (as := [.int (xs (i + 1))]) (kX5_clears h (xs (i + 1)) _ eX) (Gl_rm (by decide) (by omega) (by omega)) rfl (by decide) rfl (Nat.le_of_ble_eq_true rfl) rfl ?_
  refine V.alq dL_law_1236 (pc' := 1237) rfl (j := 3) rfl ?_
  refine V.scr (k := 1) (j := 0) (j' := 1) rfl rfl dL_law_1237 dL_law_1238 dL_law_1240 (by decide) dL_law_1241 dL_law_1242 (pc' := 1243) rfl (by omega) hLn ?_
  refine V.callVi dL_law_1243 (pc' := 1246) rfl CV_L_159 (as := [.int (xs (i + 1))]) (kX6_clears hx (xs (i + 1)) _ eM) (Gl_rm (by decide) (by omega) (by omega)) rfl (by decide) rfl (Nat.le_of_ble_eq_true rfl) rfl ?_
  refine V.ic_eq dL_law_1246 (pc' := 1249) rfl (tgt := 1443) (by decide) (fun _ => V.wid (z' := (z.1 + 1, z.2 + 6)) (by dsimp only; omega) (by dsimp only; omega) (hk _ _ _ _ _ R1)) (fun c => absurd rfl c)
set_option maxRecDepth 10000 in
theorem law_c30 (hi : i + 4 < Ln) (hLn : Ln ≤ 2560) (hz1 : z.1 ≤ 5000) (hz2 : z.2 ≤ 50000) (R : Rel h S Ms tx row) (hk : ∀ hm S Ms tx row, Rel hm S Ms tx row → V (Gl b Ln xs) mL_law (z.1 + 1, z.2 + 6) 1443 (Lw0 i) [] hm) : V (Gl b Ln xs) mL_law z 1251 (Lw0 i) [] h := by
  obtain ⟨r, hx, hm, S1, Ms1, tx1, row1, eX, eM, R1⟩ := op_left R
  refine V.alq dL_law_1251 (pc' := 1252) rfl (j := 2) rfl ?_
  refine V.callVi dL_law_1252 (pc' := 1255) rfl CV_L_160 (as := []) (kX5_left h  _ eX) (Gl_rm (by decide) (by omega) (by omega)) rfl (by decide) rfl (Nat.le_of_ble_eq_true rfl) rfl ?_
  refine V.alq dL_law_1255 (pc' := 1256) rfl (j := 3) rfl ?_
  refine V.callVi dL_law_1256 (pc' := 1259) rfl CV_L_163 (as := []) (kX6_left hx  _ eM) (Gl_rm (by decide) (by omega) (by omega)) rfl (by decide) rfl (Nat.le_of_ble_eq_true rfl) rfl ?_
  refine V.ic_eq dL_law_1259 (pc' := 1262) rfl (tgt := 1443) (by decide) (fun _ => V.wid (z' := (z.1 + 1, z.2 + 6)) (by dsimp only; omega) (by dsimp only; omega) (hk _ _ _ _ _ R1)) (fun c => absurd rfl c)
set_option maxRecDepth 10000 in
theorem law_c31 (hi : i + 4 < Ln) (hLn : Ln ≤ 2560) (hz1 : z.1 ≤ 5000) (hz2 : z.2 ≤ 50000) (R : Rel h S Ms tx row) (hk : ∀ hm S Ms tx row, Rel hm S Ms tx row → V (Gl b Ln xs) mL_law (z.1 + 1, z.2 + 6) 1443 (Lw0 i) [] hm) : V (Gl b Ln xs) mL_law z 1264 (Lw0 i) [] h := by
  obtain ⟨r, hx, hm, S1, Ms1, tx1, row1, eX, eM, R1⟩ := op_loops R (xs (i + 1))
  refine V.alq dL_law_1264 (pc' := 1265) rfl (j := 2) rfl ?_
  refine V.scr (k := 1) (j := 0) (j' := 1) rfl rfl dL_law_1265 dL_law_1266 dL_law_1268 (by decide) dL_law_1269 dL_law_1270 (pc' := 1271) rfl (by omega) hLn ?_
  refine V.callVi dL_law_1271 (pc' := 1274) rfl CV_L_164 (as := [.int (xs (i + 1))]) (kX5_loops h (xs (i + 1)) _ eX) (Gl_rm (by decide) (by omega) (by omega)) rfl (by decide) rfl (Nat.le_of_ble_eq_true rfl) rfl ?_
  refine V.alq dL_law_1274 (pc' := 1275) rfl (j := 3) rfl ?_
  refine V.scr (k := 1) (j := 0) (j' := 1) rfl rfl dL_law_1275 dL_law_1276 dL_law_1278 (by decide) dL_law_1279 dL_law_1280 (pc' := 1281) rfl (by omega) hLn ?_
  refine V.callVi dL_law_1281 (pc' := 1284) rfl CV_L_167 (as := [.int (xs (i + 1))]) (kX6_loops hx (xs (i + 1)) _ eM) (Gl_rm (by decide) (by omega) (by omega)) rfl (by decide) rfl (Nat.le_of_ble_eq_true rfl) rfl ?_
  refine V.ic_eq dL_law_1284 (pc' := 1287) rfl (tgt := 1443) (by decide) (fun _ => V.wid (z' := (z.1 + 1, z.2 + 6)) (by dsimp only; omega) (by dsimp only; omega) (hk _ _ _ _ _ R1)) (fun c => absurd rfl c)
set_option maxRecDepth 10000 in
theorem law_c32 (hi : i + 4 < Ln) (hLn : Ln ≤ 2560) (hz1 : z.1 ≤ 5000) (hz2 : z.2 ≤ 50000) (R : Rel h S Ms tx row) (hk : ∀ hm S Ms tx row, Rel hm S Ms tx row → V (Gl b Ln xs) mL_law (z.1 + 1, z.2 + 6) 1443 (Lw0 i) [] hm) : V (Gl b Ln xs) mL_law z 1289 (Lw0 i) [] h := by
  obtain ⟨r, hx, hm, S1, Ms1, tx1, row1, eX, eM, R1⟩ := op_loop R (xs (i + 1)) (xs (i + 2))
  refine V.alq dL_law_1289 (pc' := 1290) rfl (j := 2) rfl ?_
  refine V.scr (k := 1) (j := 0) (j' := 1) rfl rfl dL_law_1290 dL_law_1291 dL_law_1293 (by decide) dL_law_1294 dL_law_1295 (pc' := 1296) rfl (by omega) hLn ?_
  refine V.scr (k := 2) (j := 0) (j' := 1) rfl rfl dL_law_1296 dL_law_1297 dL_law_1299 (by decide) dL_law_1300 dL_law_1301 (pc' := 1302) rfl (by omega) hLn ?_
  refine V.callVi dL_law_1302 (pc' := 1305) rfl CV_L_168 (as := [.int (xs (i + 1)), .int (xs (i + 2))]) (kX5_loop h (xs (i + 1)) (xs (i + 2)) _ eX) (Gl_rm (by decide) (by omega) (by omega)) rfl (by decide) rfl (Nat.le_of_ble_eq_true rfl) rfl ?_
  refine V.alq dL_law_1305 (pc' := 1306) rfl (j := 3) rfl ?_
  refine V.scr (k := 1) (j := 0) (j' := 1) rfl rfl dL_law_1306 dL_law_1307 dL_law_1309 (by decide) dL_law_1310 dL_law_1311 (pc' := 1312) rfl (by omega) hLn ?_
  refine V.scr (k := 2) (j := 0) (j' := 1) rfl rfl dL_law_1312 dL_law_1313 dL_law_1315 (by decide) dL_law_1316 dL_law_1317 (pc' := 1318) rfl (by omega) hLn ?_
  refine V.callVi dL_law_1318 (pc' := 1321) rfl CV_L_171 (as := [.int (xs (i + 1)), .int (xs (i + 2))]) (kX6_loop hx (xs (i + 1)) (xs (i + 2)) _ eM) (Gl_rm (by decide) (by omega) (by omega)) rfl (by decide) rfl (Nat.le_of_ble_eq_true rfl) rfl ?_
  refine V.ic_eq dL_law_1321 (pc' := 1324) rfl (tgt := 1443) (by decide) (fun _ => V.wid (z' := (z.1 + 1, z.2 + 6)) (by dsimp only; omega) (by dsimp only; omega) (hk _ _ _ _ _ R1)) (fun c => absurd rfl c)
set_option maxRecDepth 10000 in
theorem law_c33 (hi : i + 4 < Ln) (hLn : Ln ≤ 2560) (hz1 : z.1 ≤ 5000) (hz2 : z.2 ≤ 50000) (R : Rel h S Ms tx row) (hk : ∀ hm S Ms tx row, Rel hm S Ms tx row → V (Gl b Ln xs) mL_law (z.1 + 1, z.2 + 6) 1443 (Lw0 i) [] hm) : V (Gl b Ln xs) mL_law z 1326 (Lw0 i) [] h := by
  obtain ⟨r, hx, hm, S1, Ms1, tx1, row1, eX, eM, R1⟩ := op_breaks R (xs (i + 1)) (xs (i + 2))
  refine V.alq dL_law_1326 (pc' := 1327) rfl (j := 2) rfl ?_
  refine V.scr (k := 1) (j := 0) (j' := 1) rfl rfl dL_law_1327 dL_law_1328 dL_law_1330 (by decide) dL_law_1331 dL_law_1332 (pc' := 1333) rfl (by omega) hLn ?_
  refine V.scr (k := 2) (j := 0) (j' := 1) rfl rfl dL_law_1333 dL_law_1334 dL_law_1336 (by decide) dL_law_1337 dL_law_1338 (pc' := 1339) rfl (by omega) hLn ?_
  refine V.callVi dL_law_1339 (pc' := 1342) rfl CV_L_172 (as := [.int (xs (i + 1)), .int (xs (i + 2))]) (kX5_breaks h (xs (i + 1)) (xs (i + 2)) _ eX) (Gl_rm (by decide) (by omega) (by omega)) rfl (by decide) rfl (Nat.le_of_ble_eq_true rfl) rfl ?_
  refine V.alq dL_law_1342 (pc' := 1343) rfl (j := 3) rfl ?_
  refine V.scr (k := 1) (j := 0) (j' := 1) rfl rfl dL_law_1343 dL_law_1344 dL_law_1346 (by decide) dL_law_1347 dL_law_1348 (pc' := 1349) rfl (by omega) hLn ?_
  refine V.scr (k := 2) (j := 0) (j' := 1) rfl rfl dL_law_1349 dL_law_1350 dL_law_1352 (by decide) dL_law_1353 dL_law_1354 (pc' := 1355) rfl (by omega) hLn ?_
  refine V.callVi dL_law_1355 (pc' := 1358) rfl CV_L_175 (as := [.int (xs (i + 1)), .int (xs (i + 2))]) (kX6_breaks hx (xs (i + 1)) (xs (i + 2)) _ eM) (Gl_rm (by decide) (by omega) (by omega)) rfl (by decide) rfl (Nat.le_of_ble_eq_true rfl) rfl ?_
  refine V.ic_eq dL_law_1358 (pc' := 1361) rfl (tgt := 1443) (by decide) (fun _ => V.wid (z' := (z.1 + 1, z.2 + 6)) (by dsimp only; omega) (by dsimp only; omega) (hk _ _ _ _ _ R1)) (fun c => absurd rfl c)
set_option maxRecDepth 10000 in
theorem law_c34 (hi : i + 4 < Ln) (hLn : Ln ≤ 2560) (hz1 : z.1 ≤ 5000) (hz2 : z.2 ≤ 50000) (R : Rel h S Ms tx row) (hk : ∀ hm S Ms tx row, Rel hm S Ms tx row → V (Gl b Ln xs) mL_law (z.1 + 1, z.2 + 6) 1443 (Lw0 i) [] hm) : V (Gl b Ln xs) mL_law z 1363 (Lw0 i) [] h := by
  obtain ⟨eX, hMQ, hn, R1⟩ := op_count R (xs (i + 1))
  refine V.alq dL_law_1363 (pc' := 1364) rfl (j := 2) rfl ?_
  refine V.scr (k := 1) (j := 0) (j' := 1) rfl rfl dL_law_1364 dL_law_1365 dL_law_1367 (by decide) dL_law_1368 dL_law_1369 (pc' := 1370) rfl (by omega) hLn ?_
  refine V.callVi dL_law_1370 (pc' := 1373) rfl CV_L_176 (as := [.int (xs (i + 1))]) (kX5_count h (xs (i + 1)) _ eX) (Gl_rm (by decide) (by omega) (by omega)) rfl (by decide) rfl (Nat.le_of_ble_eq_true rfl) rfl ?_
  refine V.alq dL_law_1373 (pc' := 1374) rfl (j := 3) rfl ?_
  refine V.scr (k := 1) (j := 0) (j' := 1) rfl rfl dL_law_1374 dL_law_1375 dL_law_1377 (by decide) dL_law_1378 dL_law_1379 (pc' := 1380) rfl (by omega) hLn ?_
  refine V.callC dL_law_1380 (pc' := 1383) rfl CV_L_179 (as := [.int (xs (i + 1))]) (kX6_count hMQ hn (xs (i + 1))) (Gl_rm (by decide) (by omega) (by omega)) rfl (by decide) rfl (Nat.le_of_ble_eq_true rfl) rfl ?_
  refine V.ic_eq dL_law_1383 (pc' := 1386) rfl (tgt := 1443) (by decide) (fun _ => V.wid (z' := (z.1 + 1, z.2 + 6)) (by dsimp only; omega) (by dsimp only; omega) (hk _ _ _ _ _ R1)) (fun c => absurd rfl c)
set_option maxRecDepth 10000 in
theorem law_c35 (hi : i + 4 < Ln) (hLn : Ln ≤ 2560) (hz1 : z.1 ≤ 5000) (hz2 : z.2 ≤ 50000) (R : Rel h S Ms tx row) (hk : ∀ hm S Ms tx row, Rel hm S Ms tx row → V (Gl b Ln xs) mL_law (z.1 + 1, z.2 + 6) 1443 (Lw0 i) [] hm) : V (Gl b Ln xs) mL_law z 1388 (Lw0 i) [] h := by
  obtain ⟨q, eX, cs⟩ := op_row R (xs (i + 1))
  have hi9 : ∀ v, q.1 = some v → ∃ x : Int64, v = .long x := by
    rcases cs with ⟨c1, -⟩ | ⟨x, c1, -⟩
    · intro v hv; rw [c1] at hv; cases hv
    · intro v hv; rw [c1] at hv; cases hv; exact ⟨x, rfl⟩
  refine V.alq dL_law_1388 (pc' := 1389) rfl (j := 2) rfl ?_
  refine V.scr (k := 1) (j := 0) (j' := 1) rfl rfl dL_law_1389 dL_law_1390 dL_law_1392 (by decide) dL_law_1393 dL_law_1394 (pc' := 1395) rfl (by omega) hLn ?_
  refine V.alq dL_law_1395 (pc' := 1396) rfl (j := 4) rfl ?_
  refine V.callL dL_law_1396 (pc' := 1399) rfl CT_L_180 (as := [.ref 1, .int (xs (i + 1)), .ref 0]) (kL_row h (xs (i + 1)) q eX hi9) (Gl_rm (by decide) (by omega) (by omega)) rfl (Nat.le_of_ble_eq_true rfl) rfl (fun v h9 hpw => ?_)
  rcases hpw with ⟨w1, rfl, rfl⟩ | ⟨x, w1, rfl, rfl⟩ | ⟨x, w1, rfl, rfl⟩
  · rcases cs with ⟨-, r, hm, S1, Ms1, tx1, row1, eM, z1, R1⟩ | ⟨x, c1, -⟩
    · show V (Gl b Ln xs) mL_law (z.1 + 1, z.2 + 6) 1399 (Lw0 i) [.int 1] q.2
      refine V.is dL_law_1399 (pc' := 1401) rfl (by decide) rfl (L' := [(5, .int 1), (4, .int (nI i)), (0, .ref 75), (1, .ref 1), (2, .ref 54), (3, .ref 0)]) rfl ?_
      refine V.alq dL_law_1401 (pc' := 1402) rfl (j := 4) rfl ?_
      refine V.scr (k := 1) (j := 1) (j' := 2) rfl rfl dL_law_1402 dL_law_1403 dL_law_1405 (by decide) dL_law_1406 dL_law_1407 (pc' := 1408) rfl (by omega) hLn ?_
      refine V.callVl dL_law_1408 (pc' := 1411) rfl CV_L_182 (as := [.int (xs (i + 1))]) (kX6_row q.2 (xs (i + 1)) _ eM) (Gl_rm (by decide) (by omega) (by omega)) rfl (by decide) rfl (Nat.le_of_ble_eq_true rfl) rfl ?_
      refine V.ls dL_law_1411 (pc' := 1413) rfl (by decide) rfl (L' := [(6, .long r), (5, .int 1), (4, .int (nI i)), (0, .ref 75), (1, .ref 1), (2, .ref 54), (3, .ref 0)]) rfl ?_
      refine V.alq dL_law_1413 (pc' := 1414) rfl (j := 5) rfl ?_
      refine V.callVi dL_law_1414 (pc' := 1417) rfl CV_L_67 (as := []) (kX6_thrown hm _ rfl) (Gl_rm (by decide) (by omega) (by omega)) rfl (by decide) rfl (Nat.le_of_ble_eq_true rfl) rfl ?_
      refine V.il dL_law_1417 (pc' := 1419) rfl (j := 1) rfl ?_
      refine V.ic_eq dL_law_1419 (pc' := 1422) rfl (tgt := 1424) (by decide) (fun _ => ?_) (fun c => absurd z1 c)
      refine V.il dL_law_1424 (pc' := 1426) rfl (j := 1) rfl ?_
      refine V.if_ne dL_law_1426 (pc' := 1429) rfl (tgt := 1440) (by decide) (fun _ => ?_) (fun c => absurd c (by decide))
      refine V.goto dL_law_1440 (pc' := 1443) (by decide) ?_
      refine V.pk [2, 3, 4, 5, 6] (L' := Lw0 i) rfl ?_
      exact hk _ _ _ _ _ R1
    · rw [w1] at c1; cases c1
  · obtain ⟨x1, hx1⟩ := hi9 _ w1
    cases hx1
  · rcases cs with ⟨c1, -⟩ | ⟨x1, c1, hm, S1, Ms1, tx1, row1, eM, z1, z2, R1⟩
    · rw [w1] at c1; cases c1
    · rw [w1] at c1
      cases c1
      show V (Gl b Ln xs) mL_law (z.1 + 1, z.2 + 6) 1399 (Lw0 i) [.int 0] (u2 q.2 0 0 x)
      refine V.is dL_law_1399 (pc' := 1401) rfl (by decide) rfl (L' := [(5, .int 0), (4, .int (nI i)), (0, .ref 75), (1, .ref 1), (2, .ref 54), (3, .ref 0)]) rfl ?_
      refine V.alq dL_law_1401 (pc' := 1402) rfl (j := 4) rfl ?_
      refine V.scr (k := 1) (j := 1) (j' := 2) rfl rfl dL_law_1402 dL_law_1403 dL_law_1405 (by decide) dL_law_1406 dL_law_1407 (pc' := 1408) rfl (by omega) hLn ?_
      refine V.callVl dL_law_1408 (pc' := 1411) rfl CV_L_182 (as := [.int (xs (i + 1))]) (kX6_row (u2 q.2 0 0 x) (xs (i + 1)) _ eM) (Gl_rm (by decide) (by omega) (by omega)) rfl (by decide) rfl (Nat.le_of_ble_eq_true rfl) rfl ?_
      refine V.ls dL_law_1411 (pc' := 1413) rfl (by decide) rfl (L' := [(6, .long x), (5, .int 0), (4, .int (nI i)), (0, .ref 75), (1, .ref 1), (2, .ref 54), (3, .ref 0)]) rfl ?_
      refine V.alq dL_law_1413 (pc' := 1414) rfl (j := 5) rfl ?_
      refine V.callVi dL_law_1414 (pc' := 1417) rfl CV_L_67 (as := []) (kX6_thrown hm _ rfl) (Gl_rm (by decide) (by omega) (by omega)) rfl (by decide) rfl (Nat.le_of_ble_eq_true rfl) rfl ?_
      refine V.il dL_law_1417 (pc' := 1419) rfl (j := 1) rfl ?_
      refine V.ic_eq dL_law_1419 (pc' := 1422) rfl (tgt := 1424) (by decide) (fun _ => ?_) (fun c => absurd z1 c)
      refine V.il dL_law_1424 (pc' := 1426) rfl (j := 1) rfl ?_
      refine V.if_ne dL_law_1426 (pc' := 1429) rfl (tgt := 1440) (by decide) (fun c => absurd rfl c) (fun _ => ?_)
      refine V.alq dL_law_1429 (pc' := 1430) rfl (j := 6) rfl ?_
      refine V.iconst dL_law_1430 (pc' := 1431) rfl (v := 0) (by decide) ?_
      refine V.lald dL_law_1431 (pc' := 1432) rfl rfl rfl (inb_t (by decide)) ?_
      refine V.ll dL_law_1432 (pc' := 1434) rfl (j := 0) rfl ?_
      refine V.lcmp dL_law_1434 (pc' := 1435) rfl ?_
      refine V.if_eq dL_law_1435 (pc' := 1438) rfl (tgt := 1440) (by decide) (fun _ => ?_) (fun c => absurd (lg_eq0.mpr (congrArg Int64.toInt z2)) c)
      refine V.goto dL_law_1440 (pc' := 1443) (by decide) ?_
      refine V.pk [2, 3, 4, 5, 6] (L' := Lw0 i) rfl ?_
      exact hk _ _ _ _ _ R1
end LC
