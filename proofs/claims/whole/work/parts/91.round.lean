/-! loop: the reference goes round -/
section O39
variable {h : Hp} {s : Nat} {M : Mt} {i : Nat}
def shr (M : Mt) (c m : Nat) : Nat := if c = 0 then mh M m else mc M m
def nxt (M : Mt) (c m : Nat) : Nat := if c = 0 then mc M m else mh M m
abbrev cnR (M : Mt) (L k c g l m : Nat) (sts met : Int32) : Prop := ¬ tb met m = true ∧ shr M c m = shr M c l ∧ (k + 1 = L → nxt M c m = g) ∧ (¬ k + 1 = L → ¬ nxt M c m = g ∧ ¬ tb sts (nxt M c m) = true)
theorem M_grs (hs : s < 2) (hM : MM h s M) (hl : M.length ≤ 24) (hv : ∀ k, k < M.length → mh M k < 10 ∧ mc M k < 10) {L k c g l m : Nat} (hL : h.1 54 35 = nI L) (hL1 : 1 ≤ L ∧ L ≤ 24) (hk : k < 24) (hc : c < 2) (hg : g < 10) (hl' : l < M.length) (hm : m < M.length) (kr : Hp → Int32 → Int32 → Int32 → Int32 → Option (Int32 × Hp)) (n : Nat) (sts met : Int32) : sX6_goesRound_b58 kr (n + 1) h (nI s) (nI k) sts met (nI (25 * s + l)) (nI g) (nI c) (nI m) = if cnR M L k c g l m sts met then (kr (u1 h 74 k (nI m)) (nI s) (nI (k + 1)) (sts ||| ((1 : Int32) <<< (nI (nxt M c m) &&& 31))) (met ||| ((1 : Int32) <<< (nI m &&& 31)))).bind (fun q => if q.1 = 0 then sX6_goesRound_b58 kr n q.2 (nI s) (nI k) sts met (nI (25 * s + l)) (nI g) (nI c) (nI (m + 1)) else some (1, q.2)) else sX6_goesRound_b58 kr n h (nI s) (nI k) sts met (nI (25 * s + l)) (nI g) (nI c) (nI (m + 1)) := by
  have c201 : ∀ (a b : Int32) (y : Nat), sX6_goesRound_c201 kr (sX6_goesRound_b58 kr n) h (nI s) (nI k) sts met (nI (25 * s + l)) (nI g) (nI c) (nI m) a (nI y) b = if ¬ tb met m = true ∧ ¬ a = 0 ∧ ¬ b = 0 then (kr (u1 h 74 k (nI m)) (nI s) (nI (k + 1)) (sts ||| ((1 : Int32) <<< (nI y &&& 31))) (met ||| ((1 : Int32) <<< (nI m &&& 31)))).bind (fun q => if q.1 = 0 then sX6_goesRound_b58 kr n q.2 (nI s) (nI k) sts met (nI (25 * s + l)) (nI g) (nI c) (nI (m + 1)) else some (1, q.2)) else sX6_goesRound_b58 kr n h (nI s) (nI k) sts met (nI (25 * s + l)) (nI g) (nI c) (nI (m + 1)) := by
    intro a b y
    have c261 : ∀ h', sX6_goesRound_c261 kr (sX6_goesRound_b58 kr n) h' (nI s) (nI k) sts met (nI (25 * s + l)) (nI g) (nI c) (nI m) = sX6_goesRound_b58 kr n h' (nI s) (nI k) sts met (nI (25 * s + l)) (nI g) (nI c) (nI (m + 1)) := by
      intro h'
      unfold sX6_goesRound_c261
      rw [nI_1, nm_t rfl]
    unfold sX6_goesRound_c201
    rw [tb_sh (show m < 32 by omega), c261]
    by_cases e1 : tb met m = true
    · rw [if_pos e1, if_pos rfl, if_neg (fun q => q.1 e1)]
    · rw [if_neg e1, if_neg (show ¬ (0 : Int32) = 1 by decide)]
      by_cases e2 : a = 0
      · rw [if_pos e2, if_neg (fun q => q.2.1 e2)]
      · rw [if_neg e2]
        by_cases e3 : b = 0
        · rw [if_pos e3, if_neg (fun q => q.2.2 e3)]
        · rw [if_neg e3, if_pos ⟨e1, e2, e3⟩, gd_in (show k < 24 by omega) (show 24 ≤ 1000 by decide), cl_n (show k ≤ 100000 by omega), nm_t rfl, nI_1]
          congr 1
          funext q
          rw [c261]
  have n1 : ¬ (1 : Int32) = 0 := by decide
  have c153 : ∀ (a : Int32) (y : Nat), y < 10 → sX6_goesRound_c153 kr (sX6_goesRound_b58 kr n) h (nI s) (nI k) sts met (nI (25 * s + l)) (nI g) (nI c) (nI m) a (nI y) = if ¬ tb met m = true ∧ ¬ a = 0 ∧ (k + 1 = L → y = g) ∧ (¬ k + 1 = L → ¬ y = g ∧ ¬ tb sts y = true) then (kr (u1 h 74 k (nI m)) (nI s) (nI (k + 1)) (sts ||| ((1 : Int32) <<< (nI y &&& 31))) (met ||| ((1 : Int32) <<< (nI m &&& 31)))).bind (fun q => if q.1 = 0 then sX6_goesRound_b58 kr n q.2 (nI s) (nI k) sts met (nI (25 * s + l)) (nI g) (nI c) (nI (m + 1)) else some (1, q.2)) else sX6_goesRound_b58 kr n h (nI s) (nI k) sts met (nI (25 * s + l)) (nI g) (nI c) (nI (m + 1)) := by
    intro a y hy
    unfold sX6_goesRound_c153 sX6_goesRound_c200
    rw [hL, nI_m1 (by omega), tb_sh (show y < 32 by omega), c201, c201]
    have eg : nI y = nI g ↔ y = g := eq_n (by omega) (by omega)
    by_cases e1 : k + 1 = L
    · rw [if_pos (by rw [show L - 1 = k by omega])]
      by_cases e2 : y = g
      · rw [if_pos (eg.mpr e2)]
        by_cases e3 : ¬ tb met m = true ∧ ¬ a = 0
        · rw [if_pos ⟨e3.1, e3.2, n1⟩, if_pos ⟨e3.1, e3.2, fun _ => e2, fun z => absurd e1 z⟩]
        · rw [if_neg (fun q => e3 ⟨q.1, q.2.1⟩), if_neg (fun q => e3 ⟨q.1, q.2.1⟩)]
      · rw [if_neg (fun q => e2 (eg.mp q)), if_neg (fun q => q.2.2 rfl), if_neg (fun q => e2 (q.2.2.1 e1))]
    · rw [if_neg (by rw [eq_n (by omega) (by omega)]; omega)]
      by_cases e2 : y = g
      · rw [if_pos (eg.mpr e2), if_neg (fun q => q.2.2 rfl), if_neg (fun q => (q.2.2.2 e1).1 e2)]
      · rw [if_neg (fun q => e2 (eg.mp q))]
        by_cases e3 : tb sts y = true
        · rw [if_pos e3, if_neg n1, if_neg (fun q => q.2.2 rfl), if_neg (fun q => (q.2.2.2 e1).2 e3)]
        · rw [if_neg e3, if_pos rfl]
          by_cases e4 : ¬ tb met m = true ∧ ¬ a = 0
          · rw [if_pos ⟨e4.1, e4.2, n1⟩, if_pos ⟨e4.1, e4.2, fun z => absurd z e1, fun _ => ⟨e2, e3⟩⟩]
          · rw [if_neg (fun q => e4 ⟨q.1, q.2.1⟩), if_neg (fun q => e4 ⟨q.1, q.2.1⟩)]
  obtain ⟨a1, a2, a3⟩ := hM.2 m hm
  obtain ⟨b1, b2, b3⟩ := hM.2 l hl'
  have vm := hv m hm
  have vl := hv l hl'
  have hle : ¬ nI M.length ≤ nI m := by rw [le_n (by omega) (by omega)]; omega
  show sX6_goesRound_c58 kr (sX6_goesRound_b58 kr n) h (nI s) (nI k) sts met (nI (25 * s + l)) (nI g) (nI c) (nI m) = _
  unfold sX6_goesRound_c58
  rw [gd_in (show s < 2 by omega) (show 2 ≤ 1000 by decide), cl_n (show s ≤ 100000 by omega), hM.1, if_neg hle, bd_t M_place]
  dsimp only
  rw [gd_in (show 25 * s + m < 50 by omega) (show 50 ≤ 1000 by decide), gd_in (show 25 * s + l < 50 by omega) (show 50 ≤ 1000 by decide), gd_in (show 25 * s + m < 50 by omega) (show 50 ≤ 1000 by decide), gd_in (show 25 * s + l < 50 by omega) (show 50 ≤ 1000 by decide), cl_n (show 25 * s + m ≤ 100000 by omega), cl_n (show 25 * s + l ≤ 100000 by omega), a1, a2, b1, b2]
  unfold sX6_goesRound_c129
  rw [gd_in (show 25 * s + m < 50 by omega) (show 50 ≤ 1000 by decide), gd_in (show 25 * s + m < 50 by omega) (show 50 ≤ 1000 by decide), cl_n (show 25 * s + m ≤ 100000 by omega), a1, a2, c153 1 _ vm.1, c153 1 _ vm.2, c153 0 _ vm.1, c153 0 _ vm.2]
  unfold cnR shr nxt
  rcases (show c = 0 ∨ c = 1 by omega) with rfl | rfl
  · rw [if_pos (show nI 0 = 0 from rfl), if_pos (show nI 0 = 0 from rfl), if_pos (show nI 0 = 0 from rfl), if_pos (show (0 : Nat) = 0 from rfl), if_pos (show (0 : Nat) = 0 from rfl), if_pos (show (0 : Nat) = 0 from rfl)]
    by_cases e : mh M m = mh M l
    · rw [if_pos (by rw [e])]
      by_cases z : ¬ tb met m = true ∧ (k + 1 = L → mc M m = g) ∧ (¬ k + 1 = L → ¬ mc M m = g ∧ ¬ tb sts (mc M m) = true)
      · rw [if_pos ⟨z.1, n1, z.2⟩, if_pos ⟨z.1, e, z.2⟩]
      · rw [if_neg (fun q => z ⟨q.1, q.2.2⟩), if_neg (fun q => z ⟨q.1, q.2.2⟩)]
    · rw [if_neg (by rw [eq_n (by omega) (by omega)]; exact e), if_neg (fun q => q.2.1 rfl), if_neg (fun q => e q.2.1), gd_in (show 25 * s + m < 50 by omega) (show 50 ≤ 1000 by decide)]
  · have n2 : ¬ nI 1 = 0 := by decide
    have n3 : ¬ (1 : Nat) = 0 := by decide
    rw [if_neg n2, if_neg n2, if_neg n2, if_neg n3, if_neg n3, if_neg n3]
    by_cases e : mc M m = mc M l
    · rw [if_pos (by rw [e])]
      by_cases z : ¬ tb met m = true ∧ (k + 1 = L → mh M m = g) ∧ (¬ k + 1 = L → ¬ mh M m = g ∧ ¬ tb sts (mh M m) = true)
      · rw [if_pos ⟨z.1, n1, z.2⟩, if_pos ⟨z.1, e, z.2⟩]
      · rw [if_neg (fun q => z ⟨q.1, q.2.2⟩), if_neg (fun q => z ⟨q.1, q.2.2⟩)]
    · rw [if_neg (by rw [eq_n (by omega) (by omega)]; exact e), if_neg (fun q => q.2.1 rfl), if_neg (fun q => e q.2.1), gd_in (show 25 * s + m < 50 by omega) (show 50 ≤ 1000 by decide)]
end O39
