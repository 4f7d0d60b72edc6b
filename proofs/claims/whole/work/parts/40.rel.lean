/-! what binds the two: streams S, matches Ms of both sides, the text, the row -/
def upM (Ms : Nat → Mt) (s : Nat) (M : Mt) : Nat → Mt := fun t => if t = s then M else Ms t
def Inv (S : SS) (Ms : Nat → Mt) (tx : List Int32) (row : List Int64) : Prop := OK S ∧ (∀ s, s < 2 → VM S s (Ms s)) ∧ tx.length ≤ 120 ∧ row.length ≤ 24
def RXs (h : Hp) (S : SS) (Ms : Nat → Mt) : Prop := PS h 6 S.1 S.2.1 S.2.2.1 S.2.2.2.1 ∧ h.1 1 8 = S.2.2.2.2 ∧ CW h 16 S.1 S.2.1 S.2.2.1 S.2.2.2.1 S.2.2.2.2 ∧ ∀ s, s < 2 → SD h (26 + 14 * s) s S ∧ XM h (26 + 14 * s) S (Ms s)
def RMs (h : Hp) (S : SS) (Ms : Nat → Mt) : Prop := MQS h S ∧ ∀ s, s < 2 → MM h s (Ms s)
def TX (h : Hp) (tx : List Int32) : Prop := h.1 2 1 = nI tx.length ∧ ∀ k, k < tx.length → h.1 3 k = tx.getD k 0
def TM (h : Hp) (tx : List Int32) : Prop := h.1 54 4 = nI tx.length ∧ ∀ k, k < tx.length → h.1 56 k = tx.getD k 0
def WX (h : Hp) (row : List Int64) : Prop := h.1 4 1 = nI row.length ∧ ∀ k, k < row.length → h.2 5 k = row.getD k 0
def WMr (h : Hp) (row : List Int64) : Prop := h.1 54 1 = nI row.length ∧ ∀ k, k < row.length → h.2 55 k = row.getD k 0
def RX (h : Hp) (S : SS) (Ms : Nat → Mt) (tx : List Int32) (row : List Int64) : Prop := RXs h S Ms ∧ TX h tx ∧ WX h row
def RM (h : Hp) (S : SS) (Ms : Nat → Mt) (tx : List Int32) (row : List Int64) : Prop := RMs h S Ms ∧ TM h tx ∧ WMr h row
def Rel (h : Hp) (S : SS) (Ms : Nat → Mt) (tx : List Int32) (row : List Int64) : Prop := Inv S Ms tx row ∧ RX h S Ms tx row ∧ RM h S Ms tx row
theorem ck_sd {s : Nat} (hs : s < 2) : ck (26 + 14 * s) = 2 := by
  rcases (show s = 0 ∨ s = 1 by omega) with rfl | rfl <;> decide
def safeX (w : Nat × Option Nat) : Bool := decide (w.1 = 0 ∨ w.1 = 2 ∨ w.1 = 3 ∨ w.1 = 4 ∨ w.1 = 5 ∨ (11 ≤ w.1 ∧ w.1 ≤ 15) ∨ (21 ≤ w.1 ∧ w.1 ≤ 25) ∨ (37 ≤ w.1 ∧ w.1 ≤ 39) ∨ (51 ≤ w.1 ∧ w.1 ≤ 53) ∨ ((w.1 = 26 ∨ w.1 = 40) ∧ w.2 = some 16) ∨ 54 ≤ w.1)
def safeM (w : Nat × Option Nat) : Bool := decide (w.1 < 54 ∨ w.1 = 55 ∨ w.1 = 56 ∨ (60 ≤ w.1 ∧ w.1 ≤ 66) ∨ 71 ≤ w.1 ∨ (w.1 = 54 ∧ w.2 ≠ none ∧ w.2 ≠ some 7 ∧ w.2 ≠ some 11))
theorem RXs.fr {W : List (Nat × Option Nat)} {Z : List Nat} {h h' : Hp} {S : SS} {Ms : Nat → Mt} (hR : RXs h S Ms) (R : Fr W Z h h') (hw : W.all safeX = true) : RXs h' S Ms := by
  have hw' : ∀ w ∈ W, w.1 = 0 ∨ w.1 = 2 ∨ w.1 = 3 ∨ w.1 = 4 ∨ w.1 = 5 ∨ (11 ≤ w.1 ∧ w.1 ≤ 15) ∨ (21 ≤ w.1 ∧ w.1 ≤ 25) ∨ (37 ≤ w.1 ∧ w.1 ≤ 39) ∨ (51 ≤ w.1 ∧ w.1 ≤ 53) ∨ ((w.1 = 26 ∨ w.1 = 40) ∧ w.2 = some 16) ∨ 54 ≤ w.1 := fun w h => of_decide_eq_true (List.all_eq_true.mp hw w h)
  obtain ⟨p1, p2, p3, p4⟩ := hR
  refine ⟨p1.fr R (fun w hw => by have := hw' w hw; omega), (R.1 1 8 (fun q => by have := hw' _ q; simp at this) (fun q => by have := hw' _ q; simp at this)).trans p2, p3.fr R (fun w hw => by have := hw' w hw; omega), fun s hs => ?_⟩
  obtain ⟨q1, q2⟩ := p4 s hs
  refine ⟨q1.fr R (fun w hw => ?_), q2.fr R (fun w hw => ?_)⟩
  · have := hw' w hw
    rcases (show s = 0 ∨ s = 1 by omega) with rfl | rfl
    · by_cases c : w.1 = 26
      · exact Or.inr (Or.inr ⟨c, 16, by simp [c] at this; exact this, by omega⟩)
      · omega
    · by_cases c : w.1 = 40
      · exact Or.inr (Or.inr ⟨c, 16, by simp [c] at this; exact this, by omega⟩)
      · omega
  · have := hw' w hw
    rcases (show s = 0 ∨ s = 1 by omega) with rfl | rfl
    · by_cases c : w.1 = 26
      · exact Or.inr (Or.inr (Or.inr ⟨c, 16, by simp [c] at this; exact this, by omega⟩))
      · omega
    · by_cases c : w.1 = 40
      · exact Or.inr (Or.inr (Or.inr ⟨c, 16, by simp [c] at this; exact this, by omega⟩))
      · omega
theorem RMs.fr {W : List (Nat × Option Nat)} {Z : List Nat} {h h' : Hp} {S : SS} {Ms : Nat → Mt} (hR : RMs h S Ms) (R : Fr W Z h h') (hw : W.all safeM = true) : RMs h' S Ms := by
  have hw' : ∀ w ∈ W, w.1 < 54 ∨ w.1 = 55 ∨ w.1 = 56 ∨ (60 ≤ w.1 ∧ w.1 ≤ 66) ∨ 71 ≤ w.1 ∨ (w.1 = 54 ∧ w.2 ≠ none ∧ w.2 ≠ some 7 ∧ w.2 ≠ some 11) := fun w h => of_decide_eq_true (List.all_eq_true.mp hw w h)
  refine ⟨MQS.fr hR.1 R (List.all_eq_true.mpr (fun w h => ?_)), fun s hs => (hR.2 s hs).fr R (List.all_eq_true.mpr (fun w h => ?_))⟩
  · have := hw' w h
    simp only [Bool.and_eq_true, Bool.or_eq_true, bne_iff_ne, ne_eq]
    refine ⟨⟨⟨by omega, by omega⟩, by omega⟩, ?_⟩
    by_cases c : w.1 = 54
    · right
      simp only [c] at this
      simp at this
      exact ⟨⟨this.1, this.2.1⟩, this.2.2⟩
    · exact Or.inl c
  · have := hw' w h
    simp only [Bool.and_eq_true, bne_iff_ne, ne_eq]
    exact ⟨⟨⟨by omega, by omega⟩, by omega⟩, by omega⟩
theorem Fr.nm {W : List (Nat × Option Nat)} {Z : List Nat} {h h' : Hp} (R : Fr W Z h h') {p : Nat × Option Nat → Bool} (hw : W.all p = true) {c k : Nat} (h1 : p (c, none) = false) (h2 : p (c, some k) = false) : h'.1 c k = h.1 c k := R.1 c k (fun q => by have := List.all_eq_true.mp hw _ q; rw [h1] at this; cases this) (fun q => by have := List.all_eq_true.mp hw _ q; rw [h2] at this; cases this)
theorem TX.fr {W : List (Nat × Option Nat)} {Z : List Nat} {h h' : Hp} {tx : List Int32} (hR : TX h tx) (R : Fr W Z h h') (hw : W.all (fun w => w.1 != 3 && (w.1 != 2 || (w.2 != none && w.2 != some 1))) = true) : TX h' tx := ⟨(R.nm hw (by simp) (by simp)).trans hR.1, fun k hk => (R.nm hw (by simp) (by simp)).trans (hR.2 k hk)⟩
theorem TM.fr {W : List (Nat × Option Nat)} {Z : List Nat} {h h' : Hp} {tx : List Int32} (hR : TM h tx) (R : Fr W Z h h') (hw : W.all (fun w => w.1 != 56 && (w.1 != 54 || (w.2 != none && w.2 != some 4))) = true) : TM h' tx := ⟨(R.nm hw (by simp) (by simp)).trans hR.1, fun k hk => (R.nm hw (by simp) (by simp)).trans (hR.2 k hk)⟩
theorem WX.fr {W : List (Nat × Option Nat)} {Z : List Nat} {h h' : Hp} {row : List Int64} (hR : WX h row) (R : Fr W Z h h') (hw : W.all (fun w => w.1 != 4 || (w.2 != none && w.2 != some 1)) = true) (hz : Z.all (fun z => z != 5) = true) : WX h' row := ⟨(R.nm hw (by simp) (by simp)).trans hR.1, fun k hk => by rw [R.2 5 (fun q => by have := List.all_eq_true.mp hz _ q; simp at this)]; exact hR.2 k hk⟩
theorem WMr.fr {W : List (Nat × Option Nat)} {Z : List Nat} {h h' : Hp} {row : List Int64} (hR : WMr h row) (R : Fr W Z h h') (hw : W.all (fun w => w.1 != 54 || (w.2 != none && w.2 != some 1)) = true) (hz : Z.all (fun z => z != 55) = true) : WMr h' row := ⟨(R.nm hw (by simp) (by simp)).trans hR.1, fun k hk => by rw [R.2 55 (fun q => by have := List.all_eq_true.mp hz _ q; simp at this)]; exact hR.2 k hk⟩
theorem all_mono {W : List (Nat × Option Nat)} {p q : Nat × Option Nat → Bool} (h : W.all p = true) (hpq : ∀ w, p w = true → q w = true) : W.all q = true := List.all_eq_true.mpr (fun w hw => hpq w (List.all_eq_true.mp h w hw))
/-- what the reference writes leaves the class alone, and the other way round -/
theorem RX.frM {W : List (Nat × Option Nat)} {Z : List Nat} {h h' : Hp} {S : SS} {Ms : Nat → Mt} {tx : List Int32} {row : List Int64} (hR : RX h S Ms tx row) (R : Fr W Z h h') (hw : W.all (fun w => decide (54 ≤ w.1)) = true) (hz : Z.all (fun z => z != 5) = true) : RX h' S Ms tx row :=
  ⟨hR.1.fr R (all_mono hw (fun w q => by have := of_decide_eq_true q; exact decide_eq_true (by omega))), hR.2.1.fr R (all_mono hw (fun w q => by have := of_decide_eq_true q; simp; omega)), hR.2.2.fr R (all_mono hw (fun w q => by have := of_decide_eq_true q; simp; omega)) hz⟩
theorem RM.frX {W : List (Nat × Option Nat)} {Z : List Nat} {h h' : Hp} {S : SS} {Ms : Nat → Mt} {tx : List Int32} {row : List Int64} (hR : RM h S Ms tx row) (R : Fr W Z h h') (hw : W.all (fun w => decide (w.1 < 54)) = true) (hz : Z.all (fun z => z != 55) = true) : RM h' S Ms tx row :=
  ⟨hR.1.fr R (all_mono hw (fun w q => by have := of_decide_eq_true q; exact decide_eq_true (by omega))), hR.2.1.fr R (all_mono hw (fun w q => by have := of_decide_eq_true q; simp; omega)), hR.2.2.fr R (all_mono hw (fun w q => by have := of_decide_eq_true q; simp; omega)) hz⟩
/-! the row -/
theorem row_snoc {row : List Int64} {v : Int64} {k : Nat} (hk : k < (row ++ [v]).length) : (row ++ [v]).getD k 0 = if k = row.length then v else row.getD k 0 := by
  simp only [List.length_append, List.length_cons, List.length_nil] at hk
  by_cases c : k = row.length
  · rw [if_pos c, c]; simp
  · rw [if_neg c, List.getD_eq_getElem?_getD, List.getD_eq_getElem?_getD, List.getElem?_append_left (by omega)]
theorem X_add {h : Hp} {row : List Int64} (hR : WX h row) (hl : row.length < 24) (v : Int64) : ∃ h', sX4_add h v = some h' ∧ WX h' (row ++ [v]) := by
  have c1 : ¬ (24 : Int32) ≤ nI row.length := by
    show ¬ nI 24 ≤ nI row.length
    rw [le_n (by omega) (by omega)]; omega
  refine ⟨u1 (u2 h 5 row.length v) 4 1 (nI row.length + 1), ?_, ?_, fun k hk => ?_⟩
  · simp only [sX4_add, sX4_add_c32, hR.1, c1, if_false, gd_in (show row.length < 24 by omega) (show 24 ≤ 1000 by decide), cl_n (show row.length ≤ 100000 by omega), nm, rd2l]
  · rw [rd1s, nI_1]; simp
  · rw [row_snoc hk, rd1l, rd2]
    simp only [List.length_append, List.length_cons, List.length_nil] at hk
    by_cases c : k = row.length
    · rw [if_pos ⟨rfl, c⟩, if_pos c]
    · rw [if_neg (fun q => c q.2), if_neg c]
      exact hR.2 k (by omega)
theorem M_ent {h : Hp} {row : List Int64} (hR : WMr h row) (hl : row.length < 64) (v : Int64) : ∃ h', sX6_enters h v = some h' ∧ WMr h' (row ++ [v]) := by
  refine ⟨u1 (u2 h 55 row.length v) 54 1 (nI row.length + 1), ?_, ?_, fun k hk => ?_⟩
  · simp only [sX6_enters, hR.1, gd_in (show row.length < 64 by omega) (show 64 ≤ 1000 by decide), cl_n (show row.length ≤ 100000 by omega), nm, rd2l]
  · rw [rd1s, nI_1]; simp
  · rw [row_snoc hk, rd1l, rd2]
    simp only [List.length_append, List.length_cons, List.length_nil] at hk
    by_cases c : k = row.length
    · rw [if_pos ⟨rfl, c⟩, if_pos c]
    · rw [if_neg (fun q => c q.2), if_neg c]
      exact hR.2 k (by omega)
theorem X_emp (h : Hp) : sX4_empty h = some (u1 h 4 1 0) ∧ WX (u1 h 4 1 0) [] := ⟨rfl, rd1s, fun k hk => by simp at hk⟩
section Tl
variable {h : Hp} {S : SS} {Ms : Nat → Mt} {tx : List Int32} {row : List Int64}
theorem RX.add (hR : RX h S Ms tx row) (hl : row.length < 24) (v : Int64) : ∃ h', sX4_add h v = some h' ∧ RX h' S Ms tx (row ++ [v]) := by
  obtain ⟨h', e1, e2⟩ := X_add hR.2.2 hl v
  exact ⟨h', e1, hR.1.fr (fX4_add _ _ _ e1) (by decide), hR.2.1.fr (fX4_add _ _ _ e1) (by decide), e2⟩
theorem RX.emp (hR : RX h S Ms tx row) : sX4_empty h = some (u1 h 4 1 0) ∧ RX (u1 h 4 1 0) S Ms tx [] :=
  ⟨rfl, hR.1.fr (fX4_empty h _ rfl) (by decide), hR.2.1.fr (fX4_empty h _ rfl) (by decide), (X_emp h).2⟩
theorem RX.tell1 (hR : RX h S Ms tx row) (a : Int64) : ∃ h', sX4_tell h a = some h' ∧ RX h' S Ms tx [a] := by
  obtain ⟨e1, r1⟩ := hR.emp
  obtain ⟨h2, e2, r2⟩ := r1.add (by decide) a
  exact ⟨h2, by simp only [sX4_tell, e1, e2, Option.bind_some], r2⟩
theorem RX.tell2 (hR : RX h S Ms tx row) (a b : Int64) : ∃ h', sX4_tell_ h a b = some h' ∧ RX h' S Ms tx [a, b] := by
  obtain ⟨h1, e1, r1⟩ := hR.tell1 a
  obtain ⟨h2, e2, r2⟩ := r1.add (by simp) b
  exact ⟨h2, by simp only [sX4_tell_, e1, e2, Option.bind_some], r2⟩
theorem RX.tell3 (hR : RX h S Ms tx row) (a b c : Int64) : ∃ h', sX4_tell__ h a b c = some h' ∧ RX h' S Ms tx [a, b, c] := by
  obtain ⟨h1, e1, r1⟩ := hR.tell2 a b
  obtain ⟨h2, e2, r2⟩ := r1.add (by simp) c
  exact ⟨h2, by simp only [sX4_tell__, e1, e2, Option.bind_some], r2⟩
theorem RX.tell4 (hR : RX h S Ms tx row) (a b c d : Int64) : ∃ h', sX4_tell___ h a b c d = some h' ∧ RX h' S Ms tx [a, b, c, d] := by
  obtain ⟨h1, e1, r1⟩ := hR.tell3 a b c
  obtain ⟨h2, e2, r2⟩ := r1.add (by simp) d
  exact ⟨h2, by simp only [sX4_tell___, e1, e2, Option.bind_some], r2⟩
theorem RM.ent (hR : RM h S Ms tx row) (hl : row.length < 64) (v : Int64) : ∃ h', sX6_enters h v = some h' ∧ RM h' S Ms tx (row ++ [v]) ∧ Fr wX6_enters zX6_enters h h' := by
  obtain ⟨h', e1, e2⟩ := M_ent hR.2.2 hl v
  have F := fX6_enters _ _ _ e1
  exact ⟨h', e1, ⟨hR.1.fr F (by decide), hR.2.1.fr F (by decide), e2⟩, F⟩
theorem RM.row0 (hR : RM h S Ms tx row) : RM (u1 h 54 1 0) S Ms tx [] ∧ Fr [(54, some 1)] [] h (u1 h 54 1 0) := by
  have F : Fr [(54, some 1)] [] h (u1 h 54 1 0) := Fr.w1 Fr.rf rfl (by decide)
  exact ⟨⟨hR.1.fr F (by decide), hR.2.1.fr F (by decide), rd1s, fun k hk => by simp at hk⟩, F⟩
theorem RM.thr (hR : RM h S Ms tx row) (v : Int32) : RM (u1 h 54 0 v) S Ms tx row ∧ Fr [(54, some 0)] [] h (u1 h 54 0 v) := by
  have F : Fr [(54, some 0)] [] h (u1 h 54 0 v) := Fr.w1 Fr.rf rfl (by decide)
  exact ⟨⟨hR.1.fr F (by decide), hR.2.1.fr F (by decide), hR.2.2.fr F (by decide) (by decide)⟩, F⟩
theorem RM.works (hR : RM h S Ms tx row) (hn : S.1 ≤ 10) : ∃ h', sX6_works h = some h' ∧ RM h' S Ms tx row ∧ WM h' S.1 S.2.1 S.2.2.1 S.2.2.2.1 S.2.2.2.2 := by
  obtain ⟨h', e1, e2, e3⟩ := M_works hR.1.1 hn
  have F := fX6_works _ _ e1
  exact ⟨h', e1, ⟨hR.1.fr F (by decide), hR.2.1.fr F (by decide), hR.2.2.fr F (by decide) (by decide)⟩, e2⟩
theorem RM.finds (hR : RM h S Ms tx row) (ok : OK S) : ∃ h', sX6_finds h = some h' ∧ RM h' S Ms tx row ∧ FD h' S := by
  obtain ⟨h', e1, e2, e3, e4⟩ := M_finds hR.1.1 ok
  have F := fX6_finds _ _ e1
  exact ⟨h', e1, ⟨hR.1.fr F (by decide), hR.2.1.fr F (by decide), hR.2.2.fr F (by decide) (by decide)⟩, e3, e4⟩
theorem RX.settle {Ms' : Nat → Mt} (ok : OK S) (hP : PS h 6 S.1 S.2.1 S.2.2.1 S.2.2.2.1) (hg : h.1 1 8 = S.2.2.2.2) (hu0 : h.1 26 0 = 1) (hu1 : h.1 40 0 = -1) (hT : TX h tx) (hW : WX h row) : ∃ h', sX5_settle h = some h' ∧ RX h' S (fun _ => []) tx row := by
  have hn := ok.1
  obtain ⟨h1, e1, c1⟩ := C_work (h := h) (r := 16) (a := 6) (n := S.1) (F := S.2.1) (T := S.2.2.1) (C := S.2.2.2.1) (g := S.2.2.2.2) (by decide) (by decide) hP ok
  have F1 := fX0_work _ _ _ _ _ e1
  have P1 := hP.fr F1 (by decide)
  have g1 : h1.1 1 8 = S.2.2.2.2 := (F1.f (by decide)).trans hg
  have pa : sX0_pinchAt h1 16 = some (pinS S, h1) := C_pinchAt (by decide) ok c1
  obtain ⟨h2, e2, d1, d2, d3⟩ := S_lay (h := h1) (r := 26) (a := 6) (S := S) (s := 0) (by decide) (by decide) P1 hn ((F1.f (by decide)).trans hu0)
  have F2 := fX2_lay _ _ _ _ _ _ e2
  have P2 := P1.fr F2 (by decide)
  have C2 := c1.fr F2 (by decide)
  have g2 : h2.1 1 8 = S.2.2.2.2 := (F2.f (by decide)).trans g1
  have pb : sX0_pinchAt h2 16 = some (pinS S, h2) := C_pinchAt (by decide) ok C2
  obtain ⟨h3, e3, f1, f2, f3⟩ := S_lay (h := h2) (r := 40) (a := 6) (S := S) (s := 1) (by decide) (by decide) P2 hn ((F2.f (by decide)).trans ((F1.f (by decide)).trans hu1))
  have F3 := fX2_lay _ _ _ _ _ _ e3
  have D3 : SD h3 26 0 S := d1.fr F3 (by
    have : ∀ w ∈ wX2_lay 40 6, w.1 < 26 ∨ 26 + 6 < w.1 := by decide
    exact fun w hw => by have := this w hw; omega)
  refine ⟨h3, ?_, ⟨P2.fr F3 (by decide), (F3.f (by decide)).trans g2, C2.fr F3 (by decide), fun s hs => ?_⟩, ((hT.fr F1 (by decide)).fr F2 (by decide)).fr F3 (by decide), ((hW.fr F1 (by decide) (by decide)).fr F2 (by decide) (by decide)).fr F3 (by decide) (by decide)⟩
  · simp only [sX5_settle, hg, e1, Option.bind_some, pa, g1, e2, pb, g2, e3]
  · rcases (show s = 0 ∨ s = 1 by omega) with rfl | rfl
    · refine ⟨D3, (F3.f (by decide)).trans d2, fun k hk => by simp at hk, fun i hi => ?_⟩
      show h3.1 33 i = 0
      exact (F3.c (by decide) i).trans (d3 i hi)
    · exact ⟨f1, f2, fun k hk => by simp at hk, f3⟩
end Tl
theorem asm {S : SS} {Ms : Nat → Mt} {tx : List Int32} {row : List Int64} {hx hm : Hp} {W : List (Nat × Option Nat)} {Z : List Nat} (I : Inv S Ms tx row) (X : RX hx S Ms tx row) (M : RM hm S Ms tx row) (F : Fr W Z hx hm) (hw : W.all (fun w => decide (54 ≤ w.1)) = true) (hz : Z.all (fun z => z != 5) = true) : Rel hm S Ms tx row := ⟨I, X.frM F hw hz, M⟩
