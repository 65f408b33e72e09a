/-! texts: the class reads character by character, the model part by part -/
theorem zL44 : (44 : Int32) = zI 44 := by decide
theorem zL57' : (57 : Int32) = zI 57 := by decide
theorem zL120' : (120 : Int32) = zI 120 := by decide
theorem zL99' : (99 : Int32) = zI 99 := by decide
theorem nn1 : ((1 : Int32) = 2) = False := eq_false (by decide)
theorem nn2 : ((2 : Int32) = 0) = False := eq_false (by decide)
theorem nn3 : ((0 : Int32) = 2) = False := eq_false (by decide)
section TXA
variable {tt : Nat → Int32} {pl di ti st : Int32}
theorem kDig {a : Int} (ha : 48 ≤ a ∧ a ≤ 57) {r pl2 di2 ti2 : Int32} (e : fX5_takesDigit pl di ti st (zI (a - 48)) = some (r, pl2, di2, ti2)) (hr : r = 0 ∨ r = 1) : fX5_takes tt pl di ti st (zI a) = some (r, tt, pl2, di2, ti2, st) := by
  have c1 : (zI a < (48 : Int32)) = False := eq_false (by rw [zL48, zI_lt (by omega)]; omega)
  have c2 : ((57 : Int32) < zI a) = False := eq_false (by rw [zL57', zI_lt (by omega)]; omega)
  have c3 : zI a - 48 = zI (a - 48) := by rw [zL48, zI_sub]
  have c4 : (r = 0 ∨ r = 1) = True := eq_true hr
  simp only [fX5_takes, c1, c2, c3, e, c4, Option.bind_some, ↓reduceIte]
theorem kTim {r pl2 : Int32} (e : fX5_takesTimes pl di = some (r, pl2)) (hr : r = 0 ∨ r = 1) : fX5_takes tt pl di ti st (zI 120) = some (r, tt, pl2, di, ti, st) := by
  have c1 : (zI 120 < (48 : Int32)) = False := eq_false (by decide)
  have c2 : ((57 : Int32) < zI 120) = True := eq_true (by decide)
  have c3 : (zI 120 = (120 : Int32)) = True := eq_true (by decide)
  have c4 : (r = 0 ∨ r = 1) = True := eq_true hr
  simp only [fX5_takes, c1, c2, c3, e, c4, Option.bind_some, ↓reduceIte]
theorem kComY {tt2 : Nat → Int32} {pl2 di2 ti2 st2 : Int32} (e : fX5_takesComma tt pl di ti st = some (1, tt2, pl2, di2, ti2, st2)) : fX5_takes tt pl di ti st (zI 44) = some (1, tt2, pl2, di2, ti2, st2) := by
  have c1 : (zI 44 < (48 : Int32)) = True := eq_true (by decide)
  have c2 : (zI 44 = (120 : Int32)) = False := eq_false (by decide)
  have c3 : (zI 44 = (44 : Int32)) = True := eq_true (by decide)
  simp only [fX5_takes, c1, c2, c3, e, e10, Option.bind_some, ↓reduceIte]
theorem kComN {tt2 : Nat → Int32} {pl2 di2 ti2 st2 : Int32} (e : fX5_takesComma tt pl di ti st = some (0, tt2, pl2, di2, ti2, st2)) : fX5_takes tt pl di ti st (zI 44) = some (0, tt2, pl2, di2, ti2, st2) := by
  have c1 : (zI 44 < (48 : Int32)) = True := eq_true (by decide)
  have c2 : (zI 44 = (120 : Int32)) = False := eq_false (by decide)
  have c3 : (zI 44 = (44 : Int32)) = True := eq_true (by decide)
  simp only [fX5_takes, c1, c2, c3, e, Option.bind_some, ↓reduceIte]
theorem kOth {a : Int} (ha : 33 ≤ a ∧ a ≤ 126) (h1 : ¬ (48 ≤ a ∧ a ≤ 57)) (h2 : a ≠ 120) (h3 : a ≠ 44) : fX5_takes tt pl di ti st (zI a) = some (0, tt, pl, di, ti, st) := by
  have c2 : (zI a = (120 : Int32)) = False := eq_false (by rw [zL120', zI_eq (by omega)]; exact h2)
  have c3 : (zI a = (44 : Int32)) = False := eq_false (by rw [zL44, zI_eq (by omega)]; exact h3)
  by_cases h : a < 48
  · have c1 : (zI a < (48 : Int32)) = True := eq_true (by rw [zL48, zI_lt (by omega)]; exact h)
    simp only [fX5_takes, c1, c2, c3, ↓reduceIte]
  · have c1 : (zI a < (48 : Int32)) = False := eq_false (by rw [zL48, zI_lt (by omega)]; exact h)
    have c4 : ((57 : Int32) < zI a) = True := eq_true (by rw [zL57', zI_lt (by omega)]; omega)
    simp only [fX5_takes, c1, c2, c3, c4, ↓reduceIte]
theorem dg0 {D e : Int} (hD : 0 ≤ D ∧ D ≤ 99) (he : 0 ≤ e ∧ e ≤ 9) : fX5_takesDigit 0 (zI D) ti st (zI e) = some (if 1 ≤ D * 10 + e ∧ D * 10 + e ≤ 99 then (1, 0, zI (D * 10 + e), ti) else (0, 0, zI D, ti)) := by
  have c0 : zI D * 10 + zI e = zI (D * 10 + e) := by rw [show (10 : Int32) = zI 10 from by decide, zI_mul, zI_add]
  by_cases h1 : 1 ≤ D * 10 + e
  · have c1 : (zI (D * 10 + e) < (1 : Int32)) = False := eq_false (by rw [zL1, zI_lt (by omega)]; omega)
    by_cases h2 : D * 10 + e ≤ 99
    · have c2 : (zI (D * 10 + e) ≤ (99 : Int32)) = True := eq_true (by rw [zL99', zI_le (by omega)]; exact h2)
      rw [if_pos ⟨h1, h2⟩]
      simp only [fX5_takesDigit, fX5_takesDiameter, c0, c1, c2, e10, true_or, or_true, Option.bind_some, ↓reduceIte]
    · have c2 : (zI (D * 10 + e) ≤ (99 : Int32)) = False := eq_false (by rw [zL99', zI_le (by omega)]; exact h2)
      rw [if_neg (fun h => h2 h.2)]
      simp only [fX5_takesDigit, fX5_takesDiameter, c0, c1, c2, e10, true_or, or_true, Option.bind_some, ↓reduceIte]
  · have c1 : (zI (D * 10 + e) < (1 : Int32)) = True := eq_true (by rw [zL1, zI_lt (by omega)]; omega)
    rw [if_neg (fun h => h1 h.1)]
    simp only [fX5_takesDigit, fX5_takesDiameter, c0, c1, e10, true_or, or_true, Option.bind_some, ↓reduceIte]
theorem num {x t : Int} (hx : 0 ≤ x ∧ x ≤ 1000) (ht : 0 ≤ t ∧ t ≤ 16) : fX5_takesNumber pl ti (zI t) (zI x) = some (if 1 ≤ x ∧ t + x ≤ 16 then (1, 2, zI x) else (0, pl, ti)) := by
  unfold fX5_takesNumber
  rw [zL1, zL16, zI_add, zi_lt (by omega), zi_le (by omega)]
  by_cases h1 : 1 ≤ x
  · rw [if_neg (by omega)]
    by_cases h2 : t + x ≤ 16
    · rw [if_pos h2, if_pos ⟨h1, h2⟩]
    · rw [if_neg h2, if_neg (fun h => h2 h.2)]
  · rw [if_pos (by omega), if_neg (fun h => h1 h.1)]
theorem dg1 {e t : Int} (he : 0 ≤ e ∧ e ≤ 9) (ht : 0 ≤ t ∧ t ≤ 16) : fX5_takesDigit 1 di ti (zI t) (zI e) = some (if 1 ≤ e ∧ t + e ≤ 16 then (1, 2, di, zI e) else (0, 1, di, ti)) := by
  by_cases h : 1 ≤ e ∧ t + e ≤ 16
  · have c := num (pl := 1) (ti := ti) (x := e) (t := t) (by omega) ht
    rw [if_pos h] at c ⊢
    simp only [fX5_takesDigit, e10, nn1, c, true_or, or_true, Option.bind_some, ↓reduceIte]
  · have c := num (pl := 1) (ti := ti) (x := e) (t := t) (by omega) ht
    rw [if_neg h] at c ⊢
    simp only [fX5_takesDigit, e10, nn1, c, true_or, or_true, Option.bind_some, ↓reduceIte]
theorem dg2 {e t T : Int} (he : 0 ≤ e ∧ e ≤ 9) (ht : 0 ≤ t ∧ t ≤ 16) (hT : 0 ≤ T ∧ T ≤ 16) : fX5_takesDigit 2 di (zI T) (zI t) (zI e) = some (if 1 ≤ T * 10 + e ∧ t + (T * 10 + e) ≤ 16 then (1, 2, di, zI (T * 10 + e)) else (0, 2, di, zI T)) := by
  have c0 : zI T * 10 + zI e = zI (T * 10 + e) := by rw [show (10 : Int32) = zI 10 from by decide, zI_mul, zI_add]
  by_cases h : 1 ≤ T * 10 + e ∧ t + (T * 10 + e) ≤ 16
  · have c := num (pl := 2) (ti := zI T) (x := T * 10 + e) (t := t) (by omega) ht
    rw [if_pos h] at c ⊢
    simp only [fX5_takesDigit, nn2, c0, c, true_or, or_true, Option.bind_some, ↓reduceIte]
  · have c := num (pl := 2) (ti := zI T) (x := T * 10 + e) (t := t) (by omega) ht
    rw [if_neg h] at c ⊢
    simp only [fX5_takesDigit, nn2, c0, c, true_or, or_true, Option.bind_some, ↓reduceIte]
theorem cpe0 {D : Int} (hD : 0 ≤ D ∧ D ≤ 99) : fX5_canPartEnd 0 (zI D) = some (if D < 5 then 0 else 1) := by
  have c0 : (zI D < (5 : Int32)) = (D < 5) := by rw [show (5 : Int32) = zI 5 by decide, zI_lt (by omega)]
  by_cases h : D < 5
  · have c1 := eq_true h
    rw [if_pos h]
    rw [c1] at c0
    simp only [fX5_canPartEnd, nn3, c0, ↓reduceIte]
  · have c1 := eq_false h
    rw [if_neg h]
    rw [c1] at c0
    simp only [fX5_canPartEnd, nn3, c0, ↓reduceIte]
theorem cpe1 : fX5_canPartEnd 1 di = some 0 := by simp only [fX5_canPartEnd, nn1, e10, ↓reduceIte]
theorem cpe2 : fX5_canPartEnd 2 di = some 1 := by simp only [fX5_canPartEnd, ↓reduceIte]
theorem cTell {D : Int} {T t : Nat} (h : t + T ≤ 16) : fX5_tellPart tt (zI D) (zI (T : Int)) (zI (t : Int)) = some ((fun j => if t ≤ j ∧ j < t + T then zI D else tt j), zI ((t + T : Nat) : Int)) := by
  have key := loopG (S := Nat → Int32) (L := fun n i s => fX5_tellPart_L2 (zI D) (zI (T : Int)) (zI (t : Int)) n (zI (i : Int)) s) (g := fun i s => upd s (t + i) (zI D)) (N := T) (P := fun i s => s = fun j => if t ≤ j ∧ j < t + i then zI D else tt j) (out := id) (by
      intro n s _
      try dsimp only
      rw [fX5_tellPart_L2]
      exact ite_t (by rw [zI_le (by omega)]; omega)) (by
      intro n i s hi _
      try dsimp only
      rw [fX5_tellPart_L2, ite_n (by rw [zI_le (by omega)]; omega), zI_add, show ((t : Int) + i) = ((t + i : Nat) : Int) by omega, zcX8_put (by omega) (by omega), Option.bind_some, zL1, zI_add]
      rfl) (by
      intro i s hi e
      subst e
      funext j
      unfold upd
      try dsimp only
      by_cases h9 : j = t + i
      · rw [if_pos h9, if_pos (by omega)]
      · rw [if_neg h9]
        by_cases h8 : t ≤ j ∧ j < t + i
        · rw [if_pos h8, if_pos (by omega)]
        · rw [if_neg h8, if_neg (by omega)])
  obtain ⟨k1, k2⟩ := key T 0 2000 tt (by omega) (by omega) (by
    funext j
    rw [if_neg (by omega)])
  unfold fX5_tellPart
  rw [show fX5_tellPart_L2 (zI D) (zI (T : Int)) (zI (t : Int)) 2000 0 tt = _ from k1, Option.bind_some, k2, zI_add]
  rfl
theorem comY {D : Int} {T t : Nat} (hp : fX5_canPartEnd pl (zI D) = some 1) (h : t + T < 16) : fX5_takes tt pl (zI D) (zI (T : Int)) (zI (t : Int)) (zI 44) = some (1, (fun j => if t ≤ j ∧ j < t + T then zI D else tt j), 0, 0, 1, zI ((t + T : Nat) : Int)) := by
  have c1 : (zI (t : Int) + zI (T : Int) < (16 : Int32)) = True := eq_true (by rw [zI_add, zL16, zI_lt (by omega)]; omega)
  exact kComY (by simp only [fX5_takesComma, hp, e10, c1, cTell (tt := tt) (D := D) (show t + T ≤ 16 by omega), fX5_beginPart, Option.bind_some, ↓reduceIte])
theorem comF {D : Int} {T t : Nat} (hp : fX5_canPartEnd pl (zI D) = some 1) (h : t + T = 16) : fX5_takes tt pl (zI D) (zI (T : Int)) (zI (t : Int)) (zI 44) = some (0, tt, pl, zI D, zI (T : Int), zI (t : Int)) := by
  have c1 : (zI (t : Int) + zI (T : Int) < (16 : Int32)) = False := eq_false (by rw [zI_add, zL16, zI_lt (by omega)]; omega)
  exact kComN (by simp only [fX5_takesComma, hp, e10, c1, Option.bind_some, ↓reduceIte])
theorem comN (hp : fX5_canPartEnd pl di = some 0) : fX5_takes tt pl di ti st (zI 44) = some (0, tt, pl, di, ti, st) :=
  kComN (by simp only [fX5_takesComma, hp, Option.bind_some, ↓reduceIte])
theorem timY {D : Int} (hD : 5 ≤ D ∧ D ≤ 99) : fX5_takes tt 0 (zI D) ti st (zI 120) = some (1, tt, 1, zI D, ti, st) := by
  have c1 : ((5 : Int32) ≤ zI D) = True := eq_true (by rw [show (5 : Int32) = zI 5 by decide, zI_le (by omega)]; omega)
  exact kTim (by simp only [fX5_takesTimes, c1, ↓reduceIte]) (Or.inr rfl)
theorem timN0 {D : Int} (hD : 0 ≤ D ∧ D < 5) : fX5_takes tt 0 (zI D) ti st (zI 120) = some (0, tt, 0, zI D, ti, st) := by
  have c1 : ((5 : Int32) ≤ zI D) = False := eq_false (by rw [show (5 : Int32) = zI 5 by decide, zI_le (by omega)]; omega)
  exact kTim (by simp only [fX5_takesTimes, c1, ↓reduceIte]) (Or.inl rfl)
theorem timN (hp : pl = 1 ∨ pl = 2) : fX5_takes tt pl di ti st (zI 120) = some (0, tt, pl, di, ti, st) := by
  rcases hp with rfl | rfl
  · exact kTim (by simp only [fX5_takesTimes, e10, ↓reduceIte]) (Or.inl rfl)
  · exact kTim (by simp only [fX5_takesTimes, nn2, ↓reduceIte]) (Or.inl rfl)
/-- nothing that the class takes in a diameter -/
theorem stop0 {D a : Int} (hD : 0 ≤ D ∧ D ≤ 99) (ha : 33 ≤ a ∧ a ≤ 126) (h1 : 48 ≤ a → a ≤ 57 → ¬ (1 ≤ D * 10 + (a - 48) ∧ D * 10 + (a - 48) ≤ 99)) (h2 : a = 120 → D < 5) (h3 : a = 44 → D < 5) : fX5_takes tt 0 (zI D) ti st (zI a) = some (0, tt, 0, zI D, ti, st) := by
  by_cases c1 : 48 ≤ a ∧ a ≤ 57
  · refine kDig c1 ?_ (Or.inl rfl)
    rw [dg0 hD (by omega), if_neg (h1 c1.1 c1.2)]
  · by_cases c2 : a = 120
    · subst c2
      exact timN0 (by have := h2 rfl; omega)
    · by_cases c3 : a = 44
      · subst c3
        exact comN (by rw [cpe0 hD, if_pos (h3 rfl)])
      · exact kOth ha c1 c2 c3
theorem stop1 {t a : Int} (ht : 0 ≤ t ∧ t ≤ 16) (ha : 33 ≤ a ∧ a ≤ 126) (h1 : 48 ≤ a → a ≤ 57 → ¬ (1 ≤ a - 48 ∧ t + (a - 48) ≤ 16)) : fX5_takes tt 1 di ti (zI t) (zI a) = some (0, tt, 1, di, ti, zI t) := by
  by_cases c1 : 48 ≤ a ∧ a ≤ 57
  · refine kDig c1 ?_ (Or.inl rfl)
    rw [dg1 (by omega) ht, if_neg (h1 c1.1 c1.2)]
  · by_cases c2 : a = 120
    · subst c2
      exact timN (Or.inl rfl)
    · by_cases c3 : a = 44
      · subst c3
        exact comN cpe1
      · exact kOth ha c1 c2 c3
theorem stop2 {t T a : Int} (ht : 0 ≤ t ∧ t ≤ 16) (hT : 0 ≤ T ∧ T ≤ 16) (ha : 33 ≤ a ∧ a ≤ 126) (h1 : 48 ≤ a → a ≤ 57 → ¬ (1 ≤ T * 10 + (a - 48) ∧ t + (T * 10 + (a - 48)) ≤ 16)) (h3 : a ≠ 44) : fX5_takes tt 2 di (zI T) (zI t) (zI a) = some (0, tt, 2, di, zI T, zI t) := by
  by_cases c1 : 48 ≤ a ∧ a ≤ 57
  · refine kDig c1 ?_ (Or.inl rfl)
    rw [dg2 (by omega) ht hT, if_neg (h1 c1.1 c1.2)]
  · by_cases c2 : a = 120
    · subst c2
      exact timN (Or.inr rfl)
    · exact kOth ha c1 c2 h3
end TXA
/-! the buffer -/
def TxC (tc xtx : Nat → Int32) (n : Nat) (c : Nat → Int) : Prop := n ≤ 60 ∧ ∀ j : Nat, j < n → (33 ≤ c j ∧ c j ≤ 126) ∧ tc j = zI (c j) ∧ xtx j = zI (c j)
def sg (c : Nat → Int) (n a : Nat) : Int := if a < n then c a else 0
def Agr (tt xs : Nat → Int32) (t : Nat) : Prop := ∀ j : Nat, j < t → ∃ a : Int, (5 ≤ a ∧ a ≤ 99) ∧ tt j = zI a ∧ xs (1404 + j) = zI a
def Res (n : Nat) (xs : Nat → Int32) (A : Option (Int32 × (Nat → Int32) × Int32 × Int32 × Int32 × Int32)) (M : Option ((Nat → Int32) × Int32 × Int32 × Int32 × Int32)) : Prop :=
  ∃ (r : Nat) (tt2 : Nat → Int32) (pl di ti st : Int32) (xs2 : Nat → Int32) (xdi2 xma2 to2 : Int32), A = some (zI (r : Int), tt2, pl, di, ti, st) ∧ M = some (xs2, zI (r : Int), xdi2, xma2, to2) ∧ r ≤ n ∧ (∀ i : Nat, i < 1404 → xs2 i = xs i) ∧
    ((to2 = 16 ∧ fX5_canPartEnd pl di = some 1 ∧ ∃ tt3 : Nat → Int32, fX5_tellPart tt2 di ti st = some (tt3, 16) ∧ Agr tt3 xs2 16) ∨
     (to2 ≠ 16 ∧ (fX5_canPartEnd pl di = some 0 ∨ (fX5_canPartEnd pl di = some 1 ∧ ∃ (tt3 : Nat → Int32) (u : Int32), fX5_tellPart tt2 di ti st = some (tt3, u) ∧ u ≠ 16))))
section TXB
variable {tc xtx tt xs : Nat → Int32} {n : Nat} {c : Nat → Int} {pl di ti st : Int32}
theorem sg_b (h : TxC tc xtx n c) (a : Nat) : 0 ≤ sg c n a ∧ sg c n a ≤ 126 := by
  unfold sg
  by_cases ha : a < n
  · rw [if_pos ha]; have := (h.2 a ha).1; omega
  · rw [if_neg ha]; omega
theorem sg_lt {a : Nat} {x : Int} (e : sg c n a = x) (hx : x ≠ 0) : a < n ∧ c a = x := by
  unfold sg at e
  by_cases ha : a < n
  · rw [if_pos ha] at e; exact ⟨ha, e⟩
  · rw [if_neg ha] at e; exact absurd e.symm hx
theorem clN {m r : Nat} {tt2 : Nat → Int32} {pl2 di2 ti2 st2 : Int32} (h : TxC tc xtx n c) (hr : r < n) (e : fX5_takes tt pl di ti st (zI (c r)) = some (1, tt2, pl2, di2, ti2, st2)) : fX5_readable_L11 tc (zI (n : Int)) (m + 1) (zI (r : Int)) tt pl di ti st = fX5_readable_L11 tc (zI (n : Int)) m (zI ((r + 1 : Nat) : Int)) tt2 pl2 di2 ti2 st2 := by
  have hn := h.1
  rw [fX5_readable_L11, ite_n (by rw [zI_le (by omega)]; omega), zcX8_at (by omega) (show r < 60 by omega), Option.bind_some, (h.2 r hr).2.1, e, Option.bind_some]
  try dsimp only
  rw [if_neg (by decide), zL1, zI_add]
  rfl
theorem clS {m r : Nat} (h : TxC tc xtx n c) (hr : r ≤ n) (e : r < n → fX5_takes tt pl di ti st (zI (c r)) = some (0, tt, pl, di, ti, st)) : fX5_readable_L11 tc (zI (n : Int)) (m + 1) (zI (r : Int)) tt pl di ti st = some (zI (r : Int), tt, pl, di, ti, st) := by
  have hn := h.1
  rw [fX5_readable_L11]
  by_cases hr2 : r < n
  · rw [ite_n (by rw [zI_le (by omega)]; omega), zcX8_at (by omega) (show r < 60 by omega), Option.bind_some, (h.2 r hr2).2.1, e hr2, Option.bind_some]
    try dsimp only
    exact if_pos rfl
  · exact ite_t (by rw [zI_le (by omega)]; omega)
theorem mSign (h : TxC tc xtx n c) {a : Nat} (ha : a ≤ n) : fX10_sign xtx (zI (n : Int)) (zI (a : Int)) = some (zI (sg c n a)) := by
  have hn := h.1
  unfold fX10_sign sg
  by_cases ha2 : a < n
  · rw [ite_n (by rw [zI_le (by omega)]; omega), ite_t (show ¬ (zI (a : Int) < 0 ∨ 60 ≤ (zI (a : Int)).toNatClampNeg) from zI_ix (n := 60) (by omega)), zI_cl (by omega), Int.toNat_natCast, (h.2 a ha2).2.2, if_pos ha2]
  · rw [ite_t (by rw [zI_le (by omega)]; omega), if_neg ha2]
    rfl
theorem mFig (h : TxC tc xtx n c) {a : Nat} (ha : a ≤ n) {lo hi : Int} (hl : 0 ≤ lo ∧ lo ≤ 9 ∧ -20 ≤ hi ∧ hi ≤ 9) : fX10_figure xtx (zI (n : Int)) (zI (a : Int)) (zI lo) (zI hi) = some (if 48 + lo ≤ sg c n a ∧ sg c n a ≤ 48 + hi then (zI (sg c n a - 48), zI ((a + 1 : Nat) : Int)) else (-1, zI (a : Int))) := by
  have hn := h.1
  have hs := sg_b h a
  unfold fX10_figure
  rw [mSign h ha, Option.bind_some, zL48, zI_add, zI_add, mX10_in (by omega), Option.bind_some]
  by_cases k : 48 + lo ≤ sg c n a ∧ sg c n a ≤ 48 + hi
  · rw [if_pos k, if_neg (by decide), Option.bind_some, zI_sub, if_neg (by rw [zLm, zI_eq (by omega)]; omega), if_pos k, zL1, zI_add]
    rfl
  · rw [if_neg k, if_pos rfl, if_neg k, zL0, zI_add, Int.add_zero]
theorem mTak (h : TxC tc xtx n c) {a : Nat} (ha : a ≤ n) {x : Int} (hx : 0 ≤ x ∧ x ≤ 200) : fX10_takes xtx (zI (n : Int)) (zI (a : Int)) (zI x) = some (if sg c n a = x then (1, zI ((a + 1 : Nat) : Int)) else (0, zI (a : Int))) := by
  have hs := sg_b h a
  unfold fX10_takes
  rw [mSign h ha, Option.bind_some]
  by_cases k : sg c n a = x
  · rw [if_pos (by rw [k]), if_pos k, zL1, zI_add]
    rfl
  · rw [if_neg (by rw [zI_eq (by omega)]; exact k), if_neg k, zL0, zI_add, Int.add_zero]
theorem mDia0 (h : TxC tc xtx n c) {a : Nat} (ha : a ≤ n) (k : ¬ (49 ≤ sg c n a ∧ sg c n a ≤ 57)) : fX10_readsDiameter xtx (zI (n : Int)) (zI (a : Int)) = some (0, zI (a : Int), -1) := by
  have e := mFig h ha (lo := 1) (hi := 9) (by omega)
  rw [if_neg (by omega)] at e
  have e2 : fX10_figure xtx (zI (n : Int)) (zI (a : Int)) 1 9 = some (-1, zI (a : Int)) := e
  have c1 : ((-1 : Int32) < 5) = True := eq_true (by decide)
  simp only [fX10_readsDiameter, e2, c1, Option.bind_some, ↓reduceIte]
theorem mDia1 (h : TxC tc xtx n c) {a : Nat} (ha : a ≤ n) (k : 49 ≤ sg c n a ∧ sg c n a ≤ 57) (k2 : ¬ (48 ≤ sg c n (a + 1) ∧ sg c n (a + 1) ≤ 57)) : fX10_readsDiameter xtx (zI (n : Int)) (zI (a : Int)) = some (if sg c n a - 48 < 5 then (0, zI ((a + 1 : Nat) : Int), zI (sg c n a - 48)) else (1, zI ((a + 1 : Nat) : Int), zI (sg c n a - 48))) := by
  have han := (sg_lt (c := c) (n := n) (a := a) rfl (by omega)).1
  have e := mFig h ha (lo := 1) (hi := 9) (by omega)
  rw [if_pos (by omega)] at e
  have e2 : fX10_figure xtx (zI (n : Int)) (zI (a : Int)) 1 9 = _ := e
  have f := mFig h (show a + 1 ≤ n by omega) (lo := 0) (hi := 9) (by omega)
  rw [if_neg (by omega)] at f
  have f2 : fX10_figure xtx (zI (n : Int)) (zI ((a + 1 : Nat) : Int)) 0 9 = _ := f
  have c1 : (zI (sg c n a - 48) = (-1 : Int32)) = False := eq_false (by rw [zLm, zI_eq (by omega)]; omega)
  have c2 : (zI (sg c n a - 48) < (5 : Int32)) = (sg c n a - 48 < 5) := by rw [show (5 : Int32) = zI 5 by decide, zI_lt (by omega)]
  by_cases k3 : sg c n a - 48 < 5
  · rw [if_pos k3]
    rw [eq_true k3] at c2
    simp only [fX10_readsDiameter, e2, f2, c1, c2, Option.bind_some, ↓reduceIte]
  · rw [if_neg k3]
    rw [eq_false k3] at c2
    simp only [fX10_readsDiameter, e2, f2, c1, c2, Option.bind_some, ↓reduceIte]
theorem mDia2 (h : TxC tc xtx n c) {a : Nat} (ha : a ≤ n) (k : 49 ≤ sg c n a ∧ sg c n a ≤ 57) (k2 : 48 ≤ sg c n (a + 1) ∧ sg c n (a + 1) ≤ 57) : fX10_readsDiameter xtx (zI (n : Int)) (zI (a : Int)) = some (1, zI ((a + 2 : Nat) : Int), zI (10 * (sg c n a - 48) + (sg c n (a + 1) - 48))) := by
  have han := (sg_lt (c := c) (n := n) (a := a) rfl (by omega)).1
  have e := mFig h ha (lo := 1) (hi := 9) (by omega)
  rw [if_pos (by omega)] at e
  have e2 : fX10_figure xtx (zI (n : Int)) (zI (a : Int)) 1 9 = _ := e
  have f := mFig h (show a + 1 ≤ n by omega) (lo := 0) (hi := 9) (by omega)
  rw [if_pos (by omega)] at f
  have f2 : fX10_figure xtx (zI (n : Int)) (zI ((a + 1 : Nat) : Int)) 0 9 = some (zI (sg c n (a + 1) - 48), zI ((a + 2 : Nat) : Int)) := f
  have c1 : (zI (sg c n a - 48) = (-1 : Int32)) = False := eq_false (by rw [zLm, zI_eq (by omega)]; omega)
  have c3 : (zI (sg c n (a + 1) - 48) = (-1 : Int32)) = False := eq_false (by rw [zLm, zI_eq (by omega)]; omega)
  have c4 : (10 : Int32) * zI (sg c n a - 48) + zI (sg c n (a + 1) - 48) = zI (10 * (sg c n a - 48) + (sg c n (a + 1) - 48)) := by rw [show (10 : Int32) = zI 10 by decide, zI_mul, zI_add]
  have c2 : (zI (10 * (sg c n a - 48) + (sg c n (a + 1) - 48)) < (5 : Int32)) = False := eq_false (by rw [show (5 : Int32) = zI 5 by decide, zI_lt (by omega)]; omega)
  simp only [fX10_readsDiameter, e2, f2, c1, c3, c4, c2, Option.bind_some, ↓reduceIte]
theorem mSt0 (h : TxC tc xtx n c) {a : Nat} (ha : a ≤ n) (k : sg c n a ≠ 120) {m : Int32} : fX10_readsSteps xtx (zI (n : Int)) (zI (a : Int)) m = some (1, zI (a : Int), 1) := by
  have e := mTak h ha (x := 120) (by omega)
  rw [if_neg k] at e
  have e2 : fX10_takes xtx (zI (n : Int)) (zI (a : Int)) 120 = _ := e
  simp only [fX10_readsSteps, e2, Option.bind_some, ↓reduceIte]
theorem mSt1 (h : TxC tc xtx n c) {a : Nat} (ha : a ≤ n) (k : sg c n a = 120) {m : Int} (hm : 1 ≤ m ∧ m ≤ 16) (k2 : ¬ (49 ≤ sg c n (a + 1) ∧ sg c n (a + 1) ≤ 57 ∧ sg c n (a + 1) - 48 ≤ m)) : fX10_readsSteps xtx (zI (n : Int)) (zI (a : Int)) (zI m) = some (0, zI ((a + 1 : Nat) : Int), -1) := by
  have han := (sg_lt (c := c) (n := n) k (by omega)).1
  have e := mTak h ha (x := 120) (by omega)
  rw [if_pos k] at e
  have e2 : fX10_takes xtx (zI (n : Int)) (zI (a : Int)) 120 = _ := e
  have c1 : ((-1 : Int32) = 1) = False := eq_false (by decide)
  by_cases k9 : 9 ≤ m
  · have c9 : ((9 : Int32) ≤ zI m) = True := eq_true (by rw [show (9 : Int32) = zI 9 by decide, zI_le (by omega)]; exact k9)
    have f := mFig h (show a + 1 ≤ n by omega) (lo := 1) (hi := 9) (by omega)
    rw [if_neg (by omega)] at f
    have f2 : fX10_figure xtx (zI (n : Int)) (zI ((a + 1 : Nat) : Int)) 1 9 = _ := f
    simp only [fX10_readsSteps, e2, f2, c1, c9, e10, Option.bind_some, ↓reduceIte]
  · have c9 : ((9 : Int32) ≤ zI m) = False := eq_false (by rw [show (9 : Int32) = zI 9 by decide, zI_le (by omega)]; exact k9)
    have f := mFig h (show a + 1 ≤ n by omega) (lo := 1) (hi := m) (by omega)
    rw [if_neg (by omega)] at f
    have f2 : fX10_figure xtx (zI (n : Int)) (zI ((a + 1 : Nat) : Int)) 1 (zI m) = _ := f
    simp only [fX10_readsSteps, e2, f2, c1, c9, e10, Option.bind_some, ↓reduceIte]
theorem mSt2 (h : TxC tc xtx n c) {a : Nat} (ha : a ≤ n) (k : sg c n a = 120) {m : Int} (hm : 1 ≤ m ∧ m ≤ 16) (k2 : 49 ≤ sg c n (a + 1) ∧ sg c n (a + 1) ≤ 57 ∧ sg c n (a + 1) - 48 ≤ m) (k3 : ¬ (sg c n (a + 1) = 49 ∧ 48 ≤ sg c n (a + 2) ∧ sg c n (a + 2) ≤ 57 ∧ 10 + (sg c n (a + 2) - 48) ≤ m)) : fX10_readsSteps xtx (zI (n : Int)) (zI (a : Int)) (zI m) = some (1, zI ((a + 2 : Nat) : Int), zI (sg c n (a + 1) - 48)) := by
  have han := (sg_lt (c := c) (n := n) k (by omega)).1
  have han2 := (sg_lt (c := c) (n := n) (a := a + 1) rfl (by omega)).1
  have e := mTak h ha (x := 120) (by omega)
  rw [if_pos k] at e
  have e2 : fX10_takes xtx (zI (n : Int)) (zI (a : Int)) 120 = _ := e
  have cm : (zI (sg c n (a + 1) - 48) = (-1 : Int32)) = False := eq_false (by rw [zLm, zI_eq (by omega)]; omega)
  have f2 : ∀ hi : Int, (hi = 9 ∧ 9 ≤ m) ∨ (hi = m ∧ m < 9) → fX10_figure xtx (zI (n : Int)) (zI ((a + 1 : Nat) : Int)) 1 (zI hi) = some (zI (sg c n (a + 1) - 48), zI ((a + 2 : Nat) : Int)) := fun hi hh => by
    have f := mFig h (show a + 1 ≤ n by omega) (lo := 1) (hi := hi) (by omega)
    rw [if_pos (by omega)] at f
    exact f
  by_cases k4 : sg c n (a + 1) = 49
  · have c1 : (zI (sg c n (a + 1) - 48) = (1 : Int32)) = True := eq_true (by rw [k4]; decide)
    by_cases k9 : 9 ≤ m
    · have c9 : ((9 : Int32) ≤ zI m) = True := eq_true (by rw [show (9 : Int32) = zI 9 by decide, zI_le (by omega)]; exact k9)
      have f3 : fX10_figure xtx (zI (n : Int)) (zI ((a + 1 : Nat) : Int)) 1 9 = _ := f2 9 (Or.inl ⟨rfl, k9⟩)
      by_cases k10 : m ≤ 9
      · have c10 : (zI m ≤ (9 : Int32)) = True := eq_true (by rw [show (9 : Int32) = zI 9 by decide, zI_le (by omega)]; exact k10)
        simp only [fX10_readsSteps, e2, f3, c1, c9, c10, cm, e10, Option.bind_some, ↓reduceIte]
      · have c10 : (zI m ≤ (9 : Int32)) = False := eq_false (by rw [show (9 : Int32) = zI 9 by decide, zI_le (by omega)]; exact k10)
        have c11 : zI m - 10 = zI (m - 10) := by rw [show (10 : Int32) = zI 10 by decide, zI_sub]
        have g := mFig h (show a + 2 ≤ n by omega) (lo := 0) (hi := m - 10) (by omega)
        rw [if_neg (by omega)] at g
        have g2 : fX10_figure xtx (zI (n : Int)) (zI ((a + 2 : Nat) : Int)) 0 (zI (m - 10)) = _ := g
        simp only [fX10_readsSteps, e2, f3, g2, c1, c9, c10, c11, cm, e10, Option.bind_some, ↓reduceIte]
    · have c9 : ((9 : Int32) ≤ zI m) = False := eq_false (by rw [show (9 : Int32) = zI 9 by decide, zI_le (by omega)]; exact k9)
      have c10 : (zI m ≤ (9 : Int32)) = True := eq_true (by rw [show (9 : Int32) = zI 9 by decide, zI_le (by omega)]; omega)
      have f3 := f2 m (Or.inr ⟨rfl, by omega⟩)
      simp only [fX10_readsSteps, e2, f3, c1, c9, c10, cm, e10, Option.bind_some, ↓reduceIte]
  · have c1 : (zI (sg c n (a + 1) - 48) = (1 : Int32)) = False := eq_false (by rw [zL1, zI_eq (by omega)]; omega)
    by_cases k9 : 9 ≤ m
    · have c9 : ((9 : Int32) ≤ zI m) = True := eq_true (by rw [show (9 : Int32) = zI 9 by decide, zI_le (by omega)]; exact k9)
      have f3 : fX10_figure xtx (zI (n : Int)) (zI ((a + 1 : Nat) : Int)) 1 9 = _ := f2 9 (Or.inl ⟨rfl, k9⟩)
      simp only [fX10_readsSteps, e2, f3, c1, c9, cm, e10, Option.bind_some, ↓reduceIte]
    · have c9 : ((9 : Int32) ≤ zI m) = False := eq_false (by rw [show (9 : Int32) = zI 9 by decide, zI_le (by omega)]; exact k9)
      have f3 := f2 m (Or.inr ⟨rfl, by omega⟩)
      simp only [fX10_readsSteps, e2, f3, c1, c9, cm, e10, Option.bind_some, ↓reduceIte]
theorem mSt3 (h : TxC tc xtx n c) {a : Nat} (ha : a ≤ n) (k : sg c n a = 120) {m : Int} (hm : 1 ≤ m ∧ m ≤ 16) (k3 : sg c n (a + 1) = 49 ∧ 48 ≤ sg c n (a + 2) ∧ sg c n (a + 2) ≤ 57 ∧ 10 + (sg c n (a + 2) - 48) ≤ m) : fX10_readsSteps xtx (zI (n : Int)) (zI (a : Int)) (zI m) = some (1, zI ((a + 3 : Nat) : Int), zI (10 + (sg c n (a + 2) - 48))) := by
  have han := (sg_lt (c := c) (n := n) k (by omega)).1
  have han2 := (sg_lt (c := c) (n := n) k3.1 (by omega)).1
  have e := mTak h ha (x := 120) (by omega)
  rw [if_pos k] at e
  have e2 : fX10_takes xtx (zI (n : Int)) (zI (a : Int)) 120 = _ := e
  have f := mFig h (show a + 1 ≤ n by omega) (lo := 1) (hi := 9) (by omega)
  rw [if_pos (by omega), k3.1] at f
  have f3 : fX10_figure xtx (zI (n : Int)) (zI ((a + 1 : Nat) : Int)) 1 9 = some (1, zI ((a + 2 : Nat) : Int)) := f
  have c9 : ((9 : Int32) ≤ zI m) = True := eq_true (by rw [show (9 : Int32) = zI 9 by decide, zI_le (by omega)]; omega)
  have c10 : (zI m ≤ (9 : Int32)) = False := eq_false (by rw [show (9 : Int32) = zI 9 by decide, zI_le (by omega)]; omega)
  have c11 : zI m - 10 = zI (m - 10) := by rw [show (10 : Int32) = zI 10 by decide, zI_sub]
  have g := mFig h (show a + 2 ≤ n by omega) (lo := 0) (hi := m - 10) (by omega)
  rw [if_pos (by omega)] at g
  have g2 : fX10_figure xtx (zI (n : Int)) (zI ((a + 2 : Nat) : Int)) 0 (zI (m - 10)) = some (zI (sg c n (a + 2) - 48), zI ((a + 3 : Nat) : Int)) := g
  have cm : (zI (sg c n (a + 2) - 48) = (-1 : Int32)) = False := eq_false (by rw [zLm, zI_eq (by omega)]; omega)
  have c12 : (10 : Int32) + zI (sg c n (a + 2) - 48) = zI (10 + (sg c n (a + 2) - 48)) := by rw [show (10 : Int32) = zI 10 by decide, zI_add]
  have cn : (zI (10 + (sg c n (a + 2) - 48)) = (-1 : Int32)) = False := eq_false (by rw [zLm, zI_eq (by omega)]; omega)
  simp only [fX10_readsSteps, e2, f3, g2, c9, c10, c11, c12, cm, cn, e10, Option.bind_some, ↓reduceIte]
theorem mSpread {D : Int} {T t : Nat} (h : t + T ≤ 16) : fX10_isText_L39 (zI D) (zI (T : Int)) (zI (t : Int)) 2000 0 xs = some (fun j => if 1404 + t ≤ j ∧ j < 1404 + t + T then zI D else xs j) := by
  have key := loopG (S := Nat → Int32) (L := fun n i s => fX10_isText_L39 (zI D) (zI (T : Int)) (zI (t : Int)) n (zI (i : Int)) s) (g := fun i s => upd s (1404 + t + i) (zI D)) (N := T) (P := fun i s => s = fun j => if 1404 + t ≤ j ∧ j < 1404 + t + i then zI D else xs j) (out := id) (by
      intro n s _
      try dsimp only
      rw [fX10_isText_L39]
      exact ite_t (by rw [zI_le (by omega)]; omega)) (by
      intro n i s hi _
      try dsimp only
      rw [fX10_isText_L39, ite_n (by rw [zI_le (by omega)]; omega), show (1404 : Int32) = zI 1404 by decide, zI_add, zI_add, ite_t (show ¬ (zI (1404 + (t : Int) + i) < 0 ∨ 1560 ≤ (zI (1404 + (t : Int) + i)).toNatClampNeg) from ixB (by omega)), zI_cl (by omega), show (1404 + (t : Int) + i).toNat = 1404 + t + i by omega, zL1, zI_add]
      rfl) (by
      intro i s hi e
      subst e
      funext j
      unfold upd
      try dsimp only
      by_cases h9 : j = 1404 + t + i
      · rw [if_pos h9, if_pos (by omega)]
      · rw [if_neg h9]
        by_cases h8 : 1404 + t ≤ j ∧ j < 1404 + t + i
        · rw [if_pos h8, if_pos (by omega)]
        · rw [if_neg h8, if_neg (by omega)])
  obtain ⟨k1, k2⟩ := key T 0 2000 xs (by omega) (by omega) (by
    funext j
    rw [if_neg (by omega)])
  rw [show fX10_isText_L39 (zI D) (zI (T : Int)) (zI (t : Int)) 2000 0 xs = _ from k1, k2]
  rfl
theorem mL0 {x : Int32} {m : Nat} {xs : Nat → Int32} {a b d e : Int32} : fX10_isText_L12 xtx x (m + 1) 0 xs a b d e = some (xs, a, b, d, e) := by
  rw [fX10_isText_L12]
  exact if_pos rfl
/-- what the rest of a text gives, told of shorter rests -/
def IHk (tc xtx : Nat → Int32) (n k : Nat) : Prop := ∀ (p t m m' : Nat) (tt xs : Nat → Int32) (xdi xma : Int32), p ≤ n → n - p < k → t < 16 → n - p < m → n - p < m' → Agr tt xs t → Res n xs (fX5_readable_L11 tc (zI (n : Int)) m (zI (p : Int)) tt 0 0 1 (zI (t : Int))) (fX10_isText_L12 xtx (zI (n : Int)) m' 1 xs (zI (p : Int)) xdi xma (zI (t : Int)))
theorem Agr.more {D : Int} {T t : Nat} (h : Agr tt xs t) (hD : 5 ≤ D ∧ D ≤ 99) : Agr (fun j => if t ≤ j ∧ j < t + T then zI D else tt j) (fun j => if 1404 + t ≤ j ∧ j < 1404 + t + T then zI D else xs j) (t + T) := by
  intro j hj
  try dsimp only
  by_cases h9 : t ≤ j
  · exact ⟨D, hD, by rw [if_pos (by omega)], by rw [if_pos (by omega)]⟩
  · obtain ⟨a, a1, a2, a3⟩ := h j (by omega)
    exact ⟨a, a1, by rw [if_neg (by omega)]; exact a2, by rw [if_neg (by omega)]; exact a3⟩
/-- a part is read -/
theorem fin {k m m' a b p T t : Nat} {D : Int} {xdi xma : Int32} (h : TxC tc xtx n c) (hI : IHk tc xtx n k) (hdia : fX10_readsDiameter xtx (zI (n : Int)) (zI (p : Int)) = some (1, zI (a : Int), zI D)) (hstp : fX10_readsSteps xtx (zI (n : Int)) (zI (a : Int)) (16 - zI (t : Int)) = some (1, zI (b : Int), zI (T : Int))) (hb : b ≤ n) (hk : n - b ≤ k) (hT : 1 ≤ T ∧ t + T ≤ 16) (hm : n - b < m) (hm' : n - b ≤ m' ∧ 1 ≤ m') (hD : 5 ≤ D ∧ D ≤ 99) (hA : Agr tt xs t) (hp : fX5_canPartEnd pl (zI D) = some 1) (hst : b < n → c b ≠ 44 → fX5_takes tt pl (zI D) (zI (T : Int)) (zI (t : Int)) (zI (c b)) = some (0, tt, pl, zI D, zI (T : Int), zI (t : Int))) : Res n xs (fX5_readable_L11 tc (zI (n : Int)) m (zI (b : Int)) tt pl (zI D) (zI (T : Int)) (zI (t : Int))) (fX10_isText_L12 xtx (zI (n : Int)) (m' + 1) 1 xs (zI (p : Int)) xdi xma (zI (t : Int))) := by
  obtain ⟨m, rfl⟩ : ∃ y, m = y + 1 := ⟨m - 1, by omega⟩
  have hte := cTell (tt := tt) (D := D) hT.2
  have hfr : ∀ i : Nat, i < 1404 → (fun j => if 1404 + t ≤ j ∧ j < 1404 + t + T then zI D else xs j) i = xs i := fun i hi => by
    try dsimp only
    rw [if_neg (by omega)]
  rw [fX10_isText_L12, if_neg (by decide), hdia, Option.bind_some]
  try dsimp only
  rw [if_neg (by decide), hstp, Option.bind_some]
  try dsimp only
  rw [if_neg (by decide), mSpread hT.2, Option.bind_some, zI_add]
  by_cases h16 : t + T = 16
  · obtain ⟨m', rfl⟩ : ∃ y, m' = y + 1 := ⟨m' - 1, by omega⟩
    have dF : b < n → fX5_takes tt pl (zI D) (zI (T : Int)) (zI (t : Int)) (zI (c b)) = some (0, tt, pl, zI D, zI (T : Int), zI (t : Int)) := fun hb2 => by
      by_cases h44 : c b = 44
      · rw [h44]; exact comF hp h16
      · exact hst hb2 h44
    rw [if_pos (by rw [zL16, zI_le (by omega)]; omega), mL0, clS h hb dF]
    have e16 : zI ((t : Int) + T) = 16 := by rw [show ((t : Int) + T) = 16 by omega]; exact zL16.symm
    have hA2 : Agr (fun j => if t ≤ j ∧ j < t + T then zI D else tt j) (fun j => if 1404 + t ≤ j ∧ j < 1404 + t + T then zI D else xs j) 16 := fun j hj => hA.more (T := T) hD j (by omega)
    have hte2 : fX5_tellPart tt (zI D) (zI (T : Int)) (zI (t : Int)) = some ((fun j => if t ≤ j ∧ j < t + T then zI D else tt j), 16) := by
      rw [hte, h16]
      rfl
    exact ⟨b, _, _, _, _, _, _, _, _, _, rfl, rfl, hb, hfr, Or.inl ⟨e16, hp, _, hte2, hA2⟩⟩
  · rw [if_neg (by rw [zL16, zI_le (by omega)]; omega), zL44, mTak h hb (by omega), Option.bind_some]
    by_cases h44 : sg c n b = 44
    · obtain ⟨hb2, hc44⟩ := sg_lt h44 (by omega)
      have dC : fX5_takes tt pl (zI D) (zI (T : Int)) (zI (t : Int)) (zI (c b)) = some (1, (fun j => if t ≤ j ∧ j < t + T then zI D else tt j), 0, 0, 1, zI ((t + T : Nat) : Int)) := by
        rw [hc44]
        exact comY hp (by omega)
      rw [if_pos h44]
      try dsimp only
      rw [if_neg (by decide), clN h hb2 dC]
      obtain ⟨r, tt2, pl2, di2, ti2, st2, xs2, xd2, xm2, to2, q1, q2, q3, q4, q5⟩ := hI (b + 1) (t + T) m m' _ _ (zI D) (zI (T : Int)) (by omega) (by omega) (by omega) (by omega) (by omega) (hA.more (T := T) hD)
      exact ⟨r, tt2, pl2, di2, ti2, st2, xs2, xd2, xm2, to2, q1, q2, q3, fun i hi => (q4 i hi).trans (hfr i hi), q5⟩
    · obtain ⟨m', rfl⟩ : ∃ y, m' = y + 1 := ⟨m' - 1, by omega⟩
      have dN : b < n → fX5_takes tt pl (zI D) (zI (T : Int)) (zI (t : Int)) (zI (c b)) = some (0, tt, pl, zI D, zI (T : Int), zI (t : Int)) := fun hb2 => hst hb2 (fun h9 => h44 (by unfold sg; rw [if_pos hb2]; exact h9))
      rw [if_neg h44]
      try dsimp only
      rw [if_pos rfl, mL0, clS h hb dN]
      have n16 : zI ((t : Int) + T) ≠ 16 := by rw [zL16]; intro h9; rw [zI_eq (by omega)] at h9; omega
      have n17 : zI ((t + T : Nat) : Int) ≠ 16 := n16
      exact ⟨b, _, _, _, _, _, _, _, _, _, rfl, rfl, hb, hfr, Or.inr ⟨n16, Or.inr ⟨hp, _, _, hte, n17⟩⟩⟩
/-- a diameter is read -/
theorem finD {k m m' b p t : Nat} {D : Int} {xdi xma : Int32} (h : TxC tc xtx n c) (hI : IHk tc xtx n k) (hdia : fX10_readsDiameter xtx (zI (n : Int)) (zI (p : Int)) = some (1, zI (b : Int), zI D)) (hb : b ≤ n) (hk : n - b ≤ k) (ht : t < 16) (hm : n - b < m) (hm' : n - b ≤ m' ∧ 1 ≤ m') (hD : 5 ≤ D ∧ D ≤ 99) (hA : Agr tt xs t) (hdg : 10 ≤ D ∨ ¬ (48 ≤ sg c n b ∧ sg c n b ≤ 57)) : Res n xs (fX5_readable_L11 tc (zI (n : Int)) m (zI (b : Int)) tt 0 (zI D) 1 (zI (t : Int))) (fX10_isText_L12 xtx (zI (n : Int)) (m' + 1) 1 xs (zI (p : Int)) xdi xma (zI (t : Int))) := by
  have e16 : (16 : Int32) - zI (t : Int) = zI (16 - (t : Int)) := by rw [zL16, zI_sub]
  have hcp : fX5_canPartEnd 0 (zI D) = some 1 := by rw [cpe0 (by omega), if_neg (by omega)]
  have hsg : ∀ a : Nat, a < n → sg c n a = c a := fun a ha => by unfold sg; rw [if_pos ha]
  by_cases hx : sg c n b = 120
  · obtain ⟨hb2, hcx⟩ := sg_lt hx (by omega)
    obtain ⟨m, rfl⟩ : ∃ y, m = y + 1 := ⟨m - 1, by omega⟩
    have d0 : fX5_takes tt 0 (zI D) 1 (zI (t : Int)) (zI (c b)) = some (1, tt, 1, zI D, 1, zI (t : Int)) := by
      rw [hcx]
      exact timY hD
    rw [clN h hb2 d0]
    by_cases hf : 49 ≤ sg c n (b + 1) ∧ sg c n (b + 1) ≤ 57 ∧ sg c n (b + 1) - 48 ≤ 16 - (t : Int)
    · obtain ⟨hb3, -⟩ := sg_lt (c := c) (n := n) (a := b + 1) rfl (by omega)
      have hs1 := hsg _ hb3
      obtain ⟨m, rfl⟩ : ∃ y, m = y + 1 := ⟨m - 1, by omega⟩
      have d1 : fX5_takes tt 1 (zI D) 1 (zI (t : Int)) (zI (c (b + 1))) = some (1, tt, 2, zI D, zI (c (b + 1) - 48), zI (t : Int)) := by
        refine kDig (by omega) ?_ (Or.inr rfl)
        rw [dg1 (by omega) (by omega), if_pos (by omega)]
      rw [clN h hb3 d1]
      by_cases hg : sg c n (b + 1) = 49 ∧ 48 ≤ sg c n (b + 2) ∧ sg c n (b + 2) ≤ 57 ∧ 10 + (sg c n (b + 2) - 48) ≤ 16 - (t : Int)
      · obtain ⟨hb4, -⟩ := sg_lt (c := c) (n := n) (a := b + 2) rfl (by omega)
        have hs2 := hsg _ hb4
        obtain ⟨m, rfl⟩ : ∃ y, m = y + 1 := ⟨m - 1, by omega⟩
        obtain ⟨T, hT⟩ : ∃ T : Nat, 10 + (sg c n (b + 2) - 48) = T := ⟨(10 + (sg c n (b + 2) - 48)).toNat, by omega⟩
        have d2 : fX5_takes tt 2 (zI D) (zI (c (b + 1) - 48)) (zI (t : Int)) (zI (c (b + 2))) = some (1, tt, 2, zI D, zI (T : Int), zI (t : Int)) := by
          refine kDig (by omega) ?_ (Or.inr rfl)
          rw [dg2 (by omega) (by omega) (by omega), if_pos (by omega), show (c (b + 1) - 48) * 10 + (c (b + 2) - 48) = T by omega]
        have s3 : fX10_readsSteps xtx (zI (n : Int)) (zI (b : Int)) (16 - zI (t : Int)) = some (1, zI ((b + 3 : Nat) : Int), zI (T : Int)) := by rw [e16, mSt3 h hb hx (by omega) hg, hT]
        rw [show b + 1 + 1 = b + 2 from rfl, clN h hb4 d2]
        exact fin h hI hdia s3 (by omega) (by omega) (by omega) (by omega) (by omega) hD hA cpe2 (fun hb5 h44 => stop2 (by omega) (by omega) (h.2 _ hb5).1 (by intro _ _; omega) h44)
      · obtain ⟨T, hT⟩ : ∃ T : Nat, sg c n (b + 1) - 48 = T := ⟨(sg c n (b + 1) - 48).toNat, by omega⟩
        have s3 : fX10_readsSteps xtx (zI (n : Int)) (zI (b : Int)) (16 - zI (t : Int)) = some (1, zI ((b + 2 : Nat) : Int), zI (T : Int)) := by rw [e16, mSt2 h hb hx (by omega) hf hg, hT]
        rw [show c (b + 1) - 48 = (T : Int) by omega]
        refine fin (b := b + 2) h hI hdia s3 (by omega) (by omega) (by omega) (by omega) (by omega) hD hA cpe2 (fun hb5 h44 => stop2 (by omega) (by omega) (h.2 _ hb5).1 (fun h1 h2 => ?_) h44)
        have hs2 := hsg _ hb5
        omega
    · have s3 : fX10_readsSteps xtx (zI (n : Int)) (zI (b : Int)) (16 - zI (t : Int)) = some (0, zI ((b + 1 : Nat) : Int), -1) := by rw [e16, mSt1 h hb hx (by omega) hf]
      obtain ⟨m, rfl⟩ : ∃ y, m = y + 1 := ⟨m - 1, by omega⟩
      have dS : b + 1 < n → fX5_takes tt 1 (zI D) 1 (zI (t : Int)) (zI (c (b + 1))) = some (0, tt, 1, zI D, 1, zI (t : Int)) := fun hb3 => stop1 (by omega) (h.2 _ hb3).1 (fun h1 h2 => by
        have hs1 := hsg _ hb3
        omega)
      rw [fX10_isText_L12, if_neg (by decide), hdia, Option.bind_some]
      try dsimp only
      rw [if_neg (by decide), s3, Option.bind_some]
      try dsimp only
      rw [if_pos rfl, clS h (show b + 1 ≤ n by omega) dS]
      exact ⟨b + 1, _, _, _, _, _, _, _, _, _, rfl, rfl, by omega, fun _ _ => rfl, Or.inr ⟨by rw [zL16]; intro h9; rw [zI_eq (by omega)] at h9; omega, Or.inl cpe1⟩⟩
  · have s3 : fX10_readsSteps xtx (zI (n : Int)) (zI (b : Int)) (16 - zI (t : Int)) = some (1, zI (b : Int), zI ((1 : Nat) : Int)) := mSt0 h hb hx
    exact fin (T := 1) h hI hdia s3 hb hk (by omega) hm hm' hD hA hcp (fun hb2 h44 => stop0 (by omega) (h.2 _ hb2).1 (fun h1 h2 => by
      have hs := hsg _ hb2
      omega) (fun h9 => absurd ((hsg _ hb2).trans h9) hx) (fun h9 => absurd h9 h44))
theorem txt_sim (h : TxC tc xtx n c) : ∀ k : Nat, IHk tc xtx n k := by
  intro k
  induction k with
  | zero => intro p t m m' tt xs xdi xma _ h0; exact absurd h0 (Nat.not_lt_zero _)
  | succ k ih =>
    intro p t m m' tt xs xdi xma hp hk ht hm hm' hA
    have hsg : ∀ a : Nat, a < n → sg c n a = c a := fun a ha => by unfold sg; rw [if_pos ha]
    have nt : zI (t : Int) ≠ 16 := by rw [zL16]; intro h9; rw [zI_eq (by omega)] at h9; omega
    obtain ⟨m, rfl⟩ : ∃ y, m = y + 1 := ⟨m - 1, by omega⟩
    obtain ⟨m', rfl⟩ : ∃ y, m' = y + 1 := ⟨m' - 1, by omega⟩
    by_cases h1 : 49 ≤ sg c n p ∧ sg c n p ≤ 57
    · obtain ⟨hp2, -⟩ := sg_lt (c := c) (n := n) (a := p) rfl (by omega)
      have hs := hsg _ hp2
      have d1 : fX5_takes tt 0 0 1 (zI (t : Int)) (zI (c p)) = some (1, tt, 0, zI (c p - 48), 1, zI (t : Int)) := by
        refine kDig (by omega) ?_ (Or.inr rfl)
        have h9 := dg0 (ti := 1) (st := zI (t : Int)) (D := 0) (e := c p - 48) (by omega) (by omega)
        rw [if_pos (by omega), show (0 : Int) * 10 + (c p - 48) = c p - 48 by omega] at h9
        exact h9
      rw [clN h hp2 d1]
      by_cases h2 : 48 ≤ sg c n (p + 1) ∧ sg c n (p + 1) ≤ 57
      · obtain ⟨hp3, -⟩ := sg_lt (c := c) (n := n) (a := p + 1) rfl (by omega)
        have hs2 := hsg _ hp3
        obtain ⟨m, rfl⟩ : ∃ y, m = y + 1 := ⟨m - 1, by omega⟩
        have d2 : fX5_takes tt 0 (zI (c p - 48)) 1 (zI (t : Int)) (zI (c (p + 1))) = some (1, tt, 0, zI (10 * (sg c n p - 48) + (sg c n (p + 1) - 48)), 1, zI (t : Int)) := by
          refine kDig (by omega) ?_ (Or.inr rfl)
          rw [dg0 (by omega) (by omega), if_pos (by omega), show (c p - 48) * 10 + (c (p + 1) - 48) = 10 * (sg c n p - 48) + (sg c n (p + 1) - 48) by omega]
        rw [clN h hp3 d2]
        exact finD h ih (mDia2 h hp h1 h2) (by omega) (by omega) ht (by omega) (by omega) (by omega) hA (Or.inl (by omega))
      · have hdi := mDia1 h hp h1 h2
        by_cases h5 : sg c n p - 48 < 5
        · rw [if_pos h5] at hdi
          obtain ⟨m, rfl⟩ : ∃ y, m = y + 1 := ⟨m - 1, by omega⟩
          have dS : p + 1 < n → fX5_takes tt 0 (zI (c p - 48)) 1 (zI (t : Int)) (zI (c (p + 1))) = some (0, tt, 0, zI (c p - 48), 1, zI (t : Int)) := fun hp3 => stop0 (by omega) (h.2 _ hp3).1 (fun h3 h4 => absurd (by rw [hsg _ hp3]; exact ⟨h3, h4⟩) h2) (fun _ => by omega) (fun _ => by omega)
          rw [fX10_isText_L12, if_neg (by decide), hdi, Option.bind_some]
          try dsimp only
          rw [if_pos rfl, clS h (show p + 1 ≤ n by omega) dS]
          exact ⟨p + 1, _, _, _, _, _, _, _, _, _, rfl, rfl, by omega, fun _ _ => rfl, Or.inr ⟨nt, Or.inl (by rw [cpe0 (by omega), if_pos (by omega)])⟩⟩
        · rw [if_neg h5] at hdi
          rw [← hs]
          exact finD h ih hdi (by omega) (by omega) ht (by omega) (by omega) (by omega) hA (Or.inr h2)
    · have hdi := mDia0 h hp h1
      have dS : p < n → fX5_takes tt 0 0 1 (zI (t : Int)) (zI (c p)) = some (0, tt, 0, 0, 1, zI (t : Int)) := fun hp2 => stop0 (D := 0) (by omega) (h.2 _ hp2).1 (fun h3 h4 => by
        have := hsg _ hp2
        omega) (fun _ => by omega) (fun _ => by omega)
      rw [fX10_isText_L12, if_neg (by decide), hdi, Option.bind_some]
      try dsimp only
      rw [if_pos rfl, clS h hp dS]
      exact ⟨p, _, _, _, _, _, _, _, _, _, rfl, rfl, hp, fun _ _ => rfl, Or.inr ⟨nt, Or.inl (by
        have h9 := cpe0 (D := 0) (by omega)
        rw [if_pos (by omega)] at h9
        exact h9)⟩⟩
theorem TxC_of {tle xle : Int32} (hT : Txt tc tle xtx xle) : ∃ (n : Nat) (c : Nat → Int), TxC tc xtx n c ∧ tle = zI (n : Int) ∧ xle = zI (n : Int) := by
  obtain ⟨n, hn, h1, h2, h3⟩ := hT
  refine ⟨n, fun j => (tc j).toInt, ⟨hn, fun j hj => ?_⟩, h1, h2⟩
  obtain ⟨a, a1, a2, a3⟩ := h3 j hj
  have e : (tc j).toInt = a := by rw [a2, zI_toInt (by omega)]
  try dsimp only
  rw [e]
  exact ⟨a1, a2, a3⟩
theorem read_sim {tle xle : Int32} (hT : Txt tc tle xtx xle) (tt xs : Nat → Int32) (xdi xma : Int32) : ∃ n : Nat, n ≤ 60 ∧ tle = zI (n : Int) ∧ xle = zI (n : Int) ∧ Res n xs (fX5_readable_L11 tc tle 2000 0 tt 0 0 1 0) (fX10_isText_L12 xtx xle 2000 1 xs 0 xdi xma 0) := by
  obtain ⟨n, c, h, rfl, rfl⟩ := TxC_of hT
  have hn := h.1
  exact ⟨n, hn, rfl, rfl, txt_sim h (n + 1) 0 0 2000 2000 tt xs xdi xma (by omega) (by omega) (by omega) (by omega) (by omega) (fun j hj => absurd hj (Nat.not_lt_zero _))⟩
theorem tells_sim {tle xle : Int32} (hT : Txt tc tle xtx xle) (tt xs : Nat → Int32) (xdi xma : Int32) : ∃ (R : Int32) (tt2 : Nat → Int32) (pl di ti st : Int32) (xs2 : Nat → Int32) (at2 di2 ma2 to2 : Int32), fX5_tellsMaster tc tt tle = some (R, tt2, pl, di, ti, st) ∧ fX10_isText xs xtx xle xdi xma = some (R, xs2, at2, di2, ma2, to2) ∧ (R = 0 ∨ (R = 1 ∧ Agr tt2 xs2 16)) ∧ ∀ i : Nat, i < 1404 → xs2 i = xs i := by
  obtain ⟨n, hn, rfl, rfl, r, tt2, pl, di, ti, st, xs2, xd2, xm2, to2, q1, q2, q3, q4, q5⟩ := read_sim hT tt xs xdi xma
  by_cases hr : r = n
  · subst hr
    have c1 : (zI (r : Int) < zI (r : Int)) = False := eq_false (by rw [zI_lt (by omega)]; omega)
    rcases q5 with ⟨rfl, h2, tt3, h3, h4⟩ | ⟨h1, h2⟩
    · exact ⟨1, tt3, pl, di, ti, 16, xs2, zI (r : Int), xd2, xm2, 16, by simp only [fX5_tellsMaster, fX5_readable, fX5_beginPart, Option.bind_some, q1, c1, h2, h3, e10, ↓reduceIte], by simp only [fX10_isText, q2, Option.bind_some, ↓reduceIte], Or.inr ⟨rfl, h4⟩, q4⟩
    · have c2 := eq_false h1
      rcases h2 with h2 | ⟨h2, tt3, u, h3, h4⟩
      · exact ⟨0, tt2, pl, di, ti, st, xs2, zI (r : Int), xd2, xm2, to2, by simp only [fX5_tellsMaster, fX5_readable, fX5_beginPart, Option.bind_some, q1, c1, h2, ↓reduceIte], by simp only [fX10_isText, q2, Option.bind_some, c2, ↓reduceIte], Or.inl rfl, q4⟩
      · have c3 := eq_false h4
        exact ⟨0, tt3, pl, di, ti, u, xs2, zI (r : Int), xd2, xm2, to2, by simp only [fX5_tellsMaster, fX5_readable, fX5_beginPart, Option.bind_some, q1, c1, h2, h3, c3, e10, ↓reduceIte], by simp only [fX10_isText, q2, Option.bind_some, c2, ↓reduceIte], Or.inl rfl, q4⟩
  · have c1 : (zI (r : Int) < zI (n : Int)) = True := eq_true (by rw [zI_lt (by omega)]; omega)
    have c2 : (zI (r : Int) = zI (n : Int)) = False := eq_false (by rw [zI_eq (by omega)]; omega)
    refine ⟨0, tt2, pl, di, ti, st, xs2, zI (r : Int), xd2, xm2, to2, by simp only [fX5_tellsMaster, fX5_readable, fX5_beginPart, Option.bind_some, q1, c1, ↓reduceIte], ?_, Or.inl rfl, q4⟩
    by_cases c3 : to2 = 16
    · subst c3
      simp only [fX10_isText, q2, Option.bind_some, c2, ↓reduceIte]
    · have c3 := eq_false c3
      simp only [fX10_isText, q2, Option.bind_some, c3, ↓reduceIte]
end TXB
section MUQ
variable {md : Nat → Int32} {mch : Int32} {fra : Int32} {fwe : Int32} {fof : Int32} {fsi : Int32} {csh : Int32} {cde : Int32} {csp : Int32} {rd : Nat → Int32} {rw : Nat → Int32} {rp : Nat → Int32} {rco : Int32} {rmo : Int32} {apa : Int32} {awo : Int32} {ash : Int32} {aja : Int32} {abu : Int32} {ltol : Int32} {lchi : Int32} {ljam : Int32} {ho : Int32} {hcn : Int32} {hsv : Nat → Option LTH} {hsl : Nat → Option LTH} {cav : Nat → Nat → Nat} {cal : Nat → Nat → Nat} {ou : Nat → Int64} {od : Nat → UInt64} {xs : Nat → Int32} {xsv : Int32} {xth : Int32} {xk0 : Int32} {xk1 : Int32} {xtx : Nat → Int32} {xle : Int32} {xat : Int32} {xdi : Int32} {xma : Int32} {xto : Int32} {xha : Int64} {wa : Nat → Int32} {le : Nat → Int32} {tc : Nat → Int32} {tt : Nat → Int32} {tle : Int32} {tpl : Int32} {tdi : Int32} {tti : Int32} {tst : Int32}
theorem MoS.fr {Z : Nat → Int} {ys : Nat → Int32} (h : MoS Z 0 xs) (e : ∀ i : Nat, i < 1404 → ys i = xs i) : MoS Z 0 ys := ⟨Or.inl rfl, fun i hi => by rw [e _ (by omega)]; exact h.2 i hi⟩
theorem st_20 (hC : Core (md, mch, fra, fwe, fof, fsi, csh, cde, csp, rd, rw, rp, rco, rmo, apa, awo, ash, aja, abu, ltol, lchi, ljam) ho hcn hsv hsl xs xsv xk0 xk1) (hT : Txt tc tle xtx xle) : ∃ (tt_0 : Nat → Int32) (tpl_0 : Int32) (tdi_0 : Int32) (tti_0 : Int32) (tst_0 : Int32) (xth_0 : Int32) (xs_0 : Nat → Int32) (xat_0 : Int32) (xdi_0 : Int32) (xma_0 : Int32) (xto_0 : Int32), flaw_20 tc tt tle xs xtx xle xdi xma = some (tt_0, tpl_0, tdi_0, tti_0, tst_0, xth_0, xs_0, xat_0, xdi_0, xma_0, xto_0) ∧ Core (md, mch, fra, fwe, fof, fsi, csh, cde, csp, rd, rw, rp, rco, rmo, apa, awo, ash, aja, abu, ltol, lchi, ljam) ho hcn hsv hsl xs_0 xsv xk0 xk1 ∧ Txt tc tle xtx xle := by
  obtain ⟨⟨Z, hR, hc, hx⟩, hH, hs0, hs1⟩ := hC
  obtain ⟨n, hn, -, -, r, tt2, pl, di, ti, st, xs2, xd2, xm2, to2, q1, q2, q3, q4, q5⟩ := read_sim hT tt xs xdi xma
  have e1 : fX9_firstError tc tt tle = some (zI (r : Int), tt2, pl, di, ti, st) := by simp only [fX9_firstError, fX5_readable, fX5_beginPart, Option.bind_some, q1]
  have e2 : ∃ R : Int32, fX10_isText xs xtx xle xdi xma = some (R, xs2, zI (r : Int), xd2, xm2, to2) := by
    unfold fX10_isText
    rw [q2, Option.bind_some]
    try dsimp only
    by_cases c1 : to2 = 16
    · rw [if_pos c1]
      by_cases c2 : zI (r : Int) = xle
      · rw [if_pos c2]; exact ⟨_, rfl⟩
      · rw [if_neg c2]; exact ⟨_, rfl⟩
    · rw [if_neg c1]; exact ⟨_, rfl⟩
  obtain ⟨R, e2⟩ := e2
  refine ⟨tt2, pl, di, ti, st, 0, xs2, zI (r : Int), xd2, xm2, to2, ?_, ⟨⟨Z, hR, hc, hx.fr q4⟩, hH.frame (fun i _ i2 => q4 i (by omega)), hs0.frame (by omega) (fun i _ i2 => q4 i i2), hs1.frame (by omega) (fun i _ i2 => q4 i i2)⟩, hT⟩
  simp only [flaw_20, e1, fX10_firstError, e2, Option.bind_some, ↓reduceIte]
def loY (Z : Nat → Int) (c : Nat) (w : Nat → Int) : Nat → Int := fun i => if 16 * c ≤ i ∧ i < 16 * c + 16 then w (i - 16 * c) else Z i
theorem loY_o {Z w : Nat → Int} {c i : Nat} (h : i < 16 * c ∨ 16 * c + 16 ≤ i) : loY Z c w i = Z i := by unfold loY; rw [if_neg (by omega)]
theorem loY_i {Z w : Nat → Int} {c i : Nat} (h : i < 16) : loY Z c w (16 * c + i) = w i := by unfold loY; rw [if_pos (by omega), show 16 * c + i - 16 * c = i by omega]
theorem loY_R {Z w : Nat → Int} (hR : Rg Z) {c : Nat} (hc : c < 3) (hw : ∀ j : Nat, j < 16 → 5 ≤ w j ∧ w j ≤ 99) : Rg (loY Z c w) := by
  refine ⟨fun i hi => ?_, ?_, ?_, ?_, ?_, ?_, ?_, ?_, ?_, ?_, ?_, ?_, ?_, fun q hq => ?_, fun q k hq hk => ?_⟩
  · by_cases h : 16 * c ≤ i ∧ i < 16 * c + 16
    · rw [show i = 16 * c + (i - 16 * c) by omega, loY_i (by omega)]; exact hw _ (by omega)
    · rw [loY_o (by omega)]; exact hR.md hi
  · rw [loY_o (by omega)]; exact hR.ch
  · rw [loY_o (by omega)]; exact hR.ra
  · rw [loY_o (by omega)]; exact hR.we
  · rw [loY_o (by omega)]; exact hR.of
  · rw [loY_o (by omega)]; exact hR.sh
  · rw [loY_o (by omega)]; exact hR.de
  · rw [loY_o (by omega)]; exact hR.sp
  · rw [loY_o (by omega)]; exact hR.to
  · rw [loY_o (by omega)]; exact hR.chi
  · rw [loY_o (by omega)]; exact hR.ja
  · rw [loY_o (by omega)]; exact hR.co
  · rw [loY_o (by omega), loY_o (by omega)]; exact hR.mo
  · rw [loY_o (by omega)]; exact hR.wo hq
  · rw [loY_o (by omega), loY_o (by omega)]; exact hR.di hq hk
theorem cLoad {Z w : Nat → Int} {c : Nat} (hc : c < 3) (hmd : ∀ j : Nat, j < 48 → md j = zI (Z j)) (hw : ∀ j : Nat, j < 16 → tt j = zI (w j)) : ∃ md2 : Nat → Int32, fX9_loadMaster_L27 tt (zI (c : Int)) 2000 0 md = some md2 ∧ ∀ j : Nat, j < 48 → md2 j = zI (loY Z c w j) := by
  have key := loopG (S := Nat → Int32) (L := fun n i s => fX9_loadMaster_L27 tt (zI (c : Int)) n (zI (i : Int)) s) (g := fun i s => upd s (16 * c + i) (tt i)) (N := 16) (P := fun i s => ∀ j : Nat, j < 48 → s j = if 16 * c ≤ j ∧ j < 16 * c + i then zI (w (j - 16 * c)) else zI (Z j)) (out := id) (by
      intro n s _
      try dsimp only
      rw [fX9_loadMaster_L27]
      exact ite_t (by decide)) (by
      intro n i s hi _
      try dsimp only
      rw [fX9_loadMaster_L27, ite_n (show ¬ ((16 : Int32) ≤ zI (i : Int)) by rw [zL16, zI_le (by omega)]; omega), zcX8_at (by omega) hi, Option.bind_some, zcX6_put hc hi, Option.bind_some, zL1, zI_add]
      rfl) (by
      intro i s hi hP j hj
      try dsimp only
      by_cases h9 : j = 16 * c + i
      · subst h9
        rw [pk_us, if_pos (by omega), hw i hi, show 16 * c + i - 16 * c = i by omega]
      · rw [pk_un h9, hP j hj]
        by_cases h8 : 16 * c ≤ j ∧ j < 16 * c + i
        · rw [if_pos h8, if_pos (by omega)]
        · rw [if_neg h8, if_neg (by omega)])
  obtain ⟨k1, k2⟩ := key 16 0 2000 md rfl (by omega) (fun j hj => by rw [if_neg (by omega)]; exact hmd j hj)
  refine ⟨_, k1, fun j hj => ?_⟩
  have h9 := k2 j hj
  unfold loY
  by_cases h8 : 16 * c ≤ j ∧ j < 16 * c + 16
  · rw [if_pos h8] at h9 ⊢; exact h9
  · rw [if_neg h8] at h9 ⊢; exact h9
theorem mLoad {Z w : Nat → Int} {c : Nat} (hc : c < 3) (hx : MoS Z 0 xs) (hw : ∀ j : Nat, j < 16 → (5 ≤ w j ∧ w j ≤ 99) ∧ xs (1404 + j) = zI (w j)) : ∃ ys : Nat → Int32, fX10_loadMaster_L43 (zI (c : Int)) 2000 0 0 xs = some (zI (gmZ (loY Z c w) c), ys) ∧ MoS (loY Z c w) 0 ys ∧ ∀ i : Nat, 48 ≤ i → ys i = xs i := by
  have key := loopG (S := Int × (Nat → Int32)) (L := fun n i s => fX10_loadMaster_L43 (zI (c : Int)) n (zI s.1) (zI (i : Int)) s.2) (g := fun i s => (max s.1 (w i), upd s.2 (16 * c + i) (zI (w i)))) (N := 16) (P := fun i s => (0 ≤ s.1 ∧ s.1 ≤ 99) ∧ s.2 = fun j => if 16 * c ≤ j ∧ j < 16 * c + i then zI (w (j - 16 * c)) else xs j) (out := fun s => (zI s.1, s.2)) (by
      rintro n ⟨v, s⟩ _
      try dsimp only
      rw [fX10_loadMaster_L43]
      exact ite_t (by decide)) (by
      rintro n i ⟨v, s⟩ hi ⟨hv, hs⟩
      try dsimp only at *
      have hwi := hw i hi
      have c0 : ((16 : Int32) ≤ zI (i : Int)) = False := eq_false (by rw [zL16, zI_le (by omega)]; omega)
      have c1 : (1404 : Int32) + zI (i : Int) = zI ((1404 + i : Nat) : Int) := by rw [show (1404 : Int32) = zI 1404 by decide, zI_add]; rfl
      have c2 : (16 : Int32) * zI (c : Int) + zI (i : Int) = zI ((16 * c + i : Nat) : Int) := by rw [zL16, zI_mul, zI_add]; rfl
      have c3 : (zI ((1404 + i : Nat) : Int)).toNatClampNeg = 1404 + i := by rw [zI_cl (by omega)]; omega
      have c4 : (zI ((16 * c + i : Nat) : Int)).toNatClampNeg = 16 * c + i := by rw [zI_cl (by omega)]; omega
      have c5 : (zI ((1404 + i : Nat) : Int) < 0 ∨ 1560 ≤ 1404 + i) = False := eq_false (by rw [zL0, zI_lt (by omega)]; omega)
      have c6 : (zI ((16 * c + i : Nat) : Int) < 0 ∨ 1560 ≤ 16 * c + i) = False := eq_false (by rw [zL0, zI_lt (by omega)]; omega)
      have c7 : s (1404 + i) = zI (w i) := by rw [hs]; (try dsimp only); rw [if_neg (by omega)]; exact hwi.2
      have c8 : upd s (16 * c + i) (zI (w i)) (1404 + i) = zI (w i) := by rw [pk_un (by omega)]; exact c7
      have c9 : zI (i : Int) + 1 = zI ((i + 1 : Nat) : Int) := by rw [zL1, zI_add]; rfl
      by_cases hle : w i ≤ v
      · have d1 : (zI (w i) ≤ zI v) = True := eq_true (by rw [zI_le (by omega)]; exact hle)
        rw [fX10_loadMaster_L43]
        simp only [c0, c1, c2, c3, c4, c5, c6, c7, c8, c9, d1, not_false_eq_true, ↓reduceIte]
        rw [Int.max_eq_left hle]
      · have d1 : (zI (w i) ≤ zI v) = False := eq_false (by rw [zI_le (by omega)]; exact hle)
        rw [fX10_loadMaster_L43]
        simp only [c0, c1, c2, c3, c4, c5, c6, c7, c8, c9, d1, not_false_eq_true, ↓reduceIte]
        rw [Int.max_eq_right (by omega)]) (by
      rintro i ⟨v, s⟩ hi ⟨hv, hs⟩
      try dsimp only at *
      have hwi := hw i hi
      refine ⟨by omega, ?_⟩
      subst hs
      funext j
      unfold upd
      try dsimp only
      by_cases h9 : j = 16 * c + i
      · rw [if_pos h9, if_pos (by omega), show j - 16 * c = i by omega]
      · rw [if_neg h9]
        by_cases h8 : 16 * c ≤ j ∧ j < 16 * c + i
        · rw [if_pos h8, if_pos (by omega)]
        · rw [if_neg h8, if_neg (by omega)])
  obtain ⟨k1, k2, k3⟩ := key 16 0 2000 (0, xs) rfl (by omega) ⟨by (try dsimp only); omega, by
    try dsimp only
    funext j
    rw [if_neg (by omega)]⟩
  have eg : (zit (fun i (s : Int × (Nat → Int32)) => (max s.1 (w i), upd s.2 (16 * c + i) (zI (w i)))) 0 16 (0, xs)).1 = gmZ (loY Z c w) c := by
    refine (fst_rel (g := fun i v => max v (w i)) (h := fun i (s : Int × (Nat → Int32)) => (max s.1 (w i), upd s.2 (16 * c + i) (zI (w i)))) (N := 16) (fun _ _ => rfl) 16 0 (0, xs) rfl).trans ?_
    unfold gmZ
    refine zit_congr (N := 16) (fun _ _ => True) (fun _ _ _ _ => trivial) (fun i s hi _ => ?_) 16 0 0 rfl trivial
    unfold mZ
    try dsimp only
    rw [loY_i hi]
  try dsimp only at k1 k3
  rw [eg] at k1
  refine ⟨_, k1, ⟨Or.inl rfl, fun i hi => ?_⟩, fun i hi => ?_⟩
  · rw [show (0 : Int).toNat + i = i by omega, k3]
    try dsimp only
    unfold loY
    by_cases h8 : 16 * c ≤ i ∧ i < 16 * c + 16
    · rw [if_pos h8, if_pos h8]
    · rw [if_neg h8, if_neg h8]; exact hx.z hi
  · rw [k3]
    try dsimp only
    rw [if_neg (by omega)]
set_option maxHeartbeats 4000000 in
theorem st_21 (hC : Core (md, mch, fra, fwe, fof, fsi, csh, cde, csp, rd, rw, rp, rco, rmo, apa, awo, ash, aja, abu, ltol, lchi, ljam) ho hcn hsv hsl xs xsv xk0 xk1) (hT : Txt tc tle xtx xle) (s1 : Int32) : ∃ (md_0 : Nat → Int32) (ho_0 : Int32) (hcn_0 : Int32) (hsv_0 : Nat → Option LTH) (tt_0 : Nat → Int32) (tle_0 : Int32) (tpl_0 : Int32) (tdi_0 : Int32) (tti_0 : Int32) (tst_0 : Int32) (ou_0 : Nat → Int64) (xth_0 : Int32) (xs_0 : Nat → Int32) (xsv_0 : Int32) (xle_0 : Int32) (xat_0 : Int32) (xdi_0 : Int32) (xma_0 : Int32) (xto_0 : Int32), flaw_21 md mch fra fwe fof fsi csh cde csp rd rw rp rco rmo apa awo ash aja abu ltol lchi ljam ho hcn hsv tc tt tle tpl tdi tti tst ou xs xsv xtx xle xat xdi xma xto s1 = some (md_0, ho_0, hcn_0, hsv_0, tt_0, tle_0, tpl_0, tdi_0, tti_0, tst_0, ou_0, xth_0, xs_0, xsv_0, xle_0, xat_0, xdi_0, xma_0, xto_0) ∧ Core (md_0, mch, fra, fwe, fof, fsi, csh, cde, csp, rd, rw, rp, rco, rmo, apa, awo, ash, aja, abu, ltol, lchi, ljam) ho_0 hcn_0 hsv_0 hsl xs_0 xsv_0 xk0 xk1 ∧ Txt tc tle_0 xtx xle_0 := by
  obtain ⟨⟨Z, hR, hc, hx⟩, hH, hs0, hs1⟩ := hC
  obtain ⟨R, tt2, pl, di, ti, st, xs2, at2, di2, ma2, to2, t1, t2, t3, t4⟩ := tells_sim hT tt xs xdi xma
  have hxf := hx.fr t4
  have hHf : Hist ho hcn hsv xs2 xsv := hH.frame (fun i _ i2 => t4 i (by omega))
  have hs0f : Slot1 hsl 0 xk0 xs2 := hs0.frame (by omega) (fun i _ i2 => t4 i i2)
  have hs1f : Slot1 hsl 1 xk1 xs2 := hs1.frame (by omega) (fun i _ i2 => t4 i i2)
  obtain ⟨ho2, hcn2, hsv2, ys, yv, e1, e2, hx2, hH2, hfr⟩ := save_ok hc hR hxf hHf
  have hc0 := hc
  obtain ⟨hmd, hrd, hrw, hrp, rfl, rfl, rfl, rfl, rfl, rfl, rfl, rfl, rfl, rfl, rfl, rfl, rfl, rfl, rfl, rfl, rfl, rfl⟩ := hc
  obtain ⟨a, hb, rfl⟩ := zI_surj s1
  have s0 : fX9_checkArgument 0 = some (.inl 1) := rfl
  have s1' : fX9_checkArgument 1 = some (.inr ()) := rfl
  by_cases hv : (0 : Int) ≤ a ∧ a < 3
  · rcases t3 with rfl | ⟨rfl, hA⟩
    · refine ⟨md, ho, hcn, hsv, tt2, tle, pl, di, ti, st, ou, 2, xs2, xsv, xle, at2, di2, ma2, to2, ?_, ⟨⟨Z, hR, hc0, hxf⟩, hHf, hs0f, hs1f⟩, hT⟩
      simp only [flaw_21, fL_loadMaster, fX9_loadMaster, cMaY hb hv, t1, s0, fX10_loadMaster, mMaY hb hv, t2, nn10, nn20, nn21, e01, true_or, or_true, Option.bind_some, Option.map_some, fX10_thrown, hd0, hd1, hd2, hd3, e10, e20, e30, eq_self, ↓reduceIte, lgu]
    · obtain ⟨c, rfl⟩ : ∃ q : Nat, a = q := ⟨a.toNat, by omega⟩
      have hc3 : c < 3 := by omega
      obtain ⟨w, hw⟩ : ∃ w : Nat → Int, ∀ j : Nat, j < 16 → (5 ≤ w j ∧ w j ≤ 99) ∧ tt2 j = zI (w j) ∧ xs2 (1404 + j) = zI (w j) := by
        refine ⟨fun j => (tt2 j).toInt, fun j hj => ?_⟩
        obtain ⟨y, y1, y2, y3⟩ := hA j hj
        have e : (tt2 j).toInt = y := by rw [y2, zI_toInt (by omega)]
        try dsimp only
        rw [e]
        exact ⟨y1, y2, y3⟩
      obtain ⟨md2, e3, hmd2⟩ := cLoad hc3 hmd (fun j hj => (hw j hj).2.1)
      have hRY := loY_R hR hc3 (w := w) (fun j hj => (hw j hj).1)
      obtain ⟨zs, e4, hx3, hz⟩ := mLoad hc3 hx2 (fun j hj => ⟨(hw j hj).1, (hfr _ (by omega)).trans (hw j hj).2.2⟩)
      have e5 : fX6_greatestOf md2 (zI (c : Int)) = some (zI (gmZ (loY Z c w) c)) := zcX6_greatestOf hmd2 hRY hc3
      refine ⟨md2, ho2, hcn2, hsv2, tt2, 0, pl, di, ti, st, vp_updL ou (0 : Int32).toNatClampNeg (zI (gmZ (loY Z c w) c)).toInt64, 0, zs, yv, 0, at2, di2, ma2, to2, ?_, core_up hRY ⟨hmd2, fun q k hq hk => by have h9 := hrd q k hq hk; unfold dZ at *; rw [loY_o (by omega)]; exact h9, fun q hq => by rw [loY_o (by omega)]; exact hrw q hq, fun q hq => by rw [loY_o (by omega)]; exact hrp q hq, by rw [loY_o (by omega)], by rw [loY_o (by omega)], by rw [loY_o (by omega)], by rw [loY_o (by omega)], by rw [loY_o (by omega)], by rw [loY_o (by omega)], by rw [loY_o (by omega)], by rw [loY_o (by omega)], by rw [loY_o (by omega)], by rw [loY_o (by omega)], by rw [loY_o (by omega)], by rw [loY_o (by omega)], by rw [loY_o (by omega)], by rw [loY_o (by omega)], by rw [loY_o (by omega)], by rw [loY_o (by omega)], by rw [loY_o (by omega)], by rw [loY_o (by omega)]⟩ hx3 hH2 hfr (fun i i1 _ => hz i (by omega)) hs0f hs1f, ⟨0, by omega, rfl, rfl, fun j hj => by omega⟩⟩
      simp only [flaw_21, fL_loadMaster, fX9_loadMaster, cMaY hb hv, t1, s1', e1, e3, fX5_empty, e5, fX10_loadMaster, mMaY hb hv, t2, e2, e4, nn10, nn20, nn21, e01, true_or, or_true, Option.bind_some, Option.map_some, fX10_thrown, hd0, hd1, hd2, hd3, e10, e20, e30, eq_self, ↓reduceIte, lgu]
  · refine ⟨md, ho, hcn, hsv, tt, tle, tpl, tdi, tti, tst, ou, 1, xs, xsv, xle, xat, xdi, xma, xto, ?_, ⟨⟨Z, hR, hc0, hx⟩, hH, hs0, hs1⟩, hT⟩
    simp only [flaw_21, fL_loadMaster, fX9_loadMaster, cMaN hb hv, fX10_loadMaster, mMaN hb hv, nn10, nn20, nn21, e01, true_or, or_true, Option.bind_some, Option.map_some, fX10_thrown, hd0, hd1, hd2, hd3, e10, e20, e30, eq_self, ↓reduceIte, lgu]
end MUQ
