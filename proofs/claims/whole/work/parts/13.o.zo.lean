/-! means as doubles -/
def dbZ (n : Nat) : UInt64 := FP.ddiv (FP.i2d (zI (n : Int))) 4625196817309499392
def bck (n : Nat) : Bool :=
  (match fX9_bitsOfMean (zI (n : Int)), fX10_doubleBits (dbZ n) with
   | some a, some b => decide (a = b)
   | _, _ => false) && (decide (dbZ n &&& 0x7fffffffffffffff ≤ 0x7ff0000000000000) && decide ((Op.cmpValue (FP.dcmp (dbZ n) (dbZ n)) .l) = 0))
theorem bk_0 : (List.range' 16 128).all bck = true := by decide +kernel
theorem bk_1 : (List.range' 144 128).all bck = true := by decide +kernel
theorem bk_2 : (List.range' 272 128).all bck = true := by decide +kernel
theorem bk_3 : (List.range' 400 128).all bck = true := by decide +kernel
theorem bk_4 : (List.range' 528 128).all bck = true := by decide +kernel
theorem bk_5 : (List.range' 656 128).all bck = true := by decide +kernel
theorem bk_6 : (List.range' 784 128).all bck = true := by decide +kernel
theorem bk_7 : (List.range' 912 128).all bck = true := by decide +kernel
theorem bk_8 : (List.range' 1040 128).all bck = true := by decide +kernel
theorem bk_9 : (List.range' 1168 128).all bck = true := by decide +kernel
theorem bk_10 : (List.range' 1296 128).all bck = true := by decide +kernel
theorem bk_11 : (List.range' 1424 128).all bck = true := by decide +kernel
theorem bk_12 : (List.range' 1552 128).all bck = true := by decide +kernel
theorem bk_13 : (List.range' 1680 128).all bck = true := by decide +kernel
theorem bk_14 : (List.range' 1808 113).all bck = true := by decide +kernel
theorem bk_all {n : Nat} (h : 16 ≤ n ∧ n ≤ 1920) : bck n = true := by
  by_cases c0 : n < 144
  · exact List.all_eq_true.mp bk_0 n (List.mem_range'_1.mpr ⟨by omega, by omega⟩)
  by_cases c1 : n < 272
  · exact List.all_eq_true.mp bk_1 n (List.mem_range'_1.mpr ⟨by omega, by omega⟩)
  by_cases c2 : n < 400
  · exact List.all_eq_true.mp bk_2 n (List.mem_range'_1.mpr ⟨by omega, by omega⟩)
  by_cases c3 : n < 528
  · exact List.all_eq_true.mp bk_3 n (List.mem_range'_1.mpr ⟨by omega, by omega⟩)
  by_cases c4 : n < 656
  · exact List.all_eq_true.mp bk_4 n (List.mem_range'_1.mpr ⟨by omega, by omega⟩)
  by_cases c5 : n < 784
  · exact List.all_eq_true.mp bk_5 n (List.mem_range'_1.mpr ⟨by omega, by omega⟩)
  by_cases c6 : n < 912
  · exact List.all_eq_true.mp bk_6 n (List.mem_range'_1.mpr ⟨by omega, by omega⟩)
  by_cases c7 : n < 1040
  · exact List.all_eq_true.mp bk_7 n (List.mem_range'_1.mpr ⟨by omega, by omega⟩)
  by_cases c8 : n < 1168
  · exact List.all_eq_true.mp bk_8 n (List.mem_range'_1.mpr ⟨by omega, by omega⟩)
  by_cases c9 : n < 1296
  · exact List.all_eq_true.mp bk_9 n (List.mem_range'_1.mpr ⟨by omega, by omega⟩)
  by_cases c10 : n < 1424
  · exact List.all_eq_true.mp bk_10 n (List.mem_range'_1.mpr ⟨by omega, by omega⟩)
  by_cases c11 : n < 1552
  · exact List.all_eq_true.mp bk_11 n (List.mem_range'_1.mpr ⟨by omega, by omega⟩)
  by_cases c12 : n < 1680
  · exact List.all_eq_true.mp bk_12 n (List.mem_range'_1.mpr ⟨by omega, by omega⟩)
  by_cases c13 : n < 1808
  · exact List.all_eq_true.mp bk_13 n (List.mem_range'_1.mpr ⟨by omega, by omega⟩)
  by_cases c14 : n < 1921
  · exact List.all_eq_true.mp bk_14 n (List.mem_range'_1.mpr ⟨by omega, by omega⟩)
  exact absurd h.2 (by omega)
theorem bits_ok {n : Int} (h : 16 ≤ n ∧ n ≤ 1920) : ∃ b : Int64, fX9_bitsOfMean (zI n) = some b ∧ fX10_doubleBits (FP.ddiv (FP.i2d (zI n)) 4625196817309499392) = some b ∧ (FP.ddiv (FP.i2d (zI n)) 4625196817309499392) &&& 0x7fffffffffffffff ≤ 0x7ff0000000000000 ∧ (Op.cmpValue (FP.dcmp (FP.ddiv (FP.i2d (zI n)) 4625196817309499392) (FP.ddiv (FP.i2d (zI n)) 4625196817309499392)) .l) = 0 := by
  obtain ⟨k, rfl⟩ : ∃ k : Nat, n = k := ⟨n.toNat, by omega⟩
  have hk := bk_all (n := k) (by omega)
  unfold bck at hk
  rw [Bool.and_eq_true, Bool.and_eq_true] at hk
  obtain ⟨h1, h2, h3⟩ := hk
  have h2 := of_decide_eq_true h2
  have h3 := of_decide_eq_true h3
  obtain ⟨x, ex⟩ : ∃ x, fX9_bitsOfMean (zI (k : Int)) = x := ⟨_, rfl⟩
  obtain ⟨y, ey⟩ : ∃ y, fX10_doubleBits (dbZ k) = y := ⟨_, rfl⟩
  rw [ex, ey] at h1
  cases x with
  | none => exact Bool.noConfusion (show false = true from h1)
  | some a =>
    cases y with
    | none => exact Bool.noConfusion (show false = true from h1)
    | some b =>
      have h1 : decide (a = b) = true := h1
      have e := of_decide_eq_true h1
      subst e
      exact ⟨a, ex, ey, h2, h3⟩
theorem bindE {α β : Type} {a b : Option α} {k : α → Option β} {z : Option β} (e : a = b) (h : b.bind k = z) : a.bind k = z := by
  rw [e]
  exact h
theorem vfs {α : Type} {f : Nat → α} {k : Nat} {x : α} : vf_upd f k x k = x := by unfold vf_upd; exact if_pos rfl
/-! hashes -/
theorem hsh (L : Nat → Int64 → Int32 → Option Int64) (f : Nat → Int64) (N : Nat) (hN : N < 2000) (h0 : ∀ n h, L (n + 1) h (zI (N : Int)) = some h) (hs : ∀ (n i : Nat) (h : Int64), i < N → L (n + 1) h (zI (i : Int)) = L n (31 * h + f i) (zI ((i : Int) + 1))) : ∀ h : Int64, L 2000 h 0 = some (zit (fun i h => 31 * h + f i) 0 N h) := by
  intro h
  have key := loopG (S := Int64) (L := fun n i h => L n h (zI (i : Int))) (g := fun i h => 31 * h + f i) (N := N) (P := fun _ _ => True) (out := id) (fun n h _ => h0 n h) (fun n i h hi _ => hs n i h hi) (fun _ _ _ _ => trivial)
  exact (key N 0 2000 h (by omega) hN trivial).1
theorem zit_cat {S : Type} {g : Nat → S → S} : ∀ (a b i : Nat) (s : S), zit g i (a + b) s = zit g (i + a) b (zit g i a s) := by
  intro a
  induction a with
  | zero => intro b i s; rw [Nat.zero_add]; rfl
  | succ a ih =>
    intro b i s
    rw [show a + 1 + b = (a + b) + 1 by omega]
    show zit g (i + 1) (a + b) (g i s) = zit g (i + (a + 1)) b (zit g (i + 1) a (g i s))
    rw [ih, show i + 1 + a = i + (a + 1) by omega]
theorem zit_sh {S : Type} {g : Nat → S → S} (o : Nat) : ∀ (k i : Nat) (s : S), zit g (o + i) k s = zit (fun j => g (o + j)) i k s := by
  intro k
  induction k with
  | zero => intro i s; rfl
  | succ k ih =>
    intro i s
    show zit g (o + i + 1) k (g (o + i) s) = zit (fun j => g (o + j)) (i + 1) k (g (o + i) s)
    rw [← ih, show o + i + 1 = o + (i + 1) by omega]
def h48 (Z : Nat → Int) (h : Int64) : Int64 := zit (fun k h => 31 * h + (zI (Z k)).toInt64) 0 48 h
def hRd (Z : Nat → Int) (k : Nat) (h : Int64) : Int64 := 31 * (31 * (31 * h + (zI (rdZ Z k)).toInt64) + (zI (rdZ Z k)).toInt64) + (zI (tgZ Z k)).toInt64
def hSt (Z : Nat → Int) (h : Int64) : Int64 := 31 * (31 * (31 * (31 * (31 * (31 * (31 * (31 * (31 * (31 * (31 * h + (zI (Z 48)).toInt64) + (zI (Z 49)).toInt64) + (zI (Z 50)).toInt64) + (zI (Z 52)).toInt64) + (zI (Z 53)).toInt64) + (zI (Z 54)).toInt64) + (zI (cuZ Z)).toInt64) + (zI (Z 55)).toInt64) + (zI (Z 56)).toInt64) + (zI (Z 57)).toInt64) + (zI (Z 58)).toInt64
def hLa (Z : Nat → Int) (h : Int64) : Int64 := 31 * (zit (hRd Z) 0 16 (hSt Z (h48 Z h))) + (zI (loZ Z)).toInt64
def hPi (Z : Nat → Int) (b : Int64) (q : Nat) (h : Int64) : Int64 := 31 * (31 * (31 * (31 * (31 * (31 * (31 * (31 * (zit (fun k h => 31 * h + (zI (dZ Z q k)).toInt64) 0 16 (31 * h + (zI (Z (66 + 18 * q))).toInt64)) + (zI (Z (67 + 18 * q))).toInt64) + (zI (prZ Z q)).toInt64) + (zI (tkZ Z q 1)).toInt64) + (zI (tkZ Z q (-1))).toInt64) + (zI (faZ Z q)).toInt64) + (zI (liZ Z q)).toInt64) + (zI (alZ Z q)).toInt64) + b
theorem t640 : (zI 0).toInt64 = 0 := by decide
theorem t641 : (zI 1).toInt64 = 1 := by decide
section HSH
variable {md rd rw rp xs : Nat → Int32} {Z : Nat → Int}
theorem zcX9_hashOfMasters (hmd : ∀ j : Nat, j < 48 → md j = zI (Z j)) (h : Int64) : fX9_hashOfMasters md h = some (h48 Z h) := by
  have k14 : ∀ c : Nat, c < 3 → ∀ h : Int64, fX9_hashOfMasters_L14 md (zI c) 2000 h 0 = some (zit (fun i h => 31 * h + (zI (mZ Z c i)).toInt64) 0 16 h) := fun c hc => hsh (fun n h v => fX9_hashOfMasters_L14 md (zI c) n h v) (fun i => (zI (mZ Z c i)).toInt64) 16 (by omega) (by
      intro n h
      try dsimp only
      rw [fX9_hashOfMasters_L14]
      exact ite_t (by decide)) (by
      intro n i h hi
      try dsimp only
      rw [fX9_hashOfMasters_L14, ite_n (show ¬ ((16 : Int32) ≤ zI (i : Int)) by rw [zL16, zI_le (by omega)]; omega), zcX6_at hmd hc hi, Option.bind_some, zL1, zI_add]
      rfl)
  have key := loopG (S := Int64) (L := fun n c h => fX9_hashOfMasters_L5 md n h (zI c)) (g := fun c h => zit (fun i h => 31 * h + (zI (mZ Z c i)).toInt64) 0 16 h) (N := 3) (P := fun _ _ => True) (out := id) (by
      intro n h _
      try dsimp only
      rw [fX9_hashOfMasters_L5]
      exact ite_t (by decide)) (by
      intro n c h hc _
      try dsimp only
      rw [fX9_hashOfMasters_L5, ite_n (show ¬ ((3 : Int32) ≤ zI (c : Int)) by rw [zL3, zI_le (by omega)]; omega), k14 c hc, Option.bind_some, zL1, zI_add]
      rfl) (fun _ _ _ _ => trivial)
  unfold fX9_hashOfMasters
  rw [show fX9_hashOfMasters_L5 md 2000 h 0 = _ from (key 3 0 2000 h rfl (by omega) trivial).1, Option.bind_some]
  refine congrArg some ?_
  unfold h48
  rw [show (48 : Nat) = 16 + (16 + 16) from rfl, zit_cat, zit_cat]
  show zit (fun i h => 31 * h + (zI (mZ Z 2 i)).toInt64) 0 16 (zit (fun i h => 31 * h + (zI (mZ Z 1 i)).toInt64) 0 16 (zit (fun i h => 31 * h + (zI (mZ Z 0 i)).toInt64) 0 16 h)) = _
  rw [show 0 + 16 + 16 = 32 + 0 from rfl, show 0 + 16 = 16 + 0 from rfl, zit_sh 32, zit_sh 16]
  have e0 : (fun (i : Nat) (h : Int64) => 31 * h + (zI (mZ Z 0 i)).toInt64) = fun k h => 31 * h + (zI (Z k)).toInt64 := by
    funext i h
    unfold mZ
    rw [show 16 * 0 + i = i by omega]
  rw [e0]
  rfl
theorem mX10_mixL2 (hx : MoS Z 0 xs) (h : Int64) : fX10_mixLathe_L2 xs 2000 0 h = some (h48 Z h) :=
  hsh (fun n h v => fX10_mixLathe_L2 xs n v h) (fun i => (zI (Z i)).toInt64) 48 (by omega) (by
      intro n h
      try dsimp only
      rw [fX10_mixLathe_L2]
      exact ite_t (by decide)) (by
      intro n i h hi
      try dsimp only
      rw [fX10_mixLathe_L2, ite_n (show ¬ ((48 : Int32) ≤ zI (i : Int)) by rw [zL48, zI_le (by omega)]; omega), ite_t (show ¬ (zI (i : Int) < 0 ∨ 1560 ≤ (zI (i : Int)).toNatClampNeg) from ixB (by omega)), hx.g i (by omega) (by omega), zL1, zI_add]
      rfl) h
theorem zcX9_settings (hR : Rg Z) (h : Int64) : fX9_hashOfSettings (zI (Z 48)) (zI (Z 49)) (zI (Z 50)) (zI (Z 52)) (zI (Z 53)) (zI (Z 54)) (zI (Z 55)) (zI (Z 56)) (zI (Z 57)) (zI (Z 58)) h = some (hSt Z h) := by
  have e0 : (zI 0 = (0 : Int32)) = True := eq_true (by decide)
  have e1 : (zI 1 = (0 : Int32)) = False := eq_false (by decide)
  unfold fX9_hashOfSettings hSt
  rcases hR.ja with e | e
  · rw [e, t640]
    simp only [fX9_mixed, Option.bind_some, zcX1_reach hR, e0, ↓reduceIte]
  · rw [e, t641]
    simp only [fX9_mixed, Option.bind_some, zcX1_reach hR, e1, ↓reduceIte]
theorem zcX9_readL (hmd : ∀ j : Nat, j < 48 → md j = zI (Z j)) (hR : Rg Z) : ∀ (k i n : Nat) (h : Int64) (wa : Nat → Int32), i + k = 16 → k < n → ∃ wa2 : Nat → Int32, fX9_hashOfReadings_L5 md (zI (Z 48)) (zI (Z 49)) (zI (Z 50)) (zI (Z 52)) n h (zI (i : Int)) wa = some (zit (hRd Z) i k h, wa2) := by
  intro k
  induction k with
  | zero =>
    intro i n h wa e hn
    obtain ⟨m, rfl⟩ : ∃ m, n = m + 1 := ⟨n - 1, by omega⟩
    have e' : i = 16 := by omega
    subst e'
    refine ⟨wa, ?_⟩
    rw [fX9_hashOfReadings_L5]
    exact ite_t (by decide)
  | succ k ih =>
    intro i n h wa e hn
    obtain ⟨m, rfl⟩ : ∃ m, n = m + 1 := ⟨n - 1, by omega⟩
    have hi : i < 16 := by omega
    obtain ⟨wa2, e1⟩ := zcX9_firstWaiting hmd hR hi wa
    obtain ⟨wa3, e3⟩ := ih (i + 1) m (hRd Z i h) wa2 (by omega) (by omega)
    refine ⟨wa3, ?_⟩
    rw [fX9_hashOfReadings_L5, ite_n (show ¬ ((16 : Int32) ≤ zI (i : Int)) by rw [zL16, zI_le (by omega)]; omega)]
    simp only [zcX4_reading hmd hR hi, e1, zcX4_target hmd hR hi, fX9_mixed, Option.bind_some]
    rw [zL1, zI_add]
    exact e3
theorem zcX9_hashOfReadings (hmd : ∀ j : Nat, j < 48 → md j = zI (Z j)) (hR : Rg Z) (wa : Nat → Int32) (h : Int64) : ∃ wa2 : Nat → Int32, fX9_hashOfReadings md (zI (Z 48)) (zI (Z 49)) (zI (Z 50)) (zI (Z 52)) wa h = some (31 * (zit (hRd Z) 0 16 h) + (zI (loZ Z)).toInt64, wa2) := by
  obtain ⟨wa2, e⟩ := zcX9_readL hmd hR 16 0 2000 h wa rfl (by omega)
  refine ⟨wa2, ?_⟩
  unfold fX9_hashOfReadings
  rw [show fX9_hashOfReadings_L5 md (zI (Z 48)) (zI (Z 49)) (zI (Z 50)) (zI (Z 52)) 2000 h 0 wa = _ from e, Option.bind_some]
  simp only [zcX9_lostGrooves hmd hR, fX9_mixed, Option.bind_some]
theorem mX10_mixRd (hx : MoS Z 0 xs) (hR : Rg Z) (h : Int64) : fX10_mixLathe_L157 xs 2000 0 h = some (zit (hRd Z) 0 16 h) := by
  have key := loopG (S := Int64) (L := fun n i h => fX10_mixLathe_L157 xs n (zI (i : Int)) h) (g := hRd Z) (N := 16) (P := fun _ _ => True) (out := id) (by
      intro n h _
      try dsimp only
      rw [fX10_mixLathe_L157]
      exact ite_t (by decide)) (by
      intro n i h hi _
      try dsimp only
      have e1 : fX10_reading xs 0 (zI (i : Int)) = some (zI (rdZ Z i)) := by rw [zL0]; exact mX10_reading hx hR hi
      have e2 : fX10_target xs 0 (zI (i : Int)) = some (zI (tgZ Z i)) := by rw [zL0]; exact mX10_target hx hR hi
      rw [fX10_mixLathe_L157, ite_n (show ¬ ((16 : Int32) ≤ zI (i : Int)) by rw [zL16, zI_le (by omega)]; omega)]
      simp only [e1, e2, fX10_mix, Option.bind_some]
      rw [zL1, zI_add]
      rfl) (fun _ _ _ _ => trivial)
  exact (key 16 0 2000 h rfl (by omega) trivial).1
theorem mX10_mixLathe (hx : MoS Z 0 xs) (hR : Rg Z) (h : Int64) : fX10_mixLathe xs h = some (hLa Z h) := by
  have g48 : xs (48 : Int32).toNatClampNeg = zI (Z 48) := by rw [zL48]; exact hx.g 48 (by omega) (by omega)
  have g49 : xs (49 : Int32).toNatClampNeg = zI (Z 49) := by rw [zL49]; exact hx.g 49 (by omega) (by omega)
  have g50 : xs (50 : Int32).toNatClampNeg = zI (Z 50) := by rw [zL50]; exact hx.g 50 (by omega) (by omega)
  have g52 : xs (52 : Int32).toNatClampNeg = zI (Z 52) := by rw [zL52]; exact hx.g 52 (by omega) (by omega)
  have g53 : xs (53 : Int32).toNatClampNeg = zI (Z 53) := by rw [zL53]; exact hx.g 53 (by omega) (by omega)
  have g54 : xs (54 : Int32).toNatClampNeg = zI (Z 54) := by rw [zL54]; exact hx.g 54 (by omega) (by omega)
  have g55 : xs (55 : Int32).toNatClampNeg = zI (Z 55) := by rw [zL55]; exact hx.g 55 (by omega) (by omega)
  have g56 : xs (56 : Int32).toNatClampNeg = zI (Z 56) := by rw [zL56]; exact hx.g 56 (by omega) (by omega)
  have g57 : xs (57 : Int32).toNatClampNeg = zI (Z 57) := by rw [zL57]; exact hx.g 57 (by omega) (by omega)
  have g58 : xs (58 : Int32).toNatClampNeg = zI (Z 58) := by rw [zL58]; exact hx.g 58 (by omega) (by omega)
  have e1 : fX10_cuts xs 0 = some (zI (cuZ Z)) := by rw [zL0]; exact mX10_cuts hx hR
  unfold fX10_mixLathe
  simp only [mX10_mixL2 hx, mX10_mixRd hx hR, mX10_lost hx hR, e1, g48, g49, g50, g52, g53, g54, g55, g56, g57, g58, fX10_mix, Option.bind_some]
  rfl
theorem zcX9_hashOfPiece (hmd : ∀ j : Nat, j < 48 → md j = zI (Z j)) (hrd : rdO Z rd) (hrw : rwO Z rw) (hrp : rpO Z rp) (hR : Rg Z) {q : Nat} (hq2 : (q : Int) < Z 59) {b : Int64} (hbb : fX9_bitsOfMean (zI (sdZ Z q)) = some b) (h : Int64) : fX9_hashOfPiece md (zI (Z 48)) (zI (Z 49)) (zI (Z 50)) (zI (Z 52)) rd rw rp (zI (Z 59)) (zI (Z 56)) h (zI (q : Int)) = some (hPi Z b q h) := by
  have hq : q < 5 := by have := hR.co; omega
  have c1 := cPiY hR (a := (q : Int)) (by omega) (by omega)
  have e1 : fX8_at 5 rw (zI (q : Int)) = some (zI (Z (66 + 18 * q))) := by rw [zcX8_at (by omega) hq, hrw q hq]
  have e2 : fX8_at 5 rp (zI (q : Int)) = some (zI (Z (67 + 18 * q))) := by rw [zcX8_at (by omega) hq, hrp q hq]
  have e3 : ∀ h : Int64, fX9_hashOfPiece_L24 rd (zI (q : Int)) 2000 h 0 = some (zit (fun k h => 31 * h + (zI (dZ Z q k)).toInt64) 0 16 h) := hsh (fun n h v => fX9_hashOfPiece_L24 rd (zI (q : Int)) n h v) (fun i => (zI (dZ Z q i)).toInt64) 16 (by omega) (by
      intro n h
      try dsimp only
      rw [fX9_hashOfPiece_L24]
      exact ite_t (by decide)) (by
      intro n i h hi
      try dsimp only
      rw [fX9_hashOfPiece_L24, ite_n (show ¬ ((16 : Int32) ≤ zI (i : Int)) by rw [zL16, zI_le (by omega)]; omega), zcX7_at hrd hq hi, Option.bind_some, zL1, zI_add]
      rfl)
  have e4 : fX9_tooThick md (zI (Z 48)) rd (zI (Z 59)) (zI (q : Int)) = some (.inr (zI (tkZ Z q 1))) := by
    have h9 : fX9_tooThick_L9 md (zI (Z 48)) rd (zI q) 2000 0 0 = some (zI (tkZ Z q 1)) := zcX9_tooThick_L hmd hrd hR hq
    simp only [fX9_tooThick, c1, h9, Option.bind_some, Option.map_some]
  have e5 : fX9_tooThin md (zI (Z 48)) rd (zI (Z 59)) (zI (q : Int)) = some (.inr (zI (tkZ Z q (-1)))) := by
    have h9 : fX9_tooThin_L9 md (zI (Z 48)) rd (zI q) 2000 0 0 = some (zI (tkZ Z q (-1))) := zcX9_tooThin_L hmd hrd hR hq
    simp only [fX9_tooThin, c1, h9, Option.bind_some, Option.map_some]
  have e6 : fX9_mostLike md rd (zI (Z 59)) (zI (q : Int)) = some (.inr (zI (liZ Z q))) := by
    have h9 : fX9_mostLike_L9 md rd (zI q) 2000 0 1 = some (zI (liZ Z q)) := zcX9_mostLike_L hmd hrd hR hq
    simp only [fX9_mostLike, c1, h9, Option.bind_some, Option.map_some]
  unfold fX9_hashOfPiece
  simp only [e1, e2, e3, e4, e5, e6, zcX7_price hrd hrw hR hq, zcX4_faults hmd hrd hR hq, zcX4_allAbove hmd hrd hR hq, zcX7_sumOf hrd hR hq, hbb, fX9_mixed, Option.bind_some]
  rfl
theorem mX10_mixPiece (hx : MoS Z 0 xs) (hR : Rg Z) {q : Nat} (hq2 : (q : Int) < Z 59) {b : Int64} (hbb : fX10_doubleBits (FP.ddiv (FP.i2d (zI (sdZ Z q))) 4625196817309499392) = some b) (hnn : (FP.ddiv (FP.i2d (zI (sdZ Z q))) 4625196817309499392) &&& 0x7fffffffffffffff ≤ 0x7ff0000000000000) (h : Int64) : fX10_mixPiece xs h (zI (q : Int)) = some (hPi Z b q h) := by
  have hq : q < 5 := by have := hR.co; omega
  have e1 : fX10_of xs 0 (zI (q : Int)) 0 = some (zI (Z (66 + 18 * q))) := mX10_wood hx hq
  have e2 : fX10_of xs 0 (zI (q : Int)) 1 = some (zI (Z (67 + 18 * q))) := mX10_done hx hq
  have e3 : ∀ h : Int64, fX10_mixPiece_L14 xs (zI (q : Int)) 2000 0 h = some (zit (fun k h => 31 * h + (zI (dZ Z q k)).toInt64) 0 16 h) := hsh (fun n h v => fX10_mixPiece_L14 xs (zI (q : Int)) n v h) (fun i => (zI (dZ Z q i)).toInt64) 16 (by omega) (by
      intro n h
      try dsimp only
      rw [fX10_mixPiece_L14]
      exact ite_t (by decide)) (by
      intro n i h hi
      try dsimp only
      have e9 : fX10_of xs 0 (zI (q : Int)) (2 + zI (i : Int)) = some (zI (dZ Z q i)) := by
        rw [zL0, zL2, zI_add]
        exact mX10_at hx hq hi
      rw [fX10_mixPiece_L14, ite_n (show ¬ ((16 : Int32) ≤ zI (i : Int)) by rw [zL16, zI_le (by omega)]; omega), e9, Option.bind_some, zL1, zI_add]
      rfl)
  have e4 : fX10_worst xs (zI (q : Int)) 1 = some (zI (tkZ Z q 1)) := by rw [zL1]; exact mX10_worst hx hR hq (Or.inl rfl)
  have e5 : fX10_worst xs (zI (q : Int)) (-1) = some (zI (tkZ Z q (-1))) := by rw [zLm]; exact mX10_worst hx hR hq (Or.inr rfl)
  have e8 := eq_true hnn
  unfold fX10_mixPiece
  simp only [e1, e2, e3, e4, e5, mX10_price hx hR hq, mX10_faults hx hR hq, mX10_most hx hR hq, mX10_allAbove hx hR hq, mX10_sumOf hx hR hq, e8, hbb, fX10_mix, Option.bind_some, ↓reduceIte]
  rfl
theorem bitsQ (hR : Rg Z) : ∃ B : Nat → Int64, ∀ q : Nat, (q : Int) < Z 59 → fX9_bitsOfMean (zI (sdZ Z q)) = some (B q) ∧ fX10_doubleBits (FP.ddiv (FP.i2d (zI (sdZ Z q))) 4625196817309499392) = some (B q) ∧ (FP.ddiv (FP.i2d (zI (sdZ Z q))) 4625196817309499392) &&& 0x7fffffffffffffff ≤ 0x7ff0000000000000 := by
  refine ⟨fun q => (fX9_bitsOfMean (zI (sdZ Z q))).getD 0, fun q hq2 => ?_⟩
  have hq : q < 5 := by have := hR.co; omega
  obtain ⟨b, b1, b2, b3, -⟩ := bits_ok (n := sdZ Z q) ⟨sdZ_p hR hq hq2, (sdZ_b hR hq).2⟩
  try dsimp only
  rw [b1]
  exact ⟨rfl, b2, b3⟩
theorem zcX9_pieces (hmd : ∀ j : Nat, j < 48 → md j = zI (Z j)) (hrd : rdO Z rd) (hrw : rwO Z rw) (hrp : rpO Z rp) (hR : Rg Z) {N : Nat} (hN : Z 59 = N) {B : Nat → Int64} (hB : ∀ q : Nat, (q : Int) < Z 59 → fX9_bitsOfMean (zI (sdZ Z q)) = some (B q)) (h : Int64) : fX9_digest_L38 md (zI (Z 48)) (zI (Z 49)) (zI (Z 50)) (zI (Z 52)) rd rw rp (zI (Z 59)) (zI (Z 56)) 2000 h 0 = some (zit (fun q h => hPi Z (B q) q h) 0 N h) := by
  have h5 := hR.co
  have key := loopG (S := Int64) (L := fun n i h => fX9_digest_L38 md (zI (Z 48)) (zI (Z 49)) (zI (Z 50)) (zI (Z 52)) rd rw rp (zI (Z 59)) (zI (Z 56)) n h (zI (i : Int))) (g := fun q h => hPi Z (B q) q h) (N := N) (P := fun _ _ => True) (out := id) (by
      intro n h _
      try dsimp only
      rw [fX9_digest_L38]
      exact ite_t (by rw [hN, zI_le (by omega)]; omega)) (by
      intro n i h hi _
      try dsimp only
      rw [fX9_digest_L38, ite_n (by rw [hN, zI_le (by omega)]; omega), zcX9_hashOfPiece hmd hrd hrw hrp hR (by omega) (hB i (by omega)), Option.bind_some, zL1, zI_add]
      rfl) (fun _ _ _ _ => trivial)
  exact (key N 0 2000 h (by omega) (by omega) trivial).1
theorem mX10_pieces (hx : MoS Z 0 xs) (hR : Rg Z) {N : Nat} (hN : Z 59 = N) {B : Nat → Int64} (hB : ∀ q : Nat, (q : Int) < Z 59 → fX10_doubleBits (FP.ddiv (FP.i2d (zI (sdZ Z q))) 4625196817309499392) = some (B q) ∧ (FP.ddiv (FP.i2d (zI (sdZ Z q))) 4625196817309499392) &&& 0x7fffffffffffffff ≤ 0x7ff0000000000000) (h : Int64) : fX10_digest_L30 xs 2000 0 h = some (zit (fun q h => hPi Z (B q) q h) 0 N h) := by
  have h5 := hR.co
  have g59 : xs (59 : Int32).toNatClampNeg = zI (Z 59) := by rw [zL59]; exact hx.g 59 (by omega) (by omega)
  have key := loopG (S := Int64) (L := fun n i h => fX10_digest_L30 xs n (zI (i : Int)) h) (g := fun q h => hPi Z (B q) q h) (N := N) (P := fun _ _ => True) (out := id) (by
      intro n h _
      try dsimp only
      rw [fX10_digest_L30]
      exact ite_t (by rw [g59, hN, zI_le (by omega)]; omega)) (by
      intro n i h hi _
      try dsimp only
      rw [fX10_digest_L30, ite_n (by rw [g59, hN, zI_le (by omega)]; omega), mX10_mixPiece hx hR (by omega) (hB i (by omega)).1 (hB i (by omega)).2, Option.bind_some, zL1, zI_add]
      rfl) (fun _ _ _ _ => trivial)
  exact (key N 0 2000 h (by omega) (by omega) trivial).1
def hAc (Z : Nat → Int) (n : Nat) (h : Int64) : Int64 := 31 * (31 * (31 * (31 * (31 * (31 * (31 * h + (zI (Z 60 + 1)).toInt64) + (zI (Z 61)).toInt64) + (zI (Z 62)).toInt64) + (zI (Z 63)).toInt64) + (zI (Z 64)).toInt64) + (zI (Z 65)).toInt64) + (nI n).toInt64
def hPr (Z : Nat → Int) (h : Int64) : Int64 :=
  if Z 60 = -1 then h else
  if Z 53 = 0 then 31 * (31 * h + (if moZ Z (Z 60).toNat = 0 then 1 else 0)) + (zI (dvZ (Z 53) (blZ Z (Z 60).toNat))).toInt64
  else 31 * (31 * (31 * (31 * h + (if moZ Z (Z 60).toNat = 0 then 1 else 0)) + (zI (dvZ (Z 53) (blZ Z (Z 60).toNat))).toInt64) + (zI (dvZ (moZ Z (Z 60).toNat) (cuZ Z))).toInt64) + (zI (dvZ (moZ Z (Z 60).toNat) (cuZ Z))).toInt64
theorem mX10_mixAccounts (hx : MoS Z 0 xs) (hR : Rg Z) (n : Nat) (h : Int64) : fX10_mixAccounts xs (nI n) h = some (hPr Z (hAc Z n h)) := by
  have g53 : xs (53 : Int32).toNatClampNeg = zI (Z 53) := by rw [zL53]; exact hx.g 53 (by omega) (by omega)
  have g60 : xs (60 : Int32).toNatClampNeg = zI (Z 60) := by rw [zL60]; exact hx.g 60 (by omega) (by omega)
  have g61 : xs (61 : Int32).toNatClampNeg = zI (Z 61) := by rw [zL61]; exact hx.g 61 (by omega) (by omega)
  have g62 : xs (62 : Int32).toNatClampNeg = zI (Z 62) := by rw [zL62]; exact hx.g 62 (by omega) (by omega)
  have g63 : xs (63 : Int32).toNatClampNeg = zI (Z 63) := by rw [zL63]; exact hx.g 63 (by omega) (by omega)
  have g64 : xs (64 : Int32).toNatClampNeg = zI (Z 64) := by rw [zL64]; exact hx.g 64 (by omega) (by omega)
  have g65 : xs (65 : Int32).toNatClampNeg = zI (Z 65) := by rw [zL65]; exact hx.g 65 (by omega) (by omega)
  have h1 := hR.mo
  have h2 := hR.co
  have h3 := hR.sh
  have a1 : zI (Z 60) + 1 = zI (Z 60 + 1) := by rw [zL1, zI_add]
  unfold fX10_mixAccounts hPr
  by_cases hv : Z 60 = -1
  · have c1 : (zI (Z 60) = (-1 : Int32)) = True := eq_true (by rw [hv]; exact zLm.symm)
    simp only [g60, g61, g62, g63, g64, g65, a1, fX10_mix, Option.bind_some, c1, ↓reduceIte]
    rw [if_pos hv]
    rfl
  · have c1 : (zI (Z 60) = (-1 : Int32)) = False := eq_false (by rw [zLm, zI_eq (by omega)]; exact hv)
    obtain ⟨q, hm, hq, hq2⟩ := moN hR hv
    have hm2 : (Z 60).toNat = q := by omega
    have e1 : fX10_mostAbove xs 0 (zI (Z 60)) = some (zI (moZ Z q)) := by rw [zL0, hm]; exact mX10_mostAbove hx hR hq
    have e2 : fX10_toBlunt xs = some (zI (dvZ (Z 53) (blZ Z q))) := mX10_toBlunt hx hR hq hm
    have hmo := moZ_b hR hq
    rw [if_neg hv, hm2]
    by_cases hs : Z 53 = 0
    · have c2 : (zI (Z 53) ≤ (0 : Int32)) = True := eq_true (by rw [zL0, zI_le (by omega)]; omega)
      rw [if_pos hs]
      by_cases hz : moZ Z q = 0
      · have c3 : (zI (moZ Z q) = (0 : Int32)) = True := eq_true (by rw [hz]; rfl)
        simp only [g53, g60, g61, g62, g63, g64, g65, a1, fX10_mix, Option.bind_some, c1, e1, c3, e2, c2, ↓reduceIte]
        rw [if_pos hz]
        rfl
      · have c3 : (zI (moZ Z q) = (0 : Int32)) = False := eq_false (by rw [zL0, zI_eq (by omega)]; exact hz)
        simp only [g53, g60, g61, g62, g63, g64, g65, a1, fX10_mix, Option.bind_some, c1, e1, c3, e2, c2, ↓reduceIte]
        rw [if_neg hz]
        rfl
    · have c2 : (zI (Z 53) ≤ (0 : Int32)) = False := eq_false (by rw [zL0, zI_le (by omega)]; omega)
      have e3 : fX10_toFinish xs = some (zI (dvZ (moZ Z q) (cuZ Z))) := mX10_toFinish hx hR hq hm (by omega)
      rw [if_neg hs]
      by_cases hz : moZ Z q = 0
      · have c3 : (zI (moZ Z q) = (0 : Int32)) = True := eq_true (by rw [hz]; rfl)
        simp only [g53, g60, g61, g62, g63, g64, g65, a1, fX10_mix, Option.bind_some, c1, e1, c3, e2, c2, e3, ↓reduceIte]
        rw [if_pos hz]
        rfl
      · have c3 : (zI (moZ Z q) = (0 : Int32)) = False := eq_false (by rw [zL0, zI_eq (by omega)]; exact hz)
        simp only [g53, g60, g61, g62, g63, g64, g65, a1, fX10_mix, Option.bind_some, c1, e1, c3, e2, c2, e3, ↓reduceIte]
        rw [if_neg hz]
        rfl
theorem zcX9_prospects (hmd : ∀ j : Nat, j < 48 → md j = zI (Z j)) (hrd : rdO Z rd) (hrw : rwO Z rw) (hR : Rg Z) (hv : Z 60 ≠ -1) (le : Nat → Int32) (h : Int64) : ∃ le2 : Nat → Int32, fX9_hashOfProspects md (zI (Z 48)) (zI (Z 49)) (zI (Z 50)) (zI (Z 52)) (zI (Z 53)) (zI (Z 54)) (zI (Z 55)) rd rw (zI (Z 60)) le h = some (hPr Z h, le2) := by
  have h3 := hR.sh
  obtain ⟨q, hm, hq, hq2⟩ := moN hR hv
  have hm2 : (Z 60).toNat = q := by omega
  have e1 : fX4_mostAbove md (zI (Z 48)) (zI (Z 49)) (zI (Z 50)) (zI (Z 52)) rd (zI (Z 60)) = some (zI (moZ Z q)) := by rw [hm]; exact zcX4_mostAbove hmd hrd hR hq
  have e2 : fX4_blunting (zI (Z 55)) rw (zI (Z 60)) = some (zI (blZ Z q)) := by rw [hm]; exact zcX4_blunting hrw hR hq
  have hmo := moZ_b hR hq
  have hbl := blZ_b hR (q := q)
  have hcu := cuZ_b hR
  have e3 : fX9_dividedUp (zI (Z 53)) (zI (blZ Z q)) = some (zI (dvZ (Z 53) (blZ Z q))) := zcX9_dividedUp (by omega)
  have e4 := zcX1_isSharp hR
  have e5 := zcX1_reach hR
  unfold fX9_hashOfProspects hPr
  rw [if_neg hv, hm2]
  by_cases hs : Z 53 = 0
  · refine ⟨le, ?_⟩
    rw [if_pos hs] at e4 ⊢
    by_cases hz : moZ Z q = 0
    · have c3 : (zI (moZ Z q) = (0 : Int32)) = True := eq_true (by rw [hz]; rfl)
      simp only [e1, e2, e3, e4, c3, fX9_mixed, Option.bind_some, ↓reduceIte]
      rw [if_pos hz]
    · have c3 : (zI (moZ Z q) = (0 : Int32)) = False := eq_false (by rw [zL0, zI_eq (by omega)]; exact hz)
      simp only [e1, e2, e3, e4, c3, fX9_mixed, Option.bind_some, ↓reduceIte]
      rw [if_neg hz]
  · rw [if_neg hs] at e4 ⊢
    obtain ⟨le2, e6⟩ := zcX9_countPasses hmd hrd hR hq (by omega) le
    rw [← hm] at e6
    refine ⟨le2, ?_⟩
    have e7 : fX9_dividedUp (zI (moZ Z q)) (zI (cuZ Z)) = some (zI (dvZ (moZ Z q) (cuZ Z))) := zcX9_dividedUp (by omega)
    by_cases hz : moZ Z q = 0
    · have c3 : (zI (moZ Z q) = (0 : Int32)) = True := eq_true (by rw [hz]; rfl)
      simp only [e1, e2, e3, e4, e5, e6, e7, e10, c3, fX9_mixed, Option.bind_some, ↓reduceIte]
      rw [if_pos hz]
    · have c3 : (zI (moZ Z q) = (0 : Int32)) = False := eq_false (by rw [zL0, zI_eq (by omega)]; exact hz)
      simp only [e1, e2, e3, e4, e5, e6, e7, e10, c3, fX9_mixed, Option.bind_some, ↓reduceIte]
      rw [if_neg hz]
theorem slotsL {hs : Nat → Option Nat} {a b : Int32} (h0 : fX3_isFilled hs 0 = some a) (h1 : fX3_isFilled hs 1 = some b) (ha : a = 0 ∨ a = 1) (hb : b = 0 ∨ b = 1) (h : Int64) : fX9_digest_L110 hs 2000 h 0 = some (31 * (31 * h + (if a = 0 then 0 else 1)) + (if b = 0 then 0 else 1)) := by
  have e2 : ∀ n h, fX9_digest_L110 hs (n + 1) h 2 = some h := fun n h => by rw [fX9_digest_L110]; exact if_pos (by decide)
  have a1 : (1 : Int32) + 1 = 2 := by decide
  have a0 : (0 : Int32) + 1 = 1 := by decide
  have e1 : ∀ n h, fX9_digest_L110 hs (n + 2) h 1 = some (31 * h + (if b = 0 then 0 else 1)) := fun n h => by
    rw [fX9_digest_L110, if_neg (by decide), h1, Option.bind_some]
    rcases hb with rfl | rfl
    · simp only [↓reduceIte, fX9_mixed, Option.bind_some, a1, e2]
    · simp only [e10, ↓reduceIte, fX9_mixed, Option.bind_some, a1, e2]
  rw [fX9_digest_L110, if_neg (by decide), h0, Option.bind_some]
  rcases ha with rfl | rfl
  · simp only [↓reduceIte, fX9_mixed, Option.bind_some, a0]
    exact e1 1997 _
  · simp only [e10, ↓reduceIte, fX9_mixed, Option.bind_some, a0]
    exact e1 1997 _
end HSH
section MUO
variable {md : Nat → Int32} {mch : Int32} {fra : Int32} {fwe : Int32} {fof : Int32} {fsi : Int32} {csh : Int32} {cde : Int32} {csp : Int32} {rd : Nat → Int32} {rw : Nat → Int32} {rp : Nat → Int32} {rco : Int32} {rmo : Int32} {apa : Int32} {awo : Int32} {ash : Int32} {aja : Int32} {abu : Int32} {ltol : Int32} {lchi : Int32} {ljam : Int32} {ho : Int32} {hcn : Int32} {hsv : Nat → Option LTH} {hsl : Nat → Option LTH} {cav : Nat → Nat → Nat} {cal : Nat → Nat → Nat} {ou : Nat → Int64} {od : Nat → UInt64} {xs : Nat → Int32} {xsv : Int32} {xth : Int32} {xk0 : Int32} {xk1 : Int32} {xtx : Nat → Int32} {xle : Int32} {xat : Int32} {xdi : Int32} {xma : Int32} {xto : Int32} {xha : Int64} {wa : Nat → Int32} {le : Nat → Int32} {tc : Nat → Int32} {tt : Nat → Int32} {tle : Int32} {tpl : Int32} {tdi : Int32} {tti : Int32} {tst : Int32} {Z : Nat → Int}
theorem zcX9_txtL {n : Nat} (hn : n ≤ 60) (h : Int64) : fX9_digest_L157 tc (zI (n : Int)) 2000 h 0 = some (zit (fun i h => 31 * h + (tc i).toInt64) 0 n h) :=
  hsh (fun m h v => fX9_digest_L157 tc (zI (n : Int)) m h v) (fun i => (tc i).toInt64) n (by omega) (by
      intro m h
      try dsimp only
      rw [fX9_digest_L157]
      exact ite_t (by rw [zI_le (by omega)]; omega)) (by
      intro m i h hi
      try dsimp only
      rw [fX9_digest_L157, ite_n (by rw [zI_le (by omega)]; omega), zcX8_at (by omega) (by omega), Option.bind_some, zL1, zI_add]
      rfl) h
theorem mX10_txtL {n : Nat} (hn : n ≤ 60) (hc : ∀ j : Nat, j < n → xtx j = tc j) (h : Int64) : fX10_digest_L99 xtx (zI (n : Int)) 2000 0 h = some (zit (fun i h => 31 * h + (tc i).toInt64) 0 n h) :=
  hsh (fun m h v => fX10_digest_L99 xtx (zI (n : Int)) m v h) (fun i => (tc i).toInt64) n (by omega) (by
      intro m h
      try dsimp only
      rw [fX10_digest_L99]
      exact ite_t (by rw [zI_le (by omega)]; omega)) (by
      intro m i h hi
      try dsimp only
      rw [fX10_digest_L99, ite_n (by rw [zI_le (by omega)]; omega), ite_t (show ¬ (zI (i : Int) < 0 ∨ 60 ≤ (zI (i : Int)).toNatClampNeg) from zI_ix (n := 60) (by omega)), zI_cl (by omega), Int.toNat_natCast, hc i hi, zL1, zI_add]
      rfl) h
theorem isF {k : Nat} (hk : k < 2) {K : Int32} (eK : K = zI (k : Int)) {x : Int32} (h : Slot1 hsl k x xs) : (x = 0 ∨ x = 1) ∧ fX3_isFilled (hRow hsl cal) K = some x := by
  subst eK
  have c0 : ¬ (zI (k : Int) < (0 : Int32)) := by rw [zL0, zI_lt (by omega)]; omega
  have c1 : ¬ ((2 : Int32) ≤ zI (k : Int)) := by rw [zL2, zI_le (by omega)]; omega
  have c2 : (zI (k : Int)).toNatClampNeg = k := by rw [zI_cl (by omega)]; omega
  unfold fX3_isFilled
  rw [if_neg c0, if_neg c1, c2]
  rcases h with ⟨rfl, h⟩ | ⟨rfl, σ, h, -⟩
  · rw [hRow_none h]
    exact ⟨Or.inl rfl, rfl⟩
  · rw [hRow_some h]
    exact ⟨Or.inr rfl, rfl⟩
theorem lgs {x : Int64} : lg_cmp x x = 0 := by
  unfold lg_cmp
  rw [if_neg (show ¬ x > x from Int64.lt_irrefl), if_pos rfl]
theorem fk_68 {Z : Nat → Int} (hc : ClS Z (md, mch, fra, fwe, fof, fsi, csh, cde, csp, rd, rw, rp, rco, rmo, apa, awo, ash, aja, abu, ltol, lchi, ljam)) (hR : Rg Z) (hx : MoS Z 0 xs) (s1 : Int32) : (flaw_68 rd rco xs od s1).isSome = true := by
  obtain ⟨hmd, hrd, hrw, hrp, rfl, rfl, rfl, rfl, rfl, rfl, rfl, rfl, rfl, rfl, rfl, rfl, rfl, rfl, rfl, rfl, rfl, rfl⟩ := hc
  obtain ⟨a, hb, rfl⟩ := zI_surj s1
  by_cases hv : 0 ≤ a ∧ a < Z 59
  · obtain ⟨q, rfl⟩ : ∃ q : Nat, a = q := ⟨a.toNat, by omega⟩
    have hq : q < 5 := by have := hR.co; omega
    obtain ⟨b, b1, b2, b3, b4⟩ := bits_ok (n := sdZ Z q) ⟨sdZ_p hR hq hv.2, (sdZ_b hR hq).2⟩
    have b3 := eq_true b3
    have e1 : fX7_sumOf rd (zI (q : Int)) = some (zI (sdZ Z q)) := zcX7_sumOf hrd hR hq
    have e2 : fX10_sumOf xs (zI (q : Int)) = some (zI (sdZ Z q)) := mX10_sumOf hx hR hq
    simp only [flaw_68, fL_meanDiameter, fX9_meanDiameter, cPiY hR hb hv, e1, b3, fX10_meanDiameter, mPiY hx hR hb hv, e2, vfs, b4, nn10, nn20, nn21, e01, true_or, or_true, Option.bind_some, Option.map_some, fX10_thrown, hd0, hd1, hd2, hd3, e10, e20, e30, eq_self, ↓reduceIte, lgu, Option.isSome_some]
  · simp only [flaw_68, fL_meanDiameter, fX9_meanDiameter, cPiN hR hb hv, fX10_meanDiameter, mPiN hx hR hb hv, nn10, nn20, nn21, e01, true_or, or_true, Option.bind_some, Option.map_some, fX10_thrown, hd0, hd1, hd2, hd3, e10, e20, e30, eq_self, ↓reduceIte, lgu, Option.isSome_some]
theorem fk_69 (hc : ClS Z (md, mch, fra, fwe, fof, fsi, csh, cde, csp, rd, rw, rp, rco, rmo, apa, awo, ash, aja, abu, ltol, lchi, ljam)) (hR : Rg Z) (hx : MoS Z 0 xs) (hH : Hist ho hcn hsv xs xsv) (hs0 : Slot1 hsl 0 xk0 xs) (hs1 : Slot1 hsl 1 xk1 xs) (hT : Txt tc tle xtx xle) : (flaw_69 md mch fra fwe fof csh cde csp rd rw rp rco rmo apa awo ash aja abu ltol lchi ljam hcn hsl cal tc tle wa le xs xsv xk0 xk1 xtx xle).isSome = true := by
  obtain ⟨hmd, hrd, hrw, hrp, rfl, rfl, rfl, rfl, rfl, rfl, rfl, rfl, rfl, rfl, rfl, rfl, rfl, rfl, rfl, rfl, rfl, rfl⟩ := hc
  obtain ⟨a, b, h1, h2, -, rfl, rfl, -⟩ := hH
  obtain ⟨n, hn, rfl, rfl, hch⟩ := hT
  have hch : ∀ j : Nat, j < n → xtx j = tc j := fun j hj => by
    obtain ⟨y, -, y1, y2⟩ := hch j hj
    rw [y1, y2]
  obtain ⟨N, hN⟩ : ∃ N : Nat, Z 59 = N := ⟨(Z 59).toNat, by have := hR.co; omega⟩
  obtain ⟨B, hB⟩ := bitsQ hR
  obtain ⟨f0, f1⟩ := isF (k := 0) (cal := cal) (K := 0) (by omega) rfl hs0
  obtain ⟨f2, f3⟩ := isF (k := 1) (cal := cal) (K := 1) (by omega) rfl hs1
  obtain ⟨wa2, r1⟩ := zcX9_hashOfReadings hmd hR wa (hSt Z (h48 Z 4091))
  have p1 := zcX9_pieces hmd hrd hrw hrp hR hN (B := B) (fun q hq => (hB q hq).1)
  have p2 := mX10_pieces hx hR hN (B := B) (fun q hq => (hB q hq).2)
  have g59 : xs (59 : Int32).toNatClampNeg = zI (Z 59) := by rw [zL59]; exact hx.g 59 (by omega) (by omega)
  have a1 : zI (Z 60) + 1 = zI (Z 60 + 1) := by rw [zL1, zI_add]
  have mo := hR.mo
  have co := hR.co
  have mD : fX10_digest xs (nI b) xk0 xk1 xtx (zI (n : Int)) = some (zit (fun i h => 31 * h + (tc i).toInt64) 0 n (31 * (31 * (31 * (hPr Z (hAc Z b (zit (fun q h => hPi Z (B q) q h) 0 N (31 * hLa Z 4091 + (zI (Z 59)).toInt64)))) + (if xk0 = 0 then 0 else 1)) + (if xk1 = 0 then 0 else 1)) + (zI (n : Int)).toInt64), 0, zit (fun i h => 31 * h + (tc i).toInt64) 0 n (31 * (31 * (31 * (hPr Z (hAc Z b (zit (fun q h => hPi Z (B q) q h) 0 N (31 * hLa Z 4091 + (zI (Z 59)).toInt64)))) + (if xk0 = 0 then 0 else 1)) + (if xk1 = 0 then 0 else 1)) + (zI (n : Int)).toInt64)) := by
    unfold fX10_digest
    rcases f0 with rfl | rfl <;> rcases f2 with rfl | rfl <;> simp only [mX10_mixLathe hx hR, g59, fX10_mix, Option.bind_some, p2, mX10_mixAccounts hx hR, mX10_txtL hn hch, e10, ↓reduceIte]
  have cD : ∃ le2 : Nat → Int32, fX9_digest md (zI (Z 48)) (zI (Z 49)) (zI (Z 50)) (zI (Z 52)) (zI (Z 53)) (zI (Z 54)) (zI (Z 55)) rd rw rp (zI (Z 59)) (zI (Z 60)) (zI (Z 61)) (zI (Z 62)) (zI (Z 63)) (zI (Z 64)) (zI (Z 65)) (zI (Z 56)) (zI (Z 57)) (zI (Z 58)) (nI b) (hRow hsl cal) tc (zI (n : Int)) wa le = some (zit (fun i h => 31 * h + (tc i).toInt64) 0 n (31 * (31 * (31 * (hPr Z (hAc Z b (zit (fun q h => hPi Z (B q) q h) 0 N (31 * hLa Z 4091 + (zI (Z 59)).toInt64)))) + (if xk0 = 0 then 0 else 1)) + (if xk1 = 0 then 0 else 1)) + (zI (n : Int)).toInt64), wa2, le2) := by
    unfold fX9_digest
    by_cases hv : Z 60 = -1
    · refine ⟨le, ?_⟩
      have c1 : fX7_isTurning (zI (Z 60)) = some 0 := by unfold fX7_isTurning; rw [hv]; exact if_pos zLm.symm
      have c2 : ∀ h : Int64, hPr Z h = h := fun h => by unfold hPr; exact if_pos hv
      simp only [zcX9_hashOfMasters hmd, zcX9_settings hR, r1, p1, a1, fX9_hashOfAccounts, fX9_mixed, Option.bind_some, c1, ↓reduceIte, slotsL f1 f3 f0 f2, zcX9_txtL hn, c2]
      rfl
    · have c1 : fX7_isTurning (zI (Z 60)) = some 1 := by unfold fX7_isTurning; exact if_neg (by rw [zLm, zI_eq (by omega)]; exact hv)
      obtain ⟨le2, e9⟩ := zcX9_prospects hmd hrd hrw hR hv le (hAc Z b (zit (fun q h => hPi Z (B q) q h) 0 N (31 * hLa Z 4091 + (zI (Z 59)).toInt64)))
      refine ⟨le2, ?_⟩
      simp only [zcX9_hashOfMasters hmd, zcX9_settings hR, r1, p1, a1, fX9_hashOfAccounts, fX9_mixed, Option.bind_some, c1, e10, ↓reduceIte]
      refine bindE e9 ?_
      simp only [Option.bind_some, slotsL f1 f3 f0 f2, zcX9_txtL hn]
  obtain ⟨le2, cD⟩ := cD
  unfold flaw_69
  rw [cD, mD]
  simp only [Option.bind_some, lgs, ↓reduceIte, Option.isSome_some]
end MUO
