/-! what the class answers, told by the integers -/
theorem obE {α β : Type} {o : Option α} {k : α → Option β} {v : α} (h : o = some v) : o.bind k = k v := by rw [h]; rfl
def CA (Z : Nat → Int) (md rd rw rp : Nat → Int32) : Prop := (∀ j : Nat, j < 48 → md j = zI (Z j)) ∧ rdO Z rd ∧ rwO Z rw ∧ rpO Z rp
theorem idx5 {Z : Nat → Int} (hR : Rg Z) {q : Nat} (hq : (q : Int) < Z 59) : q < 5 := by have := hR.co; omega
section RDC
variable {Z : Nat → Int} {md rd rw rp wa le : Nat → Int32}

theorem r_masterAt (hmd : ∀ j : Nat, j < 48 → md j = zI (Z j)) {c k : Nat} (hc : c < 3) (hk : k < 16) : fX9_masterAt md (zI c) (zI k) = some (.inr (zI (mZ Z c k))) := by
  have h1 := cMaY (a := c) (by omega) (by omega)
  have h2 := cStY (a := k) (by omega) (by omega)
  have e1 := zcX6_at hmd hc hk
  simp only [fX9_masterAt, h1, h2, e1, true_or, or_true, Option.bind_some, Option.map_some, eq_self, ↓reduceIte]
theorem r_diameterAt (hrd : rdO Z rd) (hR : Rg Z) {q k : Nat} (hq : (q : Int) < Z 59) (hk : k < 16) : fX9_diameterAt rd (zI (Z 59)) (zI q) (zI k) = some (.inr (zI (dZ Z q k))) := by
  have h5 := idx5 hR hq
  have h1 := cPiY hR (a := q) (by omega) (by omega)
  have h2 := cStY (a := k) (by omega) (by omega)
  have e1 := zcX7_at hrd h5 hk
  simp only [fX9_diameterAt, h1, h2, e1, true_or, or_true, Option.bind_some, Option.map_some, eq_self, ↓reduceIte]
theorem r_woodOf (hrw : rwO Z rw) (hR : Rg Z) {q : Nat} (hq : (q : Int) < Z 59) : fX9_woodOf rw (zI (Z 59)) (zI q) = some (.inr (zI (Z (66 + 18 * q)))) := by
  have h5 := idx5 hR hq
  have hp := cPiY hR (a := q) (by omega) (by omega)
  have e1 := (show fX8_at 5 rw (zI q) = some (zI (Z (66 + 18 * q))) by rw [zcX8_at (by omega) h5, hrw q h5])
  simp only [fX9_woodOf, hp, e1, true_or, or_true, Option.bind_some, Option.map_some, eq_self, ↓reduceIte]
theorem r_passesOn (hrp : rpO Z rp) (hR : Rg Z) {q : Nat} (hq : (q : Int) < Z 59) : fX9_passesOn rp (zI (Z 59)) (zI q) = some (.inr (zI (Z (67 + 18 * q)))) := by
  have h5 := idx5 hR hq
  have hp := cPiY hR (a := q) (by omega) (by omega)
  have e1 := (show fX8_at 5 rp (zI q) = some (zI (Z (67 + 18 * q))) by rw [zcX8_at (by omega) h5, hrp q h5])
  simp only [fX9_passesOn, hp, e1, true_or, or_true, Option.bind_some, Option.map_some, eq_self, ↓reduceIte]
theorem r_tooThick (hmd : ∀ j : Nat, j < 48 → md j = zI (Z j)) (hrd : rdO Z rd) (hR : Rg Z) {q : Nat} (hq : (q : Int) < Z 59) : fX9_tooThick md (zI (Z 48)) rd (zI (Z 59)) (zI q) = some (.inr (zI (tkZ Z q 1))) := by
  have h5 := idx5 hR hq
  have hp := cPiY hR (a := q) (by omega) (by omega)
  have e1 := zcX9_tooThick_L hmd hrd hR h5
  simp only [fX9_tooThick, hp, e1, true_or, or_true, Option.bind_some, Option.map_some, eq_self, ↓reduceIte]
theorem r_tooThin (hmd : ∀ j : Nat, j < 48 → md j = zI (Z j)) (hrd : rdO Z rd) (hR : Rg Z) {q : Nat} (hq : (q : Int) < Z 59) : fX9_tooThin md (zI (Z 48)) rd (zI (Z 59)) (zI q) = some (.inr (zI (tkZ Z q (-1)))) := by
  have h5 := idx5 hR hq
  have hp := cPiY hR (a := q) (by omega) (by omega)
  have e1 := zcX9_tooThin_L hmd hrd hR h5
  simp only [fX9_tooThin, hp, e1, true_or, or_true, Option.bind_some, Option.map_some, eq_self, ↓reduceIte]
theorem r_faultsOf (hmd : ∀ j : Nat, j < 48 → md j = zI (Z j)) (hrd : rdO Z rd) (hR : Rg Z) {q : Nat} (hq : (q : Int) < Z 59) : fX9_faultsOf md (zI (Z 48)) rd (zI (Z 59)) (zI (Z 56)) (zI q) = some (.inr (zI (faZ Z q))) := by
  have h5 := idx5 hR hq
  have hp := cPiY hR (a := q) (by omega) (by omega)
  have e1 := zcX4_faults hmd hrd hR h5
  simp only [fX9_faultsOf, hp, e1, true_or, or_true, Option.bind_some, Option.map_some, eq_self, ↓reduceIte]
theorem r_mostLike (hmd : ∀ j : Nat, j < 48 → md j = zI (Z j)) (hrd : rdO Z rd) (hR : Rg Z) {q : Nat} (hq : (q : Int) < Z 59) : fX9_mostLike md rd (zI (Z 59)) (zI q) = some (.inr (zI (liZ Z q))) := by
  have h5 := idx5 hR hq
  have hp := cPiY hR (a := q) (by omega) (by omega)
  have e1 := zcX9_mostLike_L hmd hrd hR h5
  simp only [fX9_mostLike, hp, e1, true_or, or_true, Option.bind_some, Option.map_some, eq_self, ↓reduceIte]
theorem r_chipsOf (hmd : ∀ j : Nat, j < 48 → md j = zI (Z j)) (hrd : rdO Z rd) (hR : Rg Z) {q : Nat} (hq : (q : Int) < Z 59) : fX9_chipsOf md (zI (Z 48)) (zI (Z 49)) (zI (Z 50)) (zI (Z 52)) rd (zI (Z 59)) (zI q) = some (.inr (zI (alZ Z q))) := by
  have h5 := idx5 hR hq
  have hp := cPiY hR (a := q) (by omega) (by omega)
  have e1 := zcX4_allAbove hmd hrd hR h5
  simp only [fX9_chipsOf, hp, e1, true_or, or_true, Option.bind_some, Option.map_some, eq_self, ↓reduceIte]
theorem r_isGood (hmd : ∀ j : Nat, j < 48 → md j = zI (Z j)) (hrd : rdO Z rd) (hR : Rg Z) {q : Nat} (hq : (q : Int) < Z 59) : fX9_isGood md (zI (Z 48)) rd (zI (Z 59)) (zI (Z 56)) (zI q) = some (.inr (zI (if faZ Z q = 0 then 1 else 0))) := by
  have h5 := idx5 hR hq
  have hp := cPiY hR (a := q) (by omega) (by omega)
  have e1 := zcX4_faults hmd hrd hR h5
  have hf := faZ_b (Z := Z) (q := q)
  simp only [fX9_isGood, hp, e1, true_or, or_true, Option.bind_some, Option.map_some, eq_self, ↓reduceIte]
  rw [zL0, zi_eq (by omega)]
  by_cases h : faZ Z q = 0
  · rw [if_pos h, if_pos h]; rfl
  · rw [if_neg h, if_neg h]; rfl
theorem r_isJammed (hR : Rg Z) : fX9_isJammed (zI (Z 58)) = some (zI (Z 58)) := by
  unfold fX9_isJammed
  rw [if_pos]
  rcases hR.ja with h | h
  · left; rw [h]; rfl
  · right; rw [h]; rfl
theorem r_hasMounted (hR : Rg Z) : fX9_hasMounted (zI (Z 60)) = some (zI (if Z 60 = -1 then 0 else 1)) := by
  have h1 := hR.mo
  have h2 := hR.co
  unfold fX9_hasMounted fX7_isTurning
  rw [zLm, zi_eq (by omega)]
  by_cases h : Z 60 = -1
  · rw [if_pos h, if_pos h]; rfl
  · rw [if_neg h, if_neg h]; rfl
theorem r_mounted (hR : Rg Z) (hv : Z 60 ≠ -1) : fX9_mounted (zI (Z 60)) = some (.inr (zI (Z 60))) := by
  simp only [fX9_mounted, cMoY hR hv, true_or, or_true, Option.bind_some, Option.map_some, eq_self, ↓reduceIte]
theorem r_readingByLooking (hmd : ∀ j : Nat, j < 48 → md j = zI (Z j)) (hR : Rg Z) {k : Nat} (hk : k < 16) : fX9_readingByLooking md (zI (Z 48)) (zI (Z 49)) (zI k) = some (.inr (zI (rdZ Z k))) := by
  have h2 := cStY (a := k) (by omega) (by omega)
  have e1 := zcX4_reading hmd hR hk
  simp only [fX9_readingByLooking, h2, e1, true_or, or_true, Option.bind_some, Option.map_some, eq_self, ↓reduceIte]
theorem r_readingByQueue (hmd : ∀ j : Nat, j < 48 → md j = zI (Z j)) (hR : Rg Z) {k : Nat} (hk : k < 16) (wa : Nat → Int32) : ∃ wa2 : Nat → Int32, fX9_readingByQueue md (zI (Z 48)) (zI (Z 49)) wa (zI k) = some (.inr (zI (rdZ Z k), wa2)) := by
  have h2 := cStY (a := k) (by omega) (by omega)
  obtain ⟨wa2, e1⟩ := zcX9_firstWaiting hmd hR hk wa
  exact ⟨wa2, by simp only [fX9_readingByQueue, h2, e1, true_or, or_true, Option.bind_some, Option.map_some, eq_self, ↓reduceIte]⟩
theorem r_targetAt (hmd : ∀ j : Nat, j < 48 → md j = zI (Z j)) (hR : Rg Z) {k : Nat} (hk : k < 16) : fX9_targetAt md (zI (Z 48)) (zI (Z 49)) (zI (Z 50)) (zI (Z 52)) (zI k) = some (.inr (zI (tgZ Z k))) := by
  have h2 := cStY (a := k) (by omega) (by omega)
  have e1 := zcX4_target hmd hR hk
  simp only [fX9_targetAt, h2, e1, true_or, or_true, Option.bind_some, Option.map_some, eq_self, ↓reduceIte]
theorem r_cutDepth (hR : Rg Z) : fX9_cutDepth (zI (Z 53)) (zI (Z 54)) = some (zI (cuZ Z)) := by
  simp only [fX9_cutDepth, zcX1_reach hR, true_or, or_true, Option.bind_some, Option.map_some, eq_self, ↓reduceIte]
theorem r_bestCopy (hmd : ∀ j : Nat, j < 48 → md j = zI (Z j)) (hrd : rdO Z rd) (hR : Rg Z) {N : Nat} (hN : Z 59 = N) (h0 : 0 < N) : fX9_bestCopy md (zI (Z 48)) rd (zI (Z 59)) (zI (Z 56)) = some (.inr (zI (beZ Z N : Nat))) := by
  have h2 := hR.co
  have e3 : ¬ zI (Z 59) ≤ 0 := by rw [zL0, zI_le (by omega)]; omega
  have e4 : fX9_checkState 1 = some (.inr ()) := rfl
  have e1 := zcX9_best hmd hrd hR hN h0
  simp only [fX9_bestCopy, if_neg e3, e4, e1, true_or, or_true, Option.bind_some, Option.map_some, eq_self, ↓reduceIte]
theorem r_isFinished (hmd : ∀ j : Nat, j < 48 → md j = zI (Z j)) (hrd : rdO Z rd) (hR : Rg Z) {q : Nat} (hm : Z 60 = q) (hq : q < 5) : fX9_isFinished md (zI (Z 48)) (zI (Z 49)) (zI (Z 50)) (zI (Z 52)) rd (zI (Z 60)) = some (.inr (zI (if moZ Z q = 0 then 1 else 0))) := by
  have e1 : fX4_mostAbove md (zI (Z 48)) (zI (Z 49)) (zI (Z 50)) (zI (Z 52)) rd (zI (Z 60)) = some (zI (moZ Z q)) := by rw [hm]; exact zcX4_mostAbove hmd hrd hR hq
  have hb := moZ_b hR hq
  simp only [fX9_isFinished, cMoY hR (show Z 60 ≠ -1 by omega), e1, true_or, or_true, Option.bind_some, Option.map_some, eq_self, ↓reduceIte]
  rw [zL0, zi_eq (by omega)]
  by_cases h : moZ Z q = 0
  · rw [if_pos h, if_pos h]; rfl
  · rw [if_neg h, if_neg h]; rfl
theorem r_ifPassed (hmd : ∀ j : Nat, j < 48 → md j = zI (Z j)) (hrd : rdO Z rd) (hR : Rg Z) {q : Nat} (hm : Z 60 = q) (hq : q < 5) (hv : rdy Z) : fX9_ifPassed md (zI (Z 48)) (zI (Z 49)) (zI (Z 50)) (zI (Z 52)) (zI (Z 53)) (zI (Z 54)) rd (zI (Z 60)) (zI (Z 57)) (zI (Z 58)) = some (.inr (zI (cutZ Z q).1)) := by
  have e1 : fX4_wouldCut md (zI (Z 48)) (zI (Z 49)) (zI (Z 50)) (zI (Z 52)) (zI (Z 53)) (zI (Z 54)) rd (zI (Z 60)) (zI (Z 57)) = some (zI (cutZ Z q).1) := by rw [hm]; exact zcX4_wouldCut hmd hrd hR hq hv.2.1
  simp only [fX9_ifPassed, cReY hR hv, e1, true_or, or_true, Option.bind_some, Option.map_some, eq_self, ↓reduceIte]
theorem r_passesBySteps (hmd : ∀ j : Nat, j < 48 → md j = zI (Z j)) (hrd : rdO Z rd) (hR : Rg Z) {q : Nat} (hm : Z 60 = q) (hq : q < 5) (hs : Z 53 ≠ 0) (le : Nat → Int32) : ∃ le2 : Nat → Int32, fX9_passesBySteps md (zI (Z 48)) (zI (Z 49)) (zI (Z 50)) (zI (Z 52)) (zI (Z 53)) (zI (Z 54)) rd (zI (Z 60)) le = some (.inr (zI (dvZ (moZ Z q) (cuZ Z)), le2)) := by
  have h0 := hR.sh
  have e0 : fX1_isSharp (zI (Z 53)) = some 1 := by rw [zcX1_isSharp hR, if_neg hs]
  have e9 : fX9_checkState 1 = some (.inr ()) := rfl
  obtain ⟨le2, e1⟩ : ∃ le2 : Nat → Int32, fX9_countPasses md (zI (Z 48)) (zI (Z 49)) (zI (Z 50)) (zI (Z 52)) (zI (Z 53)) (zI (Z 54)) rd (zI (Z 60)) le = some (zI (dvZ (moZ Z q) (cuZ Z)), le2) := by rw [hm]; exact zcX9_countPasses hmd hrd hR hq (by omega) le
  exact ⟨le2, by simp only [fX9_passesBySteps, cMoY hR (show Z 60 ≠ -1 by omega), e0, e9, e1, true_or, or_true, Option.bind_some, Option.map_some, eq_self, ↓reduceIte]⟩
theorem r_passesByDivision (hmd : ∀ j : Nat, j < 48 → md j = zI (Z j)) (hrd : rdO Z rd) (hR : Rg Z) {q : Nat} (hm : Z 60 = q) (hq : q < 5) (hs : Z 53 ≠ 0) : fX9_passesByDivision md (zI (Z 48)) (zI (Z 49)) (zI (Z 50)) (zI (Z 52)) (zI (Z 53)) (zI (Z 54)) rd (zI (Z 60)) = some (.inr (zI (dvZ (moZ Z q) (cuZ Z)))) := by
  have h0 := hR.sh
  have e0 : fX1_isSharp (zI (Z 53)) = some 1 := by rw [zcX1_isSharp hR, if_neg hs]
  have e9 : fX9_checkState 1 = some (.inr ()) := rfl
  have e1 : fX4_mostAbove md (zI (Z 48)) (zI (Z 49)) (zI (Z 50)) (zI (Z 52)) rd (zI (Z 60)) = some (zI (moZ Z q)) := by rw [hm]; exact zcX4_mostAbove hmd hrd hR hq
  have e3 : fX1_reach (zI (Z 53)) (zI (Z 54)) = some (zI (cuZ Z)) := zcX1_reach hR
  have e4 : fX9_dividedUp (zI (moZ Z q)) (zI (cuZ Z)) = some (zI (dvZ (moZ Z q) (cuZ Z))) := by
    have := moZ_b hR hq
    have := cuZ_b hR
    exact zcX9_dividedUp (by omega)
  simp only [fX9_passesByDivision, cMoY hR (show Z 60 ≠ -1 by omega), e0, e9, e1, e3, e4, true_or, or_true, Option.bind_some, Option.map_some, eq_self, ↓reduceIte]
theorem r_passesUntilBlunt (hrw : rwO Z rw) (hR : Rg Z) {q : Nat} (hm : Z 60 = q) (hq : q < 5) : fX9_passesUntilBlunt (zI (Z 53)) (zI (Z 55)) rw (zI (Z 60)) = some (.inr (zI (dvZ (Z 53) (blZ Z q)))) := by
  have e1 : fX4_blunting (zI (Z 55)) rw (zI (Z 60)) = some (zI (blZ Z q)) := by rw [hm]; exact zcX4_blunting hrw hR hq
  have e4 : fX9_dividedUp (zI (Z 53)) (zI (blZ Z q)) = some (zI (dvZ (Z 53) (blZ Z q))) := by have := hR.sh; have := blZ_b hR (q := q); exact zcX9_dividedUp (by omega)
  simp only [fX9_passesUntilBlunt, cMoY hR (show Z 60 ≠ -1 by omega), e1, e4, true_or, or_true, Option.bind_some, Option.map_some, eq_self, ↓reduceIte]

def dbZ (n : Nat) : UInt64 := FP.ddiv (FP.i2d (zI (n : Int))) 4625196817309499392
def bcq (n : Nat) : Bool := decide (dbZ n &&& 0x7fffffffffffffff ≤ 0x7ff0000000000000) && (decide ((Op.cmpValue (FP.dcmp (dbZ n) (dbZ n)) .l) = 0) && decide (¬ (Op.cmpValue (FP.dcmp (dbZ n) 0x3ff0000000000000) .l) < 0))
theorem bq_0 : (List.range' 16 128).all bcq = true := by decide +kernel
theorem bq_1 : (List.range' 144 128).all bcq = true := by decide +kernel
theorem bq_2 : (List.range' 272 128).all bcq = true := by decide +kernel
theorem bq_3 : (List.range' 400 128).all bcq = true := by decide +kernel
theorem bq_4 : (List.range' 528 128).all bcq = true := by decide +kernel
theorem bq_5 : (List.range' 656 128).all bcq = true := by decide +kernel
theorem bq_6 : (List.range' 784 128).all bcq = true := by decide +kernel
theorem bq_7 : (List.range' 912 128).all bcq = true := by decide +kernel
theorem bq_8 : (List.range' 1040 128).all bcq = true := by decide +kernel
theorem bq_9 : (List.range' 1168 128).all bcq = true := by decide +kernel
theorem bq_10 : (List.range' 1296 128).all bcq = true := by decide +kernel
theorem bq_11 : (List.range' 1424 128).all bcq = true := by decide +kernel
theorem bq_12 : (List.range' 1552 128).all bcq = true := by decide +kernel
theorem bq_13 : (List.range' 1680 128).all bcq = true := by decide +kernel
theorem bq_14 : (List.range' 1808 113).all bcq = true := by decide +kernel
theorem bq_all {n : Nat} (h : 16 ≤ n ∧ n ≤ 1920) : bcq n = true := by
  by_cases c0 : n < 144
  · exact List.all_eq_true.mp bq_0 n (List.mem_range'_1.mpr ⟨by omega, by omega⟩)
  by_cases c1 : n < 272
  · exact List.all_eq_true.mp bq_1 n (List.mem_range'_1.mpr ⟨by omega, by omega⟩)
  by_cases c2 : n < 400
  · exact List.all_eq_true.mp bq_2 n (List.mem_range'_1.mpr ⟨by omega, by omega⟩)
  by_cases c3 : n < 528
  · exact List.all_eq_true.mp bq_3 n (List.mem_range'_1.mpr ⟨by omega, by omega⟩)
  by_cases c4 : n < 656
  · exact List.all_eq_true.mp bq_4 n (List.mem_range'_1.mpr ⟨by omega, by omega⟩)
  by_cases c5 : n < 784
  · exact List.all_eq_true.mp bq_5 n (List.mem_range'_1.mpr ⟨by omega, by omega⟩)
  by_cases c6 : n < 912
  · exact List.all_eq_true.mp bq_6 n (List.mem_range'_1.mpr ⟨by omega, by omega⟩)
  by_cases c7 : n < 1040
  · exact List.all_eq_true.mp bq_7 n (List.mem_range'_1.mpr ⟨by omega, by omega⟩)
  by_cases c8 : n < 1168
  · exact List.all_eq_true.mp bq_8 n (List.mem_range'_1.mpr ⟨by omega, by omega⟩)
  by_cases c9 : n < 1296
  · exact List.all_eq_true.mp bq_9 n (List.mem_range'_1.mpr ⟨by omega, by omega⟩)
  by_cases c10 : n < 1424
  · exact List.all_eq_true.mp bq_10 n (List.mem_range'_1.mpr ⟨by omega, by omega⟩)
  by_cases c11 : n < 1552
  · exact List.all_eq_true.mp bq_11 n (List.mem_range'_1.mpr ⟨by omega, by omega⟩)
  by_cases c12 : n < 1680
  · exact List.all_eq_true.mp bq_12 n (List.mem_range'_1.mpr ⟨by omega, by omega⟩)
  by_cases c13 : n < 1808
  · exact List.all_eq_true.mp bq_13 n (List.mem_range'_1.mpr ⟨by omega, by omega⟩)
  exact List.all_eq_true.mp bq_14 n (List.mem_range'_1.mpr ⟨by omega, by omega⟩)
theorem db_ok {n : Int} (h : 16 ≤ n ∧ n ≤ 1920) : (FP.ddiv (FP.i2d (zI n)) 4625196817309499392) &&& 0x7fffffffffffffff ≤ 0x7ff0000000000000 ∧ (Op.cmpValue (FP.dcmp (FP.ddiv (FP.i2d (zI n)) 4625196817309499392) (FP.ddiv (FP.i2d (zI n)) 4625196817309499392)) .l) = 0 ∧ ¬ (Op.cmpValue (FP.dcmp (FP.ddiv (FP.i2d (zI n)) 4625196817309499392) 0x3ff0000000000000) .l) < 0 := by
  obtain ⟨k, rfl⟩ : ∃ k : Nat, n = k := ⟨n.toNat, by omega⟩
  have hk := bq_all (n := k) (by omega)
  unfold bcq at hk
  rw [Bool.and_eq_true, Bool.and_eq_true] at hk
  obtain ⟨h1, h2, h3⟩ := hk
  exact ⟨of_decide_eq_true h1, of_decide_eq_true h2, of_decide_eq_true h3⟩
theorem r_meanDiameter (hrd : rdO Z rd) (hR : Rg Z) {q : Nat} (hq : (q : Int) < Z 59) : fX9_meanDiameter rd (zI (Z 59)) (zI q) = some (.inr (FP.ddiv (FP.i2d (zI (sdZ Z q))) 4625196817309499392)) := by
  have h5 := idx5 hR hq
  have hp := cPiY hR (a := q) (by omega) (by omega)
  have e1 := zcX7_sumOf hrd hR h5
  have hs1 := sdZ_p hR h5 hq
  have hs2 := sdZ_b hR h5
  have hd := (db_ok (n := sdZ Z q) ⟨hs1, hs2.2⟩).1
  simp only [fX9_meanDiameter, hp, e1, if_pos hd, true_or, or_true, Option.bind_some, Option.map_some, eq_self, ↓reduceIte]
end RDC
