/-! the class's state as the integers tell it -/
def ClS (Z : Nat → Int) (τ : (Nat → Int32) × Int32 × Int32 × Int32 × Int32 × Int32 × Int32 × Int32 × Int32 × (Nat → Int32) × (Nat → Int32) × (Nat → Int32) × Int32 × Int32 × Int32 × Int32 × Int32 × Int32 × Int32 × Int32 × Int32 × Int32) : Prop :=
  match τ with
  | (md, mch, fra, fwe, fof, fsi, csh, cde, csp, rd, rw, rp, rco, rmo, apa, awo, ash, aja, abu, ltol, lchi, ljam) => (∀ j : Nat, j < 48 → md j = zI (Z j)) ∧ rdO Z rd ∧ rwO Z rw ∧ rpO Z rp ∧ mch = zI (Z 48) ∧ fra = zI (Z 49) ∧ fwe = zI (Z 50) ∧ fof = zI (Z 52) ∧ fsi = zI (Z 51) ∧ csh = zI (Z 53) ∧ cde = zI (Z 54) ∧ csp = zI (Z 55) ∧ rco = zI (Z 59) ∧ rmo = zI (Z 60) ∧ apa = zI (Z 61) ∧ awo = zI (Z 62) ∧ ash = zI (Z 63) ∧ aja = zI (Z 64) ∧ abu = zI (Z 65) ∧ ltol = zI (Z 56) ∧ lchi = zI (Z 57) ∧ ljam = zI (Z 58)
theorem hd0 : fX10_holds 0 = some (1, 0) := by unfold fX10_holds; exact if_pos rfl
theorem hd1 : fX10_holds 1 = some (0, 1) := by unfold fX10_holds; exact if_neg (by decide)
theorem hd2 : fX10_holds 2 = some (0, 2) := by unfold fX10_holds; exact if_neg (by decide)
theorem hd3 : fX10_holds 3 = some (0, 3) := by unfold fX10_holds; exact if_neg (by decide)
theorem e10 : ((1 : Int32) = 0) = False := eq_false (by decide)
theorem e01 : ((0 : Int32) = 1) = False := eq_false (by decide)
theorem e20 : ((2 : Int32) = 0) = False := eq_false (by decide)
theorem e30 : ((3 : Int32) = 0) = False := eq_false (by decide)
theorem lgu {ou : Nat → Int64} {k : Nat} {x : Int64} : lg_cmp (vp_updL ou k x k) x = 0 := by
  rw [pk_uLs]
  unfold lg_cmp
  rw [if_neg (show ¬ x > x from Int64.lt_irrefl), if_pos rfl]
theorem cIdxY {a n : Int} (hb : (-2147483648 ≤ a ∧ a < 2147483648) ∧ (-2147483648 ≤ n ∧ n < 2147483648)) (hv : 0 ≤ a ∧ a < n) : fX9_checkIndex (zI a) (zI n) = some (.inr ()) := by
  unfold fX9_checkIndex fX9_isIndex
  rw [zL0, zi_lt (by omega), zi_le (by omega), if_neg (by omega), if_neg (by omega), Option.bind_some, if_neg (by decide)]
  rfl
theorem cIdxN {a n : Int} (hb : (-2147483648 ≤ a ∧ a < 2147483648) ∧ (-2147483648 ≤ n ∧ n < 2147483648)) (hv : ¬ (0 ≤ a ∧ a < n)) : fX9_checkIndex (zI a) (zI n) = some (.inl 0) := by
  unfold fX9_checkIndex fX9_isIndex
  rw [zL0, zi_lt (by omega), zi_le (by omega)]
  by_cases h : a < 0
  · rw [if_pos h, Option.bind_some, if_pos rfl]
  · rw [if_neg h, if_pos (by omega), Option.bind_some, if_pos rfl]
theorem cMaY {a : Int} (hb : -2147483648 ≤ a ∧ a < 2147483648) (hv : 0 ≤ a ∧ a < 3) : fX9_checkMaster (zI a) = some (.inr ()) := by
  unfold fX9_checkMaster
  rw [zL3, cIdxY (by omega) hv]; rfl
theorem cMaN {a : Int} (hb : -2147483648 ≤ a ∧ a < 2147483648) (hv : ¬ (0 ≤ a ∧ a < 3)) : fX9_checkMaster (zI a) = some (.inl 0) := by
  unfold fX9_checkMaster
  rw [zL3, cIdxN (by omega) hv]; rfl
theorem cStY {a : Int} (hb : -2147483648 ≤ a ∧ a < 2147483648) (hv : 0 ≤ a ∧ a < 16) : fX9_checkStep (zI a) = some (.inr ()) := by
  unfold fX9_checkStep
  rw [zL16, cIdxY (by omega) hv]; rfl
theorem cStN {a : Int} (hb : -2147483648 ≤ a ∧ a < 2147483648) (hv : ¬ (0 ≤ a ∧ a < 16)) : fX9_checkStep (zI a) = some (.inl 0) := by
  unfold fX9_checkStep
  rw [zL16, cIdxN (by omega) hv]; rfl
theorem cPiY {Z : Nat → Int} (hR : Rg Z) {a : Int} (hb : -2147483648 ≤ a ∧ a < 2147483648) (hv : 0 ≤ a ∧ a < Z 59) : fX9_checkPiece (zI (Z 59)) (zI a) = some (.inr ()) := by
  have := hR.co
  unfold fX9_checkPiece
  rw [cIdxY (by omega) hv]; rfl
theorem cPiN {Z : Nat → Int} (hR : Rg Z) {a : Int} (hb : -2147483648 ≤ a ∧ a < 2147483648) (hv : ¬ (0 ≤ a ∧ a < Z 59)) : fX9_checkPiece (zI (Z 59)) (zI a) = some (.inl 0) := by
  have := hR.co
  unfold fX9_checkPiece
  rw [cIdxN (by omega) hv]; rfl
theorem cRaY {a b c : Int} (hb : (-2147483648 ≤ a ∧ a < 2147483648) ∧ (-2147483648 ≤ b ∧ b < 2147483648) ∧ (-2147483648 ≤ c ∧ c < 2147483648)) (hv : b ≤ a ∧ a ≤ c) : fX9_checkRange (zI a) (zI b) (zI c) = some (.inr ()) := by
  unfold fX9_checkRange
  rw [zi_lt (by omega), zi_lt (by omega), if_neg (by omega), if_neg (by omega)]; rfl
theorem cRaN {a b c : Int} (hb : (-2147483648 ≤ a ∧ a < 2147483648) ∧ (-2147483648 ≤ b ∧ b < 2147483648) ∧ (-2147483648 ≤ c ∧ c < 2147483648)) (hv : ¬ (b ≤ a ∧ a ≤ c)) : fX9_checkRange (zI a) (zI b) (zI c) = some (.inl 1) := by
  unfold fX9_checkRange
  rw [zi_lt (by omega), zi_lt (by omega)]
  by_cases h : a < b
  · rw [if_pos h]; rfl
  · rw [if_neg h, if_pos (by omega)]; rfl
theorem cMoY {Z : Nat → Int} (hR : Rg Z) (hv : Z 60 ≠ -1) : fX9_checkMounted (zI (Z 60)) = some (.inr ()) := by
  have := hR.mo
  have := hR.co
  unfold fX9_checkMounted fX7_isTurning
  rw [zLm, zi_eq (by omega), if_neg hv]; rfl
theorem cMoN {Z : Nat → Int} (hv : Z 60 = -1) : fX9_checkMounted (zI (Z 60)) = some (.inl 2) := by
  rw [hv]; rfl
def rdy (Z : Nat → Int) : Prop := Z 60 ≠ -1 ∧ Z 58 = 0 ∧ Z 53 ≠ 0
theorem cCan {Z : Nat → Int} (hR : Rg Z) : fX4_canRun (zI (Z 53)) (zI (Z 58)) = some (if Z 58 = 0 ∧ Z 53 ≠ 0 then 1 else 0) := by
  have h1 := hR.sh
  unfold fX4_canRun
  rw [zcX1_isSharp hR, Option.bind_some]
  rcases hR.ja with h | h
  · rw [h, if_pos (by decide)]
    by_cases h2 : Z 53 = 0
    · rw [if_pos h2, if_pos rfl, if_neg (by omega)]
    · rw [if_neg h2, if_neg (by decide), if_pos ⟨rfl, h2⟩]
  · rw [h, if_neg (by decide), if_neg (by omega)]
theorem cReY {Z : Nat → Int} (hR : Rg Z) (hv : rdy Z) : fX9_checkReady (zI (Z 53)) (zI (Z 60)) (zI (Z 58)) = some (.inr ()) := by
  unfold fX9_checkReady
  rw [cMoY hR hv.1, Option.bind_some]
  try dsimp only
  rw [cCan hR, if_pos hv.2]; rfl
theorem cReN {Z : Nat → Int} (hR : Rg Z) (hv : ¬ rdy Z) : fX9_checkReady (zI (Z 53)) (zI (Z 60)) (zI (Z 58)) = some (.inl 2) := by
  unfold fX9_checkReady
  by_cases h : Z 60 = -1
  · rw [cMoN h]; rfl
  · rw [cMoY hR h, Option.bind_some]
    try dsimp only
    rw [cCan hR, if_neg (fun h2 => hv ⟨h, h2⟩)]; rfl
theorem mMaY {a : Int} (hb : -2147483648 ≤ a ∧ a < 2147483648) (hv : 0 ≤ a ∧ a < 3) : fX10_isMaster (zI a) = some 1 := by rw [mX10_isMaster hb, if_pos (by omega)]
theorem mMaN {a : Int} (hb : -2147483648 ≤ a ∧ a < 2147483648) (hv : ¬ (0 ≤ a ∧ a < 3)) : fX10_isMaster (zI a) = some 0 := by rw [mX10_isMaster hb, if_neg (by omega)]
theorem mStY {a : Int} (hb : -2147483648 ≤ a ∧ a < 2147483648) (hv : 0 ≤ a ∧ a < 16) : fX10_isStep (zI a) = some 1 := by rw [mX10_isStep hb, if_pos (by omega)]
theorem mStN {a : Int} (hb : -2147483648 ≤ a ∧ a < 2147483648) (hv : ¬ (0 ≤ a ∧ a < 16)) : fX10_isStep (zI a) = some 0 := by rw [mX10_isStep hb, if_neg (by omega)]
theorem mPiY {Z : Nat → Int} {xs : Nat → Int32} (hx : MoS Z 0 xs) (hR : Rg Z) {a : Int} (hb : -2147483648 ≤ a ∧ a < 2147483648) (hv : 0 ≤ a ∧ a < Z 59) : fX10_isPiece xs (zI a) = some 1 := by rw [mX10_isPiece hx hR hb, if_pos (by omega)]
theorem mPiN {Z : Nat → Int} {xs : Nat → Int32} (hx : MoS Z 0 xs) (hR : Rg Z) {a : Int} (hb : -2147483648 ≤ a ∧ a < 2147483648) (hv : ¬ (0 ≤ a ∧ a < Z 59)) : fX10_isPiece xs (zI a) = some 0 := by rw [mX10_isPiece hx hR hb, if_neg (by omega)]
theorem mX10_counted {Z : Nat → Int} {xs : Nat → Int32} (hx : MoS Z 0 xs) (j : Nat) (hj : j < 156) {J : Int32} (e : J = zI (j : Int)) : fX10_counted xs J = some (zI (Z j), 0) := by
  subst e
  unfold fX10_counted
  rw [zL0, if_pos (ixB (by omega)), hx.g j hj (by omega)]
theorem mCanY {Z : Nat → Int} {xs : Nat → Int32} (hx : MoS Z 0 xs) (hR : Rg Z) (hv : rdy Z) : fX10_canPass xs = some 1 := by
  have h1 := hR.sh
  have h2 := hR.mo
  have h3 := hR.co
  obtain ⟨a, b, c⟩ := hv
  unfold fX10_canPass
  simp only [zL0, zL1, zL2, zL3, zL5, zL6, zL7, zL8, zL9, zL10, zL15, zL16, zL18, zL20, zL30, zL31, zL33, zL48, zL49, zL50, zL51, zL52, zL53, zL54, zL55, zL56, zL57, zL58, zL59, zL60, zL61, zL62, zL63, zL64, zL65, zL66, zL80, zL99, zL100, zL120, zL126, zL156, zL200, zL1000, zL1404, zL1560, zLm, zI_neg]
  rw [hx.g 60 (by omega) (by omega), hx.g 58 (by omega) (by omega), hx.g 53 (by omega) (by omega), zi_eq (by omega), b, if_neg a, if_pos rfl, zi_le (by omega), if_neg (by omega)]
theorem mCanN {Z : Nat → Int} {xs : Nat → Int32} (hx : MoS Z 0 xs) (hR : Rg Z) (hv : ¬ rdy Z) : fX10_canPass xs = some 0 := by
  have h1 := hR.sh
  have h2 := hR.mo
  have h3 := hR.co
  have h4 := hR.ja
  unfold fX10_canPass
  simp only [zL0, zL1, zL2, zL3, zL5, zL6, zL7, zL8, zL9, zL10, zL15, zL16, zL18, zL20, zL30, zL31, zL33, zL48, zL49, zL50, zL51, zL52, zL53, zL54, zL55, zL56, zL57, zL58, zL59, zL60, zL61, zL62, zL63, zL64, zL65, zL66, zL80, zL99, zL100, zL120, zL126, zL156, zL200, zL1000, zL1404, zL1560, zLm, zI_neg]
  rw [hx.g 60 (by omega) (by omega), hx.g 58 (by omega) (by omega), hx.g 53 (by omega) (by omega), zi_eq (by omega), zi_eq (by omega), zi_le (by omega)]
  by_cases a : Z 60 = -1
  · rw [if_pos a]
  · rw [if_neg a]
    by_cases b : Z 58 = 0
    · rw [if_pos b, if_pos (by unfold rdy at hv; omega)]
    · rw [if_neg b]
theorem mFinY {Z : Nat → Int} {xs : Nat → Int32} (hx : MoS Z 0 xs) (hR : Rg Z) (hv : Z 60 ≠ -1 ∧ Z 53 ≠ 0) : fX10_canFinish xs = some 1 := by
  have h1 := hR.sh
  have h2 := hR.mo
  have h3 := hR.co
  unfold fX10_canFinish
  simp only [zL0, zL1, zL2, zL3, zL5, zL6, zL7, zL8, zL9, zL10, zL15, zL16, zL18, zL20, zL30, zL31, zL33, zL48, zL49, zL50, zL51, zL52, zL53, zL54, zL55, zL56, zL57, zL58, zL59, zL60, zL61, zL62, zL63, zL64, zL65, zL66, zL80, zL99, zL100, zL120, zL126, zL156, zL200, zL1000, zL1404, zL1560, zLm, zI_neg]
  rw [hx.g 60 (by omega) (by omega), hx.g 53 (by omega) (by omega), zi_eq (by omega), if_neg hv.1, zi_le (by omega), if_neg (by omega)]
theorem mFinN {Z : Nat → Int} {xs : Nat → Int32} (hx : MoS Z 0 xs) (hR : Rg Z) (hv : ¬ (Z 60 ≠ -1 ∧ Z 53 ≠ 0)) : fX10_canFinish xs = some 0 := by
  have h1 := hR.sh
  have h2 := hR.mo
  have h3 := hR.co
  unfold fX10_canFinish
  simp only [zL0, zL1, zL2, zL3, zL5, zL6, zL7, zL8, zL9, zL10, zL15, zL16, zL18, zL20, zL30, zL31, zL33, zL48, zL49, zL50, zL51, zL52, zL53, zL54, zL55, zL56, zL57, zL58, zL59, zL60, zL61, zL62, zL63, zL64, zL65, zL66, zL80, zL99, zL100, zL120, zL126, zL156, zL200, zL1000, zL1404, zL1560, zLm, zI_neg]
  rw [hx.g 60 (by omega) (by omega), hx.g 53 (by omega) (by omega), zi_eq (by omega), zi_le (by omega)]
  by_cases a : Z 60 = -1
  · rw [if_pos a]
  · rw [if_neg a, if_pos (by omega)]
theorem moN {Z : Nat → Int} (hR : Rg Z) (hv : Z 60 ≠ -1) : ∃ q : Nat, Z 60 = q ∧ q < 5 ∧ (q : Int) < Z 59 := by
  have := hR.mo
  have := hR.co
  exact ⟨(Z 60).toNat, by omega, by omega, by omega⟩
section RDS
variable {Z : Nat → Int} {xs : Nat → Int32} {ou : Nat → Int64} {od : Nat → UInt64} {wa le : Nat → Int32} {md : Nat → Int32} {mch : Int32} {fra : Int32} {fwe : Int32} {fof : Int32} {fsi : Int32} {csh : Int32} {cde : Int32} {csp : Int32} {rd : Nat → Int32} {rw : Nat → Int32} {rp : Nat → Int32} {rco : Int32} {rmo : Int32} {apa : Int32} {awo : Int32} {ash : Int32} {aja : Int32} {abu : Int32} {ltol : Int32} {lchi : Int32} {ljam : Int32}
theorem fk_40 (hc : ClS Z (md, mch, fra, fwe, fof, fsi, csh, cde, csp, rd, rw, rp, rco, rmo, apa, awo, ash, aja, abu, ltol, lchi, ljam)) (hR : Rg Z) (hx : MoS Z 0 xs) (s1 : Int32) : (flaw_40 rw rco ou xs s1).isSome = true := by
  obtain ⟨hmd, hrd, hrw, hrp, rfl, rfl, rfl, rfl, rfl, rfl, rfl, rfl, rfl, rfl, rfl, rfl, rfl, rfl, rfl, rfl, rfl, rfl⟩ := hc
  obtain ⟨a, hb, rfl⟩ := zI_surj s1
  by_cases hv : 0 ≤ a ∧ a < Z 59
  · obtain ⟨q, rfl⟩ : ∃ q : Nat, a = q := ⟨a.toNat, by omega⟩
    have hq : q < 5 := by have := hR.co; omega
    have e1 : fX8_at 5 rw (zI q) = some (zI (Z (66 + 18 * q))) := by rw [zcX8_at (by omega) hq, hrw q hq]
    have e2 : fX10_of xs 0 (zI q) 0 = some (zI (Z (66 + 18 * q))) := by rw [zL0]; exact mX10_wood hx hq
    simp only [flaw_40, fL_woodOf, fX9_woodOf, cPiY hR hb hv, e1, fX10_woodOf, mPiY hx hR hb hv, e2, e01, true_or, or_true, Option.bind_some, Option.map_some, fX10_thrown, hd0, hd1, hd2, e10, e20, eq_self, ↓reduceIte, lgu, Option.isSome_some]
  · simp only [flaw_40, fL_woodOf, fX9_woodOf, cPiN hR hb hv, fX10_woodOf, mPiN hx hR hb hv, e01, true_or, or_true, Option.bind_some, Option.map_some, fX10_thrown, hd0, hd1, hd2, e10, e20, eq_self, ↓reduceIte, lgu, Option.isSome_some]
theorem fk_42 (hc : ClS Z (md, mch, fra, fwe, fof, fsi, csh, cde, csp, rd, rw, rp, rco, rmo, apa, awo, ash, aja, abu, ltol, lchi, ljam)) (hR : Rg Z) (hx : MoS Z 0 xs) (s1 : Int32) : (flaw_42 rp rco ou xs s1).isSome = true := by
  obtain ⟨hmd, hrd, hrw, hrp, rfl, rfl, rfl, rfl, rfl, rfl, rfl, rfl, rfl, rfl, rfl, rfl, rfl, rfl, rfl, rfl, rfl, rfl⟩ := hc
  obtain ⟨a, hb, rfl⟩ := zI_surj s1
  by_cases hv : 0 ≤ a ∧ a < Z 59
  · obtain ⟨q, rfl⟩ : ∃ q : Nat, a = q := ⟨a.toNat, by omega⟩
    have hq : q < 5 := by have := hR.co; omega
    have e1 : fX8_at 5 rp (zI q) = some (zI (Z (67 + 18 * q))) := by rw [zcX8_at (by omega) hq, hrp q hq]
    have e2 : fX10_of xs 0 (zI q) 1 = some (zI (Z (67 + 18 * q))) := by rw [zL0, zL1]; exact mX10_done hx hq
    simp only [flaw_42, fL_passesOn, fX9_passesOn, cPiY hR hb hv, e1, fX10_passesOn, mPiY hx hR hb hv, e2, e01, true_or, or_true, Option.bind_some, Option.map_some, fX10_thrown, hd0, hd1, hd2, e10, e20, eq_self, ↓reduceIte, lgu, Option.isSome_some]
  · simp only [flaw_42, fL_passesOn, fX9_passesOn, cPiN hR hb hv, fX10_passesOn, mPiN hx hR hb hv, e01, true_or, or_true, Option.bind_some, Option.map_some, fX10_thrown, hd0, hd1, hd2, e10, e20, eq_self, ↓reduceIte, lgu, Option.isSome_some]
theorem fk_45 (hc : ClS Z (md, mch, fra, fwe, fof, fsi, csh, cde, csp, rd, rw, rp, rco, rmo, apa, awo, ash, aja, abu, ltol, lchi, ljam)) (hR : Rg Z) (hx : MoS Z 0 xs) (s1 : Int32) : (flaw_45 rd rw rco ou xs s1).isSome = true := by
  obtain ⟨hmd, hrd, hrw, hrp, rfl, rfl, rfl, rfl, rfl, rfl, rfl, rfl, rfl, rfl, rfl, rfl, rfl, rfl, rfl, rfl, rfl, rfl⟩ := hc
  obtain ⟨a, hb, rfl⟩ := zI_surj s1
  by_cases hv : 0 ≤ a ∧ a < Z 59
  · obtain ⟨q, rfl⟩ : ∃ q : Nat, a = q := ⟨a.toNat, by omega⟩
    have hq : q < 5 := by have := hR.co; omega
    have e1 : fX7_price rd rw (zI q) = some (zI (prZ Z q)) := zcX7_price hrd hrw hR hq
    have e2 : fX10_price xs (zI q) = some (zI (prZ Z q)) := mX10_price hx hR hq
    simp only [flaw_45, fL_priceOf, fX9_priceOf, cPiY hR hb hv, e1, fX10_priceOf, mPiY hx hR hb hv, e2, e01, true_or, or_true, Option.bind_some, Option.map_some, fX10_thrown, hd0, hd1, hd2, e10, e20, eq_self, ↓reduceIte, lgu, Option.isSome_some]
  · simp only [flaw_45, fL_priceOf, fX9_priceOf, cPiN hR hb hv, fX10_priceOf, mPiN hx hR hb hv, e01, true_or, or_true, Option.bind_some, Option.map_some, fX10_thrown, hd0, hd1, hd2, e10, e20, eq_self, ↓reduceIte, lgu, Option.isSome_some]
theorem fk_56 (hc : ClS Z (md, mch, fra, fwe, fof, fsi, csh, cde, csp, rd, rw, rp, rco, rmo, apa, awo, ash, aja, abu, ltol, lchi, ljam)) (hR : Rg Z) (hx : MoS Z 0 xs) (s1 : Int32) : (flaw_56 md mch rd rco ou xs s1).isSome = true := by
  obtain ⟨hmd, hrd, hrw, hrp, rfl, rfl, rfl, rfl, rfl, rfl, rfl, rfl, rfl, rfl, rfl, rfl, rfl, rfl, rfl, rfl, rfl, rfl⟩ := hc
  obtain ⟨a, hb, rfl⟩ := zI_surj s1
  by_cases hv : 0 ≤ a ∧ a < Z 59
  · obtain ⟨q, rfl⟩ : ∃ q : Nat, a = q := ⟨a.toNat, by omega⟩
    have hq : q < 5 := by have := hR.co; omega
    have e1 : fX9_tooThick_L9 md (zI (Z 48)) rd (zI q) 2000 0 0 = some (zI (tkZ Z q 1)) := zcX9_tooThick_L hmd hrd hR hq
    have e2 : fX10_worst xs (zI q) 1 = some (zI (tkZ Z q 1)) := by rw [zL1]; exact mX10_worst hx hR hq (Or.inl rfl)
    simp only [flaw_56, fL_tooThick, fX9_tooThick, cPiY hR hb hv, e1, fX10_tooThick, mPiY hx hR hb hv, e2, e01, true_or, or_true, Option.bind_some, Option.map_some, fX10_thrown, hd0, hd1, hd2, e10, e20, eq_self, ↓reduceIte, lgu, Option.isSome_some]
  · simp only [flaw_56, fL_tooThick, fX9_tooThick, cPiN hR hb hv, fX10_tooThick, mPiN hx hR hb hv, e01, true_or, or_true, Option.bind_some, Option.map_some, fX10_thrown, hd0, hd1, hd2, e10, e20, eq_self, ↓reduceIte, lgu, Option.isSome_some]
theorem fk_57 (hc : ClS Z (md, mch, fra, fwe, fof, fsi, csh, cde, csp, rd, rw, rp, rco, rmo, apa, awo, ash, aja, abu, ltol, lchi, ljam)) (hR : Rg Z) (hx : MoS Z 0 xs) (s1 : Int32) : (flaw_57 md mch rd rco ou xs s1).isSome = true := by
  obtain ⟨hmd, hrd, hrw, hrp, rfl, rfl, rfl, rfl, rfl, rfl, rfl, rfl, rfl, rfl, rfl, rfl, rfl, rfl, rfl, rfl, rfl, rfl⟩ := hc
  obtain ⟨a, hb, rfl⟩ := zI_surj s1
  by_cases hv : 0 ≤ a ∧ a < Z 59
  · obtain ⟨q, rfl⟩ : ∃ q : Nat, a = q := ⟨a.toNat, by omega⟩
    have hq : q < 5 := by have := hR.co; omega
    have e1 : fX9_tooThin_L9 md (zI (Z 48)) rd (zI q) 2000 0 0 = some (zI (tkZ Z q (-1))) := zcX9_tooThin_L hmd hrd hR hq
    have e2 : fX10_worst xs (zI q) (-1) = some (zI (tkZ Z q (-1))) := by rw [zLm]; exact mX10_worst hx hR hq (Or.inr rfl)
    simp only [flaw_57, fL_tooThin, fX9_tooThin, cPiY hR hb hv, e1, fX10_tooThin, mPiY hx hR hb hv, e2, e01, true_or, or_true, Option.bind_some, Option.map_some, fX10_thrown, hd0, hd1, hd2, e10, e20, eq_self, ↓reduceIte, lgu, Option.isSome_some]
  · simp only [flaw_57, fL_tooThin, fX9_tooThin, cPiN hR hb hv, fX10_tooThin, mPiN hx hR hb hv, e01, true_or, or_true, Option.bind_some, Option.map_some, fX10_thrown, hd0, hd1, hd2, e10, e20, eq_self, ↓reduceIte, lgu, Option.isSome_some]
theorem fk_58 (hc : ClS Z (md, mch, fra, fwe, fof, fsi, csh, cde, csp, rd, rw, rp, rco, rmo, apa, awo, ash, aja, abu, ltol, lchi, ljam)) (hR : Rg Z) (hx : MoS Z 0 xs) (s1 : Int32) : (flaw_58 md mch rd rco ltol ou xs s1).isSome = true := by
  obtain ⟨hmd, hrd, hrw, hrp, rfl, rfl, rfl, rfl, rfl, rfl, rfl, rfl, rfl, rfl, rfl, rfl, rfl, rfl, rfl, rfl, rfl, rfl⟩ := hc
  obtain ⟨a, hb, rfl⟩ := zI_surj s1
  by_cases hv : 0 ≤ a ∧ a < Z 59
  · obtain ⟨q, rfl⟩ : ∃ q : Nat, a = q := ⟨a.toNat, by omega⟩
    have hq : q < 5 := by have := hR.co; omega
    have e1 : fX4_faults md (zI (Z 48)) rd (zI (Z 56)) (zI q) = some (zI (faZ Z q)) := zcX4_faults hmd hrd hR hq
    have e2 : fX10_faults xs (zI q) = some (zI (faZ Z q)) := mX10_faults hx hR hq
    simp only [flaw_58, fL_faultsOf, fX9_faultsOf, cPiY hR hb hv, e1, fX10_faultsOf, mPiY hx hR hb hv, e2, e01, true_or, or_true, Option.bind_some, Option.map_some, fX10_thrown, hd0, hd1, hd2, e10, e20, eq_self, ↓reduceIte, lgu, Option.isSome_some]
  · simp only [flaw_58, fL_faultsOf, fX9_faultsOf, cPiN hR hb hv, fX10_faultsOf, mPiN hx hR hb hv, e01, true_or, or_true, Option.bind_some, Option.map_some, fX10_thrown, hd0, hd1, hd2, e10, e20, eq_self, ↓reduceIte, lgu, Option.isSome_some]
theorem fk_60 (hc : ClS Z (md, mch, fra, fwe, fof, fsi, csh, cde, csp, rd, rw, rp, rco, rmo, apa, awo, ash, aja, abu, ltol, lchi, ljam)) (hR : Rg Z) (hx : MoS Z 0 xs) (s1 : Int32) : (flaw_60 md rd rco ou xs s1).isSome = true := by
  obtain ⟨hmd, hrd, hrw, hrp, rfl, rfl, rfl, rfl, rfl, rfl, rfl, rfl, rfl, rfl, rfl, rfl, rfl, rfl, rfl, rfl, rfl, rfl⟩ := hc
  obtain ⟨a, hb, rfl⟩ := zI_surj s1
  by_cases hv : 0 ≤ a ∧ a < Z 59
  · obtain ⟨q, rfl⟩ : ∃ q : Nat, a = q := ⟨a.toNat, by omega⟩
    have hq : q < 5 := by have := hR.co; omega
    have e1 : fX9_mostLike_L9 md rd (zI q) 2000 0 1 = some (zI (liZ Z q)) := zcX9_mostLike_L hmd hrd hR hq
    have e2 : fX10_most xs (zI q) = some (zI (liZ Z q)) := mX10_most hx hR hq
    simp only [flaw_60, fL_mostLike, fX9_mostLike, cPiY hR hb hv, e1, fX10_mostLike, mPiY hx hR hb hv, e2, e01, true_or, or_true, Option.bind_some, Option.map_some, fX10_thrown, hd0, hd1, hd2, e10, e20, eq_self, ↓reduceIte, lgu, Option.isSome_some]
  · simp only [flaw_60, fL_mostLike, fX9_mostLike, cPiN hR hb hv, fX10_mostLike, mPiN hx hR hb hv, e01, true_or, or_true, Option.bind_some, Option.map_some, fX10_thrown, hd0, hd1, hd2, e10, e20, eq_self, ↓reduceIte, lgu, Option.isSome_some]
theorem fk_67 (hc : ClS Z (md, mch, fra, fwe, fof, fsi, csh, cde, csp, rd, rw, rp, rco, rmo, apa, awo, ash, aja, abu, ltol, lchi, ljam)) (hR : Rg Z) (hx : MoS Z 0 xs) (s1 : Int32) : (flaw_67 md mch fra fwe fof rd rco ou xs s1).isSome = true := by
  obtain ⟨hmd, hrd, hrw, hrp, rfl, rfl, rfl, rfl, rfl, rfl, rfl, rfl, rfl, rfl, rfl, rfl, rfl, rfl, rfl, rfl, rfl, rfl⟩ := hc
  obtain ⟨a, hb, rfl⟩ := zI_surj s1
  by_cases hv : 0 ≤ a ∧ a < Z 59
  · obtain ⟨q, rfl⟩ : ∃ q : Nat, a = q := ⟨a.toNat, by omega⟩
    have hq : q < 5 := by have := hR.co; omega
    have e1 : fX4_allAbove md (zI (Z 48)) (zI (Z 49)) (zI (Z 50)) (zI (Z 52)) rd (zI q) = some (zI (alZ Z q)) := zcX4_allAbove hmd hrd hR hq
    have e2 : fX10_allAbove xs (zI q) = some (zI (alZ Z q)) := mX10_allAbove hx hR hq
    simp only [flaw_67, fL_chipsOf, fX9_chipsOf, cPiY hR hb hv, e1, fX10_chipsOf, mPiY hx hR hb hv, e2, e01, true_or, or_true, Option.bind_some, Option.map_some, fX10_thrown, hd0, hd1, hd2, e10, e20, eq_self, ↓reduceIte, lgu, Option.isSome_some]
  · simp only [flaw_67, fL_chipsOf, fX9_chipsOf, cPiN hR hb hv, fX10_chipsOf, mPiN hx hR hb hv, e01, true_or, or_true, Option.bind_some, Option.map_some, fX10_thrown, hd0, hd1, hd2, e10, e20, eq_self, ↓reduceIte, lgu, Option.isSome_some]
theorem fk_51 (hc : ClS Z (md, mch, fra, fwe, fof, fsi, csh, cde, csp, rd, rw, rp, rco, rmo, apa, awo, ash, aja, abu, ltol, lchi, ljam)) (hR : Rg Z) (hx : MoS Z 0 xs) (s1 : Int32) : (flaw_51 md mch fra ou xs s1).isSome = true := by
  obtain ⟨hmd, hrd, hrw, hrp, rfl, rfl, rfl, rfl, rfl, rfl, rfl, rfl, rfl, rfl, rfl, rfl, rfl, rfl, rfl, rfl, rfl, rfl⟩ := hc
  obtain ⟨a, hb, rfl⟩ := zI_surj s1
  by_cases hv : 0 ≤ a ∧ a < 16
  · obtain ⟨q, rfl⟩ : ∃ q : Nat, a = q := ⟨a.toNat, by omega⟩
    have hq : q < 16 := by omega
    have e1 : fX4_reading md (zI (Z 48)) (zI (Z 49)) (zI q) = some (zI (rdZ Z q)) := zcX4_reading hmd hR hq
    have e2 : fX10_reading xs 0 (zI q) = some (zI (rdZ Z q)) := by rw [zL0]; exact mX10_reading hx hR hq
    simp only [flaw_51, fL_readingByLooking, fX9_readingByLooking, cStY hb hv, e1, fX10_readingByLooking, mStY hb hv, e2, e01, true_or, or_true, Option.bind_some, Option.map_some, fX10_thrown, hd0, hd1, hd2, e10, e20, eq_self, ↓reduceIte, lgu, Option.isSome_some]
  · simp only [flaw_51, fL_readingByLooking, fX9_readingByLooking, cStN hb hv, fX10_readingByLooking, mStN hb hv, e01, true_or, or_true, Option.bind_some, Option.map_some, fX10_thrown, hd0, hd1, hd2, e10, e20, eq_self, ↓reduceIte, lgu, Option.isSome_some]
theorem fk_53 (hc : ClS Z (md, mch, fra, fwe, fof, fsi, csh, cde, csp, rd, rw, rp, rco, rmo, apa, awo, ash, aja, abu, ltol, lchi, ljam)) (hR : Rg Z) (hx : MoS Z 0 xs) (s1 : Int32) : (flaw_53 md mch fra fwe fof ou xs s1).isSome = true := by
  obtain ⟨hmd, hrd, hrw, hrp, rfl, rfl, rfl, rfl, rfl, rfl, rfl, rfl, rfl, rfl, rfl, rfl, rfl, rfl, rfl, rfl, rfl, rfl⟩ := hc
  obtain ⟨a, hb, rfl⟩ := zI_surj s1
  by_cases hv : 0 ≤ a ∧ a < 16
  · obtain ⟨q, rfl⟩ : ∃ q : Nat, a = q := ⟨a.toNat, by omega⟩
    have hq : q < 16 := by omega
    have e1 : fX4_target md (zI (Z 48)) (zI (Z 49)) (zI (Z 50)) (zI (Z 52)) (zI q) = some (zI (tgZ Z q)) := zcX4_target hmd hR hq
    have e2 : fX10_target xs 0 (zI q) = some (zI (tgZ Z q)) := by rw [zL0]; exact mX10_target hx hR hq
    simp only [flaw_53, fL_targetAt, fX9_targetAt, cStY hb hv, e1, fX10_targetAt, mStY hb hv, e2, e01, true_or, or_true, Option.bind_some, Option.map_some, fX10_thrown, hd0, hd1, hd2, e10, e20, eq_self, ↓reduceIte, lgu, Option.isSome_some]
  · simp only [flaw_53, fL_targetAt, fX9_targetAt, cStN hb hv, fX10_targetAt, mStN hb hv, e01, true_or, or_true, Option.bind_some, Option.map_some, fX10_thrown, hd0, hd1, hd2, e10, e20, eq_self, ↓reduceIte, lgu, Option.isSome_some]
theorem fk_27 (hc : ClS Z (md, mch, fra, fwe, fof, fsi, csh, cde, csp, rd, rw, rp, rco, rmo, apa, awo, ash, aja, abu, ltol, lchi, ljam)) (hR : Rg Z) (hx : MoS Z 0 xs) : (flaw_27 mch xs).isSome = true := by
  obtain ⟨hmd, hrd, hrw, hrp, rfl, rfl, rfl, rfl, rfl, rfl, rfl, rfl, rfl, rfl, rfl, rfl, rfl, rfl, rfl, rfl, rfl, rfl⟩ := hc
  simp only [flaw_27, fX9_chosenMaster, fX10_chosenMaster, mX10_counted hx 48 (by omega) (J := 48) rfl, e01, true_or, or_true, Option.bind_some, Option.map_some, fX10_thrown, hd0, hd1, hd2, e10, e20, eq_self, ↓reduceIte, lgu, Option.isSome_some]
theorem fk_28 (hc : ClS Z (md, mch, fra, fwe, fof, fsi, csh, cde, csp, rd, rw, rp, rco, rmo, apa, awo, ash, aja, abu, ltol, lchi, ljam)) (hR : Rg Z) (hx : MoS Z 0 xs) : (flaw_28 fra xs).isSome = true := by
  obtain ⟨hmd, hrd, hrw, hrp, rfl, rfl, rfl, rfl, rfl, rfl, rfl, rfl, rfl, rfl, rfl, rfl, rfl, rfl, rfl, rfl, rfl, rfl⟩ := hc
  simp only [flaw_28, fX9_radius, fX10_radius, mX10_counted hx 49 (by omega) (J := 49) rfl, e01, true_or, or_true, Option.bind_some, Option.map_some, fX10_thrown, hd0, hd1, hd2, e10, e20, eq_self, ↓reduceIte, lgu, Option.isSome_some]
theorem fk_29 (hc : ClS Z (md, mch, fra, fwe, fof, fsi, csh, cde, csp, rd, rw, rp, rco, rmo, apa, awo, ash, aja, abu, ltol, lchi, ljam)) (hR : Rg Z) (hx : MoS Z 0 xs) : (flaw_29 fwe xs).isSome = true := by
  obtain ⟨hmd, hrd, hrw, hrp, rfl, rfl, rfl, rfl, rfl, rfl, rfl, rfl, rfl, rfl, rfl, rfl, rfl, rfl, rfl, rfl, rfl, rfl⟩ := hc
  simp only [flaw_29, fX9_wear, fX10_wear, mX10_counted hx 50 (by omega) (J := 50) rfl, e01, true_or, or_true, Option.bind_some, Option.map_some, fX10_thrown, hd0, hd1, hd2, e10, e20, eq_self, ↓reduceIte, lgu, Option.isSome_some]
theorem fk_30 (hc : ClS Z (md, mch, fra, fwe, fof, fsi, csh, cde, csp, rd, rw, rp, rco, rmo, apa, awo, ash, aja, abu, ltol, lchi, ljam)) (hR : Rg Z) (hx : MoS Z 0 xs) : (flaw_30 fof xs).isSome = true := by
  obtain ⟨hmd, hrd, hrw, hrp, rfl, rfl, rfl, rfl, rfl, rfl, rfl, rfl, rfl, rfl, rfl, rfl, rfl, rfl, rfl, rfl, rfl, rfl⟩ := hc
  simp only [flaw_30, fX9_offset, fX10_offset, mX10_counted hx 52 (by omega) (J := 52) rfl, e01, true_or, or_true, Option.bind_some, Option.map_some, fX10_thrown, hd0, hd1, hd2, e10, e20, eq_self, ↓reduceIte, lgu, Option.isSome_some]
theorem fk_31 (hc : ClS Z (md, mch, fra, fwe, fof, fsi, csh, cde, csp, rd, rw, rp, rco, rmo, apa, awo, ash, aja, abu, ltol, lchi, ljam)) (hR : Rg Z) (hx : MoS Z 0 xs) : (flaw_31 csh xs).isSome = true := by
  obtain ⟨hmd, hrd, hrw, hrp, rfl, rfl, rfl, rfl, rfl, rfl, rfl, rfl, rfl, rfl, rfl, rfl, rfl, rfl, rfl, rfl, rfl, rfl⟩ := hc
  simp only [flaw_31, fX9_sharpness, fX10_sharpness, mX10_counted hx 53 (by omega) (J := 53) rfl, e01, true_or, or_true, Option.bind_some, Option.map_some, fX10_thrown, hd0, hd1, hd2, e10, e20, eq_self, ↓reduceIte, lgu, Option.isSome_some]
theorem fk_32 (hc : ClS Z (md, mch, fra, fwe, fof, fsi, csh, cde, csp, rd, rw, rp, rco, rmo, apa, awo, ash, aja, abu, ltol, lchi, ljam)) (hR : Rg Z) (hx : MoS Z 0 xs) : (flaw_32 cde xs).isSome = true := by
  obtain ⟨hmd, hrd, hrw, hrp, rfl, rfl, rfl, rfl, rfl, rfl, rfl, rfl, rfl, rfl, rfl, rfl, rfl, rfl, rfl, rfl, rfl, rfl⟩ := hc
  simp only [flaw_32, fX9_depth, fX10_depth, mX10_counted hx 54 (by omega) (J := 54) rfl, e01, true_or, or_true, Option.bind_some, Option.map_some, fX10_thrown, hd0, hd1, hd2, e10, e20, eq_self, ↓reduceIte, lgu, Option.isSome_some]
theorem fk_34 (hc : ClS Z (md, mch, fra, fwe, fof, fsi, csh, cde, csp, rd, rw, rp, rco, rmo, apa, awo, ash, aja, abu, ltol, lchi, ljam)) (hR : Rg Z) (hx : MoS Z 0 xs) : (flaw_34 csp xs).isSome = true := by
  obtain ⟨hmd, hrd, hrw, hrp, rfl, rfl, rfl, rfl, rfl, rfl, rfl, rfl, rfl, rfl, rfl, rfl, rfl, rfl, rfl, rfl, rfl, rfl⟩ := hc
  simp only [flaw_34, fX9_speed, fX10_speed, mX10_counted hx 55 (by omega) (J := 55) rfl, e01, true_or, or_true, Option.bind_some, Option.map_some, fX10_thrown, hd0, hd1, hd2, e10, e20, eq_self, ↓reduceIte, lgu, Option.isSome_some]
theorem fk_35 (hc : ClS Z (md, mch, fra, fwe, fof, fsi, csh, cde, csp, rd, rw, rp, rco, rmo, apa, awo, ash, aja, abu, ltol, lchi, ljam)) (hR : Rg Z) (hx : MoS Z 0 xs) : (flaw_35 ltol xs).isSome = true := by
  obtain ⟨hmd, hrd, hrw, hrp, rfl, rfl, rfl, rfl, rfl, rfl, rfl, rfl, rfl, rfl, rfl, rfl, rfl, rfl, rfl, rfl, rfl, rfl⟩ := hc
  simp only [flaw_35, fX9_tolerance, fX10_tolerance, mX10_counted hx 56 (by omega) (J := 56) rfl, e01, true_or, or_true, Option.bind_some, Option.map_some, fX10_thrown, hd0, hd1, hd2, e10, e20, eq_self, ↓reduceIte, lgu, Option.isSome_some]
theorem fk_36 (hc : ClS Z (md, mch, fra, fwe, fof, fsi, csh, cde, csp, rd, rw, rp, rco, rmo, apa, awo, ash, aja, abu, ltol, lchi, ljam)) (hR : Rg Z) (hx : MoS Z 0 xs) : (flaw_36 lchi xs).isSome = true := by
  obtain ⟨hmd, hrd, hrw, hrp, rfl, rfl, rfl, rfl, rfl, rfl, rfl, rfl, rfl, rfl, rfl, rfl, rfl, rfl, rfl, rfl, rfl, rfl⟩ := hc
  simp only [flaw_36, fX9_chips, fX10_chips, mX10_counted hx 57 (by omega) (J := 57) rfl, e01, true_or, or_true, Option.bind_some, Option.map_some, fX10_thrown, hd0, hd1, hd2, e10, e20, eq_self, ↓reduceIte, lgu, Option.isSome_some]
theorem fk_39 (hc : ClS Z (md, mch, fra, fwe, fof, fsi, csh, cde, csp, rd, rw, rp, rco, rmo, apa, awo, ash, aja, abu, ltol, lchi, ljam)) (hR : Rg Z) (hx : MoS Z 0 xs) : (flaw_39 rco xs).isSome = true := by
  obtain ⟨hmd, hrd, hrw, hrp, rfl, rfl, rfl, rfl, rfl, rfl, rfl, rfl, rfl, rfl, rfl, rfl, rfl, rfl, rfl, rfl, rfl, rfl⟩ := hc
  simp only [flaw_39, fX9_pieces, fX10_pieces, mX10_counted hx 59 (by omega) (J := 59) rfl, e01, true_or, or_true, Option.bind_some, Option.map_some, fX10_thrown, hd0, hd1, hd2, e10, e20, eq_self, ↓reduceIte, lgu, Option.isSome_some]
theorem fk_46 (hc : ClS Z (md, mch, fra, fwe, fof, fsi, csh, cde, csp, rd, rw, rp, rco, rmo, apa, awo, ash, aja, abu, ltol, lchi, ljam)) (hR : Rg Z) (hx : MoS Z 0 xs) : (flaw_46 apa xs).isSome = true := by
  obtain ⟨hmd, hrd, hrw, hrp, rfl, rfl, rfl, rfl, rfl, rfl, rfl, rfl, rfl, rfl, rfl, rfl, rfl, rfl, rfl, rfl, rfl, rfl⟩ := hc
  simp only [flaw_46, fX9_passes, fX10_passes, mX10_counted hx 61 (by omega) (J := 61) rfl, e01, true_or, or_true, Option.bind_some, Option.map_some, fX10_thrown, hd0, hd1, hd2, e10, e20, eq_self, ↓reduceIte, lgu, Option.isSome_some]
theorem fk_47 (hc : ClS Z (md, mch, fra, fwe, fof, fsi, csh, cde, csp, rd, rw, rp, rco, rmo, apa, awo, ash, aja, abu, ltol, lchi, ljam)) (hR : Rg Z) (hx : MoS Z 0 xs) : (flaw_47 awo xs).isSome = true := by
  obtain ⟨hmd, hrd, hrw, hrp, rfl, rfl, rfl, rfl, rfl, rfl, rfl, rfl, rfl, rfl, rfl, rfl, rfl, rfl, rfl, rfl, rfl, rfl⟩ := hc
  simp only [flaw_47, fX9_woodTaken, fX10_woodTaken, mX10_counted hx 62 (by omega) (J := 62) rfl, e01, true_or, or_true, Option.bind_some, Option.map_some, fX10_thrown, hd0, hd1, hd2, e10, e20, eq_self, ↓reduceIte, lgu, Option.isSome_some]
theorem fk_48 (hc : ClS Z (md, mch, fra, fwe, fof, fsi, csh, cde, csp, rd, rw, rp, rco, rmo, apa, awo, ash, aja, abu, ltol, lchi, ljam)) (hR : Rg Z) (hx : MoS Z 0 xs) : (flaw_48 ash xs).isSome = true := by
  obtain ⟨hmd, hrd, hrw, hrp, rfl, rfl, rfl, rfl, rfl, rfl, rfl, rfl, rfl, rfl, rfl, rfl, rfl, rfl, rfl, rfl, rfl, rfl⟩ := hc
  simp only [flaw_48, fX9_sharpenings, fX10_sharpenings, mX10_counted hx 63 (by omega) (J := 63) rfl, e01, true_or, or_true, Option.bind_some, Option.map_some, fX10_thrown, hd0, hd1, hd2, e10, e20, eq_self, ↓reduceIte, lgu, Option.isSome_some]
theorem fk_49 (hc : ClS Z (md, mch, fra, fwe, fof, fsi, csh, cde, csp, rd, rw, rp, rco, rmo, apa, awo, ash, aja, abu, ltol, lchi, ljam)) (hR : Rg Z) (hx : MoS Z 0 xs) : (flaw_49 aja xs).isSome = true := by
  obtain ⟨hmd, hrd, hrw, hrp, rfl, rfl, rfl, rfl, rfl, rfl, rfl, rfl, rfl, rfl, rfl, rfl, rfl, rfl, rfl, rfl, rfl, rfl⟩ := hc
  simp only [flaw_49, fX9_jams, fX10_jams, mX10_counted hx 64 (by omega) (J := 64) rfl, e01, true_or, or_true, Option.bind_some, Option.map_some, fX10_thrown, hd0, hd1, hd2, e10, e20, eq_self, ↓reduceIte, lgu, Option.isSome_some]
theorem fk_50 (hc : ClS Z (md, mch, fra, fwe, fof, fsi, csh, cde, csp, rd, rw, rp, rco, rmo, apa, awo, ash, aja, abu, ltol, lchi, ljam)) (hR : Rg Z) (hx : MoS Z 0 xs) : (flaw_50 abu xs).isSome = true := by
  obtain ⟨hmd, hrd, hrw, hrp, rfl, rfl, rfl, rfl, rfl, rfl, rfl, rfl, rfl, rfl, rfl, rfl, rfl, rfl, rfl, rfl, rfl, rfl⟩ := hc
  simp only [flaw_50, fX9_burnt, fX10_burnt, mX10_counted hx 65 (by omega) (J := 65) rfl, e01, true_or, or_true, Option.bind_some, Option.map_some, fX10_thrown, hd0, hd1, hd2, e10, e20, eq_self, ↓reduceIte, lgu, Option.isSome_some]
theorem fk_33 (hc : ClS Z (md, mch, fra, fwe, fof, fsi, csh, cde, csp, rd, rw, rp, rco, rmo, apa, awo, ash, aja, abu, ltol, lchi, ljam)) (hR : Rg Z) (hx : MoS Z 0 xs) : (flaw_33 csh cde xs).isSome = true := by
  obtain ⟨hmd, hrd, hrw, hrp, rfl, rfl, rfl, rfl, rfl, rfl, rfl, rfl, rfl, rfl, rfl, rfl, rfl, rfl, rfl, rfl, rfl, rfl⟩ := hc
  have e1 : fX1_reach (zI (Z 53)) (zI (Z 54)) = some (zI (cuZ Z)) := zcX1_reach hR
  have e2 : fX10_cuts xs 0 = some (zI (cuZ Z)) := by rw [zL0]; exact mX10_cuts hx hR
  simp only [flaw_33, fX9_cutDepth, e1, fX10_cutDepth, e2, e01, true_or, or_true, Option.bind_some, Option.map_some, fX10_thrown, hd0, hd1, hd2, e10, e20, eq_self, ↓reduceIte, lgu, Option.isSome_some]
theorem fk_37 (hc : ClS Z (md, mch, fra, fwe, fof, fsi, csh, cde, csp, rd, rw, rp, rco, rmo, apa, awo, ash, aja, abu, ltol, lchi, ljam)) (hR : Rg Z) (hx : MoS Z 0 xs) : (flaw_37 lchi xs).isSome = true := by
  obtain ⟨hmd, hrd, hrw, hrp, rfl, rfl, rfl, rfl, rfl, rfl, rfl, rfl, rfl, rfl, rfl, rfl, rfl, rfl, rfl, rfl, rfl, rfl⟩ := hc
  have e2 : xs (57 : Int32).toNatClampNeg = zI (Z 57) := by rw [zL57]; exact hx.g 57 (by omega) (by omega)
  simp only [flaw_37, fX9_roomForChips, fX10_roomForChips, e2, e01, true_or, or_true, Option.bind_some, Option.map_some, fX10_thrown, hd0, hd1, hd2, e10, e20, eq_self, ↓reduceIte, lgu, Option.isSome_some]
theorem fk_38 (hc : ClS Z (md, mch, fra, fwe, fof, fsi, csh, cde, csp, rd, rw, rp, rco, rmo, apa, awo, ash, aja, abu, ltol, lchi, ljam)) (hR : Rg Z) (hx : MoS Z 0 xs) : (flaw_38 ljam xs).isSome = true := by
  obtain ⟨hmd, hrd, hrw, hrp, rfl, rfl, rfl, rfl, rfl, rfl, rfl, rfl, rfl, rfl, rfl, rfl, rfl, rfl, rfl, rfl, rfl, rfl⟩ := hc
  have e2 : xs (58 : Int32).toNatClampNeg = zI (Z 58) := by rw [zL58]; exact hx.g 58 (by omega) (by omega)
  rcases hR.ja with h | h
  · have e3 : (zI 0 = 0 ∨ zI 0 = 1) := Or.inl rfl
    have e4 : (zI 0 = (1 : Int32)) = False := eq_false (by decide)
    have e5 : zI 0 = (0 : Int32) := rfl
    simp only [flaw_38, fX9_isJammed, fX10_isJammed, e2, h, if_pos e3, e4, if_false, e5, e01, true_or, or_true, Option.bind_some, Option.map_some, fX10_thrown, hd0, hd1, hd2, e10, e20, eq_self, ↓reduceIte, lgu, Option.isSome_some]
  · have e3 : (zI 1 = 0 ∨ zI 1 = 1) := Or.inr rfl
    have e5 : zI 1 = (1 : Int32) := rfl
    simp only [flaw_38, fX9_isJammed, fX10_isJammed, e2, h, if_pos e3, e5, e01, true_or, or_true, Option.bind_some, Option.map_some, fX10_thrown, hd0, hd1, hd2, e10, e20, eq_self, ↓reduceIte, lgu, Option.isSome_some]
theorem fk_43 (hc : ClS Z (md, mch, fra, fwe, fof, fsi, csh, cde, csp, rd, rw, rp, rco, rmo, apa, awo, ash, aja, abu, ltol, lchi, ljam)) (hR : Rg Z) (hx : MoS Z 0 xs) : (flaw_43 rmo xs).isSome = true := by
  obtain ⟨hmd, hrd, hrw, hrp, rfl, rfl, rfl, rfl, rfl, rfl, rfl, rfl, rfl, rfl, rfl, rfl, rfl, rfl, rfl, rfl, rfl, rfl⟩ := hc
  have e2 : xs (60 : Int32).toNatClampNeg = zI (Z 60) := by rw [zL60]; exact hx.g 60 (by omega) (by omega)
  have h1 := hR.mo
  have h2 := hR.co
  unfold flaw_43 fX9_hasMounted fX10_hasMounted fX7_isTurning
  rw [e2, zLm, zi_eq (by omega), zi_eq (by omega)]
  by_cases h : Z 60 = -1
  · rw [if_pos h, if_pos h]; rfl
  · rw [if_neg h, if_neg h]; rfl
theorem fk_54 (hc : ClS Z (md, mch, fra, fwe, fof, fsi, csh, cde, csp, rd, rw, rp, rco, rmo, apa, awo, ash, aja, abu, ltol, lchi, ljam)) (hR : Rg Z) (hx : MoS Z 0 xs) : (flaw_54 md mch fra xs).isSome = true := by
  obtain ⟨hmd, hrd, hrw, hrp, rfl, rfl, rfl, rfl, rfl, rfl, rfl, rfl, rfl, rfl, rfl, rfl, rfl, rfl, rfl, rfl, rfl, rfl⟩ := hc
  have e1 : fX9_lostGrooves md (zI (Z 48)) (zI (Z 49)) = some (zI (loZ Z)) := zcX9_lostGrooves hmd hR
  have e2 : fX10_lost xs = some (zI (loZ Z)) := mX10_lost hx hR
  simp only [flaw_54, e1, fX10_lostGrooves, e2, e01, true_or, or_true, Option.bind_some, Option.map_some, fX10_thrown, hd0, hd1, hd2, e10, e20, eq_self, ↓reduceIte, lgu, Option.isSome_some]
theorem fk_55 (hc : ClS Z (md, mch, fra, fwe, fof, fsi, csh, cde, csp, rd, rw, rp, rco, rmo, apa, awo, ash, aja, abu, ltol, lchi, ljam)) (hR : Rg Z) (hx : MoS Z 0 xs) : (flaw_55 md xs).isSome = true := by
  obtain ⟨hmd, hrd, hrw, hrp, rfl, rfl, rfl, rfl, rfl, rfl, rfl, rfl, rfl, rfl, rfl, rfl, rfl, rfl, rfl, rfl, rfl, rfl⟩ := hc
  have e1 : fX9_slimmestMaster md = some (zI (slZ Z)) := zcX9_slimmestMaster hmd hR
  have e2 : fX10_slimmestMaster xs = some (zI (slZ Z), 0) := mX10_slimmestMaster hx hR
  simp only [flaw_55, e1, e2, e01, true_or, or_true, Option.bind_some, Option.map_some, fX10_thrown, hd0, hd1, hd2, e10, e20, eq_self, ↓reduceIte, lgu, Option.isSome_some]
theorem fk_26 (hc : ClS Z (md, mch, fra, fwe, fof, fsi, csh, cde, csp, rd, rw, rp, rco, rmo, apa, awo, ash, aja, abu, ltol, lchi, ljam)) (hR : Rg Z) (hx : MoS Z 0 xs) (s1 : Int32) (s2 : Int32) : (flaw_26 md ou xs s1 s2).isSome = true := by
  obtain ⟨hmd, hrd, hrw, hrp, rfl, rfl, rfl, rfl, rfl, rfl, rfl, rfl, rfl, rfl, rfl, rfl, rfl, rfl, rfl, rfl, rfl, rfl⟩ := hc
  obtain ⟨a, hb, rfl⟩ := zI_surj s1
  obtain ⟨b, hb2, rfl⟩ := zI_surj s2
  by_cases hv : 0 ≤ a ∧ a < 3
  · by_cases hv2 : 0 ≤ b ∧ b < 16
    · obtain ⟨c, rfl⟩ : ∃ q : Nat, a = q := ⟨a.toNat, by omega⟩
      obtain ⟨k, rfl⟩ : ∃ q : Nat, b = q := ⟨b.toNat, by omega⟩
      have e1 : fX6_at md (zI c) (zI k) = some (zI (mZ Z c k)) := zcX6_at hmd (by omega) (by omega)
      have e3 : (16 : Int32) * zI c + zI k = zI (16 * c + k) := by rw [zL16, zI_mul, zI_add]
      have e4 : ¬ (zI (16 * (c : Int) + k) < 0 ∨ 1560 ≤ (zI (16 * (c : Int) + k)).toNatClampNeg) := ixB (by omega)
      have e2 : xs (zI (16 * (c : Int) + k)).toNatClampNeg = zI (mZ Z c k) := hx.g (16 * c + k) (by omega) (by omega)
      simp only [flaw_26, fL_masterAt, fX9_masterAt, cMaY hb hv, cStY hb2 hv2, e1, fX10_masterAt, mMaY hb hv, mStY hb2 hv2, e3, if_pos e4, e2, e01, true_or, or_true, Option.bind_some, Option.map_some, fX10_thrown, hd0, hd1, hd2, e10, e20, eq_self, ↓reduceIte, lgu, Option.isSome_some]
    · simp only [flaw_26, fL_masterAt, fX9_masterAt, cMaY hb hv, cStN hb2 hv2, fX10_masterAt, mMaY hb hv, mStN hb2 hv2, e01, true_or, or_true, Option.bind_some, Option.map_some, fX10_thrown, hd0, hd1, hd2, e10, e20, eq_self, ↓reduceIte, lgu, Option.isSome_some]
  · simp only [flaw_26, fL_masterAt, fX9_masterAt, cMaN hb hv, fX10_masterAt, mMaN hb hv, e01, true_or, or_true, Option.bind_some, Option.map_some, fX10_thrown, hd0, hd1, hd2, e10, e20, eq_self, ↓reduceIte, lgu, Option.isSome_some]
theorem fk_41 (hc : ClS Z (md, mch, fra, fwe, fof, fsi, csh, cde, csp, rd, rw, rp, rco, rmo, apa, awo, ash, aja, abu, ltol, lchi, ljam)) (hR : Rg Z) (hx : MoS Z 0 xs) (s1 : Int32) (s2 : Int32) : (flaw_41 rd rco ou xs s1 s2).isSome = true := by
  obtain ⟨hmd, hrd, hrw, hrp, rfl, rfl, rfl, rfl, rfl, rfl, rfl, rfl, rfl, rfl, rfl, rfl, rfl, rfl, rfl, rfl, rfl, rfl⟩ := hc
  obtain ⟨a, hb, rfl⟩ := zI_surj s1
  obtain ⟨b, hb2, rfl⟩ := zI_surj s2
  by_cases hv : 0 ≤ a ∧ a < Z 59
  · by_cases hv2 : 0 ≤ b ∧ b < 16
    · obtain ⟨c, rfl⟩ : ∃ q : Nat, a = q := ⟨a.toNat, by omega⟩
      obtain ⟨k, rfl⟩ : ∃ q : Nat, b = q := ⟨b.toNat, by omega⟩
      have hq : c < 5 := by have := hR.co; omega
      have e1 : fX7_at rd (zI c) (zI k) = some (zI (dZ Z c k)) := zcX7_at hrd hq (by omega)
      have e3 : (2 : Int32) + zI k = zI (2 + k) := by rw [zL2, zI_add]
      have e2 : fX10_of xs 0 (zI c) (zI (2 + (k : Int))) = some (zI (dZ Z c k)) := by rw [zL0]; exact mX10_at hx hq (by omega)
      simp only [flaw_41, fL_diameterAt, fX9_diameterAt, cPiY hR hb hv, cStY hb2 hv2, e1, fX10_diameterAt, mPiY hx hR hb hv, mStY hb2 hv2, e3, e2, e01, true_or, or_true, Option.bind_some, Option.map_some, fX10_thrown, hd0, hd1, hd2, e10, e20, eq_self, ↓reduceIte, lgu, Option.isSome_some]
    · simp only [flaw_41, fL_diameterAt, fX9_diameterAt, cPiY hR hb hv, cStN hb2 hv2, fX10_diameterAt, mPiY hx hR hb hv, mStN hb2 hv2, e01, true_or, or_true, Option.bind_some, Option.map_some, fX10_thrown, hd0, hd1, hd2, e10, e20, eq_self, ↓reduceIte, lgu, Option.isSome_some]
  · simp only [flaw_41, fL_diameterAt, fX9_diameterAt, cPiN hR hb hv, fX10_diameterAt, mPiN hx hR hb hv, e01, true_or, or_true, Option.bind_some, Option.map_some, fX10_thrown, hd0, hd1, hd2, e10, e20, eq_self, ↓reduceIte, lgu, Option.isSome_some]
theorem fk_44 (hc : ClS Z (md, mch, fra, fwe, fof, fsi, csh, cde, csp, rd, rw, rp, rco, rmo, apa, awo, ash, aja, abu, ltol, lchi, ljam)) (hR : Rg Z) (hx : MoS Z 0 xs) : (flaw_44 rmo ou xs).isSome = true := by
  obtain ⟨hmd, hrd, hrw, hrp, rfl, rfl, rfl, rfl, rfl, rfl, rfl, rfl, rfl, rfl, rfl, rfl, rfl, rfl, rfl, rfl, rfl, rfl⟩ := hc
  have e60 : xs (60 : Int32).toNatClampNeg = zI (Z 60) := by rw [zL60]; exact hx.g 60 (by omega) (by omega)
  have h1 := hR.mo
  have h2 := hR.co
  by_cases hv : Z 60 = -1
  · have e3 : zI (Z 60) = -1 := by rw [hv]; rfl
    simp only [flaw_44, fL_mounted, fX9_mounted, cMoN hv, fX10_mounted, e60, if_pos e3, e01, true_or, or_true, Option.bind_some, Option.map_some, fX10_thrown, hd0, hd1, hd2, e10, e20, eq_self, ↓reduceIte, lgu, Option.isSome_some]
  · have e3 : ¬ zI (Z 60) = -1 := by rw [zLm, zI_eq (by omega)]; exact hv
    obtain ⟨q, hm, hq, hq2⟩ := moN hR hv
    simp only [flaw_44, fL_mounted, fX9_mounted, cMoY hR hv, fX10_mounted, e60, if_neg e3, e01, true_or, or_true, Option.bind_some, Option.map_some, fX10_thrown, hd0, hd1, hd2, e10, e20, eq_self, ↓reduceIte, lgu, Option.isSome_some]
theorem fk_66 (hc : ClS Z (md, mch, fra, fwe, fof, fsi, csh, cde, csp, rd, rw, rp, rco, rmo, apa, awo, ash, aja, abu, ltol, lchi, ljam)) (hR : Rg Z) (hx : MoS Z 0 xs) : (flaw_66 csh csp rw rmo ou xs).isSome = true := by
  obtain ⟨hmd, hrd, hrw, hrp, rfl, rfl, rfl, rfl, rfl, rfl, rfl, rfl, rfl, rfl, rfl, rfl, rfl, rfl, rfl, rfl, rfl, rfl⟩ := hc
  have e60 : xs (60 : Int32).toNatClampNeg = zI (Z 60) := by rw [zL60]; exact hx.g 60 (by omega) (by omega)
  have h1 := hR.mo
  have h2 := hR.co
  by_cases hv : Z 60 = -1
  · have e3 : zI (Z 60) = -1 := by rw [hv]; rfl
    simp only [flaw_66, fL_passesUntilBlunt, fX9_passesUntilBlunt, cMoN hv, fX10_passesUntilBlunt, e60, if_pos e3, e01, true_or, or_true, Option.bind_some, Option.map_some, fX10_thrown, hd0, hd1, hd2, e10, e20, eq_self, ↓reduceIte, lgu, Option.isSome_some]
  · have e3 : ¬ zI (Z 60) = -1 := by rw [zLm, zI_eq (by omega)]; exact hv
    obtain ⟨q, hm, hq, hq2⟩ := moN hR hv
    have e1 : fX4_blunting (zI (Z 55)) rw (zI (Z 60)) = some (zI (blZ Z q)) := by rw [hm]; exact zcX4_blunting hrw hR hq
    have e4 : fX9_dividedUp (zI (Z 53)) (zI (blZ Z q)) = some (zI (dvZ (Z 53) (blZ Z q))) := by have := hR.sh; have := blZ_b hR (q := q); exact zcX9_dividedUp (by omega)
    have e2 : fX10_toBlunt xs = some (zI (dvZ (Z 53) (blZ Z q))) := mX10_toBlunt hx hR hq hm
    simp only [flaw_66, fL_passesUntilBlunt, fX9_passesUntilBlunt, cMoY hR hv, e1, e4, fX10_passesUntilBlunt, e60, if_neg e3, e2, e01, true_or, or_true, Option.bind_some, Option.map_some, fX10_thrown, hd0, hd1, hd2, e10, e20, eq_self, ↓reduceIte, lgu, Option.isSome_some]
theorem fk_62 (hc : ClS Z (md, mch, fra, fwe, fof, fsi, csh, cde, csp, rd, rw, rp, rco, rmo, apa, awo, ash, aja, abu, ltol, lchi, ljam)) (hR : Rg Z) (hx : MoS Z 0 xs) : (flaw_62 md mch fra fwe fof rd rmo ou xs).isSome = true := by
  obtain ⟨hmd, hrd, hrw, hrp, rfl, rfl, rfl, rfl, rfl, rfl, rfl, rfl, rfl, rfl, rfl, rfl, rfl, rfl, rfl, rfl, rfl, rfl⟩ := hc
  have e60 : xs (60 : Int32).toNatClampNeg = zI (Z 60) := by rw [zL60]; exact hx.g 60 (by omega) (by omega)
  have h1 := hR.mo
  have h2 := hR.co
  by_cases hv : Z 60 = -1
  · have e3 : zI (Z 60) = -1 := by rw [hv]; rfl
    simp only [flaw_62, fL_isFinished, fX9_isFinished, cMoN hv, fX10_isFinished, e60, if_pos e3, e01, true_or, or_true, Option.bind_some, Option.map_some, fX10_thrown, hd0, hd1, hd2, e10, e20, eq_self, ↓reduceIte, lgu, Option.isSome_some]
  · have e3 : ¬ zI (Z 60) = -1 := by rw [zLm, zI_eq (by omega)]; exact hv
    obtain ⟨q, hm, hq, hq2⟩ := moN hR hv
    have e1 : fX4_mostAbove md (zI (Z 48)) (zI (Z 49)) (zI (Z 50)) (zI (Z 52)) rd (zI (Z 60)) = some (zI (moZ Z q)) := by rw [hm]; exact zcX4_mostAbove hmd hrd hR hq
    have e2 : fX10_mostAbove xs 0 (zI (Z 60)) = some (zI (moZ Z q)) := by rw [hm]; rw [zL0]; exact mX10_mostAbove hx hR hq
    by_cases h0 : zI (moZ Z q) = 0
    · simp only [flaw_62, fL_isFinished, fX9_isFinished, cMoY hR hv, e1, fX10_isFinished, e60, if_neg e3, e2, if_pos h0, e01, true_or, or_true, Option.bind_some, Option.map_some, fX10_thrown, hd0, hd1, hd2, e10, e20, eq_self, ↓reduceIte, lgu, Option.isSome_some]
    · simp only [flaw_62, fL_isFinished, fX9_isFinished, cMoY hR hv, e1, fX10_isFinished, e60, if_neg e3, e2, if_neg h0, e01, true_or, or_true, Option.bind_some, Option.map_some, fX10_thrown, hd0, hd1, hd2, e10, e20, eq_self, ↓reduceIte, lgu, Option.isSome_some]
theorem fk_59 (hc : ClS Z (md, mch, fra, fwe, fof, fsi, csh, cde, csp, rd, rw, rp, rco, rmo, apa, awo, ash, aja, abu, ltol, lchi, ljam)) (hR : Rg Z) (hx : MoS Z 0 xs) (s1 : Int32) : (flaw_59 md mch rd rco ltol ou xs s1).isSome = true := by
  obtain ⟨hmd, hrd, hrw, hrp, rfl, rfl, rfl, rfl, rfl, rfl, rfl, rfl, rfl, rfl, rfl, rfl, rfl, rfl, rfl, rfl, rfl, rfl⟩ := hc
  obtain ⟨a, hb, rfl⟩ := zI_surj s1
  by_cases hv : 0 ≤ a ∧ a < Z 59
  · obtain ⟨q, rfl⟩ : ∃ q : Nat, a = q := ⟨a.toNat, by omega⟩
    have hq : q < 5 := by have := hR.co; omega
    have e1 : fX4_faults md (zI (Z 48)) rd (zI (Z 56)) (zI q) = some (zI (faZ Z q)) := zcX4_faults hmd hrd hR hq
    have e2 : fX10_faults xs (zI q) = some (zI (faZ Z q)) := mX10_faults hx hR hq
    by_cases h0 : zI (faZ Z q) = 0
    · simp only [flaw_59, fL_isGood, fX9_isGood, cPiY hR hb hv, e1, fX10_isGood, mPiY hx hR hb hv, e2, if_pos h0, e01, true_or, or_true, Option.bind_some, Option.map_some, fX10_thrown, hd0, hd1, hd2, e10, e20, eq_self, ↓reduceIte, lgu, Option.isSome_some]
    · simp only [flaw_59, fL_isGood, fX9_isGood, cPiY hR hb hv, e1, fX10_isGood, mPiY hx hR hb hv, e2, if_neg h0, e01, true_or, or_true, Option.bind_some, Option.map_some, fX10_thrown, hd0, hd1, hd2, e10, e20, eq_self, ↓reduceIte, lgu, Option.isSome_some]
  · simp only [flaw_59, fL_isGood, fX9_isGood, cPiN hR hb hv, fX10_isGood, mPiN hx hR hb hv, e01, true_or, or_true, Option.bind_some, Option.map_some, fX10_thrown, hd0, hd1, hd2, e10, e20, eq_self, ↓reduceIte, lgu, Option.isSome_some]
theorem fk_61 (hc : ClS Z (md, mch, fra, fwe, fof, fsi, csh, cde, csp, rd, rw, rp, rco, rmo, apa, awo, ash, aja, abu, ltol, lchi, ljam)) (hR : Rg Z) (hx : MoS Z 0 xs) : (flaw_61 md mch rd rco ltol ou xs).isSome = true := by
  obtain ⟨hmd, hrd, hrw, hrp, rfl, rfl, rfl, rfl, rfl, rfl, rfl, rfl, rfl, rfl, rfl, rfl, rfl, rfl, rfl, rfl, rfl, rfl⟩ := hc
  have e59 : xs (59 : Int32).toNatClampNeg = zI (Z 59) := by rw [zL59]; exact hx.g 59 (by omega) (by omega)
  have h2 := hR.co
  by_cases hv : Z 59 = 0
  · have e3 : zI (Z 59) ≤ 0 := by rw [hv]; decide
    have e4 : fX9_checkState 0 = some (.inl 2) := rfl
    simp only [flaw_61, fL_bestCopy, fX9_bestCopy, e4, fX10_bestCopy, e59, if_pos e3, e01, true_or, or_true, Option.bind_some, Option.map_some, fX10_thrown, hd0, hd1, hd2, e10, e20, eq_self, ↓reduceIte, lgu, Option.isSome_some]
  · have e3 : ¬ zI (Z 59) ≤ 0 := by rw [zL0, zI_le (by omega)]; omega
    have e4 : fX9_checkState 1 = some (.inr ()) := rfl
    obtain ⟨N, hN⟩ : ∃ N : Nat, Z 59 = N := ⟨(Z 59).toNat, by omega⟩
    have e1 := zcX9_best hmd hrd hR hN (by omega)
    have e2 := mX10_best hx hR hN (by omega)
    simp only [flaw_61, fL_bestCopy, fX9_bestCopy, e4, e1, fX10_bestCopy, e59, if_neg e3, e2, e01, true_or, or_true, Option.bind_some, Option.map_some, fX10_thrown, hd0, hd1, hd2, e10, e20, eq_self, ↓reduceIte, lgu, Option.isSome_some]
theorem fk_65 (hc : ClS Z (md, mch, fra, fwe, fof, fsi, csh, cde, csp, rd, rw, rp, rco, rmo, apa, awo, ash, aja, abu, ltol, lchi, ljam)) (hR : Rg Z) (hx : MoS Z 0 xs) : (flaw_65 md mch fra fwe fof csh cde rd rmo ou xs).isSome = true := by
  obtain ⟨hmd, hrd, hrw, hrp, rfl, rfl, rfl, rfl, rfl, rfl, rfl, rfl, rfl, rfl, rfl, rfl, rfl, rfl, rfl, rfl, rfl, rfl⟩ := hc
  by_cases hv : Z 60 ≠ -1 ∧ Z 53 ≠ 0
  · obtain ⟨q, hm, hq, hq2⟩ := moN hR hv.1
    have hs : 0 < Z 53 := by have := hR.sh; omega
    have e0 : fX1_isSharp (zI (Z 53)) = some 1 := by rw [zcX1_isSharp hR, if_neg hv.2]
    have e9 : fX9_checkState 1 = some (.inr ()) := rfl
    have e1 : fX4_mostAbove md (zI (Z 48)) (zI (Z 49)) (zI (Z 50)) (zI (Z 52)) rd (zI (Z 60)) = some (zI (moZ Z q)) := by rw [hm]; exact zcX4_mostAbove hmd hrd hR hq
    have e3 : fX1_reach (zI (Z 53)) (zI (Z 54)) = some (zI (cuZ Z)) := zcX1_reach hR
    have e4 : fX9_dividedUp (zI (moZ Z q)) (zI (cuZ Z)) = some (zI (dvZ (moZ Z q) (cuZ Z))) := by
      have := moZ_b hR hq
      have := cuZ_b hR
      exact zcX9_dividedUp (by omega)
    have e2 : fX10_toFinish xs = some (zI (dvZ (moZ Z q) (cuZ Z))) := mX10_toFinish hx hR hq hm hs
    simp only [flaw_65, fL_passesByDivision, fX9_passesByDivision, cMoY hR hv.1, e0, e9, e1, e3, e4, fX10_passesByDivision, mFinY hx hR hv, e2, e01, true_or, or_true, Option.bind_some, Option.map_some, fX10_thrown, hd0, hd1, hd2, e10, e20, eq_self, ↓reduceIte, lgu, Option.isSome_some]
  · by_cases h1 : Z 60 = -1
    · simp only [flaw_65, fL_passesByDivision, fX9_passesByDivision, cMoN h1, fX10_passesByDivision, mFinN hx hR hv, e01, true_or, or_true, Option.bind_some, Option.map_some, fX10_thrown, hd0, hd1, hd2, e10, e20, eq_self, ↓reduceIte, lgu, Option.isSome_some]
    · have e0 : fX1_isSharp (zI (Z 53)) = some 0 := by rw [zcX1_isSharp hR, if_pos (by omega)]
      have e9 : fX9_checkState 0 = some (.inl 2) := rfl
      simp only [flaw_65, fL_passesByDivision, fX9_passesByDivision, cMoY hR h1, e0, e9, fX10_passesByDivision, mFinN hx hR hv, e01, true_or, or_true, Option.bind_some, Option.map_some, fX10_thrown, hd0, hd1, hd2, e10, e20, eq_self, ↓reduceIte, lgu, Option.isSome_some]
end RDS
