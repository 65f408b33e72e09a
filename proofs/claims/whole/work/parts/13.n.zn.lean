section MUP
variable {md : Nat → Int32} {mch : Int32} {fra : Int32} {fwe : Int32} {fof : Int32} {fsi : Int32} {csh : Int32} {cde : Int32} {csp : Int32} {rd : Nat → Int32} {rw : Nat → Int32} {rp : Nat → Int32} {rco : Int32} {rmo : Int32} {apa : Int32} {awo : Int32} {ash : Int32} {aja : Int32} {abu : Int32} {ltol : Int32} {lchi : Int32} {ljam : Int32} {ho : Int32} {hcn : Int32} {hsv : Nat → Option LTH} {hsl : Nat → Option LTH} {cav : Nat → Nat → Nat} {cal : Nat → Nat → Nat} {ou : Nat → Int64} {od : Nat → UInt64} {xs : Nat → Int32} {xsv : Int32} {xth : Int32} {xk0 : Int32} {xk1 : Int32} {xtx : Nat → Int32} {xle : Int32} {xat : Int32} {xdi : Int32} {xma : Int32} {xto : Int32} {xha : Int64} {wa : Nat → Int32} {le : Nat → Int32} {tc : Nat → Int32} {tt : Nat → Int32} {tle : Int32} {tpl : Int32} {tdi : Int32} {tti : Int32} {tst : Int32} {Z : Nat → Int}
/-! a pass -/
def wtP (Z : Nat → Int) : Prop := zI (Z 51 + 1) - zI (Z 51 + 1) / 4 * 4 = 0
def pasZ (Z : Nat → Int) (q : Nat) : Nat → Int := fun i =>
  if i = 53 then max 0 (Z 53 - blZ Z q) else if i = 51 then Z 51 + 1 else if i = 50 then (if zI (Z 51 + 1) - zI (Z 51 + 1) / 4 * 4 = 0 then min 30 (Z 50 + 1) else Z 50) else if i = 61 then Z 61 + 1 else if i = 67 + 18 * q then Z (67 + 18 * q) + 1 else if i = 62 then Z 62 + (cutZ Z q).1 else (cutZ Z q).2 i
theorem pasZ_o {Z : Nat → Int} {q i : Nat} (h : i ≠ 53 ∧ i ≠ 51 ∧ i ≠ 50 ∧ i ≠ 61 ∧ i ≠ 67 + 18 * q ∧ i ≠ 62) : pasZ Z q i = (cutZ Z q).2 i := by
  unfold pasZ
  rw [if_neg (by omega), if_neg (by omega), if_neg (by omega), if_neg (by omega), if_neg (by omega), if_neg (by omega)]
theorem pasZ_53 {Z : Nat → Int} {q : Nat} : pasZ Z q 53 = max 0 (Z 53 - blZ Z q) := by unfold pasZ; rw [if_pos rfl]
theorem pasZ_51 {Z : Nat → Int} {q : Nat} : pasZ Z q 51 = Z 51 + 1 := by unfold pasZ; rw [if_neg (by omega), if_pos rfl]
theorem pasZ_50 {Z : Nat → Int} {q : Nat} : pasZ Z q 50 = (if zI (Z 51 + 1) - zI (Z 51 + 1) / 4 * 4 = 0 then min 30 (Z 50 + 1) else Z 50) := by unfold pasZ; rw [if_neg (by omega), if_neg (by omega), if_pos rfl]
theorem pasZ_61 {Z : Nat → Int} {q : Nat} : pasZ Z q 61 = Z 61 + 1 := by unfold pasZ; rw [if_neg (by omega), if_neg (by omega), if_neg (by omega), if_pos rfl]
theorem pasZ_67 {Z : Nat → Int} {q : Nat} : pasZ Z q (67 + 18 * q) = Z (67 + 18 * q) + 1 := by unfold pasZ; rw [if_neg (by omega), if_neg (by omega), if_neg (by omega), if_neg (by omega), if_pos rfl]
theorem pasZ_62 {Z : Nat → Int} {q : Nat} : pasZ Z q 62 = Z 62 + (cutZ Z q).1 := by unfold pasZ; rw [if_neg (by omega), if_neg (by omega), if_neg (by omega), if_neg (by omega), if_neg (by omega), if_pos rfl]
theorem cutZ_f {Z : Nat → Int} (hR : Rg Z) {q : Nat} (hq : q < 5) {j : Nat} (h : j ≠ 57 ∧ j ≠ 58 ∧ j ≠ 64 ∧ (j < 68 + 18 * q ∨ 84 + 18 * q ≤ j)) : (cutZ Z q).2 j = Z j := (cutZ_P hR hq).2.2 j h
theorem cutZ_b {Z : Nat → Int} (hR : Rg Z) {q : Nat} (hq : q < 5) : 0 ≤ (cutZ Z q).1 ∧ (cutZ Z q).1 ≤ 2000 := by have := (cutZ_P hR hq).2.1; omega
theorem pasZ_R {Z : Nat → Int} (hR : Rg Z) {q : Nat} (hq : q < 5) : Rg (pasZ Z q) := by
  have hY := (cutZ_P hR hq).1
  have h59 : (cutZ Z q).2 59 = Z 59 := cutZ_f hR hq (by omega)
  refine ⟨fun i hi => by rw [pasZ_o (by omega)]; exact hY.md hi, ?_, ?_, ?_, ?_, ?_, ?_, ?_, ?_, ?_, ?_, ?_, ?_, fun q2 hq2 => ?_, fun q2 k hq2 hk => ?_⟩
  · rw [pasZ_o (by omega)]; exact hY.ch
  · rw [pasZ_o (by omega)]; exact hY.ra
  · rw [pasZ_50]; have := hR.we; split <;> omega
  · rw [pasZ_o (by omega)]; exact hY.of
  · rw [pasZ_53]; have := hR.sh; have := blZ_b hR (q := q); omega
  · rw [pasZ_o (by omega)]; exact hY.de
  · rw [pasZ_o (by omega)]; exact hY.sp
  · rw [pasZ_o (by omega)]; exact hY.to
  · rw [pasZ_o (by omega)]; exact hY.chi
  · rw [pasZ_o (by omega)]; exact hY.ja
  · rw [pasZ_o (by omega)]; exact hY.co
  · rw [pasZ_o (by omega), pasZ_o (by omega)]; exact hY.mo
  · rw [pasZ_o (by omega)]; exact hY.wo hq2
  · rw [pasZ_o (by omega), pasZ_o (by omega)]; exact hY.di hq2 hk
theorem zcX4_runPass {md rd rw rp : Nat → Int32} {Z : Nat → Int} (hmd : ∀ j : Nat, j < 48 → md j = zI (Z j)) (hrd : rdO Z rd) (hrw : rwO Z rw) (hrp : rpO Z rp) (hR : Rg Z) {q : Nat} (hq : q < 5) :
    ∃ rd2 rp2 : Nat → Int32, fX4_runPass md (zI (Z 48)) (zI (Z 49)) (zI (Z 50)) (zI (Z 52)) (zI (Z 51)) (zI (Z 53)) (zI (Z 54)) (zI (Z 55)) rd rw rp (zI q) (zI (Z 61)) (zI (Z 62)) (zI (Z 64)) (zI (Z 57)) (zI (Z 58)) = some (zI (cutZ Z q).1, zI (pasZ Z q 50), zI (pasZ Z q 51), zI (pasZ Z q 53), rd2, rp2, zI (pasZ Z q 61), zI (pasZ Z q 62), zI (pasZ Z q 64), zI (pasZ Z q 57), zI (pasZ Z q 58)) ∧ rdO (pasZ Z q) rd2 ∧ rpO (pasZ Z q) rp2 := by
  obtain ⟨rd2, e1, h1⟩ := zcX4_cutSteps hmd hrd hR hq
  have hb := blZ_b hR (q := q)
  have hs := hR.sh
  have hw := hR.we
  refine ⟨rd2, upd rp q (rp q + 1), ?_, ?_, ?_⟩
  · unfold fX4_runPass
    rw [e1, Option.bind_some]
    try dsimp only
    rw [zcX8_add (by omega) hq, Option.bind_some, zcX4_blunting hrw hR hq, Option.bind_some]
    unfold fX1_becomeBlunter
    rw [Option.bind_some, zL0, zI_sub, zI_mx (by omega)]
    unfold fX2_wearByPass
    rw [show zI (Z 51) + 1 = zI (Z 51 + 1) by rw [zL1, zI_add], pasZ_50, pasZ_51, pasZ_53, pasZ_61, pasZ_62, pasZ_o (by omega), pasZ_o (by omega), pasZ_o (by omega), show zI (Z 50) + 1 = zI (Z 50 + 1) by rw [zL1, zI_add], show zI (Z 61) + 1 = zI (Z 61 + 1) by rw [zL1, zI_add], zI_add, zL30, zI_mn (by omega), zL0]
    by_cases h : zI (Z 51 + 1) - zI (Z 51 + 1) / 4 * 4 = zI 0
    · rw [if_pos h, if_pos h]; rfl
    · rw [if_neg h, if_neg h]; rfl
  · intro q2 k hq2 hk
    have := h1 q2 k hq2 hk
    unfold dZ at *
    rw [pasZ_o (by omega)]
    exact this
  · intro q2 hq2
    by_cases h : q2 = q
    · subst h
      rw [pk_us, pasZ_67, hrp q2 hq2, zL1, zI_add]
    · rw [pk_un h, pasZ_o (by omega), cutZ_f hR hq (by omega)]
      exact hrp q2 hq2
set_option maxRecDepth 200000 in
theorem mX10_passesIn {xs : Nat → Int32} {Z : Nat → Int} (hx : MoS Z 0 xs) (hR : Rg Z) {q : Nat} (hq : q < 5) (hm : Z 60 = q) :
    ∃ ys : Nat → Int32, fX10_passesIn xs 0 = some (zI (cutZ Z q).1, ys) ∧ MoS (pasZ Z q) 0 ys ∧ (∀ i, 156 ≤ i → ys i = xs i) := by
  obtain ⟨x2, e1, e2, e3⟩ := mX10_along hx hR hq hm
  have hb := blZ_b hR (q := q)
  have hs := hR.sh
  have hw := hR.we
  have v50 : x2 50 = zI (Z 50) := by rw [e2.z (by omega), cutZ_f hR hq (by omega)]
  have v51 : x2 51 = zI (Z 51) := by rw [e2.z (by omega), cutZ_f hR hq (by omega)]
  have v53 : x2 53 = zI (Z 53) := by rw [e2.z (by omega), cutZ_f hR hq (by omega)]
  have v55 : x2 55 = zI (Z 55) := by rw [e2.z (by omega), cutZ_f hR hq (by omega)]
  have v60 : x2 60 = zI (q : Int) := by rw [e2.z (by omega), cutZ_f hR hq (by omega), hm]
  have v61 : x2 61 = zI (Z 61) := by rw [e2.z (by omega), cutZ_f hR hq (by omega)]
  have v62 : x2 62 = zI (Z 62) := by rw [e2.z (by omega), cutZ_f hR hq (by omega)]
  have v66 : x2 (66 + 18 * q) = zI (Z (66 + 18 * q)) := by rw [e2.z (by omega), cutZ_f hR hq (by omega)]
  have v67 : x2 (67 + 18 * q) = zI (Z (67 + 18 * q)) := by rw [e2.z (by omega), cutZ_f hR hq (by omega)]
  have i50 : ((0 : Int32) + 50).toNatClampNeg = 50 := by decide
  have i51 : ((0 : Int32) + 51).toNatClampNeg = 51 := by decide
  have i53 : ((0 : Int32) + 53).toNatClampNeg = 53 := by decide
  have i55 : ((0 : Int32) + 55).toNatClampNeg = 55 := by decide
  have i60 : ((0 : Int32) + 60).toNatClampNeg = 60 := by decide
  have i61 : ((0 : Int32) + 61).toNatClampNeg = 61 := by decide
  have i62 : ((0 : Int32) + 62).toNatClampNeg = 62 := by decide
  have of0 : ∀ ys : Nat → Int32, fX10_of ys 0 (zI (q : Int)) 0 = some (ys (66 + 18 * q)) := fun ys => by
    unfold fX10_of
    simp only [zL0, zL1, zL2, zL3, zL5, zL6, zL7, zL8, zL9, zL10, zL15, zL16, zL18, zL20, zL30, zL31, zL33, zL48, zL49, zL50, zL51, zL52, zL53, zL54, zL55, zL56, zL57, zL58, zL59, zL60, zL61, zL62, zL63, zL64, zL65, zL66, zL80, zL99, zL100, zL120, zL126, zL156, zL200, zL1000, zL1404, zL1560, zLm, zI_neg, zI_add, zI_sub, zI_mul]
    rw [ite_t (ixB (by omega)), zI_cl (by omega), show (0 + 66 + 18 * (q : Int) + 0).toNat = 66 + 18 * q by omega]
  have of1 : ∀ ys : Nat → Int32, fX10_of ys 0 (zI (q : Int)) 1 = some (ys (67 + 18 * q)) := fun ys => by
    unfold fX10_of
    simp only [zL0, zL1, zL2, zL3, zL5, zL6, zL7, zL8, zL9, zL10, zL15, zL16, zL18, zL20, zL30, zL31, zL33, zL48, zL49, zL50, zL51, zL52, zL53, zL54, zL55, zL56, zL57, zL58, zL59, zL60, zL61, zL62, zL63, zL64, zL65, zL66, zL80, zL99, zL100, zL120, zL126, zL156, zL200, zL1000, zL1404, zL1560, zLm, zI_neg, zI_add, zI_sub, zI_mul]
    rw [ite_t (ixB (by omega)), zI_cl (by omega), show (0 + 66 + 18 * (q : Int) + 1).toNat = 67 + 18 * q by omega]
  have ly1 : ∀ (ys : Nat → Int32) (v : Int32), fX10_lay ys 0 (zI (q : Int)) 1 v = some (upd ys (67 + 18 * q) v) := fun ys v => by
    have h9 := mX10_lay0 (xs := ys) (w := 1) hq (by omega) (W := 1) rfl v
    rw [zL0, zL1, h9, show 66 + 18 * q + 1 = 67 + 18 * q by omega]
  have hd := mX10_hardness hR hq
  have al : fX10_along xs 0 = some (zI (cutZ Z q).1, x2) := by rw [zL0]; exact e1
  have a1 : ∀ a : Int, zI a + 1 = zI (a + 1) := fun a => by rw [zL1, zI_add]
  have a0 : ∀ a : Int, zI a + 0 = zI a := fun a => by rw [zL0, zI_add, Int.add_zero]
  have bl : zI (Z 53) - zI (hdZ Z q) * zI (Z 55) = zI (Z 53 - blZ Z q) := by rw [zI_mul, zI_sub]; rfl
  have main : fX10_passesIn xs 0 = some (zI (cutZ Z q).1, upd (upd (upd (upd (upd (upd x2 53 (zI (pasZ Z q 53))) 51 (zI (Z 51 + 1))) 50 (zI (pasZ Z q 50))) 61 (zI (Z 61 + 1))) (67 + 18 * q) (zI (Z (67 + 18 * q) + 1))) 62 (zI (Z 62 + (cutZ Z q).1))) := by
    unfold fX10_passesIn
    rw [al, Option.bind_some]
    try dsimp only
    rw [if_pos (by decide), if_pos (by decide), i60, v60, of0, Option.bind_some, v66, hd, Option.bind_some, if_pos (by decide), i53, v53, i55, v55, bl, i51, i50, i61, i62]
    by_cases h1 : 0 ≤ Z 53 - blZ Z q
    · have g1 : (0 : Int32) ≤ zI (Z 53 - blZ Z q) := by rw [zL0, zI_le (by omega)]; exact h1
      rw [if_pos g1]
      have hb9 : pasZ Z q 53 = Z 53 - blZ Z q := by rw [pasZ_53]; omega
      repeat rw [if_pos (by decide)]
      generalize e1 : upd x2 53 (zI (Z 53 - blZ Z q)) = y1
      have y50 : y1 50 = zI (Z 50) := by rw [← e1, pk_un (by omega)]; exact v50
      have y51 : y1 51 = zI (Z 51) := by rw [← e1, pk_un (by omega)]; exact v51
      have y61 : y1 61 = zI (Z 61) := by rw [← e1, pk_un (by omega)]; exact v61
      have y62 : y1 62 = zI (Z 62) := by rw [← e1, pk_un (by omega)]; exact v62
      have y67 : y1 (67 + 18 * q) = zI (Z (67 + 18 * q)) := by rw [← e1, pk_un (by omega)]; exact v67
      rw [y51, a1]
      generalize e2 : upd y1 51 (zI (Z 51 + 1)) = y2
      have z51 : y2 51 = zI (Z 51 + 1) := by rw [← e2, pk_us]
      have z50 : y2 50 = zI (Z 50) := by rw [← e2, pk_un (by omega)]; exact y50
      have z61 : y2 61 = zI (Z 61) := by rw [← e2, pk_un (by omega)]; exact y61
      have z62 : y2 62 = zI (Z 62) := by rw [← e2, pk_un (by omega)]; exact y62
      have z67 : y2 (67 + 18 * q) = zI (Z (67 + 18 * q)) := by rw [← e2, pk_un (by omega)]; exact y67
      rw [z51, z50]
      by_cases h2 : zI (Z 51 + 1) - zI (Z 51 + 1) / 4 * 4 = 0
      · rw [if_pos h2]
        repeat rw [if_pos (by decide)]
        by_cases h3 : 30 ≤ Z 50
        · have g3 : (30 : Int32) ≤ zI (Z 50) := by rw [zL30, zI_le (by omega)]; exact h3
          have hc9 : pasZ Z q 50 = Z 50 := by rw [pasZ_50, if_pos h2]; omega
          rw [if_pos g3]
          repeat rw [if_pos (by decide)]
          rw [a0]
          generalize e3 : upd y2 50 (zI (Z 50)) = y3
          have w61 : y3 61 = zI (Z 61) := by rw [← e3, pk_un (by omega)]; exact z61
          have w62 : y3 62 = zI (Z 62) := by rw [← e3, pk_un (by omega)]; exact z62
          have w67 : y3 (67 + 18 * q) = zI (Z (67 + 18 * q)) := by rw [← e3, pk_un (by omega)]; exact z67
          rw [w61, a1]
          generalize e4 : upd y3 61 (zI (Z 61 + 1)) = y4
          have u62 : y4 62 = zI (Z 62) := by rw [← e4, pk_un (by omega)]; exact w62
          have u67 : y4 (67 + 18 * q) = zI (Z (67 + 18 * q)) := by rw [← e4, pk_un (by omega)]; exact w67
          rw [of1, Option.bind_some, u67, a1, ly1, Option.bind_some]
          generalize e5 : upd y4 (67 + 18 * q) (zI (Z (67 + 18 * q) + 1)) = y5
          have t62 : y5 62 = zI (Z 62) := by rw [← e5, pk_un (by omega)]; exact u62
          repeat rw [if_pos (by decide)]
          rw [t62, zI_add, hc9, hb9, ← e5, ← e4, ← e3, ← e2, ← e1]
          first | done | rfl
        · have g3 : ¬ (30 : Int32) ≤ zI (Z 50) := by rw [zL30, zI_le (by omega)]; exact h3
          have hc9 : pasZ Z q 50 = Z 50 + 1 := by rw [pasZ_50, if_pos h2]; omega
          rw [if_neg g3]
          repeat rw [if_pos (by decide)]
          rw [a1]
          generalize e3 : upd y2 50 (zI (Z 50 + 1)) = y3
          have w61 : y3 61 = zI (Z 61) := by rw [← e3, pk_un (by omega)]; exact z61
          have w62 : y3 62 = zI (Z 62) := by rw [← e3, pk_un (by omega)]; exact z62
          have w67 : y3 (67 + 18 * q) = zI (Z (67 + 18 * q)) := by rw [← e3, pk_un (by omega)]; exact z67
          rw [w61, a1]
          generalize e4 : upd y3 61 (zI (Z 61 + 1)) = y4
          have u62 : y4 62 = zI (Z 62) := by rw [← e4, pk_un (by omega)]; exact w62
          have u67 : y4 (67 + 18 * q) = zI (Z (67 + 18 * q)) := by rw [← e4, pk_un (by omega)]; exact w67
          rw [of1, Option.bind_some, u67, a1, ly1, Option.bind_some]
          generalize e5 : upd y4 (67 + 18 * q) (zI (Z (67 + 18 * q) + 1)) = y5
          have t62 : y5 62 = zI (Z 62) := by rw [← e5, pk_un (by omega)]; exact u62
          repeat rw [if_pos (by decide)]
          rw [t62, zI_add, hc9, hb9, ← e5, ← e4, ← e3, ← e2, ← e1]
          first | done | rfl
      · have hc9 : pasZ Z q 50 = Z 50 := by rw [pasZ_50, if_neg h2]
        rw [if_neg h2]
        repeat rw [if_pos (by decide)]
        rw [a0]
        generalize e3 : upd y2 50 (zI (Z 50)) = y3
        have w61 : y3 61 = zI (Z 61) := by rw [← e3, pk_un (by omega)]; exact z61
        have w62 : y3 62 = zI (Z 62) := by rw [← e3, pk_un (by omega)]; exact z62
        have w67 : y3 (67 + 18 * q) = zI (Z (67 + 18 * q)) := by rw [← e3, pk_un (by omega)]; exact z67
        rw [w61, a1]
        generalize e4 : upd y3 61 (zI (Z 61 + 1)) = y4
        have u62 : y4 62 = zI (Z 62) := by rw [← e4, pk_un (by omega)]; exact w62
        have u67 : y4 (67 + 18 * q) = zI (Z (67 + 18 * q)) := by rw [← e4, pk_un (by omega)]; exact w67
        rw [of1, Option.bind_some, u67, a1, ly1, Option.bind_some]
        generalize e5 : upd y4 (67 + 18 * q) (zI (Z (67 + 18 * q) + 1)) = y5
        have t62 : y5 62 = zI (Z 62) := by rw [← e5, pk_un (by omega)]; exact u62
        repeat rw [if_pos (by decide)]
        rw [t62, zI_add, hc9, hb9, ← e5, ← e4, ← e3, ← e2, ← e1]
        first | done | rfl
    · have g1 : ¬ (0 : Int32) ≤ zI (Z 53 - blZ Z q) := by rw [zL0, zI_le (by omega)]; exact h1
      rw [if_neg g1]
      have hb9 : pasZ Z q 53 = 0 := by rw [pasZ_53]; omega
      repeat rw [if_pos (by decide)]
      generalize e1 : upd x2 53 0 = y1
      have y50 : y1 50 = zI (Z 50) := by rw [← e1, pk_un (by omega)]; exact v50
      have y51 : y1 51 = zI (Z 51) := by rw [← e1, pk_un (by omega)]; exact v51
      have y61 : y1 61 = zI (Z 61) := by rw [← e1, pk_un (by omega)]; exact v61
      have y62 : y1 62 = zI (Z 62) := by rw [← e1, pk_un (by omega)]; exact v62
      have y67 : y1 (67 + 18 * q) = zI (Z (67 + 18 * q)) := by rw [← e1, pk_un (by omega)]; exact v67
      rw [y51, a1]
      generalize e2 : upd y1 51 (zI (Z 51 + 1)) = y2
      have z51 : y2 51 = zI (Z 51 + 1) := by rw [← e2, pk_us]
      have z50 : y2 50 = zI (Z 50) := by rw [← e2, pk_un (by omega)]; exact y50
      have z61 : y2 61 = zI (Z 61) := by rw [← e2, pk_un (by omega)]; exact y61
      have z62 : y2 62 = zI (Z 62) := by rw [← e2, pk_un (by omega)]; exact y62
      have z67 : y2 (67 + 18 * q) = zI (Z (67 + 18 * q)) := by rw [← e2, pk_un (by omega)]; exact y67
      rw [z51, z50]
      by_cases h2 : zI (Z 51 + 1) - zI (Z 51 + 1) / 4 * 4 = 0
      · rw [if_pos h2]
        repeat rw [if_pos (by decide)]
        by_cases h3 : 30 ≤ Z 50
        · have g3 : (30 : Int32) ≤ zI (Z 50) := by rw [zL30, zI_le (by omega)]; exact h3
          have hc9 : pasZ Z q 50 = Z 50 := by rw [pasZ_50, if_pos h2]; omega
          rw [if_pos g3]
          repeat rw [if_pos (by decide)]
          rw [a0]
          generalize e3 : upd y2 50 (zI (Z 50)) = y3
          have w61 : y3 61 = zI (Z 61) := by rw [← e3, pk_un (by omega)]; exact z61
          have w62 : y3 62 = zI (Z 62) := by rw [← e3, pk_un (by omega)]; exact z62
          have w67 : y3 (67 + 18 * q) = zI (Z (67 + 18 * q)) := by rw [← e3, pk_un (by omega)]; exact z67
          rw [w61, a1]
          generalize e4 : upd y3 61 (zI (Z 61 + 1)) = y4
          have u62 : y4 62 = zI (Z 62) := by rw [← e4, pk_un (by omega)]; exact w62
          have u67 : y4 (67 + 18 * q) = zI (Z (67 + 18 * q)) := by rw [← e4, pk_un (by omega)]; exact w67
          rw [of1, Option.bind_some, u67, a1, ly1, Option.bind_some]
          generalize e5 : upd y4 (67 + 18 * q) (zI (Z (67 + 18 * q) + 1)) = y5
          have t62 : y5 62 = zI (Z 62) := by rw [← e5, pk_un (by omega)]; exact u62
          repeat rw [if_pos (by decide)]
          rw [t62, zI_add, hc9, hb9, ← e5, ← e4, ← e3, ← e2, ← e1]
          first | done | rfl
        · have g3 : ¬ (30 : Int32) ≤ zI (Z 50) := by rw [zL30, zI_le (by omega)]; exact h3
          have hc9 : pasZ Z q 50 = Z 50 + 1 := by rw [pasZ_50, if_pos h2]; omega
          rw [if_neg g3]
          repeat rw [if_pos (by decide)]
          rw [a1]
          generalize e3 : upd y2 50 (zI (Z 50 + 1)) = y3
          have w61 : y3 61 = zI (Z 61) := by rw [← e3, pk_un (by omega)]; exact z61
          have w62 : y3 62 = zI (Z 62) := by rw [← e3, pk_un (by omega)]; exact z62
          have w67 : y3 (67 + 18 * q) = zI (Z (67 + 18 * q)) := by rw [← e3, pk_un (by omega)]; exact z67
          rw [w61, a1]
          generalize e4 : upd y3 61 (zI (Z 61 + 1)) = y4
          have u62 : y4 62 = zI (Z 62) := by rw [← e4, pk_un (by omega)]; exact w62
          have u67 : y4 (67 + 18 * q) = zI (Z (67 + 18 * q)) := by rw [← e4, pk_un (by omega)]; exact w67
          rw [of1, Option.bind_some, u67, a1, ly1, Option.bind_some]
          generalize e5 : upd y4 (67 + 18 * q) (zI (Z (67 + 18 * q) + 1)) = y5
          have t62 : y5 62 = zI (Z 62) := by rw [← e5, pk_un (by omega)]; exact u62
          repeat rw [if_pos (by decide)]
          rw [t62, zI_add, hc9, hb9, ← e5, ← e4, ← e3, ← e2, ← e1]
          first | done | rfl
      · have hc9 : pasZ Z q 50 = Z 50 := by rw [pasZ_50, if_neg h2]
        rw [if_neg h2]
        repeat rw [if_pos (by decide)]
        rw [a0]
        generalize e3 : upd y2 50 (zI (Z 50)) = y3
        have w61 : y3 61 = zI (Z 61) := by rw [← e3, pk_un (by omega)]; exact z61
        have w62 : y3 62 = zI (Z 62) := by rw [← e3, pk_un (by omega)]; exact z62
        have w67 : y3 (67 + 18 * q) = zI (Z (67 + 18 * q)) := by rw [← e3, pk_un (by omega)]; exact z67
        rw [w61, a1]
        generalize e4 : upd y3 61 (zI (Z 61 + 1)) = y4
        have u62 : y4 62 = zI (Z 62) := by rw [← e4, pk_un (by omega)]; exact w62
        have u67 : y4 (67 + 18 * q) = zI (Z (67 + 18 * q)) := by rw [← e4, pk_un (by omega)]; exact w67
        rw [of1, Option.bind_some, u67, a1, ly1, Option.bind_some]
        generalize e5 : upd y4 (67 + 18 * q) (zI (Z (67 + 18 * q) + 1)) = y5
        have t62 : y5 62 = zI (Z 62) := by rw [← e5, pk_un (by omega)]; exact u62
        repeat rw [if_pos (by decide)]
        rw [t62, zI_add, hc9, hb9, ← e5, ← e4, ← e3, ← e2, ← e1]
        first | done | rfl
  refine ⟨_, main, ⟨Or.inl rfl, fun i hi => ?_⟩, fun i hi => ?_⟩
  · rw [show (0 : Int).toNat + i = i by omega]
    by_cases h62 : i = 62
    · subst h62; rw [pk_us, pasZ_62]
    · rw [pk_un h62]
      by_cases h67 : i = 67 + 18 * q
      · subst h67; rw [pk_us, pasZ_67]
      · rw [pk_un h67]
        by_cases h61 : i = 61
        · subst h61; rw [pk_us, pasZ_61]
        · rw [pk_un h61]
          by_cases h50 : i = 50
          · subst h50; rw [pk_us]
          · rw [pk_un h50]
            by_cases h51 : i = 51
            · subst h51; rw [pk_us, pasZ_51]
            · rw [pk_un h51]
              by_cases h53 : i = 53
              · subst h53; rw [pk_us]
              · rw [pk_un h53, pasZ_o (by omega)]; exact e2.z hi
  · rw [pk_un (by omega), pk_un (by omega), pk_un (by omega), pk_un (by omega), pk_un (by omega), pk_un (by omega)]
    exact e3 i (by omega)
theorem pasZ_f {Z : Nat → Int} (hR : Rg Z) {q : Nat} (hq : q < 5) {j : Nat} (h : j ≠ 50 ∧ j ≠ 51 ∧ j ≠ 53 ∧ j ≠ 61 ∧ j ≠ 62 ∧ j ≠ 57 ∧ j ≠ 58 ∧ j ≠ 64 ∧ (j < 67 + 18 * q ∨ 84 + 18 * q ≤ j)) : pasZ Z q j = Z j := by
  rw [pasZ_o (by omega)]
  exact cutZ_f hR hq (by omega)
theorem ClS_pas (hc : ClS Z (md, mch, fra, fwe, fof, fsi, csh, cde, csp, rd, rw, rp, rco, rmo, apa, awo, ash, aja, abu, ltol, lchi, ljam)) (hR : Rg Z) {q : Nat} (hq : q < 5) {rd2 rp2 : Nat → Int32} (h1 : rdO (pasZ Z q) rd2) (h2 : rpO (pasZ Z q) rp2) : ClS (pasZ Z q) (md, mch, fra, zI (pasZ Z q 50), fof, zI (pasZ Z q 51), zI (pasZ Z q 53), cde, csp, rd2, rw, rp2, rco, rmo, zI (pasZ Z q 61), zI (pasZ Z q 62), ash, zI (pasZ Z q 64), abu, ltol, zI (pasZ Z q 57), zI (pasZ Z q 58)) := by
  obtain ⟨hmd, hrd, hrw, hrp, rfl, rfl, rfl, rfl, rfl, rfl, rfl, rfl, rfl, rfl, rfl, rfl, rfl, rfl, rfl, rfl, rfl, rfl⟩ := hc
  exact ⟨fun i hi => by rw [pasZ_f hR hq (by omega)]; exact hmd i hi, h1, fun q9 h9 => by rw [pasZ_f hR hq (by omega)]; exact hrw q9 h9, h2, by rw [pasZ_f hR hq (by omega)], by rw [pasZ_f hR hq (by omega)], rfl, by rw [pasZ_f hR hq (by omega)], rfl, rfl, by rw [pasZ_f hR hq (by omega)], by rw [pasZ_f hR hq (by omega)], by rw [pasZ_f hR hq (by omega)], by rw [pasZ_f hR hq (by omega)], rfl, rfl, by rw [pasZ_f hR hq (by omega)], rfl, by rw [pasZ_f hR hq (by omega)], by rw [pasZ_f hR hq (by omega)], rfl, rfl⟩
theorem st_15 (hC : Core (md, mch, fra, fwe, fof, fsi, csh, cde, csp, rd, rw, rp, rco, rmo, apa, awo, ash, aja, abu, ltol, lchi, ljam) ho hcn hsv hsl xs xsv xk0 xk1) : ∃ (fwe_0 : Int32) (fsi_0 : Int32) (csh_0 : Int32) (rd_0 : Nat → Int32) (rp_0 : Nat → Int32) (apa_0 : Int32) (awo_0 : Int32) (aja_0 : Int32) (lchi_0 : Int32) (ljam_0 : Int32) (ho_0 : Int32) (hcn_0 : Int32) (hsv_0 : Nat → Option LTH) (ou_0 : Nat → Int64) (xth_0 : Int32) (xs_0 : Nat → Int32) (xsv_0 : Int32), flaw_15 md mch fra fwe fof fsi csh cde csp rd rw rp rco rmo apa awo ash aja abu ltol lchi ljam ho hcn hsv ou xs xsv = some (fwe_0, fsi_0, csh_0, rd_0, rp_0, apa_0, awo_0, aja_0, lchi_0, ljam_0, ho_0, hcn_0, hsv_0, ou_0, xth_0, xs_0, xsv_0) ∧ Core (md, mch, fra, fwe_0, fof, fsi_0, csh_0, cde, csp, rd_0, rw, rp_0, rco, rmo, apa_0, awo_0, ash, aja_0, abu, ltol, lchi_0, ljam_0) ho_0 hcn_0 hsv_0 hsl xs_0 xsv_0 xk0 xk1 := by
  obtain ⟨⟨Z, hR, hc, hx⟩, hH, hs0, hs1⟩ := hC
  obtain ⟨ho2, hcn2, hsv2, ys, yv, e1, e2, hx2, hH2, hfr⟩ := save_ok hc hR hx hH
  have hc0 := hc
  obtain ⟨hmd, hrd, hrw, hrp, rfl, rfl, rfl, rfl, rfl, rfl, rfl, rfl, rfl, rfl, rfl, rfl, rfl, rfl, rfl, rfl, rfl, rfl⟩ := hc
  by_cases hv : rdy Z
  · obtain ⟨q, hm, hq, hq2⟩ := moN hR hv.1
    obtain ⟨rd2, rp2, e3, h3, h4⟩ := zcX4_runPass hmd hrd hrw hrp hR hq
    obtain ⟨zs, e4, hx3, hz⟩ := mX10_passesIn hx2 hR hq hm
    rw [← hm] at e3
    refine ⟨zI (pasZ Z q 50), zI (pasZ Z q 51), zI (pasZ Z q 53), rd2, rp2, zI (pasZ Z q 61), zI (pasZ Z q 62), zI (pasZ Z q 64), zI (pasZ Z q 57), zI (pasZ Z q 58), ho2, hcn2, hsv2, vp_updL ou (0 : Int32).toNatClampNeg (zI (cutZ Z q).1).toInt64, 0, zs, yv, ?_, core_up (pasZ_R hR hq) (ClS_pas hc0 hR hq h3 h4) hx3 hH2 hfr (fun i i1 _ => hz i i1) hs0 hs1⟩
    simp only [flaw_15, fL_pass, fX9_pass, cReY hR hv, e1, e3, fX10_pass, mCanY hx hR hv, e2, e4, nn10, nn20, nn21, e01, true_or, or_true, Option.bind_some, Option.map_some, fX10_thrown, hd0, hd1, hd2, hd3, e10, e20, e30, eq_self, ↓reduceIte, lgu]
  · refine ⟨_, _, _, _, _, _, _, _, _, _, _, _, _, ou, 1, _, _, ?_, ⟨Z, hR, ⟨hmd, hrd, hrw, hrp, rfl, rfl, rfl, rfl, rfl, rfl, rfl, rfl, rfl, rfl, rfl, rfl, rfl, rfl, rfl, rfl, rfl, rfl⟩, hx⟩, hH, hs0, hs1⟩
    simp only [flaw_15, fL_pass, fX9_pass, cReN hR hv, fX10_pass, mCanN hx hR hv, nn10, nn20, nn21, e01, true_or, or_true, Option.bind_some, Option.map_some, fX10_thrown, hd0, hd1, hd2, hd3, e10, e20, e30, eq_self, ↓reduceIte, lgu]
theorem zcX4_wouldCut {md rd : Nat → Int32} {Z : Nat → Int} (hmd : ∀ j : Nat, j < 48 → md j = zI (Z j)) (hrd : rdO Z rd) (hR : Rg Z) {q : Nat} (hq : q < 5) (hj : Z 58 = 0) : fX4_wouldCut md (zI (Z 48)) (zI (Z 49)) (zI (Z 50)) (zI (Z 52)) (zI (Z 53)) (zI (Z 54)) rd (zI q) (zI (Z 57)) = some (zI (cutZ Z q).1) := by
  have hcu := cuZ_b hR
  have key : ∀ (k i n : Nat) (s : Int) (Y : Nat → Int), i + k = 16 → k < n → cutP Z q i (s, Y) → Y 58 = 0 → Y 57 = Z 57 + s → (∀ k2 : Nat, i ≤ k2 → k2 < 16 → dZ Y q k2 = dZ Z q k2) →
      ∃ t : Nat, fX4_wouldCut_L4 md (zI (Z 48)) (zI (Z 49)) (zI (Z 50)) (zI (Z 52)) (zI (Z 53)) (zI (Z 54)) rd (zI q) (zI (Z 57)) n (zI s) (zI i) = some (t, zI (zit (cutG (cuZ Z) q) i k (s, Y)).1) := by
    intro k
    induction k with
    | zero =>
      intro i n s Y e hn hp h58 h57 hd
      obtain ⟨m, rfl⟩ : ∃ m, n = m + 1 := ⟨n - 1, by omega⟩
      have e' : i = 16 := by omega
      subst e'
      refine ⟨1, ?_⟩
      rw [fX4_wouldCut_L4]
      exact ite_t (by decide)
    | succ k ih =>
      intro i n s Y e hn hp h58 h57 hd
      obtain ⟨m, rfl⟩ : ∃ m, n = m + 1 := ⟨n - 1, by omega⟩
      have hi : i < 16 := by omega
      have hp2 := cutP_step (Z0 := Z) (c := cuZ Z) (by omega) hq i _ hi hp
      obtain ⟨hRY, hb, hf⟩ := hp
      try dsimp only at hb hf
      have ha : abZ Y q i = abZ Z q i := abZ_congr hR (fun j hj => hf j (by omega)) (hd i (Nat.le_refl _) hi)
      have hab := abZ_b hR hq hi
      have hch := hRY.chi
      have hch0 := hR.chi
      rw [fX4_wouldCut_L4, zL16, zi_le (by omega), if_neg (by omega), zcX1_reach hR, Option.bind_some, zcX4_above hmd hrd hR hq hi, Option.bind_some, zI_mn (by omega)]
      rw [show zit (cutG (cuZ Z) q) i (k + 1) (s, Y) = zit (cutG (cuZ Z) q) (i + 1) k (cutG (cuZ Z) q i (s, Y)) from rfl]
      simp only [zL0, zL1, zL2, zL3, zL5, zL6, zL7, zL8, zL9, zL10, zL15, zL16, zL18, zL20, zL30, zL31, zL33, zL48, zL49, zL50, zL51, zL52, zL53, zL54, zL55, zL56, zL57, zL58, zL59, zL60, zL61, zL62, zL63, zL64, zL65, zL66, zL80, zL99, zL100, zL120, zL126, zL156, zL200, zL1000, zL1404, zL1560, zLm, zI_neg, zI_add, zI_sub, zI_mul]
      rw [zi_le (by omega)]
      by_cases h2 : min (cuZ Z) (abZ Z q i) ≤ 200 - Z 57 - s
      · have hg : cutG (cuZ Z) q i (s, Y) = (s + min (cuZ Z) (abZ Y q i), zup (zup Y (68 + 18 * q + i) (dZ Y q i - min (cuZ Z) (abZ Y q i))) 57 (Y 57 + min (cuZ Z) (abZ Y q i))) := by
          unfold cutG
          try dsimp only
          rw [if_pos h58, if_pos (by rw [ha]; omega)]
        rw [if_pos h2]
        rw [hg] at hp2 ⊢
        obtain ⟨t, ht⟩ := ih (i + 1) m (s + min (cuZ Z) (abZ Y q i)) _ (by omega) (by omega) hp2 (by rw [zup_n (by omega), zup_n (by omega)]; exact h58) (by rw [zup_s]; omega) (fun k2 hk2 hk3 => by
          have := hd k2 (by omega) hk3
          unfold dZ at *
          rw [zup_n (by omega), zup_n (by omega)]
          exact this)
        refine ⟨t, ?_⟩
        rw [← ha]
        exact ht
      · have hg : cutG (cuZ Z) q i (s, Y) = (s, zup (zup Y 58 1) 64 (Y 64 + 1)) := by
          unfold cutG
          try dsimp only
          rw [if_pos h58, if_neg (by rw [ha]; omega)]
        rw [if_neg h2, hg]
        refine ⟨0, ?_⟩
        have hz : ∀ (k i : Nat), zit (cutG (cuZ Z) q) i k (s, zup (zup Y 58 1) 64 (Y 64 + 1)) = (s, zup (zup Y 58 1) 64 (Y 64 + 1)) := by
          intro k
          induction k with
          | zero => intro i; rfl
          | succ k ih2 =>
            intro i
            show zit (cutG (cuZ Z) q) (i + 1) k (cutG (cuZ Z) q i (s, zup (zup Y 58 1) 64 (Y 64 + 1))) = _
            rw [show cutG (cuZ Z) q i (s, zup (zup Y 58 1) 64 (Y 64 + 1)) = (s, zup (zup Y 58 1) 64 (Y 64 + 1)) by
              unfold cutG
              try dsimp only
              rw [if_neg (by rw [zup_n (by omega), zup_s]; omega)]]
            exact ih2 _
        rw [hz]
  obtain ⟨t, ht⟩ := key 16 0 2000 0 Z rfl (by omega) ⟨hR, by (try dsimp only); omega, fun _ _ => rfl⟩ hj (by omega) (fun _ _ _ => rfl)
  unfold fX4_wouldCut
  rw [show fX4_wouldCut_L4 md (zI (Z 48)) (zI (Z 49)) (zI (Z 50)) (zI (Z 52)) (zI (Z 53)) (zI (Z 54)) rd (zI q) (zI (Z 57)) 2000 0 0 = _ from ht, Option.bind_some]
  try dsimp only
  split <;> rfl
theorem mX10_cutThen {xs : Nat → Int32} {Z : Nat → Int} (hx : MoS Z 0 xs) (hR : Rg Z) {q : Nat} (hq : q < 5) (hm : Z 60 = q) : ∃ ys : Nat → Int32, fX10_cutThen xs = some (zI (cutZ Z q).1, ys) ∧ (∀ i, i < 1404 → ys i = xs i) := by
  have c1 : fX10_copies xs 0 9 = some (cpB xs 0 9 156) := by
    rw [show (0 : Int32) = zI ((0 : Nat) : Int) from rfl, show (9 : Int32) = zI ((9 : Nat) : Int) from zL9]
    exact mX10_copies (by omega) (by omega) (by omega)
  have h1 : MoS Z 1404 (cpB xs 0 9 156) := ⟨Or.inr rfl, fun i hi => by
    rw [show (1404 : Int).toNat + i = 156 * 9 + i by omega, cpB_in hi, show 156 * 0 + i = i by omega]
    exact hx.z hi⟩
  obtain ⟨ys, e1, e2, e3⟩ := mX10_along h1 hR hq hm
  refine ⟨ys, ?_, fun i hi => ?_⟩
  · unfold fX10_cutThen
    rw [c1, Option.bind_some, zL1404, e1, Option.bind_some]
  · rw [e3 i (by omega), cpB_out (by omega)]
theorem st_63 (hC : Core (md, mch, fra, fwe, fof, fsi, csh, cde, csp, rd, rw, rp, rco, rmo, apa, awo, ash, aja, abu, ltol, lchi, ljam) ho hcn hsv hsl xs xsv xk0 xk1) : ∃ (ou_0 : Nat → Int64) (xth_0 : Int32) (xs_0 : Nat → Int32), flaw_63 md mch fra fwe fof csh cde rd rmo lchi ljam ou xs = some (ou_0, xth_0, xs_0) ∧ Core (md, mch, fra, fwe, fof, fsi, csh, cde, csp, rd, rw, rp, rco, rmo, apa, awo, ash, aja, abu, ltol, lchi, ljam) ho hcn hsv hsl xs_0 xsv xk0 xk1 := by
  obtain ⟨⟨Z, hR, hc, hx⟩, hH, hs0, hs1⟩ := hC
  obtain ⟨hmd, hrd, hrw, hrp, rfl, rfl, rfl, rfl, rfl, rfl, rfl, rfl, rfl, rfl, rfl, rfl, rfl, rfl, rfl, rfl, rfl, rfl⟩ := hc
  by_cases hv : rdy Z
  · obtain ⟨q, hm, hq, hq2⟩ := moN hR hv.1
    have e3 := zcX4_wouldCut hmd hrd hR hq hv.2.1
    obtain ⟨zs, e4, hz⟩ := mX10_cutThen hx hR hq hm
    rw [← hm] at e3
    refine ⟨vp_updL ou (0 : Int32).toNatClampNeg (zI (cutZ Z q).1).toInt64, 0, zs, ?_, ⟨Z, hR, ⟨hmd, hrd, hrw, hrp, rfl, rfl, rfl, rfl, rfl, rfl, rfl, rfl, rfl, rfl, rfl, rfl, rfl, rfl, rfl, rfl, rfl, rfl⟩, ⟨Or.inl rfl, fun i hi => by rw [hz _ (by omega)]; exact hx.2 i hi⟩⟩, hH.frame (fun i i1 i2 => hz i (by omega)), hs0.frame (by omega) (fun i i1 i2 => hz i i2), hs1.frame (by omega) (fun i i1 i2 => hz i i2)⟩
    simp only [flaw_63, fL_ifPassed, fX9_ifPassed, cReY hR hv, e3, fX10_ifPassed, mCanY hx hR hv, e4, nn10, nn20, nn21, e01, true_or, or_true, Option.bind_some, Option.map_some, fX10_thrown, hd0, hd1, hd2, hd3, e10, e20, e30, eq_self, ↓reduceIte, lgu]
  · refine ⟨ou, 1, _, ?_, ⟨Z, hR, ⟨hmd, hrd, hrw, hrp, rfl, rfl, rfl, rfl, rfl, rfl, rfl, rfl, rfl, rfl, rfl, rfl, rfl, rfl, rfl, rfl, rfl, rfl⟩, hx⟩, hH, hs0, hs1⟩
    simp only [flaw_63, fL_ifPassed, fX9_ifPassed, cReN hR hv, fX10_ifPassed, mCanN hx hR hv, nn10, nn20, nn21, e01, true_or, or_true, Option.bind_some, Option.map_some, fX10_thrown, hd0, hd1, hd2, hd3, e10, e20, e30, eq_self, ↓reduceIte, lgu]
def puC (Z : Nat → Int) (q : Nat) : Prop := Z 58 = 0 ∧ Z 53 ≠ 0 ∧ 0 < moZ Z q
def puZ (q : Nat) : Nat → (Nat → Int) → Int × (Nat → Int)
  | 0, Z => (0, Z)
  | k + 1, Z => if Z 58 = 0 ∧ Z 53 ≠ 0 ∧ 0 < moZ Z q then ((puZ q k (pasZ Z q)).1 + 1, (puZ q k (pasZ Z q)).2) else (0, Z)
theorem puZ_0 {q : Nat} {Z : Nat → Int} : puZ q 0 Z = (0, Z) := rfl
theorem puZ_y {q k : Nat} {Z : Nat → Int} (h : Z 58 = 0 ∧ Z 53 ≠ 0 ∧ 0 < moZ Z q) : puZ q (k + 1) Z = ((puZ q k (pasZ Z q)).1 + 1, (puZ q k (pasZ Z q)).2) := by
  show (if Z 58 = 0 ∧ Z 53 ≠ 0 ∧ 0 < moZ Z q then ((puZ q k (pasZ Z q)).1 + 1, (puZ q k (pasZ Z q)).2) else (0, Z)) = _
  rw [if_pos h]
theorem puZ_n {q k : Nat} {Z : Nat → Int} (h : ¬ (Z 58 = 0 ∧ Z 53 ≠ 0 ∧ 0 < moZ Z q)) : puZ q (k + 1) Z = (0, Z) := by
  show (if Z 58 = 0 ∧ Z 53 ≠ 0 ∧ 0 < moZ Z q then ((puZ q k (pasZ Z q)).1 + 1, (puZ q k (pasZ Z q)).2) else (0, Z)) = _
  rw [if_neg h]
theorem puZ_b (q : Nat) : ∀ (k : Nat) (Z : Nat → Int), 0 ≤ (puZ q k Z).1 ∧ (puZ q k Z).1 ≤ k := by
  intro k
  induction k with
  | zero => intro Z; unfold puZ; exact ⟨Int.le_refl _, Int.le_refl _⟩
  | succ k ih =>
    intro Z
    unfold puZ
    have := ih (pasZ Z q)
    split
    · try dsimp only
      omega
    · try dsimp only
      omega
theorem puZ_F {q : Nat} (hq : q < 5) {Z0 : Nat → Int} : ∀ (k : Nat) (Z : Nat → Int), Rg Z → (∀ j : Nat, (j ≠ 50 ∧ j ≠ 51 ∧ j ≠ 53 ∧ j ≠ 61 ∧ j ≠ 62 ∧ j ≠ 57 ∧ j ≠ 58 ∧ j ≠ 64 ∧ (j < 67 + 18 * q ∨ 84 + 18 * q ≤ j)) → Z j = Z0 j) → Rg (puZ q k Z).2 ∧ (∀ j : Nat, (j ≠ 50 ∧ j ≠ 51 ∧ j ≠ 53 ∧ j ≠ 61 ∧ j ≠ 62 ∧ j ≠ 57 ∧ j ≠ 58 ∧ j ≠ 64 ∧ (j < 67 + 18 * q ∨ 84 + 18 * q ≤ j)) → (puZ q k Z).2 j = Z0 j) := by
  intro k
  induction k with
  | zero => intro Z h1 h2; exact ⟨h1, h2⟩
  | succ k ih =>
    intro Z h1 h2
    unfold puZ
    split
    · exact ih (pasZ Z q) (pasZ_R h1 hq) (fun j hj => by rw [pasZ_f h1 hq hj]; exact h2 j hj)
    · exact ⟨h1, h2⟩
theorem zcX9_puL {md rw : Nat → Int32} {q : Nat} (hq : q < 5) {a : Int} (ha : 1 ≤ a ∧ a ≤ 30) {Z0 : Nat → Int} (hmd : ∀ j : Nat, j < 48 → md j = zI (Z0 j)) (hrw : rwO Z0 rw) : ∀ (k n : Nat) (i : Int) (Z : Nat → Int) (rd rp : Nat → Int32), 0 ≤ i → i + k = a → k < n → Rg Z → (∀ j : Nat, (j ≠ 50 ∧ j ≠ 51 ∧ j ≠ 53 ∧ j ≠ 61 ∧ j ≠ 62 ∧ j ≠ 57 ∧ j ≠ 58 ∧ j ≠ 64 ∧ (j < 67 + 18 * q ∨ 84 + 18 * q ≤ j)) → Z j = Z0 j) → rdO Z rd → rpO Z rp →
    ∃ rd2 rp2 : Nat → Int32, fX9_passUpTo_L24 md (zI (Z0 48)) (zI (Z0 49)) (zI (Z0 52)) (zI (Z0 54)) (zI (Z0 55)) rw (zI q) (zI a) n (zI i) (zI (Z 50)) (zI (Z 51)) (zI (Z 53)) rd rp (zI (Z 61)) (zI (Z 62)) (zI (Z 64)) (zI (Z 57)) (zI (Z 58)) = some (zI (i + (puZ q k Z).1), zI ((puZ q k Z).2 50), zI ((puZ q k Z).2 51), zI ((puZ q k Z).2 53), rd2, rp2, zI ((puZ q k Z).2 61), zI ((puZ q k Z).2 62), zI ((puZ q k Z).2 64), zI ((puZ q k Z).2 57), zI ((puZ q k Z).2 58)) ∧ rdO (puZ q k Z).2 rd2 ∧ rpO (puZ q k Z).2 rp2 := by
  intro k
  induction k with
  | zero =>
    intro n i Z rd rp hi0 hi hn hR hf hrd hrp
    obtain ⟨m, rfl⟩ : ∃ m, n = m + 1 := ⟨n - 1, by omega⟩
    refine ⟨rd, rp, ?_, hrd, hrp⟩
    rw [fX9_passUpTo_L24, zi_le (by omega), if_pos (by omega)]
    rw [puZ_0, Int.add_zero]
  | succ k ih =>
    intro n i Z rd rp hi0 hi hn hR hf hrd hrp
    obtain ⟨m, rfl⟩ : ∃ m, n = m + 1 := ⟨n - 1, by omega⟩
    have hmdZ : ∀ j : Nat, j < 48 → md j = zI (Z j) := fun j hj => by rw [hf j (by omega)]; exact hmd j hj
    have hrwZ : rwO Z rw := fun q2 h2 => by rw [hf _ (by omega)]; exact hrw q2 h2
    have hmo := moZ_b hR hq
    have hj := hR.ja
    rw [fX9_passUpTo_L24, zi_le (by omega), if_neg (by omega), cCan hR, Option.bind_some]
    by_cases h1 : Z 58 = 0 ∧ Z 53 ≠ 0
    · rw [if_pos h1, if_neg (by decide), ← hf 48 (by omega), ← hf 49 (by omega), ← hf 52 (by omega), zcX4_mostAbove hmdZ hrd hR hq, Option.bind_some, zL0, zi_le (by omega)]
      by_cases h2 : 0 < moZ Z q
      · obtain ⟨rd2, rp2, e1, h3, h4⟩ := zcX4_runPass hmdZ hrd hrwZ hrp hR hq
        obtain ⟨rd3, rp3, e2, h5, h6⟩ := ih m (i + 1) (pasZ Z q) rd2 rp2 (by omega) (by omega) (by omega) (pasZ_R hR hq) (fun j hj => by rw [pasZ_f hR hq hj]; exact hf j hj) h3 h4
        refine ⟨rd3, rp3, ?_, ?_, ?_⟩
        · rw [if_neg (by omega), ← hf 54 (by omega), ← hf 55 (by omega), e1, Option.bind_some]
          try dsimp only
          rw [hf 48 (by omega), hf 49 (by omega), hf 52 (by omega), hf 54 (by omega), hf 55 (by omega), zL1, zI_add, e2]
          rw [puZ_y ⟨h1.1, h1.2, h2⟩]
          try dsimp only
          rw [show i + 1 + (puZ q k (pasZ Z q)).1 = i + ((puZ q k (pasZ Z q)).1 + 1) by omega]
        · rw [puZ_y ⟨h1.1, h1.2, h2⟩]
          exact h5
        · rw [puZ_y ⟨h1.1, h1.2, h2⟩]
          exact h6
      · refine ⟨rd, rp, ?_, ?_, ?_⟩
        · rw [if_pos (by omega)]
          rw [puZ_n (fun h => h2 h.2.2), Int.add_zero]
        · rw [puZ_n (fun h => h2 h.2.2)]
          exact hrd
        · rw [puZ_n (fun h => h2 h.2.2)]
          exact hrp
    · refine ⟨rd, rp, ?_, ?_, ?_⟩
      · rw [if_neg h1, if_pos rfl]
        rw [puZ_n (fun h => h1 ⟨h.1, h.2.1⟩), Int.add_zero]
      · rw [puZ_n (fun h => h1 ⟨h.1, h.2.1⟩)]
        exact hrd
      · rw [puZ_n (fun h => h1 ⟨h.1, h.2.1⟩)]
        exact hrp
theorem mX10_puL {q : Nat} (hq : q < 5) {a : Int} (ha : 1 ≤ a ∧ a ≤ 30) : ∀ (k n : Nat) (i : Int) (Z : Nat → Int) (xs : Nat → Int32), 0 ≤ i → i + k = a → k < n → Rg Z → Z 60 = q → MoS Z 0 xs →
    ∃ ys : Nat → Int32, fX10_passUpTo_L41 (zI a) n (zI i) xs = some (zI (i + (puZ q k Z).1), ys) ∧ MoS (puZ q k Z).2 0 ys ∧ (∀ j, 156 ≤ j → ys j = xs j) := by
  intro k
  induction k with
  | zero =>
    intro n i Z xs hi0 hi hn hR hm hx
    obtain ⟨m, rfl⟩ : ∃ m, n = m + 1 := ⟨n - 1, by omega⟩
    refine ⟨xs, ?_, hx, fun _ _ => rfl⟩
    rw [fX10_passUpTo_L41, zi_le (by omega), if_pos (by omega)]
    rw [puZ_0, Int.add_zero]
  | succ k ih =>
    intro n i Z xs hi0 hi hn hR hm hx
    obtain ⟨m, rfl⟩ : ∃ m, n = m + 1 := ⟨n - 1, by omega⟩
    have hmo := moZ_b hR hq
    have e60 : xs (60 : Int32).toNatClampNeg = zI (q : Int) := by rw [zL60, hx.g 60 (by omega) (by omega), hm]
    rw [fX10_passUpTo_L41, zi_le (by omega), if_neg (by omega)]
    by_cases h1 : Z 58 = 0 ∧ Z 53 ≠ 0
    · have hr : rdy Z := ⟨by omega, h1.1, h1.2⟩
      have e2 : fX10_mostAbove xs 0 (zI (q : Int)) = some (zI (moZ Z q)) := by rw [zL0]; exact mX10_mostAbove hx hR hq
      rw [mCanY hx hR hr, Option.bind_some, if_neg (by decide), e60, e2, Option.bind_some]
      by_cases h2 : 0 < moZ Z q
      · obtain ⟨ys, e3, h3, h4⟩ := mX10_passesIn hx hR hq hm
        obtain ⟨zs, e5, h5, h6⟩ := ih m (i + 1) (pasZ Z q) ys (by omega) (by omega) (by omega) (pasZ_R hR hq) (by rw [pasZ_f hR hq (by omega)]; exact hm) h3
        refine ⟨zs, ?_, ?_, fun j hj => (h6 j hj).trans (h4 j hj)⟩
        · rw [if_neg (by rw [zL0, zI_le (by omega)]; omega), e3, Option.bind_some]
          try dsimp only
          rw [zL1, zI_add, e5]
          rw [puZ_y ⟨h1.1, h1.2, h2⟩]
          try dsimp only
          rw [show i + 1 + (puZ q k (pasZ Z q)).1 = i + ((puZ q k (pasZ Z q)).1 + 1) by omega]
        · rw [puZ_y ⟨h1.1, h1.2, h2⟩]
          exact h5
      · refine ⟨xs, ?_, ?_, fun _ _ => rfl⟩
        · rw [if_pos (by rw [zL0, zI_le (by omega)]; omega)]
          rw [puZ_n (fun h => h2 h.2.2), Int.add_zero]
        · rw [puZ_n (fun h => h2 h.2.2)]
          exact hx
    · have hr : ¬ rdy Z := fun h => h1 ⟨h.2.1, h.2.2⟩
      refine ⟨xs, ?_, ?_, fun _ _ => rfl⟩
      · rw [mCanN hx hR hr, Option.bind_some, if_pos rfl]
        rw [puZ_n (fun h => h1 ⟨h.1, h.2.1⟩), Int.add_zero]
      · rw [puZ_n (fun h => h1 ⟨h.1, h.2.1⟩)]
        exact hx
theorem st_16 (hC : Core (md, mch, fra, fwe, fof, fsi, csh, cde, csp, rd, rw, rp, rco, rmo, apa, awo, ash, aja, abu, ltol, lchi, ljam) ho hcn hsv hsl xs xsv xk0 xk1) (s1 : Int32) : ∃ (fwe_0 : Int32) (fsi_0 : Int32) (csh_0 : Int32) (rd_0 : Nat → Int32) (rp_0 : Nat → Int32) (apa_0 : Int32) (awo_0 : Int32) (aja_0 : Int32) (lchi_0 : Int32) (ljam_0 : Int32) (ho_0 : Int32) (hcn_0 : Int32) (hsv_0 : Nat → Option LTH) (ou_0 : Nat → Int64) (xth_0 : Int32) (xs_0 : Nat → Int32) (xsv_0 : Int32), flaw_16 md mch fra fwe fof fsi csh cde csp rd rw rp rco rmo apa awo ash aja abu ltol lchi ljam ho hcn hsv ou xs xsv s1 = some (fwe_0, fsi_0, csh_0, rd_0, rp_0, apa_0, awo_0, aja_0, lchi_0, ljam_0, ho_0, hcn_0, hsv_0, ou_0, xth_0, xs_0, xsv_0) ∧ Core (md, mch, fra, fwe_0, fof, fsi_0, csh_0, cde, csp, rd_0, rw, rp_0, rco, rmo, apa_0, awo_0, ash, aja_0, abu, ltol, lchi_0, ljam_0) ho_0 hcn_0 hsv_0 hsl xs_0 xsv_0 xk0 xk1 := by
  obtain ⟨⟨Z, hR, hc, hx⟩, hH, hs0, hs1⟩ := hC
  obtain ⟨ho2, hcn2, hsv2, ys, yv, e1, e2, hx2, hH2, hfr⟩ := save_ok hc hR hx hH
  have hc0 := hc
  obtain ⟨hmd, hrd, hrw, hrp, rfl, rfl, rfl, rfl, rfl, rfl, rfl, rfl, rfl, rfl, rfl, rfl, rfl, rfl, rfl, rfl, rfl, rfl⟩ := hc
  obtain ⟨a, hb, rfl⟩ := zI_surj s1
  by_cases hv : (1 : Int) ≤ a ∧ a ≤ 30
  · have c1 := rRaY zL1 zL30 (by omega) hv
    have m1 := mInY zL1 zL30 (by omega) hv
    by_cases hr : rdy Z
    · obtain ⟨q, hm, hq, hq2⟩ := moN hR hr.1
      obtain ⟨rd2, rp2, e3, h3, h4⟩ := zcX9_puL hq hv hmd hrw a.toNat 2000 0 Z rd rp (by omega) (by omega) (by omega) hR (fun _ _ => rfl) hrd hrp
      obtain ⟨zs, e4, hx3, hz⟩ := mX10_puL hq hv a.toNat 2000 0 Z ys (by omega) (by omega) (by omega) hR hm hx2
      rw [← hm, Int.zero_add] at e3
      rw [Int.zero_add] at e4
      rw [← zL0] at e3 e4
      obtain ⟨hRF, hFz⟩ := puZ_F hq (Z0 := Z) a.toNat Z hR (fun _ _ => rfl)
      refine ⟨zI ((puZ q a.toNat Z).2 50), zI ((puZ q a.toNat Z).2 51), zI ((puZ q a.toNat Z).2 53), rd2, rp2, zI ((puZ q a.toNat Z).2 61), zI ((puZ q a.toNat Z).2 62), zI ((puZ q a.toNat Z).2 64), zI ((puZ q a.toNat Z).2 57), zI ((puZ q a.toNat Z).2 58), ho2, hcn2, hsv2, vp_updL ou (0 : Int32).toNatClampNeg (zI (puZ q a.toNat Z).1).toInt64, 0, zs, yv, ?_, core_up hRF ⟨fun i hi => by rw [hFz i (by omega)]; exact hmd i hi, h3, fun q9 h9 => by rw [hFz _ (by omega)]; exact hrw q9 h9, h4, by rw [hFz _ (by omega)], by rw [hFz _ (by omega)], rfl, by rw [hFz _ (by omega)], rfl, rfl, by rw [hFz _ (by omega)], by rw [hFz _ (by omega)], by rw [hFz _ (by omega)], by rw [hFz _ (by omega)], rfl, rfl, by rw [hFz _ (by omega)], rfl, by rw [hFz _ (by omega)], by rw [hFz _ (by omega)], rfl, rfl⟩ hx3 hH2 hfr (fun i i1 _ => hz i i1) hs0 hs1⟩
      simp only [flaw_16, fL_passUpTo, fX9_passUpTo, c1, cReY hR hr, e1, e3, fX10_passUpTo, m1, mCanY hx hR hr, e2, e4, nn10, nn20, nn21, e01, true_or, or_true, Option.bind_some, Option.map_some, fX10_thrown, hd0, hd1, hd2, hd3, e10, e20, e30, eq_self, ↓reduceIte, lgu]
    · refine ⟨_, _, _, _, _, _, _, _, _, _, _, _, _, ou, 2, _, _, ?_, ⟨Z, hR, ⟨hmd, hrd, hrw, hrp, rfl, rfl, rfl, rfl, rfl, rfl, rfl, rfl, rfl, rfl, rfl, rfl, rfl, rfl, rfl, rfl, rfl, rfl⟩, hx⟩, hH, hs0, hs1⟩
      simp only [flaw_16, fL_passUpTo, fX9_passUpTo, c1, cReN hR hr, fX10_passUpTo, m1, mCanN hx hR hr, nn10, nn20, nn21, e01, true_or, or_true, Option.bind_some, Option.map_some, fX10_thrown, hd0, hd1, hd2, hd3, e10, e20, e30, eq_self, ↓reduceIte, lgu]
  · have c1 := rRaN zL1 zL30 (by omega) hv
    have m1 := mInN zL1 zL30 (by omega) hv
    refine ⟨_, _, _, _, _, _, _, _, _, _, _, _, _, ou, 1, _, _, ?_, ⟨Z, hR, ⟨hmd, hrd, hrw, hrp, rfl, rfl, rfl, rfl, rfl, rfl, rfl, rfl, rfl, rfl, rfl, rfl, rfl, rfl, rfl, rfl, rfl, rfl⟩, hx⟩, hH, hs0, hs1⟩
    simp only [flaw_16, fL_passUpTo, fX9_passUpTo, c1, fX10_passUpTo, m1, nn10, nn20, nn21, e01, true_or, or_true, Option.bind_some, Option.map_some, fX10_thrown, hd0, hd1, hd2, hd3, e10, e20, e30, eq_self, ↓reduceIte, lgu]
end MUP
