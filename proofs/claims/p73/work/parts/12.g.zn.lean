section MUP
variable {md : Nat → Int32} {mch : Int32} {fra : Int32} {fwe : Int32} {fof : Int32} {fsi : Int32} {csh : Int32} {cde : Int32} {csp : Int32} {rd : Nat → Int32} {rw : Nat → Int32} {rp : Nat → Int32} {rco : Int32} {rmo : Int32} {apa : Int32} {awo : Int32} {ash : Int32} {aja : Int32} {abu : Int32} {ltol : Int32} {lchi : Int32} {ljam : Int32} {ho : Int32} {hcn : Int32} {hsv : Nat → Option LTH} {hsl : Nat → Option LTH} {cav : Nat → Nat → Nat} {cal : Nat → Nat → Nat} {ou : Nat → Int64} {od : Nat → UInt64} {xs : Nat → Int32} {xsv : Int32} {xth : Int32} {xk0 : Int32} {xk1 : Int32} {xtx : Nat → Int32} {xle : Int32} {xat : Int32} {xdi : Int32} {xma : Int32} {xto : Int32} {xha : Int64} {wa : Nat → Int32} {le : Nat → Int32} {tc : Nat → Int32} {tt : Nat → Int32} {tle : Int32} {tpl : Int32} {tdi : Int32} {tti : Int32} {tst : Int32} {Z : Nat → Int}
/-! a pass -/
def wtP (Z : Nat → Int) : Prop := zI (Z 51 + 1) - zI (Z 51 + 1) / 4 * 4 = 0
def pasZ (Z : Nat → Int) (q : Nat) : Nat → Int := fun i =>
  if i = 53 then max 0 (Z 53 - blZ Z q) else if i = 51 then Z 51 + 1 else if i = 50 then (if zI (Z 51 + 1) - zI (Z 51 + 1) / 4 * 4 = 0 then min 30 (Z 50 + 1) else Z 50) else if i = 61 then Z 61 + 1 else if i = 67 + 18 * q then Z (67 + 18 * q) + 1 else if i = 62 then Z 62 + (cutZ Z q).1 else (cutZ Z q).2 i
theorem pasZ_o {Z : Nat → Int} {q i : Nat} (h : i ≠ 53 ∧ i ≠ 51 ∧ i ≠ 50 ∧ i ≠ 61 ∧ i ≠ 67 + 18 * q ∧ i ≠ 62) : pasZ Z q i = (cutZ Z q).2 i := by
  unfold pasZ
  rw [if_neg (by omega), if_neg (by omega), if_neg (by omega), if_neg (by omega), if_neg (by omega), if_neg (by omega)]
theorem pasZ_53 {Z : Nat → Int} {q : Nat} : pasZ Z q 53 = max 0 (Z 53 - blZ Z q) := by unfold pasZ; rw [if_pos rfl]
theorem pasZ_51 {Z : Nat → Int} {q : Nat} : pasZ Z q 51 = Z 51 + 1 := by unfold pasZ; rw [if_neg (by omega), if_pos rfl]
theorem pasZ_50 {Z : Nat → Int} {q : Nat} : pasZ Z q 50 = (if zI (Z 51 + 1) - zI (Z 51 + 1) / 4 * 4 = 0 then min 30 (Z 50 + 1) else Z 50) := by unfold pasZ; rw [if_neg (by omega), if_neg (by omega), if_pos rfl]
theorem pasZ_61 {Z : Nat → Int} {q : Nat} : pasZ Z q 61 = Z 61 + 1 := by unfold pasZ; rw [if_neg (by omega), if_neg (by omega), if_neg (by omega), if_pos rfl]
theorem pasZ_67 {Z : Nat → Int} {q : Nat} : pasZ Z q (67 + 18 * q) = Z (67 + 18 * q) + 1 := by unfold pasZ; rw [if_neg (by omega), if_neg (by omega), if_neg (by omega), if_neg (by omega), if_pos rfl]
theorem pasZ_62 {Z : Nat → Int} {q : Nat} : pasZ Z q 62 = Z 62 + (cutZ Z q).1 := by unfold pasZ; rw [if_neg (by omega), if_neg (by omega), if_neg (by omega), if_neg (by omega), if_neg (by omega), if_pos rfl]
theorem cutZ_f {Z : Nat → Int} (hR : Rg Z) {q : Nat} (hq : q < 5) {j : Nat} (h : j ≠ 57 ∧ j ≠ 58 ∧ j ≠ 64 ∧ (j < 68 + 18 * q ∨ 84 + 18 * q ≤ j)) : (cutZ Z q).2 j = Z j := (cutZ_P hR hq).2.2 j h
theorem cutZ_b {Z : Nat → Int} (hR : Rg Z) {q : Nat} (hq : q < 5) : 0 ≤ (cutZ Z q).1 ∧ (cutZ Z q).1 ≤ 2000 := by have := (cutZ_P hR hq).2.1; omega
theorem pasZ_R {Z : Nat → Int} (hR : Rg Z) {q : Nat} (hq : q < 5) : Rg (pasZ Z q) := by
  have hY := (cutZ_P hR hq).1
  have h59 : (cutZ Z q).2 59 = Z 59 := cutZ_f hR hq (by omega)
  refine ⟨fun i hi => by rw [pasZ_o (by omega)]; exact hY.md hi, ?_, ?_, ?_, ?_, ?_, ?_, ?_, ?_, ?_, ?_, ?_, ?_, fun q2 hq2 => ?_, fun q2 k hq2 hk => ?_⟩
  · rw [pasZ_o (by omega)]; exact hY.ch
  · rw [pasZ_o (by omega)]; exact hY.ra
  · rw [pasZ_50]; have := hR.we; split <;> omega
  · rw [pasZ_o (by omega)]; exact hY.of
  · rw [pasZ_53]; have := hR.sh; have := blZ_b hR (q := q); omega
  · rw [pasZ_o (by omega)]; exact hY.de
  · rw [pasZ_o (by omega)]; exact hY.sp
  · rw [pasZ_o (by omega)]; exact hY.to
  · rw [pasZ_o (by omega)]; exact hY.chi
  · rw [pasZ_o (by omega)]; exact hY.ja
  · rw [pasZ_o (by omega)]; exact hY.co
  · rw [pasZ_o (by omega), pasZ_o (by omega)]; exact hY.mo
  · rw [pasZ_o (by omega)]; exact hY.wo hq2
  · rw [pasZ_o (by omega), pasZ_o (by omega)]; exact hY.di hq2 hk
theorem zcX4_runPass {md rd rw rp : Nat → Int32} {Z : Nat → Int} (hmd : ∀ j : Nat, j < 48 → md j = zI (Z j)) (hrd : rdO Z rd) (hrw : rwO Z rw) (hrp : rpO Z rp) (hR : Rg Z) {q : Nat} (hq : q < 5) :
    ∃ rd2 rp2 : Nat → Int32, fX4_runPass md (zI (Z 48)) (zI (Z 49)) (zI (Z 50)) (zI (Z 52)) (zI (Z 51)) (zI (Z 53)) (zI (Z 54)) (zI (Z 55)) rd rw rp (zI q) (zI (Z 61)) (zI (Z 62)) (zI (Z 64)) (zI (Z 57)) (zI (Z 58)) = some (zI (cutZ Z q).1, zI (pasZ Z q 50), zI (pasZ Z q 51), zI (pasZ Z q 53), rd2, rp2, zI (pasZ Z q 61), zI (pasZ Z q 62), zI (pasZ Z q 64), zI (pasZ Z q 57), zI (pasZ Z q 58)) ∧ rdO (pasZ Z q) rd2 ∧ rpO (pasZ Z q) rp2 := by
  obtain ⟨rd2, e1, h1⟩ := zcX4_cutSteps hmd hrd hR hq
  have hb := blZ_b hR (q := q)
  have hs := hR.sh
  have hw := hR.we
  refine ⟨rd2, upd rp q (rp q + 1), ?_, ?_, ?_⟩
  · unfold fX4_runPass
    rw [e1, Option.bind_some]
    try dsimp only
    rw [zcX8_add (by omega) hq, Option.bind_some, zcX4_blunting hrw hR hq, Option.bind_some]
    unfold fX1_becomeBlunter
    rw [Option.bind_some, zL0, zI_sub, zI_mx (by omega)]
    unfold fX2_wearByPass
    rw [show zI (Z 51) + 1 = zI (Z 51 + 1) by rw [zL1, zI_add], pasZ_50, pasZ_51, pasZ_53, pasZ_61, pasZ_62, pasZ_o (by omega), pasZ_o (by omega), pasZ_o (by omega), show zI (Z 50) + 1 = zI (Z 50 + 1) by rw [zL1, zI_add], show zI (Z 61) + 1 = zI (Z 61 + 1) by rw [zL1, zI_add], zI_add, zL30, zI_mn (by omega), zL0]
    by_cases h : zI (Z 51 + 1) - zI (Z 51 + 1) / 4 * 4 = zI 0
    · rw [if_pos h, if_pos h]; rfl
    · rw [if_neg h, if_neg h]; rfl
  · intro q2 k hq2 hk
    have := h1 q2 k hq2 hk
    unfold dZ at *
    rw [pasZ_o (by omega)]
    exact this
  · intro q2 hq2
    by_cases h : q2 = q
    · subst h
      rw [pk_us, pasZ_67, hrp q2 hq2, zL1, zI_add]
    · rw [pk_un h, pasZ_o (by omega), cutZ_f hR hq (by omega)]
      exact hrp q2 hq2
theorem pasZ_f {Z : Nat → Int} (hR : Rg Z) {q : Nat} (hq : q < 5) {j : Nat} (h : j ≠ 50 ∧ j ≠ 51 ∧ j ≠ 53 ∧ j ≠ 61 ∧ j ≠ 62 ∧ j ≠ 57 ∧ j ≠ 58 ∧ j ≠ 64 ∧ (j < 67 + 18 * q ∨ 84 + 18 * q ≤ j)) : pasZ Z q j = Z j := by
  rw [pasZ_o (by omega)]
  exact cutZ_f hR hq (by omega)
theorem ClS_pas (hc : ClS Z (md, mch, fra, fwe, fof, fsi, csh, cde, csp, rd, rw, rp, rco, rmo, apa, awo, ash, aja, abu, ltol, lchi, ljam)) (hR : Rg Z) {q : Nat} (hq : q < 5) {rd2 rp2 : Nat → Int32} (h1 : rdO (pasZ Z q) rd2) (h2 : rpO (pasZ Z q) rp2) : ClS (pasZ Z q) (md, mch, fra, zI (pasZ Z q 50), fof, zI (pasZ Z q 51), zI (pasZ Z q 53), cde, csp, rd2, rw, rp2, rco, rmo, zI (pasZ Z q 61), zI (pasZ Z q 62), ash, zI (pasZ Z q 64), abu, ltol, zI (pasZ Z q 57), zI (pasZ Z q 58)) := by
  obtain ⟨hmd, hrd, hrw, hrp, rfl, rfl, rfl, rfl, rfl, rfl, rfl, rfl, rfl, rfl, rfl, rfl, rfl, rfl, rfl, rfl, rfl, rfl⟩ := hc
  exact ⟨fun i hi => by rw [pasZ_f hR hq (by omega)]; exact hmd i hi, h1, fun q9 h9 => by rw [pasZ_f hR hq (by omega)]; exact hrw q9 h9, h2, by rw [pasZ_f hR hq (by omega)], by rw [pasZ_f hR hq (by omega)], rfl, by rw [pasZ_f hR hq (by omega)], rfl, rfl, by rw [pasZ_f hR hq (by omega)], by rw [pasZ_f hR hq (by omega)], by rw [pasZ_f hR hq (by omega)], by rw [pasZ_f hR hq (by omega)], rfl, rfl, by rw [pasZ_f hR hq (by omega)], rfl, by rw [pasZ_f hR hq (by omega)], by rw [pasZ_f hR hq (by omega)], rfl, rfl⟩
theorem zcX4_wouldCut {md rd : Nat → Int32} {Z : Nat → Int} (hmd : ∀ j : Nat, j < 48 → md j = zI (Z j)) (hrd : rdO Z rd) (hR : Rg Z) {q : Nat} (hq : q < 5) (hj : Z 58 = 0) : fX4_wouldCut md (zI (Z 48)) (zI (Z 49)) (zI (Z 50)) (zI (Z 52)) (zI (Z 53)) (zI (Z 54)) rd (zI q) (zI (Z 57)) = some (zI (cutZ Z q).1) := by
  have hcu := cuZ_b hR
  have key : ∀ (k i n : Nat) (s : Int) (Y : Nat → Int), i + k = 16 → k < n → cutP Z q i (s, Y) → Y 58 = 0 → Y 57 = Z 57 + s → (∀ k2 : Nat, i ≤ k2 → k2 < 16 → dZ Y q k2 = dZ Z q k2) →
      ∃ t : Nat, fX4_wouldCut_L4 md (zI (Z 48)) (zI (Z 49)) (zI (Z 50)) (zI (Z 52)) (zI (Z 53)) (zI (Z 54)) rd (zI q) (zI (Z 57)) n (zI s) (zI i) = some (t, zI (zit (cutG (cuZ Z) q) i k (s, Y)).1) := by
    intro k
    induction k with
    | zero =>
      intro i n s Y e hn hp h58 h57 hd
      obtain ⟨m, rfl⟩ : ∃ m, n = m + 1 := ⟨n - 1, by omega⟩
      have e' : i = 16 := by omega
      subst e'
      refine ⟨1, ?_⟩
      rw [fX4_wouldCut_L4]
      exact ite_t (by decide)
    | succ k ih =>
      intro i n s Y e hn hp h58 h57 hd
      obtain ⟨m, rfl⟩ : ∃ m, n = m + 1 := ⟨n - 1, by omega⟩
      have hi : i < 16 := by omega
      have hp2 := cutP_step (Z0 := Z) (c := cuZ Z) (by omega) hq i _ hi hp
      obtain ⟨hRY, hb, hf⟩ := hp
      try dsimp only at hb hf
      have ha : abZ Y q i = abZ Z q i := abZ_congr hR (fun j hj => hf j (by omega)) (hd i (Nat.le_refl _) hi)
      have hab := abZ_b hR hq hi
      have hch := hRY.chi
      have hch0 := hR.chi
      rw [fX4_wouldCut_L4, zL16, zi_le (by omega), if_neg (by omega), zcX1_reach hR, Option.bind_some, zcX4_above hmd hrd hR hq hi, Option.bind_some, zI_mn (by omega)]
      rw [show zit (cutG (cuZ Z) q) i (k + 1) (s, Y) = zit (cutG (cuZ Z) q) (i + 1) k (cutG (cuZ Z) q i (s, Y)) from rfl]
      simp only [zL0, zL1, zL2, zL3, zL5, zL6, zL7, zL8, zL9, zL10, zL15, zL16, zL18, zL20, zL30, zL31, zL33, zL48, zL49, zL50, zL51, zL52, zL53, zL54, zL55, zL56, zL57, zL58, zL59, zL60, zL61, zL62, zL63, zL64, zL65, zL66, zL80, zL99, zL100, zL120, zL126, zL156, zL200, zL1000, zL1404, zL1560, zLm, zI_neg, zI_add, zI_sub, zI_mul]
      rw [zi_le (by omega)]
      by_cases h2 : min (cuZ Z) (abZ Z q i) ≤ 200 - Z 57 - s
      · have hg : cutG (cuZ Z) q i (s, Y) = (s + min (cuZ Z) (abZ Y q i), zup (zup Y (68 + 18 * q + i) (dZ Y q i - min (cuZ Z) (abZ Y q i))) 57 (Y 57 + min (cuZ Z) (abZ Y q i))) := by
          unfold cutG
          try dsimp only
          rw [if_pos h58, if_pos (by rw [ha]; omega)]
        rw [if_pos h2]
        rw [hg] at hp2 ⊢
        obtain ⟨t, ht⟩ := ih (i + 1) m (s + min (cuZ Z) (abZ Y q i)) _ (by omega) (by omega) hp2 (by rw [zup_n (by omega), zup_n (by omega)]; exact h58) (by rw [zup_s]; omega) (fun k2 hk2 hk3 => by
          have := hd k2 (by omega) hk3
          unfold dZ at *
          rw [zup_n (by omega), zup_n (by omega)]
          exact this)
        refine ⟨t, ?_⟩
        rw [← ha]
        exact ht
      · have hg : cutG (cuZ Z) q i (s, Y) = (s, zup (zup Y 58 1) 64 (Y 64 + 1)) := by
          unfold cutG
          try dsimp only
          rw [if_pos h58, if_neg (by rw [ha]; omega)]
        rw [if_neg h2, hg]
        refine ⟨0, ?_⟩
        have hz : ∀ (k i : Nat), zit (cutG (cuZ Z) q) i k (s, zup (zup Y 58 1) 64 (Y 64 + 1)) = (s, zup (zup Y 58 1) 64 (Y 64 + 1)) := by
          intro k
          induction k with
          | zero => intro i; rfl
          | succ k ih2 =>
            intro i
            show zit (cutG (cuZ Z) q) (i + 1) k (cutG (cuZ Z) q i (s, zup (zup Y 58 1) 64 (Y 64 + 1))) = _
            rw [show cutG (cuZ Z) q i (s, zup (zup Y 58 1) 64 (Y 64 + 1)) = (s, zup (zup Y 58 1) 64 (Y 64 + 1)) by
              unfold cutG
              try dsimp only
              rw [if_neg (by rw [zup_n (by omega), zup_s]; omega)]]
            exact ih2 _
        rw [hz]
  obtain ⟨t, ht⟩ := key 16 0 2000 0 Z rfl (by omega) ⟨hR, by (try dsimp only); omega, fun _ _ => rfl⟩ hj (by omega) (fun _ _ _ => rfl)
  unfold fX4_wouldCut
  rw [show fX4_wouldCut_L4 md (zI (Z 48)) (zI (Z 49)) (zI (Z 50)) (zI (Z 52)) (zI (Z 53)) (zI (Z 54)) rd (zI q) (zI (Z 57)) 2000 0 0 = _ from ht, Option.bind_some]
  try dsimp only
  split <;> rfl
def puC (Z : Nat → Int) (q : Nat) : Prop := Z 58 = 0 ∧ Z 53 ≠ 0 ∧ 0 < moZ Z q
def puZ (q : Nat) : Nat → (Nat → Int) → Int × (Nat → Int)
  | 0, Z => (0, Z)
  | k + 1, Z => if Z 58 = 0 ∧ Z 53 ≠ 0 ∧ 0 < moZ Z q then ((puZ q k (pasZ Z q)).1 + 1, (puZ q k (pasZ Z q)).2) else (0, Z)
theorem puZ_0 {q : Nat} {Z : Nat → Int} : puZ q 0 Z = (0, Z) := rfl
theorem puZ_y {q k : Nat} {Z : Nat → Int} (h : Z 58 = 0 ∧ Z 53 ≠ 0 ∧ 0 < moZ Z q) : puZ q (k + 1) Z = ((puZ q k (pasZ Z q)).1 + 1, (puZ q k (pasZ Z q)).2) := by
  show (if Z 58 = 0 ∧ Z 53 ≠ 0 ∧ 0 < moZ Z q then ((puZ q k (pasZ Z q)).1 + 1, (puZ q k (pasZ Z q)).2) else (0, Z)) = _
  rw [if_pos h]
theorem puZ_n {q k : Nat} {Z : Nat → Int} (h : ¬ (Z 58 = 0 ∧ Z 53 ≠ 0 ∧ 0 < moZ Z q)) : puZ q (k + 1) Z = (0, Z) := by
  show (if Z 58 = 0 ∧ Z 53 ≠ 0 ∧ 0 < moZ Z q then ((puZ q k (pasZ Z q)).1 + 1, (puZ q k (pasZ Z q)).2) else (0, Z)) = _
  rw [if_neg h]
theorem puZ_b (q : Nat) : ∀ (k : Nat) (Z : Nat → Int), 0 ≤ (puZ q k Z).1 ∧ (puZ q k Z).1 ≤ k := by
  intro k
  induction k with
  | zero => intro Z; unfold puZ; exact ⟨Int.le_refl _, Int.le_refl _⟩
  | succ k ih =>
    intro Z
    unfold puZ
    have := ih (pasZ Z q)
    split
    · try dsimp only
      omega
    · try dsimp only
      omega
theorem puZ_F {q : Nat} (hq : q < 5) {Z0 : Nat → Int} : ∀ (k : Nat) (Z : Nat → Int), Rg Z → (∀ j : Nat, (j ≠ 50 ∧ j ≠ 51 ∧ j ≠ 53 ∧ j ≠ 61 ∧ j ≠ 62 ∧ j ≠ 57 ∧ j ≠ 58 ∧ j ≠ 64 ∧ (j < 67 + 18 * q ∨ 84 + 18 * q ≤ j)) → Z j = Z0 j) → Rg (puZ q k Z).2 ∧ (∀ j : Nat, (j ≠ 50 ∧ j ≠ 51 ∧ j ≠ 53 ∧ j ≠ 61 ∧ j ≠ 62 ∧ j ≠ 57 ∧ j ≠ 58 ∧ j ≠ 64 ∧ (j < 67 + 18 * q ∨ 84 + 18 * q ≤ j)) → (puZ q k Z).2 j = Z0 j) := by
  intro k
  induction k with
  | zero => intro Z h1 h2; exact ⟨h1, h2⟩
  | succ k ih =>
    intro Z h1 h2
    unfold puZ
    split
    · exact ih (pasZ Z q) (pasZ_R h1 hq) (fun j hj => by rw [pasZ_f h1 hq hj]; exact h2 j hj)
    · exact ⟨h1, h2⟩
theorem zcX9_puL {md rw : Nat → Int32} {q : Nat} (hq : q < 5) {a : Int} (ha : 1 ≤ a ∧ a ≤ 30) {Z0 : Nat → Int} (hmd : ∀ j : Nat, j < 48 → md j = zI (Z0 j)) (hrw : rwO Z0 rw) : ∀ (k n : Nat) (i : Int) (Z : Nat → Int) (rd rp : Nat → Int32), 0 ≤ i → i + k = a → k < n → Rg Z → (∀ j : Nat, (j ≠ 50 ∧ j ≠ 51 ∧ j ≠ 53 ∧ j ≠ 61 ∧ j ≠ 62 ∧ j ≠ 57 ∧ j ≠ 58 ∧ j ≠ 64 ∧ (j < 67 + 18 * q ∨ 84 + 18 * q ≤ j)) → Z j = Z0 j) → rdO Z rd → rpO Z rp →
    ∃ rd2 rp2 : Nat → Int32, fX9_passUpTo_L24 md (zI (Z0 48)) (zI (Z0 49)) (zI (Z0 52)) (zI (Z0 54)) (zI (Z0 55)) rw (zI q) (zI a) n (zI i) (zI (Z 50)) (zI (Z 51)) (zI (Z 53)) rd rp (zI (Z 61)) (zI (Z 62)) (zI (Z 64)) (zI (Z 57)) (zI (Z 58)) = some (zI (i + (puZ q k Z).1), zI ((puZ q k Z).2 50), zI ((puZ q k Z).2 51), zI ((puZ q k Z).2 53), rd2, rp2, zI ((puZ q k Z).2 61), zI ((puZ q k Z).2 62), zI ((puZ q k Z).2 64), zI ((puZ q k Z).2 57), zI ((puZ q k Z).2 58)) ∧ rdO (puZ q k Z).2 rd2 ∧ rpO (puZ q k Z).2 rp2 := by
  intro k
  induction k with
  | zero =>
    intro n i Z rd rp hi0 hi hn hR hf hrd hrp
    obtain ⟨m, rfl⟩ : ∃ m, n = m + 1 := ⟨n - 1, by omega⟩
    refine ⟨rd, rp, ?_, hrd, hrp⟩
    rw [fX9_passUpTo_L24, zi_le (by omega), if_pos (by omega)]
    rw [puZ_0, Int.add_zero]
  | succ k ih =>
    intro n i Z rd rp hi0 hi hn hR hf hrd hrp
    obtain ⟨m, rfl⟩ : ∃ m, n = m + 1 := ⟨n - 1, by omega⟩
    have hmdZ : ∀ j : Nat, j < 48 → md j = zI (Z j) := fun j hj => by rw [hf j (by omega)]; exact hmd j hj
    have hrwZ : rwO Z rw := fun q2 h2 => by rw [hf _ (by omega)]; exact hrw q2 h2
    have hmo := moZ_b hR hq
    have hj := hR.ja
    rw [fX9_passUpTo_L24, zi_le (by omega), if_neg (by omega), cCan hR, Option.bind_some]
    by_cases h1 : Z 58 = 0 ∧ Z 53 ≠ 0
    · rw [if_pos h1, if_neg (by decide), ← hf 48 (by omega), ← hf 49 (by omega), ← hf 52 (by omega), zcX4_mostAbove hmdZ hrd hR hq, Option.bind_some, zL0, zi_le (by omega)]
      by_cases h2 : 0 < moZ Z q
      · obtain ⟨rd2, rp2, e1, h3, h4⟩ := zcX4_runPass hmdZ hrd hrwZ hrp hR hq
        obtain ⟨rd3, rp3, e2, h5, h6⟩ := ih m (i + 1) (pasZ Z q) rd2 rp2 (by omega) (by omega) (by omega) (pasZ_R hR hq) (fun j hj => by rw [pasZ_f hR hq hj]; exact hf j hj) h3 h4
        refine ⟨rd3, rp3, ?_, ?_, ?_⟩
        · rw [if_neg (by omega), ← hf 54 (by omega), ← hf 55 (by omega), e1, Option.bind_some]
          try dsimp only
          rw [hf 48 (by omega), hf 49 (by omega), hf 52 (by omega), hf 54 (by omega), hf 55 (by omega), zL1, zI_add, e2]
          rw [puZ_y ⟨h1.1, h1.2, h2⟩]
          try dsimp only
          rw [show i + 1 + (puZ q k (pasZ Z q)).1 = i + ((puZ q k (pasZ Z q)).1 + 1) by omega]
        · rw [puZ_y ⟨h1.1, h1.2, h2⟩]
          exact h5
        · rw [puZ_y ⟨h1.1, h1.2, h2⟩]
          exact h6
      · refine ⟨rd, rp, ?_, ?_, ?_⟩
        · rw [if_pos (by omega)]
          rw [puZ_n (fun h => h2 h.2.2), Int.add_zero]
        · rw [puZ_n (fun h => h2 h.2.2)]
          exact hrd
        · rw [puZ_n (fun h => h2 h.2.2)]
          exact hrp
    · refine ⟨rd, rp, ?_, ?_, ?_⟩
      · rw [if_neg h1, if_pos rfl]
        rw [puZ_n (fun h => h1 ⟨h.1, h.2.1⟩), Int.add_zero]
      · rw [puZ_n (fun h => h1 ⟨h.1, h.2.1⟩)]
        exact hrd
      · rw [puZ_n (fun h => h1 ⟨h.1, h.2.1⟩)]
        exact hrp
end MUP
