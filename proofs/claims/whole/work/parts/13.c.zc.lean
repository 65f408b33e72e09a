/-! the model's readers; B is the base of a block -/
def MoS (Z : Nat → Int) (B : Int) (xs : Nat → Int32) : Prop := (B = 0 ∨ B = 1404) ∧ ∀ i : Nat, i < 156 → xs (B.toNat + i) = zI (Z i)
theorem MoS.g {Z : Nat → Int} {B : Int} {xs : Nat → Int32} (h : MoS Z B xs) (j : Nat) {J : Int} (hj : j < 156) (e : J = B + j) : xs (zI J).toNatClampNeg = zI (Z j) := by
  have hB := h.1
  rw [zI_cl (by omega), show J.toNat = B.toNat + j by omega, h.2 j hj]
theorem MoS.B {Z : Nat → Int} {B : Int} {xs : Nat → Int32} (h : MoS Z B xs) : 0 ≤ B ∧ B ≤ 1404 := by have := h.1; omega
theorem ixB {J : Int} (h : 0 ≤ J ∧ J < 1560) : ¬ (zI J < zI 0 ∨ 1560 ≤ (zI J).toNatClampNeg) := zI_ix ⟨h.1, h.2, by omega⟩
theorem mX10_in {a b c : Int} (h : (-2147483648 ≤ a ∧ a < 2147483648) ∧ (-2147483648 ≤ b ∧ b < 2147483648) ∧ (-2147483648 ≤ c ∧ c < 2147483648)) : fX10_in (zI a) (zI b) (zI c) = some (if b ≤ a ∧ a ≤ c then 1 else 0) := by
  unfold fX10_in
  rw [zi_lt ⟨h.1, h.2.1⟩, zi_lt ⟨h.2.2, h.1⟩]
  by_cases h1 : a < b
  · rw [ite_t h1, ite_n (by omega)]
  · rw [ite_n h1]
    by_cases h2 : c < a
    · rw [ite_t h2, ite_n (by omega)]
    · rw [ite_n h2, ite_t (by omega)]
theorem z01 (c : Prop) [Decidable c] : (if c then (1 : Int32) else 0) = 0 ∨ (if c then (1 : Int32) else 0) = 1 := by
  split
  · exact Or.inr rfl
  · exact Or.inl rfl
theorem mX10_isStep {a : Int} (h : -2147483648 ≤ a ∧ a < 2147483648) : fX10_isStep (zI a) = some (if 0 ≤ a ∧ a ≤ 15 then 1 else 0) := by
  unfold fX10_isStep
  rw [show fX10_in (zI a) 0 15 = some (if 0 ≤ a ∧ a ≤ 15 then 1 else 0) from mX10_in (b := 0) (c := 15) (by omega), Option.bind_some, ite_t (z01 _)]
theorem mX10_isMaster {a : Int} (h : -2147483648 ≤ a ∧ a < 2147483648) : fX10_isMaster (zI a) = some (if 0 ≤ a ∧ a ≤ 2 then 1 else 0) := by
  unfold fX10_isMaster
  rw [show fX10_in (zI a) 0 2 = some (if 0 ≤ a ∧ a ≤ 2 then 1 else 0) from mX10_in (b := 0) (c := 2) (by omega), Option.bind_some, ite_t (z01 _)]
theorem mX10_isPiece {Z : Nat → Int} {xs : Nat → Int32} (hx : MoS Z 0 xs) (hR : Rg Z) {a : Int} (h : -2147483648 ≤ a ∧ a < 2147483648) : fX10_isPiece xs (zI a) = some (if 0 ≤ a ∧ a ≤ Z 59 - 1 then 1 else 0) := by
  have h9 := hR.co
  unfold fX10_isPiece
  have e : xs (59 : Int32).toNatClampNeg - 1 = zI (Z 59 - 1) := by rw [zL59, hx.g 59 (by omega) (by omega), zL1, zI_sub]
  rw [e, show fX10_in (zI a) 0 (zI (Z 59 - 1)) = some (if 0 ≤ a ∧ a ≤ Z 59 - 1 then 1 else 0) from mX10_in (b := 0) (by omega), Option.bind_some, ite_t (z01 _)]
theorem mX10_of {Z : Nat → Int} {B : Int} {xs : Nat → Int32} (hx : MoS Z B xs) {q w : Nat} (hq : q < 5) (hw : w < 18) {W : Int} (e : W = w) : fX10_of xs (zI B) (zI q) (zI W) = some (zI (Z (66 + 18 * q + w))) := by
  have hB := hx.B
  unfold fX10_of
  simp only [zL0, zL1, zL2, zL3, zL5, zL6, zL7, zL8, zL9, zL10, zL15, zL16, zL18, zL20, zL30, zL31, zL33, zL48, zL49, zL50, zL51, zL52, zL53, zL54, zL55, zL56, zL57, zL58, zL59, zL60, zL61, zL62, zL63, zL64, zL65, zL66, zL80, zL99, zL100, zL120, zL126, zL156, zL200, zL1000, zL1404, zL1560, zLm, zI_neg, zI_add, zI_sub, zI_mul]
  rw [ite_t (ixB (by omega)), hx.g (66 + 18 * q + w) (by omega) (by omega)]
theorem mX10_at {Z : Nat → Int} {B : Int} {xs : Nat → Int32} (hx : MoS Z B xs) {q k : Nat} (hq : q < 5) (hk : k < 16) : fX10_of xs (zI B) (zI q) (zI (2 + (k : Int))) = some (zI (dZ Z q k)) := by
  rw [mX10_of hx (w := 2 + k) hq (by omega) (by omega)]
  unfold dZ
  rw [show 66 + 18 * q + (2 + k) = 68 + 18 * q + k by omega]
theorem mX10_lay {Z : Nat → Int} {B : Int} {xs : Nat → Int32} (hx : MoS Z B xs) {q w : Nat} (hq : q < 5) (hw : w < 18) {W : Int} (e : W = w) (v : Int32) : fX10_lay xs (zI B) (zI q) (zI W) v = some (upd xs (B.toNat + (66 + 18 * q + w)) v) := by
  have hB := hx.B
  unfold fX10_lay
  simp only [zL0, zL1, zL2, zL3, zL5, zL6, zL7, zL8, zL9, zL10, zL15, zL16, zL18, zL20, zL30, zL31, zL33, zL48, zL49, zL50, zL51, zL52, zL53, zL54, zL55, zL56, zL57, zL58, zL59, zL60, zL61, zL62, zL63, zL64, zL65, zL66, zL80, zL99, zL100, zL120, zL126, zL156, zL200, zL1000, zL1404, zL1560, zLm, zI_neg, zI_add, zI_sub, zI_mul]
  rw [ite_t (ixB (by omega)), zI_cl (by omega), show (B + 66 + 18 * (q : Int) + W).toNat = B.toNat + (66 + 18 * q + w) by omega]
theorem MoS.up {Z : Nat → Int} {B : Int} {xs : Nat → Int32} (h : MoS Z B xs) {j : Nat} {v : Int} : MoS (zup Z j v) B (upd xs (B.toNat + j) (zI v)) := by
  refine ⟨h.1, fun i hi => ?_⟩
  unfold upd zup
  by_cases e : i = j
  · subst e; rw [ite_t rfl, ite_t rfl]
  · rw [ite_n (by omega), ite_n e]; exact h.2 i hi
theorem mX10_masterOf {Z : Nat → Int} {B : Int} {xs : Nat → Int32} (hx : MoS Z B xs) (hR : Rg Z) {k : Nat} (hk : k < 16) : fX10_masterOf xs (zI B) (zI k) = some (zI (mZ Z (Z 48).toNat k)) := by
  have hB := hx.B
  have hc := chN hR
  unfold fX10_masterOf
  simp only [zL0, zL1, zL2, zL3, zL5, zL6, zL7, zL8, zL9, zL10, zL15, zL16, zL18, zL20, zL30, zL31, zL33, zL48, zL49, zL50, zL51, zL52, zL53, zL54, zL55, zL56, zL57, zL58, zL59, zL60, zL61, zL62, zL63, zL64, zL65, zL66, zL80, zL99, zL100, zL120, zL126, zL156, zL200, zL1000, zL1404, zL1560, zLm, zI_neg, zI_add, zI_sub, zI_mul]
  rw [ite_t (ixB (by omega)), hx.g 48 (J := B + 48) (by omega) (by omega)]
  simp only [zL0, zL1, zL2, zL3, zL5, zL6, zL7, zL8, zL9, zL10, zL15, zL16, zL18, zL20, zL30, zL31, zL33, zL48, zL49, zL50, zL51, zL52, zL53, zL54, zL55, zL56, zL57, zL58, zL59, zL60, zL61, zL62, zL63, zL64, zL65, zL66, zL80, zL99, zL100, zL120, zL126, zL156, zL200, zL1000, zL1404, zL1560, zLm, zI_neg, zI_add, zI_sub, zI_mul]
  rw [ite_t (ixB (by omega)), hx.g (16 * (Z 48).toNat + k) (by omega) (by omega)]
  rfl
theorem mX10_reading {Z : Nat → Int} {B : Int} {xs : Nat → Int32} (hx : MoS Z B xs) (hR : Rg Z) {k : Nat} (hk : k < 16) : fX10_reading xs (zI B) (zI k) = some (zI (rdZ Z k)) := by
  have hB := hx.B
  have hc := chN hR
  obtain ⟨r, hr⟩ : ∃ r : Nat, Z 49 = r := ⟨(Z 49).toNat, by have := hR.ra; omega⟩
  have h2 := hR.ra
  have hW : isMx (mZ Z (Z 48).toNat) (win r k) (rdZ Z k) := by
    have := rdZ_is Z k
    rw [hr] at this
    exact this
  have e49 : xs (zI (B + 49)).toNatClampNeg = zI (r : Int) := by rw [hx.g 49 (by omega) (by omega), hr]
  unfold fX10_reading
  simp only [zL0, zL1, zL2, zL3, zL5, zL6, zL7, zL8, zL9, zL10, zL15, zL16, zL18, zL20, zL30, zL31, zL33, zL48, zL49, zL50, zL51, zL52, zL53, zL54, zL55, zL56, zL57, zL58, zL59, zL60, zL61, zL62, zL63, zL64, zL65, zL66, zL80, zL99, zL100, zL120, zL126, zL156, zL200, zL1000, zL1404, zL1560, zLm, zI_neg, zI_add, zI_sub, zI_mul]
  rw [ite_t (ixB (by omega)), e49, zI_sub]
  have key := loopG (S := Int) (L := fun n i v => fX10_reading_L15 xs (zI B) (zI k) n (zI v) (zI ((i : Int) - r))) (g := fun i v => if r ≤ i ∧ i ≤ 15 + r then max v (mZ Z (Z 48).toNat (i - r)) else v) (N := k + 2 * r + 1) (P := fun i v => isMx (mZ Z (Z 48).toNat) (fun j => win r k j ∧ j + r < i) v ∧ v ≤ 99 ∧ k ≤ i) (out := zI) (by
      intro n v hp
      try dsimp only
      rw [fX10_reading_L15]
      simp only [zL0, zL1, zL2, zL3, zL5, zL6, zL7, zL8, zL9, zL10, zL15, zL16, zL18, zL20, zL30, zL31, zL33, zL48, zL49, zL50, zL51, zL52, zL53, zL54, zL55, zL56, zL57, zL58, zL59, zL60, zL61, zL62, zL63, zL64, zL65, zL66, zL80, zL99, zL100, zL120, zL126, zL156, zL200, zL1000, zL1404, zL1560, zLm, zI_neg, zI_add, zI_sub, zI_mul]
      rw [ite_t (ixB (by omega)), e49, zI_add, ite_t (by rw [zI_lt (by omega)]; omega)]) (by
      intro n i v hi hp
      try dsimp only
      have hv := hp.1.1
      rw [fX10_reading_L15]
      simp only [zL0, zL1, zL2, zL3, zL5, zL6, zL7, zL8, zL9, zL10, zL15, zL16, zL18, zL20, zL30, zL31, zL33, zL48, zL49, zL50, zL51, zL52, zL53, zL54, zL55, zL56, zL57, zL58, zL59, zL60, zL61, zL62, zL63, zL64, zL65, zL66, zL80, zL99, zL100, zL120, zL126, zL156, zL200, zL1000, zL1404, zL1560, zLm, zI_neg, zI_add, zI_sub, zI_mul]
      rw [ite_t (ixB (by omega)), e49, zI_add, ite_n (by rw [zI_lt (by omega)]; omega), mX10_isStep (by omega), Option.bind_some]
      by_cases hs : r ≤ i ∧ i ≤ 15 + r
      · rw [ite_t (c := 0 ≤ (i : Int) - r ∧ (i : Int) - r ≤ 15) (by omega), ite_n (by decide), ite_t hs]
        have hm := mZ_b hR hc.2 (i := i - r) (by omega)
        rw [show ((i : Int) - r) = ((i - r : Nat) : Int) by omega, mX10_masterOf hx hR (by omega), Option.bind_some, zi_le (by omega)]
        by_cases hle : mZ Z (Z 48).toNat (i - r) ≤ v
        · rw [ite_t hle, Int.max_eq_left hle, show (((i - r : Nat) : Int) + 1) = ((i + 1 : Nat) : Int) - r by omega]
        · rw [ite_n hle, Option.bind_some, Int.max_eq_right (by omega), show (((i - r : Nat) : Int) + 1) = ((i + 1 : Nat) : Int) - r by omega]
      · rw [ite_n (c := 0 ≤ (i : Int) - r ∧ (i : Int) - r ≤ 15) (by omega), ite_t (show (0 : Int32) = zI 0 from rfl), ite_n hs, show ((i : Int) - r + 1) = ((i + 1 : Nat) : Int) - r by omega]) (by
      intro i v hi hp
      try dsimp only
      by_cases hs : r ≤ i ∧ i ≤ 15 + r
      · rw [ite_t hs]
        have hm := mZ_b hR hc.2 (i := i - r) (by omega)
        refine ⟨hp.1.step (by omega) (fun j hj => ?_), by omega, by omega⟩
        unfold win
        constructor
        · rintro ⟨a, b⟩
          by_cases e : j = i - r
          · exact Or.inr e
          · exact Or.inl ⟨a, by omega⟩
        · rintro (⟨a, b⟩ | rfl)
          · exact ⟨a, by omega⟩
          · exact ⟨by omega, by omega⟩
      · rw [ite_n hs]
        refine ⟨hp.1.congr (fun j hj => ?_), hp.2.1, by omega⟩
        constructor
        · rintro ⟨a, b⟩; exact ⟨a, by omega⟩
        · rintro ⟨a, b⟩; exact ⟨a, by omega⟩)
  obtain ⟨e1, e2⟩ := key (2 * r + 1) k 2000 0 (by omega) (by omega) ⟨⟨by omega, fun j hj hw => absurd hw.1 (by have := hw.2; unfold win; omega), Or.inl rfl⟩, by omega, by omega⟩
  try dsimp only at e1
  rw [e1, Option.bind_some]
  rw [isMx.uniq (e2.1.congr (W' := win r k) (fun j hj => ⟨fun h => h.1, fun h => ⟨h, by have := h.2; omega⟩⟩)) hW]
theorem mX10_target {Z : Nat → Int} {B : Int} {xs : Nat → Int32} (hx : MoS Z B xs) (hR : Rg Z) {k : Nat} (hk : k < 16) : fX10_target xs (zI B) (zI k) = some (zI (tgZ Z k)) := by
  have hB := hx.B
  have h1 := rdZ_b hR (k := k)
  have h2 := hR.we
  have h3 := hR.of
  unfold fX10_target tgZ
  rw [mX10_reading hx hR hk, Option.bind_some]
  simp only [zL0, zL1, zL2, zL3, zL5, zL6, zL7, zL8, zL9, zL10, zL15, zL16, zL18, zL20, zL30, zL31, zL33, zL48, zL49, zL50, zL51, zL52, zL53, zL54, zL55, zL56, zL57, zL58, zL59, zL60, zL61, zL62, zL63, zL64, zL65, zL66, zL80, zL99, zL100, zL120, zL126, zL156, zL200, zL1000, zL1404, zL1560, zLm, zI_neg, zI_add, zI_sub, zI_mul]
  rw [ite_t (ixB (by omega)), ite_t (ixB (by omega)), hx.g 50 (J := B + 50) (by omega) (by omega), hx.g 52 (J := B + 52) (by omega) (by omega)]
  simp only [zL0, zL1, zL2, zL3, zL5, zL6, zL7, zL8, zL9, zL10, zL15, zL16, zL18, zL20, zL30, zL31, zL33, zL48, zL49, zL50, zL51, zL52, zL53, zL54, zL55, zL56, zL57, zL58, zL59, zL60, zL61, zL62, zL63, zL64, zL65, zL66, zL80, zL99, zL100, zL120, zL126, zL156, zL200, zL1000, zL1404, zL1560, zLm, zI_neg, zI_add, zI_sub, zI_mul]
  rw [zi_le (by omega)]
  by_cases h : 1 ≤ rdZ Z k - Z 50 + Z 52
  · rw [ite_t h, Int.max_eq_right h]
  · rw [ite_n h, Int.max_eq_left (by omega)]
theorem mX10_above {Z : Nat → Int} {B : Int} {xs : Nat → Int32} (hx : MoS Z B xs) (hR : Rg Z) {q k : Nat} (hq : q < 5) (hk : k < 16) : fX10_above xs (zI B) (zI q) (zI k) = some (zI (abZ Z q k)) := by
  have h1 := dZ_b hR hq hk
  have h2 := tgZ_b hR k
  unfold fX10_above abZ
  simp only [zL0, zL1, zL2, zL3, zL5, zL6, zL7, zL8, zL9, zL10, zL15, zL16, zL18, zL20, zL30, zL31, zL33, zL48, zL49, zL50, zL51, zL52, zL53, zL54, zL55, zL56, zL57, zL58, zL59, zL60, zL61, zL62, zL63, zL64, zL65, zL66, zL80, zL99, zL100, zL120, zL126, zL156, zL200, zL1000, zL1404, zL1560, zLm, zI_neg, zI_add, zI_sub, zI_mul]
  rw [mX10_at hx hq hk, Option.bind_some, mX10_target hx hR hk, Option.bind_some, zI_sub, zi_le (by omega)]
  by_cases h : 0 ≤ dZ Z q k - tgZ Z k
  · rw [ite_t h, Int.max_eq_right h]
  · rw [ite_n h, Int.max_eq_left (by omega)]
theorem mX10_mostAbove {Z : Nat → Int} {B : Int} {xs : Nat → Int32} (hx : MoS Z B xs) (hR : Rg Z) {q : Nat} (hq : q < 5) : fX10_mostAbove xs (zI B) (zI q) = some (zI (moZ Z q)) := by
  have key : fX10_mostAbove_L5 xs (zI B) (zI q) 2000 0 0 = some (zI (moZ Z q)) := acc16 (fun n v i => fX10_mostAbove_L5 xs (zI B) (zI q) n v i) (fun i v => max v (abZ Z q i)) (by
      intro n v
      try dsimp only
      rw [fX10_mostAbove_L5]
      exact ite_t (by decide)) (by
      intro n i v hi hv
      try dsimp only
      have ha := abZ_b hR hq hi
      rw [fX10_mostAbove_L5]
      simp only [zL0, zL1, zL2, zL3, zL5, zL6, zL7, zL8, zL9, zL10, zL15, zL16, zL18, zL20, zL30, zL31, zL33, zL48, zL49, zL50, zL51, zL52, zL53, zL54, zL55, zL56, zL57, zL58, zL59, zL60, zL61, zL62, zL63, zL64, zL65, zL66, zL80, zL99, zL100, zL120, zL126, zL156, zL200, zL1000, zL1404, zL1560, zLm, zI_neg, zI_add, zI_sub, zI_mul]
      rw [ite_n (show ¬ (zI 16 ≤ zI (i : Int)) by rw [zI_le (by omega)]; omega)]
      rw [mX10_above hx hR hq hi, Option.bind_some, zi_le (by omega)]
      by_cases h : abZ Z q i ≤ v
      · rw [ite_t h, Int.max_eq_left h]
      · rw [ite_n h, Option.bind_some, Int.max_eq_right (by omega)]) (by
      intro i v hi hv
      try dsimp only
      have ha := abZ_b hR hq hi
      omega)
  unfold fX10_mostAbove
  rw [key, Option.bind_some]
theorem mX10_allAbove {Z : Nat → Int} {xs : Nat → Int32} (hx : MoS Z 0 xs) (hR : Rg Z) {q : Nat} (hq : q < 5) : fX10_allAbove xs (zI q) = some (zI (alZ Z q)) := by
  have key : fX10_allAbove_L4 xs (zI q) 2000 0 0 = some (zI (alZ Z q)) := acc16 (fun n v i => fX10_allAbove_L4 xs (zI q) n v i) (fun i v => v + abZ Z q i) (by
      intro n v
      try dsimp only
      rw [fX10_allAbove_L4]
      exact ite_t (by decide)) (by
      intro n i v hi hv
      try dsimp only
      have ha := abZ_b hR hq hi
      rw [fX10_allAbove_L4]
      simp only [zL0, zL1, zL2, zL3, zL5, zL6, zL7, zL8, zL9, zL10, zL15, zL16, zL18, zL20, zL30, zL31, zL33, zL48, zL49, zL50, zL51, zL52, zL53, zL54, zL55, zL56, zL57, zL58, zL59, zL60, zL61, zL62, zL63, zL64, zL65, zL66, zL80, zL99, zL100, zL120, zL126, zL156, zL200, zL1000, zL1404, zL1560, zLm, zI_neg, zI_add, zI_sub, zI_mul]
      rw [ite_n (show ¬ (zI 16 ≤ zI (i : Int)) by rw [zI_le (by omega)]; omega)]
      rw [mX10_above hx hR hq hi, Option.bind_some, zI_add]) (by
      intro i v hi hv
      try dsimp only
      have ha := abZ_b hR hq hi
      omega)
  unfold fX10_allAbove
  rw [key, Option.bind_some]
theorem mX10_sumOf {Z : Nat → Int} {xs : Nat → Int32} (hx : MoS Z 0 xs) (hR : Rg Z) {q : Nat} (hq : q < 5) : fX10_sumOf xs (zI q) = some (zI (sdZ Z q)) := by
  have key : fX10_sumOf_L4 xs (zI q) 2000 0 0 = some (zI (sdZ Z q)) := acc16 (fun n v i => fX10_sumOf_L4 xs (zI q) n v i) (fun i v => v + dZ Z q i) (by
      intro n v
      try dsimp only
      rw [fX10_sumOf_L4]
      exact ite_t (by decide)) (by
      intro n i v hi hv
      try dsimp only
      have hb := dZ_b hR hq hi
      rw [fX10_sumOf_L4]
      simp only [zL0, zL1, zL2, zL3, zL5, zL6, zL7, zL8, zL9, zL10, zL15, zL16, zL18, zL20, zL30, zL31, zL33, zL48, zL49, zL50, zL51, zL52, zL53, zL54, zL55, zL56, zL57, zL58, zL59, zL60, zL61, zL62, zL63, zL64, zL65, zL66, zL80, zL99, zL100, zL120, zL126, zL156, zL200, zL1000, zL1404, zL1560, zLm, zI_neg, zI_add, zI_sub, zI_mul]
      rw [ite_n (show ¬ (zI 16 ≤ zI (i : Int)) by rw [zI_le (by omega)]; omega)]
      rw [mX10_at hx hq hi, Option.bind_some, zI_add]) (by
      intro i v hi hv
      try dsimp only
      have hb := dZ_b hR hq hi
      omega)
  unfold fX10_sumOf
  rw [key, Option.bind_some]
theorem mX10_sumOfMaster {Z : Nat → Int} {xs : Nat → Int32} (hx : MoS Z 0 xs) (hR : Rg Z) {c : Nat} (hc : c < 3) : fX10_sumOfMaster xs (zI c) = some (zI (smZ Z c)) := by
  have key : fX10_sumOfMaster_L4 xs (zI c) 2000 0 0 = some (zI (smZ Z c)) := acc16 (fun n v i => fX10_sumOfMaster_L4 xs (zI c) n v i) (fun i v => v + mZ Z c i) (by
      intro n v
      try dsimp only
      rw [fX10_sumOfMaster_L4]
      exact ite_t (by decide)) (by
      intro n i v hi hv
      try dsimp only
      have hb := mZ_b hR hc hi
      rw [fX10_sumOfMaster_L4]
      simp only [zL0, zL1, zL2, zL3, zL5, zL6, zL7, zL8, zL9, zL10, zL15, zL16, zL18, zL20, zL30, zL31, zL33, zL48, zL49, zL50, zL51, zL52, zL53, zL54, zL55, zL56, zL57, zL58, zL59, zL60, zL61, zL62, zL63, zL64, zL65, zL66, zL80, zL99, zL100, zL120, zL126, zL156, zL200, zL1000, zL1404, zL1560, zLm, zI_neg, zI_add, zI_sub, zI_mul]
      rw [ite_n (show ¬ (zI 16 ≤ zI (i : Int)) by rw [zI_le (by omega)]; omega)]
      rw [ite_t (ixB (by omega)), hx.g (16 * c + i) (by omega) (by omega), zI_add]
      rfl) (by
      intro i v hi hv
      try dsimp only
      have hb := mZ_b hR hc hi
      omega)
  unfold fX10_sumOfMaster
  rw [key, Option.bind_some]
theorem mX10_unlike {Z : Nat → Int} {xs : Nat → Int32} (hx : MoS Z 0 xs) (hR : Rg Z) {q c : Nat} (hq : q < 5) (hc : c < 3) : fX10_unlike xs (zI q) (zI c) = some (zI (dfZ Z q c)) := by
  have key : fX10_unlike_L5 xs (zI q) (zI c) 2000 0 0 = some (zI (dfZ Z q c)) := acc16 (fun n v i => fX10_unlike_L5 xs (zI q) (zI c) n v i) (fun i v => v + max (dZ Z q i - mZ Z c i) (-(dZ Z q i - mZ Z c i))) (by
      intro n v
      try dsimp only
      rw [fX10_unlike_L5]
      exact ite_t (by decide)) (by
      intro n i v hi hv
      try dsimp only
      have ha := mZ_b hR hc hi; have hb := dZ_b hR hq hi
      rw [fX10_unlike_L5]
      simp only [zL0, zL1, zL2, zL3, zL5, zL6, zL7, zL8, zL9, zL10, zL15, zL16, zL18, zL20, zL30, zL31, zL33, zL48, zL49, zL50, zL51, zL52, zL53, zL54, zL55, zL56, zL57, zL58, zL59, zL60, zL61, zL62, zL63, zL64, zL65, zL66, zL80, zL99, zL100, zL120, zL126, zL156, zL200, zL1000, zL1404, zL1560, zLm, zI_neg, zI_add, zI_sub, zI_mul]
      rw [ite_n (show ¬ (zI 16 ≤ zI (i : Int)) by rw [zI_le (by omega)]; omega)]
      rw [mX10_at hx hq hi, Option.bind_some, ite_t (ixB (by omega)), hx.g (16 * c + i) (by omega) (by omega)]
      simp only [zL0, zL1, zL2, zL3, zL5, zL6, zL7, zL8, zL9, zL10, zL15, zL16, zL18, zL20, zL30, zL31, zL33, zL48, zL49, zL50, zL51, zL52, zL53, zL54, zL55, zL56, zL57, zL58, zL59, zL60, zL61, zL62, zL63, zL64, zL65, zL66, zL80, zL99, zL100, zL120, zL126, zL156, zL200, zL1000, zL1404, zL1560, zLm, zI_neg, zI_add, zI_sub, zI_mul]
      rw [zi_le (by unfold mZ at *; omega)]
      show (if 0 ≤ dZ Z q i - mZ Z c i then _ else _) = _
      by_cases h : 0 ≤ dZ Z q i - mZ Z c i
      · rw [ite_t h, Int.max_eq_left (by omega)]
        rfl
      · rw [ite_n h, Int.max_eq_right (by omega)]
        rfl) (by
      intro i v hi hv
      try dsimp only
      have ha := mZ_b hR hc hi; have hb := dZ_b hR hq hi
      omega)
  unfold fX10_unlike
  rw [key, Option.bind_some]
theorem mX10_faults {Z : Nat → Int} {xs : Nat → Int32} (hx : MoS Z 0 xs) (hR : Rg Z) {q : Nat} (hq : q < 5) : fX10_faults xs (zI q) = some (zI (faZ Z q)) := by
  have key : fX10_faults_L4 xs (zI q) 2000 0 0 = some (zI (faZ Z q)) := acc16 (fun n v i => fX10_faults_L4 xs (zI q) n v i) (fun i v => if max (dZ Z q i - mZ Z (Z 48).toNat i) (-(dZ Z q i - mZ Z (Z 48).toNat i)) ≤ Z 56 then v else v + 1) (by
      intro n v
      try dsimp only
      rw [fX10_faults_L4]
      exact ite_t (by decide)) (by
      intro n i v hi hv
      try dsimp only
      have hc9 := chN hR; have ha := mZ_b hR hc9.2 hi; have hb := dZ_b hR hq hi; have ht := hR.to
      rw [fX10_faults_L4]
      simp only [zL0, zL1, zL2, zL3, zL5, zL6, zL7, zL8, zL9, zL10, zL15, zL16, zL18, zL20, zL30, zL31, zL33, zL48, zL49, zL50, zL51, zL52, zL53, zL54, zL55, zL56, zL57, zL58, zL59, zL60, zL61, zL62, zL63, zL64, zL65, zL66, zL80, zL99, zL100, zL120, zL126, zL156, zL200, zL1000, zL1404, zL1560, zLm, zI_neg, zI_add, zI_sub, zI_mul]
      rw [ite_n (show ¬ (zI 16 ≤ zI (i : Int)) by rw [zI_le (by omega)]; omega)]
      rw [mX10_at hx hq hi, Option.bind_some, mX10_masterOf hx hR hi, Option.bind_some, hx.g 56 (by omega) (by omega)]
      simp only [zL0, zL1, zL2, zL3, zL5, zL6, zL7, zL8, zL9, zL10, zL15, zL16, zL18, zL20, zL30, zL31, zL33, zL48, zL49, zL50, zL51, zL52, zL53, zL54, zL55, zL56, zL57, zL58, zL59, zL60, zL61, zL62, zL63, zL64, zL65, zL66, zL80, zL99, zL100, zL120, zL126, zL156, zL200, zL1000, zL1404, zL1560, zLm, zI_neg, zI_add, zI_sub, zI_mul]
      rw [zi_lt (by omega), zi_le (by omega)]
      by_cases h1 : Z 56 < dZ Z q i - mZ Z (Z 48).toNat i
      · rw [ite_t h1, ite_n (c := max _ _ ≤ _) (by omega)]
      · rw [ite_n h1]
        by_cases h2 : -(dZ Z q i - mZ Z (Z 48).toNat i) ≤ Z 56
        · rw [ite_t h2, ite_t (c := max _ _ ≤ _) (by omega), Int.add_zero]
        · rw [ite_n h2, ite_n (c := max _ _ ≤ _) (by omega)]) (by
      intro i v hi hv
      try dsimp only
      have hc9 := chN hR; have ha := mZ_b hR hc9.2 hi; have hb := dZ_b hR hq hi; have ht := hR.to
      split <;> omega)
  unfold fX10_faults
  rw [key, Option.bind_some]
theorem mX10_lost {Z : Nat → Int} {xs : Nat → Int32} (hx : MoS Z 0 xs) (hR : Rg Z) : fX10_lost xs = some (zI (loZ Z)) := by
  have key : fX10_lost_L4 xs 2000 0 0 = some (zI (loZ Z)) := acc16 (fun n v i => fX10_lost_L4 xs n v i) (fun i v => if rdZ Z i ≤ mZ Z (Z 48).toNat i then v else v + 1) (by
      intro n v
      try dsimp only
      rw [fX10_lost_L4]
      exact ite_t (by decide)) (by
      intro n i v hi hv
      try dsimp only
      have hc := chN hR; have ha := mZ_b hR hc.2 hi; have hb := rdZ_b hR (k := i)
      rw [fX10_lost_L4]
      simp only [zL0, zL1, zL2, zL3, zL5, zL6, zL7, zL8, zL9, zL10, zL15, zL16, zL18, zL20, zL30, zL31, zL33, zL48, zL49, zL50, zL51, zL52, zL53, zL54, zL55, zL56, zL57, zL58, zL59, zL60, zL61, zL62, zL63, zL64, zL65, zL66, zL80, zL99, zL100, zL120, zL126, zL156, zL200, zL1000, zL1404, zL1560, zLm, zI_neg, zI_add, zI_sub, zI_mul]
      rw [ite_n (show ¬ (zI 16 ≤ zI (i : Int)) by rw [zI_le (by omega)]; omega)]
      rw [mX10_reading hx hR hi, Option.bind_some, mX10_masterOf hx hR hi, Option.bind_some, zi_le (by omega), Int.add_zero]
      split <;> rfl) (by
      intro i v hi hv
      try dsimp only
      have hc := chN hR; have ha := mZ_b hR hc.2 hi; have hb := rdZ_b hR (k := i)
      split <;> omega)
  unfold fX10_lost
  rw [key, Option.bind_some]
theorem mX10_worst {Z : Nat → Int} {xs : Nat → Int32} (hx : MoS Z 0 xs) (hR : Rg Z) {q : Nat} (hq : q < 5) {s : Int} (hs : s = 1 ∨ s = -1) : fX10_worst xs (zI q) (zI s) = some (zI (tkZ Z q s)) := by
  have key : fX10_worst_L5 xs (zI q) (zI s) 2000 0 0 = some (zI (tkZ Z q s)) := acc16 (fun n v i => fX10_worst_L5 xs (zI q) (zI s) n v i) (fun i v => max v (s * (dZ Z q i - mZ Z (Z 48).toNat i))) (by
      intro n v
      try dsimp only
      rw [fX10_worst_L5]
      exact ite_t (by decide)) (by
      intro n i v hi hv
      try dsimp only
      have hc9 := chN hR; have ha := mZ_b hR hc9.2 hi; have hb := dZ_b hR hq hi; have hm : -200 ≤ s * (dZ Z q i - mZ Z (Z 48).toNat i) ∧ s * (dZ Z q i - mZ Z (Z 48).toNat i) ≤ 200 := by rcases hs with rfl | rfl <;> omega
      rw [fX10_worst_L5]
      simp only [zL0, zL1, zL2, zL3, zL5, zL6, zL7, zL8, zL9, zL10, zL15, zL16, zL18, zL20, zL30, zL31, zL33, zL48, zL49, zL50, zL51, zL52, zL53, zL54, zL55, zL56, zL57, zL58, zL59, zL60, zL61, zL62, zL63, zL64, zL65, zL66, zL80, zL99, zL100, zL120, zL126, zL156, zL200, zL1000, zL1404, zL1560, zLm, zI_neg, zI_add, zI_sub, zI_mul]
      rw [ite_n (show ¬ (zI 16 ≤ zI (i : Int)) by rw [zI_le (by omega)]; omega)]
      rw [mX10_at hx hq hi, Option.bind_some, mX10_masterOf hx hR hi, Option.bind_some]
      simp only [zL0, zL1, zL2, zL3, zL5, zL6, zL7, zL8, zL9, zL10, zL15, zL16, zL18, zL20, zL30, zL31, zL33, zL48, zL49, zL50, zL51, zL52, zL53, zL54, zL55, zL56, zL57, zL58, zL59, zL60, zL61, zL62, zL63, zL64, zL65, zL66, zL80, zL99, zL100, zL120, zL126, zL156, zL200, zL1000, zL1404, zL1560, zLm, zI_neg, zI_add, zI_sub, zI_mul]
      rw [zi_le (by omega)]
      by_cases h : s * (dZ Z q i - mZ Z (Z 48).toNat i) ≤ v
      · rw [ite_t h, Int.max_eq_left h]
      · rw [ite_n h, Int.max_eq_right (by omega)]) (by
      intro i v hi hv
      try dsimp only
      have hc9 := chN hR; have ha := mZ_b hR hc9.2 hi; have hb := dZ_b hR hq hi; have hm : -200 ≤ s * (dZ Z q i - mZ Z (Z 48).toNat i) ∧ s * (dZ Z q i - mZ Z (Z 48).toNat i) ≤ 200 := by rcases hs with rfl | rfl <;> omega
      omega)
  unfold fX10_worst
  rw [key, Option.bind_some]
