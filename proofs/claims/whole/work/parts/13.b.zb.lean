/-! the class's small readers -/
theorem zcX6_at {md : Nat → Int32} {Z : Nat → Int} (hmd : ∀ j : Nat, j < 48 → md j = zI (Z j)) {c k : Nat} (hc : c < 3) (hk : k < 16) : fX6_at md (zI c) (zI k) = some (zI (mZ Z c k)) := by
  unfold fX6_at mZ
  simp only [zL0, zL1, zL2, zL3, zL5, zL6, zL7, zL8, zL9, zL10, zL15, zL16, zL18, zL20, zL30, zL31, zL33, zL48, zL49, zL50, zL51, zL52, zL53, zL54, zL55, zL56, zL57, zL58, zL59, zL60, zL61, zL62, zL63, zL64, zL65, zL66, zL80, zL99, zL100, zL120, zL126, zL156, zL200, zL1000, zL1404, zL1560, zLm, zI_neg, zI_add, zI_sub, zI_mul]
  simp (disch := omega) only [zI_le, zI_lt, zI_eq, zI_cl]
  rw [ite_n (by omega), ite_n (by omega), show ((c : Int) * 16 + k).toNat = 16 * c + k by omega, hmd _ (by omega)]
theorem zcX8_at {rf : Nat → Int32} {ln : Nat} (hl : ln < 2147483648) {k : Nat} (hk : k < ln) : fX8_at ln rf (zI k) = some (rf k) := by
  unfold fX8_at
  rw [show Int32.ofNat ln = zI (ln : Int) from nI_zI ln]
  simp only [zL0, zL1, zL2, zL3, zL5, zL6, zL7, zL8, zL9, zL10, zL15, zL16, zL18, zL20, zL30, zL31, zL33, zL48, zL49, zL50, zL51, zL52, zL53, zL54, zL55, zL56, zL57, zL58, zL59, zL60, zL61, zL62, zL63, zL64, zL65, zL66, zL80, zL99, zL100, zL120, zL126, zL156, zL200, zL1000, zL1404, zL1560, zLm, zI_neg, zI_add, zI_sub, zI_mul]
  simp (disch := omega) only [zI_le, zI_lt, zI_eq, zI_cl]
  rw [ite_n (by omega), ite_n (by omega), show ((k : Int)).toNat = k by omega]
theorem zcX8_put {rf : Nat → Int32} {ln : Nat} (hl : ln < 2147483648) {k : Nat} (hk : k < ln) (v : Int32) : fX8_put ln rf (zI k) v = some (upd rf k v) := by
  unfold fX8_put
  rw [show Int32.ofNat ln = zI (ln : Int) from nI_zI ln]
  simp only [zL0, zL1, zL2, zL3, zL5, zL6, zL7, zL8, zL9, zL10, zL15, zL16, zL18, zL20, zL30, zL31, zL33, zL48, zL49, zL50, zL51, zL52, zL53, zL54, zL55, zL56, zL57, zL58, zL59, zL60, zL61, zL62, zL63, zL64, zL65, zL66, zL80, zL99, zL100, zL120, zL126, zL156, zL200, zL1000, zL1404, zL1560, zLm, zI_neg, zI_add, zI_sub, zI_mul]
  simp (disch := omega) only [zI_le, zI_lt, zI_eq, zI_cl]
  rw [ite_n (by omega), ite_n (by omega), show ((k : Int)).toNat = k by omega]
theorem zcX8_add {rf : Nat → Int32} {ln : Nat} (hl : ln < 2147483648) {k : Nat} (hk : k < ln) (v : Int32) : fX8_add ln rf (zI k) v = some (upd rf k (rf k + v)) := by
  unfold fX8_add
  rw [zcX8_at hl hk, Option.bind_some, zcX8_put hl hk, Option.bind_some]
def rdO (Z : Nat → Int) (rd : Nat → Int32) : Prop := ∀ q k : Nat, q < 5 → k < 16 → rd (16 * q + k) = zI (dZ Z q k)
theorem zcX7_at {rd : Nat → Int32} {Z : Nat → Int} (hrd : rdO Z rd) {q k : Nat} (hq : q < 5) (hk : k < 16) : fX7_at rd (zI q) (zI k) = some (zI (dZ Z q k)) := by
  unfold fX7_at
  simp only [zL0, zL1, zL2, zL3, zL5, zL6, zL7, zL8, zL9, zL10, zL15, zL16, zL18, zL20, zL30, zL31, zL33, zL48, zL49, zL50, zL51, zL52, zL53, zL54, zL55, zL56, zL57, zL58, zL59, zL60, zL61, zL62, zL63, zL64, zL65, zL66, zL80, zL99, zL100, zL120, zL126, zL156, zL200, zL1000, zL1404, zL1560, zLm, zI_neg, zI_add, zI_sub, zI_mul]
  rw [show ((q : Int) * 16 + k) = ((16 * q + k : Nat) : Int) by omega, zcX8_at (by omega) (by omega), Option.bind_some, hrd q k hq hk]
/-! reading -/
theorem zcX4_reading {md : Nat → Int32} {Z : Nat → Int} (hmd : ∀ j : Nat, j < 48 → md j = zI (Z j)) (hR : Rg Z) {k : Nat} (hk : k < 16) : fX4_reading md (zI (Z 48)) (zI (Z 49)) (zI k) = some (zI (rdZ Z k)) := by
  obtain ⟨c, hc⟩ : ∃ c : Nat, Z 48 = c := ⟨(Z 48).toNat, by have := hR.ch; omega⟩
  obtain ⟨r, hr⟩ : ∃ r : Nat, Z 49 = r := ⟨(Z 49).toNat, by have := hR.ra; omega⟩
  have h1 := hR.ch
  have h2 := hR.ra
  have hW : isMx (mZ Z c) (win r k) (rdZ Z k) := by
    have := rdZ_is Z k
    rw [hc, hr] at this
    exact this
  unfold fX4_reading
  rw [hc, hr] at *
  simp only [zL0, zL1, zL2, zL3, zL5, zL6, zL7, zL8, zL9, zL10, zL15, zL16, zL18, zL20, zL30, zL31, zL33, zL48, zL49, zL50, zL51, zL52, zL53, zL54, zL55, zL56, zL57, zL58, zL59, zL60, zL61, zL62, zL63, zL64, zL65, zL66, zL80, zL99, zL100, zL120, zL126, zL156, zL200, zL1000, zL1404, zL1560, zLm, zI_neg, zI_add, zI_sub, zI_mul]
  rw [zI_mn (by omega), zI_mx (by omega)]
  have key := loopG (S := Int) (L := fun n i v => fX4_reading_L32 md (zI c) (zI (min 15 ((k : Int) + r))) n (zI v) (zI i)) (g := fun i v => max v (mZ Z c i)) (N := min 15 (k + r) + 1) (P := fun i v => isMx (mZ Z c) (fun j => win r k j ∧ j < i) v ∧ v ≤ 99 ∧ k ≤ i + r) (out := zI) (by
      intro n v hp
      try dsimp only
      rw [fX4_reading_L32]
      simp (disch := omega) only [zI_le, zI_lt, zI_eq, zI_cl]
      rw [ite_t (by omega)]) (by
      intro n i v hi hp
      try dsimp only
      have hv := hp.1.1
      have hm := hR.md (j := 16 * c + i) (by omega)
      rw [fX4_reading_L32]
      simp only [zL0, zL1, zL2, zL3, zL5, zL6, zL7, zL8, zL9, zL10, zL15, zL16, zL18, zL20, zL30, zL31, zL33, zL48, zL49, zL50, zL51, zL52, zL53, zL54, zL55, zL56, zL57, zL58, zL59, zL60, zL61, zL62, zL63, zL64, zL65, zL66, zL80, zL99, zL100, zL120, zL126, zL156, zL200, zL1000, zL1404, zL1560, zLm, zI_neg, zI_add, zI_sub, zI_mul]
      simp (disch := omega) only [zI_le, zI_lt, zI_eq, zI_cl]
      rw [ite_n (by omega), zcX6_at hmd (by omega) (by omega), Option.bind_some, zI_mx (by unfold mZ; omega)]
      rfl) (by
      intro i v hi hp
      have hm := hR.md (j := 16 * c + i) (by omega)
      refine ⟨hp.1.step (by omega) (fun j hj => ?_), by unfold mZ; omega, by omega⟩
      unfold win
      constructor
      · rintro ⟨a, b⟩
        by_cases e : j = i
        · exact Or.inr e
        · exact Or.inl ⟨a, by omega⟩
      · rintro (⟨a, b⟩ | rfl)
        · exact ⟨a, by omega⟩
        · exact ⟨by omega, by omega⟩)
  obtain ⟨e1, e2⟩ := key (min 15 (k + r) + 1 - (k - r)) (k - r) 2000 0 (by omega) (by omega) ⟨⟨by omega, fun j hj hw => absurd hw.1 (by unfold win; omega), Or.inl rfl⟩, by omega, by omega⟩
  try dsimp only at e1
  rw [show (max 0 ((k : Int) - r)) = ((k - r : Nat) : Int) by omega, e1, Option.bind_some]
  rw [isMx.uniq (e2.1.congr (W' := win r k) (fun j hj => by unfold win; omega)) hW]
theorem tg_b {Z : Nat → Int} (hR : Rg Z) (k : Nat) : 1 ≤ max 1 (rdZ Z k - Z 50 + Z 52) ∧ max 1 (rdZ Z k - Z 50 + Z 52) ≤ 104 := by
  have := rdZ_b hR (k := k)
  have := hR.we
  have := hR.of
  omega
def tgZ (Z : Nat → Int) (k : Nat) : Int := max 1 (rdZ Z k - Z 50 + Z 52)
theorem tgZ_b {Z : Nat → Int} (hR : Rg Z) (k : Nat) : 1 ≤ tgZ Z k ∧ tgZ Z k ≤ 104 := tg_b hR k
theorem zcX4_target {md : Nat → Int32} {Z : Nat → Int} (hmd : ∀ j : Nat, j < 48 → md j = zI (Z j)) (hR : Rg Z) {k : Nat} (hk : k < 16) : fX4_target md (zI (Z 48)) (zI (Z 49)) (zI (Z 50)) (zI (Z 52)) (zI k) = some (zI (tgZ Z k)) := by
  have := rdZ_b hR (k := k)
  have := hR.we
  have := hR.of
  unfold fX4_target
  rw [zcX4_reading hmd hR hk, Option.bind_some]
  simp only [zL0, zL1, zL2, zL3, zL5, zL6, zL7, zL8, zL9, zL10, zL15, zL16, zL18, zL20, zL30, zL31, zL33, zL48, zL49, zL50, zL51, zL52, zL53, zL54, zL55, zL56, zL57, zL58, zL59, zL60, zL61, zL62, zL63, zL64, zL65, zL66, zL80, zL99, zL100, zL120, zL126, zL156, zL200, zL1000, zL1404, zL1560, zLm, zI_neg, zI_add, zI_sub, zI_mul]
  rw [zI_mx (by omega)]
  rfl
def abZ (Z : Nat → Int) (q k : Nat) : Int := max 0 (dZ Z q k - tgZ Z k)
theorem abZ_b {Z : Nat → Int} (hR : Rg Z) {q k : Nat} (hq : q < 5) (hk : k < 16) : 0 ≤ abZ Z q k ∧ abZ Z q k ≤ 119 ∧ abZ Z q k ≤ dZ Z q k := by
  have := hR.di hq hk
  have := tgZ_b hR k
  unfold abZ dZ
  omega
theorem zcX4_above {md rd : Nat → Int32} {Z : Nat → Int} (hmd : ∀ j : Nat, j < 48 → md j = zI (Z j)) (hrd : rdO Z rd) (hR : Rg Z) {q k : Nat} (hq : q < 5) (hk : k < 16) : fX4_above md (zI (Z 48)) (zI (Z 49)) (zI (Z 50)) (zI (Z 52)) rd (zI q) (zI k) = some (zI (abZ Z q k)) := by
  have := hR.di hq hk
  have := tgZ_b hR k
  unfold fX4_above
  rw [zcX7_at hrd hq hk, Option.bind_some, zcX4_target hmd hR hk, Option.bind_some]
  simp only [zL0, zL1, zL2, zL3, zL5, zL6, zL7, zL8, zL9, zL10, zL15, zL16, zL18, zL20, zL30, zL31, zL33, zL48, zL49, zL50, zL51, zL52, zL53, zL54, zL55, zL56, zL57, zL58, zL59, zL60, zL61, zL62, zL63, zL64, zL65, zL66, zL80, zL99, zL100, zL120, zL126, zL156, zL200, zL1000, zL1404, zL1560, zLm, zI_neg, zI_add, zI_sub, zI_mul]
  rw [zI_mx (by unfold dZ; omega)]
  rfl
/-! folds over the 16 steps -/
theorem acc16 (L : Nat → Int32 → Int32 → Option Int32) (g : Nat → Int → Int)
    (h0 : ∀ n v, L (n + 1) v 16 = some v)
    (hs : ∀ (n i : Nat) (v : Int), i < 16 → -(2000 * (i : Int)) ≤ v ∧ v ≤ 2000 * i → L (n + 1) (zI v) (zI i) = L n (zI (g i v)) (zI ((i : Int) + 1)))
    (hb : ∀ (i : Nat) (v : Int), i < 16 → -(2000 * (i : Int)) ≤ v ∧ v ≤ 2000 * i → -(2000 * ((i : Int) + 1)) ≤ g i v ∧ g i v ≤ 2000 * ((i : Int) + 1)) : L 2000 0 0 = some (zI (zit g 0 16 0)) := by
  have key := loopG (S := Int) (L := fun n i v => L n (zI v) (zI i)) (g := g) (N := 16) (P := fun i v => -(2000 * (i : Int)) ≤ v ∧ v ≤ 2000 * i) (out := zI) (by
      intro n v hp
      exact h0 n (zI v)) (fun n i v hi hp => hs n i v hi hp) (by
      intro i v hi hp
      have := hb i v hi hp
      omega)
  exact (key 16 0 2000 0 rfl (by omega) ⟨by omega, by omega⟩).1
def moZ (Z : Nat → Int) (q : Nat) : Int := zit (fun i v => max v (abZ Z q i)) 0 16 0
def alZ (Z : Nat → Int) (q : Nat) : Int := zit (fun i v => v + abZ Z q i) 0 16 0
def smZ (Z : Nat → Int) (c : Nat) : Int := zit (fun i v => v + mZ Z c i) 0 16 0
def gmZ (Z : Nat → Int) (c : Nat) : Int := zit (fun i v => max v (mZ Z c i)) 0 16 0
def sdZ (Z : Nat → Int) (q : Nat) : Int := zit (fun i v => v + dZ Z q i) 0 16 0
def dfZ (Z : Nat → Int) (q c : Nat) : Int := zit (fun i v => v + max (dZ Z q i - mZ Z c i) (-(dZ Z q i - mZ Z c i))) 0 16 0
def faZ (Z : Nat → Int) (q : Nat) : Int := zit (fun i v => if max (dZ Z q i - mZ Z (Z 48).toNat i) (-(dZ Z q i - mZ Z (Z 48).toNat i)) ≤ Z 56 then v else v + 1) 0 16 0
def loZ (Z : Nat → Int) : Int := zit (fun i v => if rdZ Z i ≤ mZ Z (Z 48).toNat i then v else v + 1) 0 16 0
def tkZ (Z : Nat → Int) (q : Nat) (s : Int) : Int := zit (fun i v => max v (s * (dZ Z q i - mZ Z (Z 48).toNat i))) 0 16 0
theorem mZ_b {Z : Nat → Int} (hR : Rg Z) {c i : Nat} (hc : c < 3) (hi : i < 16) : 5 ≤ mZ Z c i ∧ mZ Z c i ≤ 99 := hR.md (by omega)
theorem dZ_b {Z : Nat → Int} (hR : Rg Z) {q i : Nat} (hq : q < 5) (hi : i < 16) : 0 ≤ dZ Z q i ∧ dZ Z q i ≤ 120 := ⟨(hR.di hq hi).1, (hR.di hq hi).2.1⟩
theorem chN {Z : Nat → Int} (hR : Rg Z) : (((Z 48).toNat : Nat) : Int) = Z 48 ∧ (Z 48).toNat < 3 := by have := hR.ch; omega
theorem zcX4_mostAbove {md rd : Nat → Int32} {Z : Nat → Int} (hmd : ∀ j : Nat, j < 48 → md j = zI (Z j)) (hrd : rdO Z rd) (hR : Rg Z) {q : Nat} (hq : q < 5) : fX4_mostAbove md (zI (Z 48)) (zI (Z 49)) (zI (Z 50)) (zI (Z 52)) rd (zI q) = some (zI (moZ Z q)) := by
  have key : fX4_mostAbove_L4 md (zI (Z 48)) (zI (Z 49)) (zI (Z 50)) (zI (Z 52)) rd (zI q) 2000 0 0 = some (zI (moZ Z q)) := acc16 (fun n v i => fX4_mostAbove_L4 md (zI (Z 48)) (zI (Z 49)) (zI (Z 50)) (zI (Z 52)) rd (zI q) n v i) (fun i v => max v (abZ Z q i)) (by
      intro n v
      try dsimp only
      rw [fX4_mostAbove_L4]
      exact ite_t (by decide)) (by
      intro n i v hi hv
      try dsimp only
      have ha := abZ_b hR hq hi
      rw [fX4_mostAbove_L4]
      simp only [zL0, zL1, zL2, zL3, zL5, zL6, zL7, zL8, zL9, zL10, zL15, zL16, zL18, zL20, zL30, zL31, zL33, zL48, zL49, zL50, zL51, zL52, zL53, zL54, zL55, zL56, zL57, zL58, zL59, zL60, zL61, zL62, zL63, zL64, zL65, zL66, zL80, zL99, zL100, zL120, zL126, zL156, zL200, zL1000, zL1404, zL1560, zLm, zI_neg, zI_add, zI_sub, zI_mul]
      rw [ite_n (show ¬ (zI 16 ≤ zI (i : Int)) by rw [zI_le (by omega)]; omega), zcX4_above hmd hrd hR hq hi, Option.bind_some, zI_mx (by omega)]) (by
      intro i v hi hv
      try dsimp only
      have ha := abZ_b hR hq hi
      omega)
  unfold fX4_mostAbove
  rw [key, Option.bind_some]
theorem zcX4_allAbove {md rd : Nat → Int32} {Z : Nat → Int} (hmd : ∀ j : Nat, j < 48 → md j = zI (Z j)) (hrd : rdO Z rd) (hR : Rg Z) {q : Nat} (hq : q < 5) : fX4_allAbove md (zI (Z 48)) (zI (Z 49)) (zI (Z 50)) (zI (Z 52)) rd (zI q) = some (zI (alZ Z q)) := by
  have key : fX4_allAbove_L4 md (zI (Z 48)) (zI (Z 49)) (zI (Z 50)) (zI (Z 52)) rd (zI q) 2000 0 0 = some (zI (alZ Z q)) := acc16 (fun n v i => fX4_allAbove_L4 md (zI (Z 48)) (zI (Z 49)) (zI (Z 50)) (zI (Z 52)) rd (zI q) n v i) (fun i v => v + abZ Z q i) (by
      intro n v
      try dsimp only
      rw [fX4_allAbove_L4]
      exact ite_t (by decide)) (by
      intro n i v hi hv
      try dsimp only
      have ha := abZ_b hR hq hi
      rw [fX4_allAbove_L4]
      simp only [zL0, zL1, zL2, zL3, zL5, zL6, zL7, zL8, zL9, zL10, zL15, zL16, zL18, zL20, zL30, zL31, zL33, zL48, zL49, zL50, zL51, zL52, zL53, zL54, zL55, zL56, zL57, zL58, zL59, zL60, zL61, zL62, zL63, zL64, zL65, zL66, zL80, zL99, zL100, zL120, zL126, zL156, zL200, zL1000, zL1404, zL1560, zLm, zI_neg, zI_add, zI_sub, zI_mul]
      rw [ite_n (show ¬ (zI 16 ≤ zI (i : Int)) by rw [zI_le (by omega)]; omega), zcX4_above hmd hrd hR hq hi, Option.bind_some, zI_add]) (by
      intro i v hi hv
      try dsimp only
      have ha := abZ_b hR hq hi
      omega)
  unfold fX4_allAbove
  rw [key, Option.bind_some]
theorem zcX6_sumOf {md : Nat → Int32} {Z : Nat → Int} (hmd : ∀ j : Nat, j < 48 → md j = zI (Z j)) (hR : Rg Z) {c : Nat} (hc : c < 3) : fX6_sumOf md (zI c) = some (zI (smZ Z c)) := by
  have key : fX6_sumOf_L4 md (zI c) 2000 0 0 = some (zI (smZ Z c)) := acc16 (fun n v i => fX6_sumOf_L4 md (zI c) n v i) (fun i v => v + mZ Z c i) (by
      intro n v
      try dsimp only
      rw [fX6_sumOf_L4]
      exact ite_t (by decide)) (by
      intro n i v hi hv
      try dsimp only
      have ha := mZ_b hR hc hi
      rw [fX6_sumOf_L4]
      simp only [zL0, zL1, zL2, zL3, zL5, zL6, zL7, zL8, zL9, zL10, zL15, zL16, zL18, zL20, zL30, zL31, zL33, zL48, zL49, zL50, zL51, zL52, zL53, zL54, zL55, zL56, zL57, zL58, zL59, zL60, zL61, zL62, zL63, zL64, zL65, zL66, zL80, zL99, zL100, zL120, zL126, zL156, zL200, zL1000, zL1404, zL1560, zLm, zI_neg, zI_add, zI_sub, zI_mul]
      rw [ite_n (show ¬ (zI 16 ≤ zI (i : Int)) by rw [zI_le (by omega)]; omega), zcX6_at hmd hc hi, Option.bind_some, zI_add]) (by
      intro i v hi hv
      try dsimp only
      have ha := mZ_b hR hc hi
      omega)
  unfold fX6_sumOf
  rw [key, Option.bind_some]
theorem zcX6_greatestOf {md : Nat → Int32} {Z : Nat → Int} (hmd : ∀ j : Nat, j < 48 → md j = zI (Z j)) (hR : Rg Z) {c : Nat} (hc : c < 3) : fX6_greatestOf md (zI c) = some (zI (gmZ Z c)) := by
  have key : fX6_greatestOf_L4 md (zI c) 2000 0 0 = some (zI (gmZ Z c)) := acc16 (fun n v i => fX6_greatestOf_L4 md (zI c) n v i) (fun i v => max v (mZ Z c i)) (by
      intro n v
      try dsimp only
      rw [fX6_greatestOf_L4]
      exact ite_t (by decide)) (by
      intro n i v hi hv
      try dsimp only
      have ha := mZ_b hR hc hi
      rw [fX6_greatestOf_L4]
      simp only [zL0, zL1, zL2, zL3, zL5, zL6, zL7, zL8, zL9, zL10, zL15, zL16, zL18, zL20, zL30, zL31, zL33, zL48, zL49, zL50, zL51, zL52, zL53, zL54, zL55, zL56, zL57, zL58, zL59, zL60, zL61, zL62, zL63, zL64, zL65, zL66, zL80, zL99, zL100, zL120, zL126, zL156, zL200, zL1000, zL1404, zL1560, zLm, zI_neg, zI_add, zI_sub, zI_mul]
      rw [ite_n (show ¬ (zI 16 ≤ zI (i : Int)) by rw [zI_le (by omega)]; omega), zcX6_at hmd hc hi, Option.bind_some, zI_mx (by omega)]) (by
      intro i v hi hv
      try dsimp only
      have ha := mZ_b hR hc hi
      omega)
  unfold fX6_greatestOf
  rw [key, Option.bind_some]
theorem zcX7_sumOf {rd : Nat → Int32} {Z : Nat → Int} (hrd : rdO Z rd) (hR : Rg Z) {q : Nat} (hq : q < 5) : fX7_sumOf rd (zI q) = some (zI (sdZ Z q)) := by
  have key : fX7_sumOf_L4 rd (zI q) 2000 0 0 = some (zI (sdZ Z q)) := acc16 (fun n v i => fX7_sumOf_L4 rd (zI q) n v i) (fun i v => v + dZ Z q i) (by
      intro n v
      try dsimp only
      rw [fX7_sumOf_L4]
      exact ite_t (by decide)) (by
      intro n i v hi hv
      try dsimp only
      have ha := dZ_b hR hq hi
      rw [fX7_sumOf_L4]
      simp only [zL0, zL1, zL2, zL3, zL5, zL6, zL7, zL8, zL9, zL10, zL15, zL16, zL18, zL20, zL30, zL31, zL33, zL48, zL49, zL50, zL51, zL52, zL53, zL54, zL55, zL56, zL57, zL58, zL59, zL60, zL61, zL62, zL63, zL64, zL65, zL66, zL80, zL99, zL100, zL120, zL126, zL156, zL200, zL1000, zL1404, zL1560, zLm, zI_neg, zI_add, zI_sub, zI_mul]
      rw [ite_n (show ¬ (zI 16 ≤ zI (i : Int)) by rw [zI_le (by omega)]; omega), zcX7_at hrd hq hi, Option.bind_some, zI_add]) (by
      intro i v hi hv
      try dsimp only
      have ha := dZ_b hR hq hi
      omega)
  unfold fX7_sumOf
  rw [key, Option.bind_some]
theorem zcX4_difference {md rd : Nat → Int32} {Z : Nat → Int} (hmd : ∀ j : Nat, j < 48 → md j = zI (Z j)) (hrd : rdO Z rd) (hR : Rg Z) {q c i : Nat} (hq : q < 5) (hc : c < 3) (hi : i < 16) : fX4_difference md rd (zI q) (zI c) (zI i) = some (zI (dZ Z q i - mZ Z c i)) := by
  unfold fX4_difference
  rw [zcX7_at hrd hq hi, Option.bind_some, zcX6_at hmd hc hi, Option.bind_some, zI_sub]
theorem zcX4_differences {md rd : Nat → Int32} {Z : Nat → Int} (hmd : ∀ j : Nat, j < 48 → md j = zI (Z j)) (hrd : rdO Z rd) (hR : Rg Z) {q c : Nat} (hq : q < 5) (hc : c < 3) : fX4_differences md rd (zI q) (zI c) = some (zI (dfZ Z q c)) := by
  have key : fX4_differences_L5 md rd (zI q) (zI c) 2000 0 0 = some (zI (dfZ Z q c)) := acc16 (fun n v i => fX4_differences_L5 md rd (zI q) (zI c) n v i) (fun i v => v + max (dZ Z q i - mZ Z c i) (-(dZ Z q i - mZ Z c i))) (by
      intro n v
      try dsimp only
      rw [fX4_differences_L5]
      exact ite_t (by decide)) (by
      intro n i v hi hv
      try dsimp only
      have ha := mZ_b hR hc hi; have hb := dZ_b hR hq hi
      rw [fX4_differences_L5]
      simp only [zL0, zL1, zL2, zL3, zL5, zL6, zL7, zL8, zL9, zL10, zL15, zL16, zL18, zL20, zL30, zL31, zL33, zL48, zL49, zL50, zL51, zL52, zL53, zL54, zL55, zL56, zL57, zL58, zL59, zL60, zL61, zL62, zL63, zL64, zL65, zL66, zL80, zL99, zL100, zL120, zL126, zL156, zL200, zL1000, zL1404, zL1560, zLm, zI_neg, zI_add, zI_sub, zI_mul]
      rw [ite_n (show ¬ (zI 16 ≤ zI (i : Int)) by rw [zI_le (by omega)]; omega), zcX4_difference hmd hrd hR hq hc hi, Option.bind_some, zI_ab (by omega), zI_add]) (by
      intro i v hi hv
      try dsimp only
      have ha := mZ_b hR hc hi; have hb := dZ_b hR hq hi
      omega)
  unfold fX4_differences
  rw [key, Option.bind_some]
theorem zcX4_faults {md rd : Nat → Int32} {Z : Nat → Int} (hmd : ∀ j : Nat, j < 48 → md j = zI (Z j)) (hrd : rdO Z rd) (hR : Rg Z) {q : Nat} (hq : q < 5) : fX4_faults md (zI (Z 48)) rd (zI (Z 56)) (zI q) = some (zI (faZ Z q)) := by
  have key : fX4_faults_L4 md (zI (Z 48)) rd (zI (Z 56)) (zI q) 2000 0 0 = some (zI (faZ Z q)) := acc16 (fun n v i => fX4_faults_L4 md (zI (Z 48)) rd (zI (Z 56)) (zI q) n v i) (fun i v => if max (dZ Z q i - mZ Z (Z 48).toNat i) (-(dZ Z q i - mZ Z (Z 48).toNat i)) ≤ Z 56 then v else v + 1) (by
      intro n v
      try dsimp only
      rw [fX4_faults_L4]
      exact ite_t (by decide)) (by
      intro n i v hi hv
      try dsimp only
      have hc := chN hR; have ht := hR.to; have ha := mZ_b hR hc.2 hi; have hb := dZ_b hR hq hi
      rw [fX4_faults_L4]
      simp only [zL0, zL1, zL2, zL3, zL5, zL6, zL7, zL8, zL9, zL10, zL15, zL16, zL18, zL20, zL30, zL31, zL33, zL48, zL49, zL50, zL51, zL52, zL53, zL54, zL55, zL56, zL57, zL58, zL59, zL60, zL61, zL62, zL63, zL64, zL65, zL66, zL80, zL99, zL100, zL120, zL126, zL156, zL200, zL1000, zL1404, zL1560, zLm, zI_neg, zI_add, zI_sub, zI_mul]
      rw [ite_n (show ¬ (zI 16 ≤ zI (i : Int)) by rw [zI_le (by omega)]; omega), ← hc.1, zcX4_difference hmd hrd hR hq hc.2 hi, Option.bind_some, zI_ab (by omega), zi_le (by omega), hc.1]
      split <;> rfl) (by
      intro i v hi hv
      try dsimp only
      have hc := chN hR; have ht := hR.to; have ha := mZ_b hR hc.2 hi; have hb := dZ_b hR hq hi
      split <;> omega)
  unfold fX4_faults
  rw [key, Option.bind_some]
theorem zcX6_chosenAt {md : Nat → Int32} {Z : Nat → Int} (hmd : ∀ j : Nat, j < 48 → md j = zI (Z j)) (hR : Rg Z) {k : Nat} (hk : k < 16) : fX6_chosenAt md (zI (Z 48)) (zI k) = some (zI (mZ Z (Z 48).toNat k)) := by
  have hc := chN hR
  unfold fX6_chosenAt
  rw [← hc.1, zcX6_at hmd hc.2 hk, Option.bind_some, Int.toNat_natCast]
theorem zcX9_lostGrooves {md : Nat → Int32} {Z : Nat → Int} (hmd : ∀ j : Nat, j < 48 → md j = zI (Z j)) (hR : Rg Z) : fX9_lostGrooves md (zI (Z 48)) (zI (Z 49)) = some (zI (loZ Z)) := by
  have key : fX9_lostGrooves_L4 md (zI (Z 48)) (zI (Z 49)) 2000 0 0 = some (zI (loZ Z)) := acc16 (fun n v i => fX9_lostGrooves_L4 md (zI (Z 48)) (zI (Z 49)) n v i) (fun i v => if rdZ Z i ≤ mZ Z (Z 48).toNat i then v else v + 1) (by
      intro n v
      try dsimp only
      rw [fX9_lostGrooves_L4]
      exact ite_t (by decide)) (by
      intro n i v hi hv
      try dsimp only
      have hc := chN hR; have ha := mZ_b hR hc.2 hi; have hb := rdZ_b hR (k := i)
      rw [fX9_lostGrooves_L4]
      simp only [zL0, zL1, zL2, zL3, zL5, zL6, zL7, zL8, zL9, zL10, zL15, zL16, zL18, zL20, zL30, zL31, zL33, zL48, zL49, zL50, zL51, zL52, zL53, zL54, zL55, zL56, zL57, zL58, zL59, zL60, zL61, zL62, zL63, zL64, zL65, zL66, zL80, zL99, zL100, zL120, zL126, zL156, zL200, zL1000, zL1404, zL1560, zLm, zI_neg, zI_add, zI_sub, zI_mul]
      rw [ite_n (show ¬ (zI 16 ≤ zI (i : Int)) by rw [zI_le (by omega)]; omega), zcX4_reading hmd hR hi, Option.bind_some, zcX6_chosenAt hmd hR hi, Option.bind_some, zi_le (by omega)]
      split <;> rfl) (by
      intro i v hi hv
      try dsimp only
      have hc := chN hR; have ha := mZ_b hR hc.2 hi; have hb := rdZ_b hR (k := i)
      split <;> omega)
  unfold fX9_lostGrooves
  rw [key, Option.bind_some]
theorem zcX9_tooThick_L {md rd : Nat → Int32} {Z : Nat → Int} (hmd : ∀ j : Nat, j < 48 → md j = zI (Z j)) (hrd : rdO Z rd) (hR : Rg Z) {q : Nat} (hq : q < 5) : fX9_tooThick_L9 md (zI (Z 48)) rd (zI q) 2000 0 0 = some (zI (tkZ Z q 1)) := acc16 (fun n v i => fX9_tooThick_L9 md (zI (Z 48)) rd (zI q) n v i) (fun i v => max v (1 * (dZ Z q i - mZ Z (Z 48).toNat i))) (by
      intro n v
      try dsimp only
      rw [fX9_tooThick_L9]
      exact ite_t (by decide)) (by
      intro n i v hi hv
      try dsimp only
      have hc := chN hR; have ha := mZ_b hR hc.2 hi; have hb := dZ_b hR hq hi
      rw [fX9_tooThick_L9]
      simp only [zL0, zL1, zL2, zL3, zL5, zL6, zL7, zL8, zL9, zL10, zL15, zL16, zL18, zL20, zL30, zL31, zL33, zL48, zL49, zL50, zL51, zL52, zL53, zL54, zL55, zL56, zL57, zL58, zL59, zL60, zL61, zL62, zL63, zL64, zL65, zL66, zL80, zL99, zL100, zL120, zL126, zL156, zL200, zL1000, zL1404, zL1560, zLm, zI_neg, zI_add, zI_sub, zI_mul]
      rw [ite_n (show ¬ (zI 16 ≤ zI (i : Int)) by rw [zI_le (by omega)]; omega), ← hc.1, zcX4_difference hmd hrd hR hq hc.2 hi, Option.bind_some, zI_mx (by omega), hc.1]
      rw [show (1 * (dZ Z q i - mZ Z (Z 48).toNat i)) = dZ Z q i - mZ Z (Z 48).toNat i by omega]) (by
      intro i v hi hv
      try dsimp only
      have hc := chN hR; have ha := mZ_b hR hc.2 hi; have hb := dZ_b hR hq hi
      omega)
theorem zcX9_tooThin_L {md rd : Nat → Int32} {Z : Nat → Int} (hmd : ∀ j : Nat, j < 48 → md j = zI (Z j)) (hrd : rdO Z rd) (hR : Rg Z) {q : Nat} (hq : q < 5) : fX9_tooThin_L9 md (zI (Z 48)) rd (zI q) 2000 0 0 = some (zI (tkZ Z q (-1))) := acc16 (fun n v i => fX9_tooThin_L9 md (zI (Z 48)) rd (zI q) n v i) (fun i v => max v ((-1) * (dZ Z q i - mZ Z (Z 48).toNat i))) (by
      intro n v
      try dsimp only
      rw [fX9_tooThin_L9]
      exact ite_t (by decide)) (by
      intro n i v hi hv
      try dsimp only
      have hc := chN hR; have ha := mZ_b hR hc.2 hi; have hb := dZ_b hR hq hi
      rw [fX9_tooThin_L9]
      simp only [zL0, zL1, zL2, zL3, zL5, zL6, zL7, zL8, zL9, zL10, zL15, zL16, zL18, zL20, zL30, zL31, zL33, zL48, zL49, zL50, zL51, zL52, zL53, zL54, zL55, zL56, zL57, zL58, zL59, zL60, zL61, zL62, zL63, zL64, zL65, zL66, zL80, zL99, zL100, zL120, zL126, zL156, zL200, zL1000, zL1404, zL1560, zLm, zI_neg, zI_add, zI_sub, zI_mul]
      rw [ite_n (show ¬ (zI 16 ≤ zI (i : Int)) by rw [zI_le (by omega)]; omega), ← hc.1, zcX4_difference hmd hrd hR hq hc.2 hi, Option.bind_some, zI_neg, zI_mx (by omega), hc.1]
      rw [show ((-1) * (dZ Z q i - mZ Z (Z 48).toNat i)) = -(dZ Z q i - mZ Z (Z 48).toNat i) by omega]) (by
      intro i v hi hv
      try dsimp only
      have hc := chN hR; have ha := mZ_b hR hc.2 hi; have hb := dZ_b hR hq hi
      omega)
