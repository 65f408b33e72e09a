/-! bounds of the folds -/
theorem zsum_b {f : Nat → Int} {a b : Int} (h : ∀ i, i < 16 → a ≤ f i ∧ f i ≤ b) : 16 * a ≤ zit (fun i v => v + f i) 0 16 0 ∧ zit (fun i v => v + f i) 0 16 0 ≤ 16 * b := by
  have e : zit (fun i v => v + f i) 0 16 0 = 0 + f 0 + f 1 + f 2 + f 3 + f 4 + f 5 + f 6 + f 7 + f 8 + f 9 + f 10 + f 11 + f 12 + f 13 + f 14 + f 15 := rfl
  have h0 := h 0 (by omega)
  have h1 := h 1 (by omega)
  have h2 := h 2 (by omega)
  have h3 := h 3 (by omega)
  have h4 := h 4 (by omega)
  have h5 := h 5 (by omega)
  have h6 := h 6 (by omega)
  have h7 := h 7 (by omega)
  have h8 := h 8 (by omega)
  have h9 := h 9 (by omega)
  have h10 := h 10 (by omega)
  have h11 := h 11 (by omega)
  have h12 := h 12 (by omega)
  have h13 := h 13 (by omega)
  have h14 := h 14 (by omega)
  have h15 := h 15 (by omega)
  rw [e]
  omega
theorem zmax_b {f : Nat → Int} {b : Int} (hb : 0 ≤ b) (h : ∀ i, i < 16 → f i ≤ b) : 0 ≤ zit (fun i v => max v (f i)) 0 16 0 ∧ zit (fun i v => max v (f i)) 0 16 0 ≤ b :=
  zit_P (g := fun i v => max v (f i)) (N := 16) (P := fun _ v => 0 ≤ v ∧ v ≤ b) (by
    intro i v hi hp
    try dsimp only
    have := h i hi
    omega) 16 0 0 rfl ⟨by omega, hb⟩
theorem zcnt_b {c : Nat → Prop} [h9 : ∀ i, Decidable (c i)] : 0 ≤ zit (fun i v => if c i then v else v + 1) 0 16 (0 : Int) ∧ zit (fun i v => if c i then v else v + 1) 0 16 (0 : Int) ≤ 16 := by
  have := zit_P (g := fun i v => if c i then v else v + 1) (N := 16) (P := fun i (v : Int) => 0 ≤ v ∧ v ≤ i) (by
    intro i v hi hp
    try dsimp only
    split <;> omega) 16 0 0 rfl ⟨by omega, by omega⟩
  exact ⟨this.1, this.2⟩
theorem zit_rel {S T : Type} {g : Nat → S → S} {h : Nat → T → T} {N : Nat} (R : Nat → S → T → Prop) (hs : ∀ i s t, i < N → R i s t → R (i + 1) (g i s) (h i t)) : ∀ (k i : Nat) (s : S) (t : T), i + k = N → R i s t → R N (zit g i k s) (zit h i k t) := by
  intro k
  induction k with
  | zero => intro i s t e hp; have e' : i = N := by omega
            subst e'; exact hp
  | succ k ih => intro i s t e hp; exact ih (i + 1) (g i s) (h i t) (by omega) (hs i s t (by omega) hp)
theorem moZ_b {Z : Nat → Int} (hR : Rg Z) {q : Nat} (hq : q < 5) : 0 ≤ moZ Z q ∧ moZ Z q ≤ 119 := zmax_b (by omega) (fun i hi => (abZ_b hR hq hi).2.1)
theorem alZ_b {Z : Nat → Int} (hR : Rg Z) {q : Nat} (hq : q < 5) : 0 ≤ alZ Z q ∧ alZ Z q ≤ 1920 := by
  have := zsum_b (f := abZ Z q) (a := 0) (b := 119) (fun i hi => ⟨(abZ_b hR hq hi).1, (abZ_b hR hq hi).2.1⟩)
  unfold alZ; omega
theorem smZ_b {Z : Nat → Int} (hR : Rg Z) {c : Nat} (hc : c < 3) : 0 ≤ smZ Z c ∧ smZ Z c ≤ 1600 := by
  have := zsum_b (f := mZ Z c) (a := 5) (b := 99) (fun i hi => mZ_b hR hc hi)
  unfold smZ; omega
theorem sdZ_b {Z : Nat → Int} (hR : Rg Z) {q : Nat} (hq : q < 5) : 0 ≤ sdZ Z q ∧ sdZ Z q ≤ 1920 := by
  have := zsum_b (f := dZ Z q) (a := 0) (b := 120) (fun i hi => dZ_b hR hq hi)
  unfold sdZ; omega
theorem sdZ_p {Z : Nat → Int} (hR : Rg Z) {q : Nat} (hq : q < 5) (hc : (q : Int) < Z 59) : 16 ≤ sdZ Z q := by
  have := zsum_b (f := dZ Z q) (a := 1) (b := 120) (fun i hi => ⟨(hR.di hq hi).2.2 hc, (hR.di hq hi).2.1⟩)
  unfold sdZ; omega
theorem dfZ_b {Z : Nat → Int} (hR : Rg Z) {q c : Nat} (hq : q < 5) (hc : c < 3) : 0 ≤ dfZ Z q c ∧ dfZ Z q c ≤ 2000 := by
  have := zsum_b (f := fun i => max (dZ Z q i - mZ Z c i) (-(dZ Z q i - mZ Z c i))) (a := 0) (b := 120) (fun i hi => by
    have := dZ_b hR hq hi
    have := mZ_b hR hc hi
    try dsimp only
    omega)
  unfold dfZ; omega
theorem faZ_b {Z : Nat → Int} {q : Nat} : 0 ≤ faZ Z q ∧ faZ Z q ≤ 16 := zcnt_b (c := fun i => max (dZ Z q i - mZ Z (Z 48).toNat i) (-(dZ Z q i - mZ Z (Z 48).toNat i)) ≤ Z 56)
/-! cutter -/
def cuZ (Z : Nat → Int) : Int := if Z 53 = 0 then 0 else if 50 ≤ Z 53 then Z 54 else (Z 54 + 1) / 2
theorem cuZ_b {Z : Nat → Int} (hR : Rg Z) : 0 ≤ cuZ Z ∧ cuZ Z ≤ 9 ∧ (0 < Z 53 → 1 ≤ cuZ Z) := by
  have := hR.sh
  have := hR.de
  unfold cuZ
  split
  · omega
  · split <;> omega
theorem zcX1_isSharp {Z : Nat → Int} (hR : Rg Z) : fX1_isSharp (zI (Z 53)) = some (if Z 53 = 0 then 0 else 1) := by
  have := hR.sh
  unfold fX1_isSharp
  rw [zL0, zi_le (by omega)]
  by_cases h : Z 53 = 0
  · rw [ite_t h, ite_t (by omega)]
  · rw [ite_n h, ite_n (by omega)]
theorem zcX1_reach {Z : Nat → Int} (hR : Rg Z) : fX1_reach (zI (Z 53)) (zI (Z 54)) = some (zI (cuZ Z)) := by
  have h1 := hR.sh
  have h2 := hR.de
  unfold fX1_reach cuZ
  rw [zcX1_isSharp hR, Option.bind_some]
  by_cases h : Z 53 = 0
  · rw [ite_t h, ite_t rfl, ite_t h]; rfl
  · rw [ite_n h, ite_n (by decide), ite_n h]
    simp only [zL0, zL1, zL2, zL3, zL5, zL6, zL7, zL8, zL9, zL10, zL15, zL16, zL18, zL20, zL30, zL31, zL33, zL48, zL49, zL50, zL51, zL52, zL53, zL54, zL55, zL56, zL57, zL58, zL59, zL60, zL61, zL62, zL63, zL64, zL65, zL66, zL80, zL99, zL100, zL120, zL126, zL156, zL200, zL1000, zL1404, zL1560, zLm, zI_neg, zI_add, zI_sub, zI_mul]
    rw [zi_lt (by omega), zI_div (by omega)]
    by_cases h3 : 50 ≤ Z 53
    · rw [ite_n (by omega), ite_t h3]
    · rw [ite_t (by omega), ite_n h3]
/-! woods -/
def hdZ (Z : Nat → Int) (q : Nat) : Int := if Z (66 + 18 * q) = 0 then 1 else if Z (66 + 18 * q) = 1 then 2 else 4
def prZ (Z : Nat → Int) (q : Nat) : Int := sdZ Z q / 16 * (if Z (66 + 18 * q) = 0 then 2 else if Z (66 + 18 * q) = 1 then 5 else 9)
def rwO (Z : Nat → Int) (rw : Nat → Int32) : Prop := ∀ q : Nat, q < 5 → rw q = zI (Z (66 + 18 * q))
def rpO (Z : Nat → Int) (rp : Nat → Int32) : Prop := ∀ q : Nat, q < 5 → rp q = zI (Z (67 + 18 * q))
theorem wood3 {Z : Nat → Int} (hR : Rg Z) {q : Nat} (hq : q < 5) : Z (66 + 18 * q) = 0 ∨ Z (66 + 18 * q) = 1 ∨ Z (66 + 18 * q) = 2 := by
  have := hR.wo hq; omega
theorem zcX7_hardness {rw : Nat → Int32} {Z : Nat → Int} (hrw : rwO Z rw) (hR : Rg Z) {q : Nat} (hq : q < 5) : fX7_hardness rw (zI q) = some (zI (hdZ Z q)) := by
  unfold fX7_hardness hdZ
  rw [zcX8_at (by omega) hq, Option.bind_some, hrw q hq]
  rcases wood3 hR hq with h | h | h <;> rw [h] <;> rfl
theorem hdZ_b {Z : Nat → Int} {q : Nat} : 1 ≤ hdZ Z q ∧ hdZ Z q ≤ 4 := by
  unfold hdZ
  split
  · omega
  · split <;> omega
def blZ (Z : Nat → Int) (q : Nat) : Int := hdZ Z q * Z 55
theorem blZ_b {Z : Nat → Int} (hR : Rg Z) {q : Nat} : 1 ≤ blZ Z q ∧ blZ Z q ≤ 20 := by
  have h1 := hR.sp
  unfold blZ hdZ
  split
  · omega
  · split <;> omega
theorem zcX4_blunting {rw : Nat → Int32} {Z : Nat → Int} (hrw : rwO Z rw) (hR : Rg Z) {q : Nat} (hq : q < 5) : fX4_blunting (zI (Z 55)) rw (zI q) = some (zI (blZ Z q)) := by
  unfold fX4_blunting
  rw [zcX7_hardness hrw hR hq, Option.bind_some, zI_mul]
  rfl
def dvZ (a b : Int) : Int := (a + b - 1) / b
theorem zcX9_dividedUp {a b : Int} (h : 0 ≤ a ∧ a ≤ 1000 ∧ 1 ≤ b ∧ b ≤ 1000) : fX9_dividedUp (zI a) (zI b) = some (zI (dvZ a b)) := by
  unfold fX9_dividedUp dvZ
  simp only [zL0, zL1, zL2, zL3, zL5, zL6, zL7, zL8, zL9, zL10, zL15, zL16, zL18, zL20, zL30, zL31, zL33, zL48, zL49, zL50, zL51, zL52, zL53, zL54, zL55, zL56, zL57, zL58, zL59, zL60, zL61, zL62, zL63, zL64, zL65, zL66, zL80, zL99, zL100, zL120, zL126, zL156, zL200, zL1000, zL1404, zL1560, zLm, zI_neg, zI_add, zI_sub, zI_mul]
  rw [zi_lt (by omega), ite_t (by omega), zi_ne (by omega), ite_t (by omega), zI_div (by omega)]
/-! the likest, the slimmest, the best -/
theorem arg3 (L : Nat → Int32 → Int32 → Option Int32) (f : Nat → Int)
    (h0 : ∀ n v, L (n + 1) v 3 = some v)
    (hs : ∀ (n i v : Nat), i < 3 → v < 3 → L (n + 1) (zI v) (zI i) = L n (if f v ≤ f i then zI v else zI i) (zI ((i : Int) + 1))) : L 2000 0 1 = some (zI (zit (fun i v => if f v ≤ f i then v else i) 1 2 0 : Nat)) := by
  have key := loopG (S := Nat) (L := fun n i v => L n (zI v) (zI i)) (g := fun i v => if f v ≤ f i then v else i) (N := 3) (P := fun _ v => v < 3) (out := fun v => zI (v : Int)) (by
      intro n v hp
      exact h0 n (zI v)) (by
      intro n i v hi hp
      try dsimp only
      rw [hs n i v hi hp]
      by_cases h : f v ≤ f i
      · rw [ite_t h, ite_t h]; rfl
      · rw [ite_n h, ite_n h]; rfl) (by
      intro i v hi hp
      try dsimp only
      split
      · exact hp
      · exact hi)
  exact (key 2 1 2000 0 rfl (by omega) (by omega)).1
def slZ (Z : Nat → Int) : Nat := zit (fun i v => if smZ Z v ≤ smZ Z i then v else i) 1 2 0
def liZ (Z : Nat → Int) (q : Nat) : Nat := zit (fun i v => if dfZ Z q v ≤ dfZ Z q i then v else i) 1 2 0
theorem zcX9_mostLike_L {md rd : Nat → Int32} {Z : Nat → Int} (hmd : ∀ j : Nat, j < 48 → md j = zI (Z j)) (hrd : rdO Z rd) (hR : Rg Z) {q : Nat} (hq : q < 5) : fX9_mostLike_L9 md rd (zI q) 2000 0 1 = some (zI (liZ Z q)) :=
  arg3 (fun n v i => fX9_mostLike_L9 md rd (zI q) n v i) (dfZ Z q) (by
      intro n v
      try dsimp only
      rw [fX9_mostLike_L9]
      exact ite_t (by decide)) (by
      intro n i v hi hv
      try dsimp only
      have h1 := dfZ_b hR hq hi
      have h2 := dfZ_b hR hq hv
      rw [fX9_mostLike_L9]
      simp only [zL0, zL1, zL2, zL3, zL5, zL6, zL7, zL8, zL9, zL10, zL15, zL16, zL18, zL20, zL30, zL31, zL33, zL48, zL49, zL50, zL51, zL52, zL53, zL54, zL55, zL56, zL57, zL58, zL59, zL60, zL61, zL62, zL63, zL64, zL65, zL66, zL80, zL99, zL100, zL120, zL126, zL156, zL200, zL1000, zL1404, zL1560, zLm, zI_neg, zI_add, zI_sub, zI_mul]
      rw [ite_n (show ¬ (zI 3 ≤ zI (i : Int)) by rw [zI_le (by omega)]; omega), zcX4_differences hmd hrd hR hq hi, Option.bind_some, zcX4_differences hmd hrd hR hq hv, Option.bind_some, zi_le (by omega)]
      split <;> rfl)
def beZ (Z : Nat → Int) (n : Nat) : Nat := zit (fun i v => if faZ Z i < faZ Z v ∨ (faZ Z i = faZ Z v ∧ dfZ Z i (Z 48).toNat < dfZ Z v (Z 48).toNat) then i else v) 1 (n - 1) 0
theorem zcX9_best {md rd : Nat → Int32} {Z : Nat → Int} (hmd : ∀ j : Nat, j < 48 → md j = zI (Z j)) (hrd : rdO Z rd) (hR : Rg Z) {N : Nat} (hN : Z 59 = N) (h0 : 0 < N) : fX9_bestCopy_L25 md (zI (Z 48)) rd (zI (Z 59)) (zI (Z 56)) 2000 0 1 = some (zI (beZ Z N : Nat)) := by
  have hco := hR.co
  have hc := chN hR
  have key := loopG (S := Nat) (L := fun n i v => fX9_bestCopy_L25 md (zI (Z 48)) rd (zI (Z 59)) (zI (Z 56)) n (zI v) (zI i)) (g := fun i v => if faZ Z i < faZ Z v ∨ (faZ Z i = faZ Z v ∧ dfZ Z i (Z 48).toNat < dfZ Z v (Z 48).toNat) then i else v) (N := N) (P := fun _ v => v < 5) (out := fun v => zI (v : Int)) (by
      intro n v hp
      try dsimp only
      rw [fX9_bestCopy_L25, hN, zi_le (by omega), ite_t (by omega)]) (by
      intro n i v hi hv
      try dsimp only
      have f1 := faZ_b (Z := Z) (q := i)
      have f2 := faZ_b (Z := Z) (q := v)
      have d1 := dfZ_b hR (q := i) (by omega) hc.2
      have d2 := dfZ_b hR (q := v) (by omega) hc.2
      rw [fX9_bestCopy_L25]
      unfold fX4_isBetter
      simp only [zL0, zL1, zL2, zL3, zL5, zL6, zL7, zL8, zL9, zL10, zL15, zL16, zL18, zL20, zL30, zL31, zL33, zL48, zL49, zL50, zL51, zL52, zL53, zL54, zL55, zL56, zL57, zL58, zL59, zL60, zL61, zL62, zL63, zL64, zL65, zL66, zL80, zL99, zL100, zL120, zL126, zL156, zL200, zL1000, zL1404, zL1560, zLm, zI_neg, zI_add, zI_sub, zI_mul]
      rw [zi_le (by omega), ite_n (by omega), zcX4_faults hmd hrd hR (by omega), Option.bind_some, zcX4_faults hmd hrd hR hv, Option.bind_some, zi_eq (by omega), zi_le (by omega), ← hc.1, zcX4_differences hmd hrd hR (by omega) hc.2, Option.bind_some, zcX4_differences hmd hrd hR hv hc.2, Option.bind_some, zi_le (by omega), hc.1]
      by_cases e1 : faZ Z i = faZ Z v
      · rw [ite_t e1]
        by_cases e2 : dfZ Z v (Z 48).toNat ≤ dfZ Z i (Z 48).toNat
        · rw [ite_t e2, Option.bind_some, ite_t rfl, ite_n (by omega)]
          rfl
        · rw [ite_n e2, Option.bind_some, ite_n (by decide), ite_t (by omega)]
          rfl
      · rw [ite_n e1]
        by_cases e2 : faZ Z v ≤ faZ Z i
        · rw [ite_t e2, Option.bind_some, ite_t rfl, ite_n (by omega)]
          rfl
        · rw [ite_n e2, Option.bind_some, ite_n (by decide), ite_t (by omega)]
          rfl) (by
      intro i v hi hv
      try dsimp only
      split <;> omega)
  exact (key (N - 1) 1 2000 0 (by omega) (by omega) (by omega)).1
/-! the class's state as the integers tell it -/
def ClS (Z : Nat → Int) (τ : (Nat → Int32) × Int32 × Int32 × Int32 × Int32 × Int32 × Int32 × Int32 × Int32 × (Nat → Int32) × (Nat → Int32) × (Nat → Int32) × Int32 × Int32 × Int32 × Int32 × Int32 × Int32 × Int32 × Int32 × Int32 × Int32) : Prop :=
  match τ with
  | (md, mch, fra, fwe, fof, fsi, csh, cde, csp, rd, rw, rp, rco, rmo, apa, awo, ash, aja, abu, ltol, lchi, ljam) => (∀ j : Nat, j < 48 → md j = zI (Z j)) ∧ rdO Z rd ∧ rwO Z rw ∧ rpO Z rp ∧ mch = zI (Z 48) ∧ fra = zI (Z 49) ∧ fwe = zI (Z 50) ∧ fof = zI (Z 52) ∧ fsi = zI (Z 51) ∧ csh = zI (Z 53) ∧ cde = zI (Z 54) ∧ csp = zI (Z 55) ∧ rco = zI (Z 59) ∧ rmo = zI (Z 60) ∧ apa = zI (Z 61) ∧ awo = zI (Z 62) ∧ ash = zI (Z 63) ∧ aja = zI (Z 64) ∧ abu = zI (Z 65) ∧ ltol = zI (Z 56) ∧ lchi = zI (Z 57) ∧ ljam = zI (Z 58)
theorem e10 : ((1 : Int32) = 0) = False := eq_false (by decide)
theorem e01 : ((0 : Int32) = 1) = False := eq_false (by decide)
theorem e20 : ((2 : Int32) = 0) = False := eq_false (by decide)
theorem e30 : ((3 : Int32) = 0) = False := eq_false (by decide)
theorem cIdxY {a n : Int} (hb : (-2147483648 ≤ a ∧ a < 2147483648) ∧ (-2147483648 ≤ n ∧ n < 2147483648)) (hv : 0 ≤ a ∧ a < n) : fX9_checkIndex (zI a) (zI n) = some (.inr ()) := by
  unfold fX9_checkIndex fX9_isIndex
  rw [zL0, zi_lt (by omega), zi_le (by omega), if_neg (by omega), if_neg (by omega), Option.bind_some, if_neg (by decide)]
  rfl
theorem cIdxN {a n : Int} (hb : (-2147483648 ≤ a ∧ a < 2147483648) ∧ (-2147483648 ≤ n ∧ n < 2147483648)) (hv : ¬ (0 ≤ a ∧ a < n)) : fX9_checkIndex (zI a) (zI n) = some (.inl 0) := by
  unfold fX9_checkIndex fX9_isIndex
  rw [zL0, zi_lt (by omega), zi_le (by omega)]
  by_cases h : a < 0
  · rw [if_pos h, Option.bind_some, if_pos rfl]
  · rw [if_neg h, if_pos (by omega), Option.bind_some, if_pos rfl]
theorem cMaY {a : Int} (hb : -2147483648 ≤ a ∧ a < 2147483648) (hv : 0 ≤ a ∧ a < 3) : fX9_checkMaster (zI a) = some (.inr ()) := by
  unfold fX9_checkMaster
  rw [zL3, cIdxY (by omega) hv]; rfl
theorem cMaN {a : Int} (hb : -2147483648 ≤ a ∧ a < 2147483648) (hv : ¬ (0 ≤ a ∧ a < 3)) : fX9_checkMaster (zI a) = some (.inl 0) := by
  unfold fX9_checkMaster
  rw [zL3, cIdxN (by omega) hv]; rfl
theorem cStY {a : Int} (hb : -2147483648 ≤ a ∧ a < 2147483648) (hv : 0 ≤ a ∧ a < 16) : fX9_checkStep (zI a) = some (.inr ()) := by
  unfold fX9_checkStep
  rw [zL16, cIdxY (by omega) hv]; rfl
theorem cStN {a : Int} (hb : -2147483648 ≤ a ∧ a < 2147483648) (hv : ¬ (0 ≤ a ∧ a < 16)) : fX9_checkStep (zI a) = some (.inl 0) := by
  unfold fX9_checkStep
  rw [zL16, cIdxN (by omega) hv]; rfl
theorem cPiY {Z : Nat → Int} (hR : Rg Z) {a : Int} (hb : -2147483648 ≤ a ∧ a < 2147483648) (hv : 0 ≤ a ∧ a < Z 59) : fX9_checkPiece (zI (Z 59)) (zI a) = some (.inr ()) := by
  have := hR.co
  unfold fX9_checkPiece
  rw [cIdxY (by omega) hv]; rfl
theorem cPiN {Z : Nat → Int} (hR : Rg Z) {a : Int} (hb : -2147483648 ≤ a ∧ a < 2147483648) (hv : ¬ (0 ≤ a ∧ a < Z 59)) : fX9_checkPiece (zI (Z 59)) (zI a) = some (.inl 0) := by
  have := hR.co
  unfold fX9_checkPiece
  rw [cIdxN (by omega) hv]; rfl
theorem cRaY {a b c : Int} (hb : (-2147483648 ≤ a ∧ a < 2147483648) ∧ (-2147483648 ≤ b ∧ b < 2147483648) ∧ (-2147483648 ≤ c ∧ c < 2147483648)) (hv : b ≤ a ∧ a ≤ c) : fX9_checkRange (zI a) (zI b) (zI c) = some (.inr ()) := by
  unfold fX9_checkRange
  rw [zi_lt (by omega), zi_lt (by omega), if_neg (by omega), if_neg (by omega)]; rfl
theorem cRaN {a b c : Int} (hb : (-2147483648 ≤ a ∧ a < 2147483648) ∧ (-2147483648 ≤ b ∧ b < 2147483648) ∧ (-2147483648 ≤ c ∧ c < 2147483648)) (hv : ¬ (b ≤ a ∧ a ≤ c)) : fX9_checkRange (zI a) (zI b) (zI c) = some (.inl 1) := by
  unfold fX9_checkRange
  rw [zi_lt (by omega), zi_lt (by omega)]
  by_cases h : a < b
  · rw [if_pos h]; rfl
  · rw [if_neg h, if_pos (by omega)]; rfl
theorem cMoY {Z : Nat → Int} (hR : Rg Z) (hv : Z 60 ≠ -1) : fX9_checkMounted (zI (Z 60)) = some (.inr ()) := by
  have := hR.mo
  have := hR.co
  unfold fX9_checkMounted fX7_isTurning
  rw [zLm, zi_eq (by omega), if_neg hv]; rfl
theorem cMoN {Z : Nat → Int} (hv : Z 60 = -1) : fX9_checkMounted (zI (Z 60)) = some (.inl 2) := by
  rw [hv]; rfl
def rdy (Z : Nat → Int) : Prop := Z 60 ≠ -1 ∧ Z 58 = 0 ∧ Z 53 ≠ 0
theorem cCan {Z : Nat → Int} (hR : Rg Z) : fX4_canRun (zI (Z 53)) (zI (Z 58)) = some (if Z 58 = 0 ∧ Z 53 ≠ 0 then 1 else 0) := by
  have h1 := hR.sh
  unfold fX4_canRun
  rw [zcX1_isSharp hR, Option.bind_some]
  rcases hR.ja with h | h
  · rw [h, if_pos (by decide)]
    by_cases h2 : Z 53 = 0
    · rw [if_pos h2, if_pos rfl, if_neg (by omega)]
    · rw [if_neg h2, if_neg (by decide), if_pos ⟨rfl, h2⟩]
  · rw [h, if_neg (by decide), if_neg (by omega)]
theorem cReY {Z : Nat → Int} (hR : Rg Z) (hv : rdy Z) : fX9_checkReady (zI (Z 53)) (zI (Z 60)) (zI (Z 58)) = some (.inr ()) := by
  unfold fX9_checkReady
  rw [cMoY hR hv.1, Option.bind_some]
  try dsimp only
  rw [cCan hR, if_pos hv.2]; rfl
theorem cReN {Z : Nat → Int} (hR : Rg Z) (hv : ¬ rdy Z) : fX9_checkReady (zI (Z 53)) (zI (Z 60)) (zI (Z 58)) = some (.inl 2) := by
  unfold fX9_checkReady
  by_cases h : Z 60 = -1
  · rw [cMoN h]; rfl
  · rw [cMoY hR h, Option.bind_some]
    try dsimp only
    rw [cCan hR, if_neg (fun h2 => hv ⟨h, h2⟩)]; rfl
theorem moN {Z : Nat → Int} (hR : Rg Z) (hv : Z 60 ≠ -1) : ∃ q : Nat, Z 60 = q ∧ q < 5 ∧ (q : Int) < Z 59 := by
  have := hR.mo
  have := hR.co
  exact ⟨(Z 60).toNat, by omega, by omega, by omega⟩
section RDS
variable {Z : Nat → Int} {xs : Nat → Int32} {ou : Nat → Int64} {od : Nat → UInt64} {wa le : Nat → Int32} {md : Nat → Int32} {mch : Int32} {fra : Int32} {fwe : Int32} {fof : Int32} {fsi : Int32} {csh : Int32} {cde : Int32} {csp : Int32} {rd : Nat → Int32} {rw : Nat → Int32} {rp : Nat → Int32} {rco : Int32} {rmo : Int32} {apa : Int32} {awo : Int32} {ash : Int32} {aja : Int32} {abu : Int32} {ltol : Int32} {lchi : Int32} {ljam : Int32}
end RDS
