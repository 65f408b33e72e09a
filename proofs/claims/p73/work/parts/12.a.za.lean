/-! numbers: zI is the Int32 of an integer; its sums, products and comparisons -/
def zI (a : Int) : Int32 := Int32.ofInt a
theorem zL0 : (0 : Int32) = zI 0 := by decide
theorem zL1 : (1 : Int32) = zI 1 := by decide
theorem zL2 : (2 : Int32) = zI 2 := by decide
theorem zL3 : (3 : Int32) = zI 3 := by decide
theorem zL5 : (5 : Int32) = zI 5 := by decide
theorem zL6 : (6 : Int32) = zI 6 := by decide
theorem zL7 : (7 : Int32) = zI 7 := by decide
theorem zL8 : (8 : Int32) = zI 8 := by decide
theorem zL9 : (9 : Int32) = zI 9 := by decide
theorem zL10 : (10 : Int32) = zI 10 := by decide
theorem zL15 : (15 : Int32) = zI 15 := by decide
theorem zL16 : (16 : Int32) = zI 16 := by decide
theorem zL18 : (18 : Int32) = zI 18 := by decide
theorem zL20 : (20 : Int32) = zI 20 := by decide
theorem zL30 : (30 : Int32) = zI 30 := by decide
theorem zL31 : (31 : Int32) = zI 31 := by decide
theorem zL33 : (33 : Int32) = zI 33 := by decide
theorem zL48 : (48 : Int32) = zI 48 := by decide
theorem zL49 : (49 : Int32) = zI 49 := by decide
theorem zL50 : (50 : Int32) = zI 50 := by decide
theorem zL51 : (51 : Int32) = zI 51 := by decide
theorem zL52 : (52 : Int32) = zI 52 := by decide
theorem zL53 : (53 : Int32) = zI 53 := by decide
theorem zL54 : (54 : Int32) = zI 54 := by decide
theorem zL55 : (55 : Int32) = zI 55 := by decide
theorem zL56 : (56 : Int32) = zI 56 := by decide
theorem zL57 : (57 : Int32) = zI 57 := by decide
theorem zL58 : (58 : Int32) = zI 58 := by decide
theorem zL59 : (59 : Int32) = zI 59 := by decide
theorem zL60 : (60 : Int32) = zI 60 := by decide
theorem zL61 : (61 : Int32) = zI 61 := by decide
theorem zL62 : (62 : Int32) = zI 62 := by decide
theorem zL63 : (63 : Int32) = zI 63 := by decide
theorem zL64 : (64 : Int32) = zI 64 := by decide
theorem zL65 : (65 : Int32) = zI 65 := by decide
theorem zL66 : (66 : Int32) = zI 66 := by decide
theorem zL80 : (80 : Int32) = zI 80 := by decide
theorem zL99 : (99 : Int32) = zI 99 := by decide
theorem zL100 : (100 : Int32) = zI 100 := by decide
theorem zL120 : (120 : Int32) = zI 120 := by decide
theorem zL126 : (126 : Int32) = zI 126 := by decide
theorem zL156 : (156 : Int32) = zI 156 := by decide
theorem zL200 : (200 : Int32) = zI 200 := by decide
theorem zL1000 : (1000 : Int32) = zI 1000 := by decide
theorem zL1404 : (1404 : Int32) = zI 1404 := by decide
theorem zL1560 : (1560 : Int32) = zI 1560 := by decide
theorem zLm : (-1 : Int32) = zI (-1) := by decide
theorem zI_add (a b : Int) : zI a + zI b = zI (a + b) := (Int32.ofInt_add a b).symm
theorem zI_sub (a b : Int) : zI a - zI b = zI (a - b) := (Int32.ofInt_sub a b).symm
theorem zI_mul (a b : Int) : zI a * zI b = zI (a * b) := (Int32.ofInt_mul a b).symm
theorem zI_neg (a : Int) : - zI a = zI (-a) := (Int32.ofInt_neg a).symm
theorem zI_toInt {a : Int} (h : (-2147483648 ≤ a ∧ a < 2147483648)) : (zI a).toInt = a := Int32.toInt_ofInt_of_le h.1 h.2
theorem zI_le {a b : Int} (h : (-2147483648 ≤ a ∧ a < 2147483648) ∧ (-2147483648 ≤ b ∧ b < 2147483648)) : (zI a ≤ zI b) = (a ≤ b) := by
  rw [Int32.le_iff_toInt_le, zI_toInt h.1, zI_toInt h.2]
theorem zI_lt {a b : Int} (h : (-2147483648 ≤ a ∧ a < 2147483648) ∧ (-2147483648 ≤ b ∧ b < 2147483648)) : (zI a < zI b) = (a < b) := by
  rw [Int32.lt_iff_toInt_lt, zI_toInt h.1, zI_toInt h.2]
theorem zI_eq {a b : Int} (h : (-2147483648 ≤ a ∧ a < 2147483648) ∧ (-2147483648 ≤ b ∧ b < 2147483648)) : (zI a = zI b) = (a = b) := by
  apply propext
  constructor
  · intro e
    have := congrArg Int32.toInt e
    rwa [zI_toInt h.1, zI_toInt h.2] at this
  · intro e; rw [e]
theorem zI_cl {a : Int} (h : (-2147483648 ≤ a ∧ a < 2147483648)) : (zI a).toNatClampNeg = a.toNat := Int32.toNatClampNeg_ofInt_of_le h.1 h.2
theorem zI_div {a b : Int} (h : (-2147483648 ≤ a ∧ a < 2147483648) ∧ (-2147483648 ≤ b ∧ b < 2147483648) ∧ 0 ≤ a ∧ 0 < b) : zI a / zI b = zI (a / b) := by
  unfold zI
  rw [← Int32.ofInt_tdiv (a := a) (b := b) (by show -2147483648 ≤ a; omega) (by show a ≤ 2147483647; omega) (by show -2147483648 ≤ b; omega) (by show b ≤ 2147483647; omega), Int.tdiv_eq_ediv_of_nonneg h.2.2.1]
theorem zi_le {α : Type} {a b : Int} {i : Decidable (zI a ≤ zI b)} {x y : α} (h : (-2147483648 ≤ a ∧ a < 2147483648) ∧ (-2147483648 ≤ b ∧ b < 2147483648)) : @ite α (zI a ≤ zI b) i x y = if a ≤ b then x else y := by
  by_cases c : a ≤ b
  · rw [if_pos c, if_pos (by rw [zI_le h]; exact c)]
  · rw [if_neg c, if_neg (by rw [zI_le h]; exact c)]
theorem zi_lt {α : Type} {a b : Int} {i : Decidable (zI a < zI b)} {x y : α} (h : (-2147483648 ≤ a ∧ a < 2147483648) ∧ (-2147483648 ≤ b ∧ b < 2147483648)) : @ite α (zI a < zI b) i x y = if a < b then x else y := by
  by_cases c : a < b
  · rw [if_pos c, if_pos (by rw [zI_lt h]; exact c)]
  · rw [if_neg c, if_neg (by rw [zI_lt h]; exact c)]
theorem zi_eq {α : Type} {a b : Int} {i : Decidable (zI a = zI b)} {x y : α} (h : (-2147483648 ≤ a ∧ a < 2147483648) ∧ (-2147483648 ≤ b ∧ b < 2147483648)) : @ite α (zI a = zI b) i x y = if a = b then x else y := by
  by_cases c : a = b
  · rw [if_pos c, if_pos (by rw [zI_eq h]; exact c)]
  · rw [if_neg c, if_neg (by rw [zI_eq h]; exact c)]
theorem zi_ne {α : Type} {a b : Int} {i : Decidable (¬ zI a = zI b)} {x y : α} (h : (-2147483648 ≤ a ∧ a < 2147483648) ∧ (-2147483648 ≤ b ∧ b < 2147483648)) : @ite α (¬ zI a = zI b) i x y = if ¬ a = b then x else y := by
  by_cases c : a = b
  · rw [if_neg (fun d => d (by rw [zI_eq h]; exact c)), if_neg (fun d => d c)]
  · rw [if_pos c, if_pos (by rw [zI_eq h]; exact c)]
theorem zI_mx {a b : Int} (h : (-2147483648 ≤ a ∧ a < 2147483648) ∧ (-2147483648 ≤ b ∧ b < 2147483648)) : mxI (zI a) (zI b) = zI (max a b) := by
  unfold mxI
  rw [zi_lt h]
  split
  · rw [Int.max_eq_right (by omega)]
  · rw [Int.max_eq_left (by omega)]
theorem zI_mn {a b : Int} (h : (-2147483648 ≤ a ∧ a < 2147483648) ∧ (-2147483648 ≤ b ∧ b < 2147483648)) : mnI (zI a) (zI b) = zI (min a b) := by
  unfold mnI
  rw [zi_lt ⟨h.2, h.1⟩]
  split
  · rw [Int.min_eq_right (by omega)]
  · rw [Int.min_eq_left (by omega)]
theorem zI_ab {a : Int} (h : (-2147483648 ≤ a ∧ a < 2147483648) ∧ (-2147483648 ≤ -a ∧ -a < 2147483648)) : abI (zI a) = zI (max a (-a)) := by
  unfold abI
  rw [zL0, zi_le ⟨by omega, h.1⟩, zI_sub]
  split
  · rw [Int.max_eq_left (by omega)]
  · rw [Int.max_eq_right (by omega), Int.zero_sub]
theorem zI_ix {a : Int} {n : Nat} (h : 0 ≤ a ∧ a < n ∧ n < 2147483648) : ¬ (zI a < zI 0 ∨ n ≤ (zI a).toNatClampNeg) := by
  have hb : (-2147483648 ≤ a ∧ a < 2147483648) := by omega
  rw [zI_lt ⟨hb, by omega⟩, zI_cl hb]
  omega
theorem zI_surj (x : Int32) : ∃ a : Int, (-2147483648 ≤ a ∧ a < 2147483648) ∧ x = zI a :=
  ⟨x.toInt, ⟨by have := Int32.minValue_le_toInt x; have h9 : Int32.minValue.toInt = -2147483648 := by decide
                omega, by have := Int32.toInt_lt x; omega⟩, (Int32.ofInt_toInt x).symm⟩
theorem nI_zI (n : Nat) : nI n = zI (n : Int) := (Int32.ofInt_eq_ofNat).symm
theorem ite_t {α : Type} {c : Prop} {i : Decidable c} {a b : α} (h : c) : @ite α c i a b = a := if_pos h
theorem ite_n {α : Type} {c : Prop} {i : Decidable c} {a b : α} (h : ¬ c) : @ite α c i a b = b := if_neg h
/-! loops -/
def zit {S : Type} (g : Nat → S → S) : Nat → Nat → S → S
  | _, 0, s => s
  | i, k + 1, s => zit g (i + 1) k (g i s)
theorem loopG {S R : Type} (L : Nat → Nat → S → Option R) (g : Nat → S → S) (N : Nat) (P : Nat → S → Prop) (out : S → R) (h0 : ∀ n s, P N s → L (n + 1) N s = some (out s)) (hs : ∀ n i s, i < N → P i s → L (n + 1) i s = L n (i + 1) (g i s)) (hP : ∀ i s, i < N → P i s → P (i + 1) (g i s)) :
    ∀ (k i n : Nat) (s : S), i + k = N → k < n → P i s → L n i s = some (out (zit g i k s)) ∧ P N (zit g i k s) := by
  intro k
  induction k with
  | zero =>
    intro i n s e hn hp
    obtain ⟨m, rfl⟩ : ∃ m, n = m + 1 := ⟨n - 1, by omega⟩
    have e' : i = N := by omega
    subst e'
    exact ⟨h0 m s hp, hp⟩
  | succ k ih =>
    intro i n s e hn hp
    obtain ⟨m, rfl⟩ : ∃ m, n = m + 1 := ⟨n - 1, by omega⟩
    rw [hs m i s (by omega) hp]
    exact ih (i + 1) m (g i s) (by omega) (by omega) (hP i s (by omega) hp)
theorem zit_P {S : Type} {g : Nat → S → S} {N : Nat} {P : Nat → S → Prop} (hP : ∀ i s, i < N → P i s → P (i + 1) (g i s)) : ∀ (k i : Nat) (s : S), i + k = N → P i s → P N (zit g i k s) := by
  intro k
  induction k with
  | zero => intro i s e hp; have e' : i = N := by omega
            subst e'; exact hp
  | succ k ih => intro i s e hp; exact ih (i + 1) (g i s) (by omega) (hP i s (by omega) hp)
theorem zit_congr {S : Type} {g h : Nat → S → S} {N : Nat} (P : Nat → S → Prop) (hP : ∀ i s, i < N → P i s → P (i + 1) (g i s)) (he : ∀ i s, i < N → P i s → g i s = h i s) : ∀ (k i : Nat) (s : S), i + k = N → P i s → zit g i k s = zit h i k s := by
  intro k
  induction k with
  | zero => intro i s _ _; rfl
  | succ k ih =>
    intro i s e hp
    show zit g (i + 1) k (g i s) = zit h (i + 1) k (h i s)
    rw [← he i s (by omega) hp]
    exact ih (i + 1) (g i s) (by omega) (hP i s (by omega) hp)
/-! what a lathe is, as integers: the model's block of 156 places -/
def zup (Z : Nat → Int) (k : Nat) (v : Int) : Nat → Int := fun j => if j = k then v else Z j
theorem zup_s {Z : Nat → Int} {k : Nat} {v : Int} : zup Z k v k = v := by simp [zup]
theorem zup_n {Z : Nat → Int} {k j : Nat} {v : Int} (h : j ≠ k) : zup Z k v j = Z j := by simp [zup, h]
def Rg (Z : Nat → Int) : Prop :=
  (∀ j : Nat, j < 48 → 5 ≤ Z j ∧ Z j ≤ 99) ∧ (0 ≤ Z 48 ∧ Z 48 ≤ 2) ∧ (0 ≤ Z 49 ∧ Z 49 ≤ 3) ∧ (0 ≤ Z 50 ∧ Z 50 ≤ 30) ∧ (0 ≤ Z 52 ∧ Z 52 ≤ 5) ∧ (0 ≤ Z 53 ∧ Z 53 ≤ 100) ∧ (1 ≤ Z 54 ∧ Z 54 ≤ 9) ∧ (1 ≤ Z 55 ∧ Z 55 ≤ 5) ∧ (0 ≤ Z 56 ∧ Z 56 ≤ 20) ∧ (0 ≤ Z 57 ∧ Z 57 ≤ 200) ∧ (Z 58 = 0 ∨ Z 58 = 1) ∧ (0 ≤ Z 59 ∧ Z 59 ≤ 5) ∧ (-1 ≤ Z 60 ∧ Z 60 < max 0 (Z 59)) ∧
  (∀ q : Nat, q < 5 → 0 ≤ Z (66 + 18 * q) ∧ Z (66 + 18 * q) ≤ 2) ∧ (∀ q k : Nat, q < 5 → k < 16 → 0 ≤ Z (68 + 18 * q + k) ∧ Z (68 + 18 * q + k) ≤ 120 ∧ ((q : Int) < Z 59 → 1 ≤ Z (68 + 18 * q + k)))
theorem Rg.md {Z : Nat → Int} (h : Rg Z) {j : Nat} (hj : j < 48) : 5 ≤ Z j ∧ Z j ≤ 99 := h.1 j hj
theorem Rg.ch {Z : Nat → Int} (h : Rg Z) : 0 ≤ Z 48 ∧ Z 48 ≤ 2 := h.2.1
theorem Rg.ra {Z : Nat → Int} (h : Rg Z) : 0 ≤ Z 49 ∧ Z 49 ≤ 3 := h.2.2.1
theorem Rg.we {Z : Nat → Int} (h : Rg Z) : 0 ≤ Z 50 ∧ Z 50 ≤ 30 := h.2.2.2.1
theorem Rg.of {Z : Nat → Int} (h : Rg Z) : 0 ≤ Z 52 ∧ Z 52 ≤ 5 := h.2.2.2.2.1
theorem Rg.sh {Z : Nat → Int} (h : Rg Z) : 0 ≤ Z 53 ∧ Z 53 ≤ 100 := h.2.2.2.2.2.1
theorem Rg.de {Z : Nat → Int} (h : Rg Z) : 1 ≤ Z 54 ∧ Z 54 ≤ 9 := h.2.2.2.2.2.2.1
theorem Rg.sp {Z : Nat → Int} (h : Rg Z) : 1 ≤ Z 55 ∧ Z 55 ≤ 5 := h.2.2.2.2.2.2.2.1
theorem Rg.to {Z : Nat → Int} (h : Rg Z) : 0 ≤ Z 56 ∧ Z 56 ≤ 20 := h.2.2.2.2.2.2.2.2.1
theorem Rg.chi {Z : Nat → Int} (h : Rg Z) : 0 ≤ Z 57 ∧ Z 57 ≤ 200 := h.2.2.2.2.2.2.2.2.2.1
theorem Rg.ja {Z : Nat → Int} (h : Rg Z) : Z 58 = 0 ∨ Z 58 = 1 := h.2.2.2.2.2.2.2.2.2.2.1
theorem Rg.co {Z : Nat → Int} (h : Rg Z) : 0 ≤ Z 59 ∧ Z 59 ≤ 5 := h.2.2.2.2.2.2.2.2.2.2.2.1
theorem Rg.mo {Z : Nat → Int} (h : Rg Z) : -1 ≤ Z 60 ∧ Z 60 < max 0 (Z 59) := h.2.2.2.2.2.2.2.2.2.2.2.2.1
theorem Rg.wo {Z : Nat → Int} (h : Rg Z) {q : Nat} (hq : q < 5) : 0 ≤ Z (66 + 18 * q) ∧ Z (66 + 18 * q) ≤ 2 := h.2.2.2.2.2.2.2.2.2.2.2.2.2.1 q hq
theorem Rg.di {Z : Nat → Int} (h : Rg Z) {q k : Nat} (hq : q < 5) (hk : k < 16) : 0 ≤ Z (68 + 18 * q + k) ∧ Z (68 + 18 * q + k) ≤ 120 ∧ ((q : Int) < Z 59 → 1 ≤ Z (68 + 18 * q + k)) := h.2.2.2.2.2.2.2.2.2.2.2.2.2.2 q k hq hk
/-! readings -/
def mZ (Z : Nat → Int) (c k : Nat) : Int := Z (16 * c + k)
def dZ (Z : Nat → Int) (q k : Nat) : Int := Z (68 + 18 * q + k)
def win (r k j : Nat) : Prop := k ≤ j + r ∧ j ≤ k + r
def isMx (g : Nat → Int) (W : Nat → Prop) (v : Int) : Prop := 0 ≤ v ∧ (∀ j, j < 16 → W j → g j ≤ v) ∧ (v = 0 ∨ ∃ j, j < 16 ∧ W j ∧ g j = v)
theorem isMx.uniq {g : Nat → Int} {W : Nat → Prop} {v w : Int} (h1 : isMx g W v) (h2 : isMx g W w) : v = w := by
  obtain ⟨a1, a2, a3⟩ := h1
  obtain ⟨b1, b2, b3⟩ := h2
  apply Int.le_antisymm
  · rcases a3 with h | ⟨j, hj, hw, e⟩
    · omega
    · have := b2 j hj hw; omega
  · rcases b3 with h | ⟨j, hj, hw, e⟩
    · omega
    · have := a2 j hj hw; omega
theorem isMx.congr {g : Nat → Int} {W W' : Nat → Prop} {v : Int} (h : isMx g W v) (e : ∀ j, j < 16 → (W j ↔ W' j)) : isMx g W' v :=
  ⟨h.1, fun j hj hw => h.2.1 j hj ((e j hj).mpr hw), h.2.2.elim Or.inl (fun ⟨j, hj, hw, e1⟩ => Or.inr ⟨j, hj, (e j hj).mp hw, e1⟩)⟩
theorem isMx.step {g : Nat → Int} {W W' : Nat → Prop} {v : Int} {i : Nat} (h : isMx g W v) (hi : i < 16) (e : ∀ j, j < 16 → (W' j ↔ W j ∨ j = i)) : isMx g W' (max v (g i)) := by
  refine ⟨by have := h.1; omega, fun j hj hw => ?_, ?_⟩
  · rcases (e j hj).mp hw with h1 | h1
    · have := h.2.1 j hj h1; omega
    · subst h1; omega
  · by_cases hv : g i ≤ v
    · rw [Int.max_eq_left hv]
      rcases h.2.2 with h1 | ⟨j, hj, hw, e1⟩
      · exact Or.inl h1
      · exact Or.inr ⟨j, hj, (e j hj).mpr (Or.inl hw), e1⟩
    · rw [Int.max_eq_right (by omega)]
      exact Or.inr ⟨i, hi, (e i hi).mpr (Or.inr rfl), rfl⟩
def rdZ (Z : Nat → Int) (k : Nat) : Int := zit (fun j v => if k ≤ j + (Z 49).toNat ∧ j ≤ k + (Z 49).toNat then max v (mZ Z (Z 48).toNat j) else v) 0 16 0
theorem rdZ_is (Z : Nat → Int) (k : Nat) : isMx (mZ Z (Z 48).toNat) (win (Z 49).toNat k) (rdZ Z k) := by
  have h := zit_P (g := fun j v => if k ≤ j + (Z 49).toNat ∧ j ≤ k + (Z 49).toNat then max v (mZ Z (Z 48).toNat j) else v) (N := 16) (P := fun i v => isMx (mZ Z (Z 48).toNat) (fun j => win (Z 49).toNat k j ∧ j < i) v) (by
    intro i v hi hp
    try dsimp only
    by_cases hc : k ≤ i + (Z 49).toNat ∧ i ≤ k + (Z 49).toNat
    · rw [ite_t hc]
      refine hp.step hi (fun j hj => ?_)
      unfold win
      constructor
      · rintro ⟨h1, h2⟩
        by_cases e : j = i
        · exact Or.inr e
        · exact Or.inl ⟨h1, by omega⟩
      · rintro (⟨h1, h2⟩ | rfl)
        · exact ⟨h1, by omega⟩
        · exact ⟨hc, by omega⟩
    · rw [ite_n hc]
      refine hp.congr (fun j hj => ?_)
      unfold win
      constructor
      · rintro ⟨h1, h2⟩; exact ⟨h1, by omega⟩
      · rintro ⟨h1, h2⟩
        refine ⟨h1, ?_⟩
        rcases Nat.lt_or_ge j i with h3 | h3
        · exact h3
        · have : j = i := by omega
          subst this; exact absurd h1 hc) 16 0 0 rfl ⟨by omega, fun j hj hw => absurd hw.2 (by omega), Or.inl rfl⟩
  exact h.congr (fun j hj => ⟨fun h => h.1, fun h => ⟨h, hj⟩⟩)
theorem rdZ_b {Z : Nat → Int} (hR : Rg Z) {k : Nat} : 0 ≤ rdZ Z k ∧ rdZ Z k ≤ 99 := by
  have h := rdZ_is Z k
  refine ⟨h.1, ?_⟩
  rcases h.2.2 with h1 | ⟨j, hj, hw, e⟩
  · omega
  · have hc := hR.ch
    have := hR.md (j := 16 * (Z 48).toNat + j) (by omega)
    unfold mZ at e
    omega
/-! the class's small readers -/
theorem zcX6_at {md : Nat → Int32} {Z : Nat → Int} (hmd : ∀ j : Nat, j < 48 → md j = zI (Z j)) {c k : Nat} (hc : c < 3) (hk : k < 16) : fX6_at md (zI c) (zI k) = some (zI (mZ Z c k)) := by
  unfold fX6_at mZ
  simp only [zL0, zL1, zL2, zL3, zL5, zL6, zL7, zL8, zL9, zL10, zL15, zL16, zL18, zL20, zL30, zL31, zL33, zL48, zL49, zL50, zL51, zL52, zL53, zL54, zL55, zL56, zL57, zL58, zL59, zL60, zL61, zL62, zL63, zL64, zL65, zL66, zL80, zL99, zL100, zL120, zL126, zL156, zL200, zL1000, zL1404, zL1560, zLm, zI_neg, zI_add, zI_sub, zI_mul]
  simp (disch := omega) only [zI_le, zI_lt, zI_eq, zI_cl]
  rw [ite_n (by omega), ite_n (by omega), show ((c : Int) * 16 + k).toNat = 16 * c + k by omega, hmd _ (by omega)]
theorem zcX8_at {rf : Nat → Int32} {ln : Nat} (hl : ln < 2147483648) {k : Nat} (hk : k < ln) : fX8_at ln rf (zI k) = some (rf k) := by
  unfold fX8_at
  rw [show Int32.ofNat ln = zI (ln : Int) from nI_zI ln]
  simp only [zL0, zL1, zL2, zL3, zL5, zL6, zL7, zL8, zL9, zL10, zL15, zL16, zL18, zL20, zL30, zL31, zL33, zL48, zL49, zL50, zL51, zL52, zL53, zL54, zL55, zL56, zL57, zL58, zL59, zL60, zL61, zL62, zL63, zL64, zL65, zL66, zL80, zL99, zL100, zL120, zL126, zL156, zL200, zL1000, zL1404, zL1560, zLm, zI_neg, zI_add, zI_sub, zI_mul]
  simp (disch := omega) only [zI_le, zI_lt, zI_eq, zI_cl]
  rw [ite_n (by omega), ite_n (by omega), show ((k : Int)).toNat = k by omega]
theorem zcX8_put {rf : Nat → Int32} {ln : Nat} (hl : ln < 2147483648) {k : Nat} (hk : k < ln) (v : Int32) : fX8_put ln rf (zI k) v = some (upd rf k v) := by
  unfold fX8_put
  rw [show Int32.ofNat ln = zI (ln : Int) from nI_zI ln]
  simp only [zL0, zL1, zL2, zL3, zL5, zL6, zL7, zL8, zL9, zL10, zL15, zL16, zL18, zL20, zL30, zL31, zL33, zL48, zL49, zL50, zL51, zL52, zL53, zL54, zL55, zL56, zL57, zL58, zL59, zL60, zL61, zL62, zL63, zL64, zL65, zL66, zL80, zL99, zL100, zL120, zL126, zL156, zL200, zL1000, zL1404, zL1560, zLm, zI_neg, zI_add, zI_sub, zI_mul]
  simp (disch := omega) only [zI_le, zI_lt, zI_eq, zI_cl]
  rw [ite_n (by omega), ite_n (by omega), show ((k : Int)).toNat = k by omega]
theorem zcX8_add {rf : Nat → Int32} {ln : Nat} (hl : ln < 2147483648) {k : Nat} (hk : k < ln) (v : Int32) : fX8_add ln rf (zI k) v = some (upd rf k (rf k + v)) := by
  unfold fX8_add
  rw [zcX8_at hl hk, Option.bind_some, zcX8_put hl hk, Option.bind_some]
def rdO (Z : Nat → Int) (rd : Nat → Int32) : Prop := ∀ q k : Nat, q < 5 → k < 16 → rd (16 * q + k) = zI (dZ Z q k)
theorem zcX7_at {rd : Nat → Int32} {Z : Nat → Int} (hrd : rdO Z rd) {q k : Nat} (hq : q < 5) (hk : k < 16) : fX7_at rd (zI q) (zI k) = some (zI (dZ Z q k)) := by
  unfold fX7_at
  simp only [zL0, zL1, zL2, zL3, zL5, zL6, zL7, zL8, zL9, zL10, zL15, zL16, zL18, zL20, zL30, zL31, zL33, zL48, zL49, zL50, zL51, zL52, zL53, zL54, zL55, zL56, zL57, zL58, zL59, zL60, zL61, zL62, zL63, zL64, zL65, zL66, zL80, zL99, zL100, zL120, zL126, zL156, zL200, zL1000, zL1404, zL1560, zLm, zI_neg, zI_add, zI_sub, zI_mul]
  rw [show ((q : Int) * 16 + k) = ((16 * q + k : Nat) : Int) by omega, zcX8_at (by omega) (by omega), Option.bind_some, hrd q k hq hk]
/-! reading -/
theorem zcX4_reading {md : Nat → Int32} {Z : Nat → Int} (hmd : ∀ j : Nat, j < 48 → md j = zI (Z j)) (hR : Rg Z) {k : Nat} (hk : k < 16) : fX4_reading md (zI (Z 48)) (zI (Z 49)) (zI k) = some (zI (rdZ Z k)) := by
  obtain ⟨c, hc⟩ : ∃ c : Nat, Z 48 = c := ⟨(Z 48).toNat, by have := hR.ch; omega⟩
  obtain ⟨r, hr⟩ : ∃ r : Nat, Z 49 = r := ⟨(Z 49).toNat, by have := hR.ra; omega⟩
  have h1 := hR.ch
  have h2 := hR.ra
  have hW : isMx (mZ Z c) (win r k) (rdZ Z k) := by
    have := rdZ_is Z k
    rw [hc, hr] at this
    exact this
  unfold fX4_reading
  rw [hc, hr] at *
  simp only [zL0, zL1, zL2, zL3, zL5, zL6, zL7, zL8, zL9, zL10, zL15, zL16, zL18, zL20, zL30, zL31, zL33, zL48, zL49, zL50, zL51, zL52, zL53, zL54, zL55, zL56, zL57, zL58, zL59, zL60, zL61, zL62, zL63, zL64, zL65, zL66, zL80, zL99, zL100, zL120, zL126, zL156, zL200, zL1000, zL1404, zL1560, zLm, zI_neg, zI_add, zI_sub, zI_mul]
  rw [zI_mn (by omega), zI_mx (by omega)]
  have key := loopG (S := Int) (L := fun n i v => fX4_reading_L32 md (zI c) (zI (min 15 ((k : Int) + r))) n (zI v) (zI i)) (g := fun i v => max v (mZ Z c i)) (N := min 15 (k + r) + 1) (P := fun i v => isMx (mZ Z c) (fun j => win r k j ∧ j < i) v ∧ v ≤ 99 ∧ k ≤ i + r) (out := zI) (by
      intro n v hp
      try dsimp only
      rw [fX4_reading_L32]
      simp (disch := omega) only [zI_le, zI_lt, zI_eq, zI_cl]
      rw [ite_t (by omega)]) (by
      intro n i v hi hp
      try dsimp only
      have hv := hp.1.1
      have hm := hR.md (j := 16 * c + i) (by omega)
      rw [fX4_reading_L32]
      simp only [zL0, zL1, zL2, zL3, zL5, zL6, zL7, zL8, zL9, zL10, zL15, zL16, zL18, zL20, zL30, zL31, zL33, zL48, zL49, zL50, zL51, zL52, zL53, zL54, zL55, zL56, zL57, zL58, zL59, zL60, zL61, zL62, zL63, zL64, zL65, zL66, zL80, zL99, zL100, zL120, zL126, zL156, zL200, zL1000, zL1404, zL1560, zLm, zI_neg, zI_add, zI_sub, zI_mul]
      simp (disch := omega) only [zI_le, zI_lt, zI_eq, zI_cl]
      rw [ite_n (by omega), zcX6_at hmd (by omega) (by omega), Option.bind_some, zI_mx (by unfold mZ; omega)]
      rfl) (by
      intro i v hi hp
      have hm := hR.md (j := 16 * c + i) (by omega)
      refine ⟨hp.1.step (by omega) (fun j hj => ?_), by unfold mZ; omega, by omega⟩
      unfold win
      constructor
      · rintro ⟨a, b⟩
        by_cases e : j = i
        · exact Or.inr e
        · exact Or.inl ⟨a, by omega⟩
      · rintro (⟨a, b⟩ | rfl)
        · exact ⟨a, by omega⟩
        · exact ⟨by omega, by omega⟩)
  obtain ⟨e1, e2⟩ := key (min 15 (k + r) + 1 - (k - r)) (k - r) 2000 0 (by omega) (by omega) ⟨⟨by omega, fun j hj hw => absurd hw.1 (by unfold win; omega), Or.inl rfl⟩, by omega, by omega⟩
  try dsimp only at e1
  rw [show (max 0 ((k : Int) - r)) = ((k - r : Nat) : Int) by omega, e1, Option.bind_some]
  rw [isMx.uniq (e2.1.congr (W' := win r k) (fun j hj => by unfold win; omega)) hW]
theorem tg_b {Z : Nat → Int} (hR : Rg Z) (k : Nat) : 1 ≤ max 1 (rdZ Z k - Z 50 + Z 52) ∧ max 1 (rdZ Z k - Z 50 + Z 52) ≤ 104 := by
  have := rdZ_b hR (k := k)
  have := hR.we
  have := hR.of
  omega
def tgZ (Z : Nat → Int) (k : Nat) : Int := max 1 (rdZ Z k - Z 50 + Z 52)
theorem tgZ_b {Z : Nat → Int} (hR : Rg Z) (k : Nat) : 1 ≤ tgZ Z k ∧ tgZ Z k ≤ 104 := tg_b hR k
theorem zcX4_target {md : Nat → Int32} {Z : Nat → Int} (hmd : ∀ j : Nat, j < 48 → md j = zI (Z j)) (hR : Rg Z) {k : Nat} (hk : k < 16) : fX4_target md (zI (Z 48)) (zI (Z 49)) (zI (Z 50)) (zI (Z 52)) (zI k) = some (zI (tgZ Z k)) := by
  have := rdZ_b hR (k := k)
  have := hR.we
  have := hR.of
  unfold fX4_target
  rw [zcX4_reading hmd hR hk, Option.bind_some]
  simp only [zL0, zL1, zL2, zL3, zL5, zL6, zL7, zL8, zL9, zL10, zL15, zL16, zL18, zL20, zL30, zL31, zL33, zL48, zL49, zL50, zL51, zL52, zL53, zL54, zL55, zL56, zL57, zL58, zL59, zL60, zL61, zL62, zL63, zL64, zL65, zL66, zL80, zL99, zL100, zL120, zL126, zL156, zL200, zL1000, zL1404, zL1560, zLm, zI_neg, zI_add, zI_sub, zI_mul]
  rw [zI_mx (by omega)]
  rfl
def abZ (Z : Nat → Int) (q k : Nat) : Int := max 0 (dZ Z q k - tgZ Z k)
theorem abZ_b {Z : Nat → Int} (hR : Rg Z) {q k : Nat} (hq : q < 5) (hk : k < 16) : 0 ≤ abZ Z q k ∧ abZ Z q k ≤ 119 ∧ abZ Z q k ≤ dZ Z q k := by
  have := hR.di hq hk
  have := tgZ_b hR k
  unfold abZ dZ
  omega
theorem zcX4_above {md rd : Nat → Int32} {Z : Nat → Int} (hmd : ∀ j : Nat, j < 48 → md j = zI (Z j)) (hrd : rdO Z rd) (hR : Rg Z) {q k : Nat} (hq : q < 5) (hk : k < 16) : fX4_above md (zI (Z 48)) (zI (Z 49)) (zI (Z 50)) (zI (Z 52)) rd (zI q) (zI k) = some (zI (abZ Z q k)) := by
  have := hR.di hq hk
  have := tgZ_b hR k
  unfold fX4_above
  rw [zcX7_at hrd hq hk, Option.bind_some, zcX4_target hmd hR hk, Option.bind_some]
  simp only [zL0, zL1, zL2, zL3, zL5, zL6, zL7, zL8, zL9, zL10, zL15, zL16, zL18, zL20, zL30, zL31, zL33, zL48, zL49, zL50, zL51, zL52, zL53, zL54, zL55, zL56, zL57, zL58, zL59, zL60, zL61, zL62, zL63, zL64, zL65, zL66, zL80, zL99, zL100, zL120, zL126, zL156, zL200, zL1000, zL1404, zL1560, zLm, zI_neg, zI_add, zI_sub, zI_mul]
  rw [zI_mx (by unfold dZ; omega)]
  rfl
/-! folds over the 16 steps -/
theorem acc16 (L : Nat → Int32 → Int32 → Option Int32) (g : Nat → Int → Int)
    (h0 : ∀ n v, L (n + 1) v 16 = some v)
    (hs : ∀ (n i : Nat) (v : Int), i < 16 → -(2000 * (i : Int)) ≤ v ∧ v ≤ 2000 * i → L (n + 1) (zI v) (zI i) = L n (zI (g i v)) (zI ((i : Int) + 1)))
    (hb : ∀ (i : Nat) (v : Int), i < 16 → -(2000 * (i : Int)) ≤ v ∧ v ≤ 2000 * i → -(2000 * ((i : Int) + 1)) ≤ g i v ∧ g i v ≤ 2000 * ((i : Int) + 1)) : L 2000 0 0 = some (zI (zit g 0 16 0)) := by
  have key := loopG (S := Int) (L := fun n i v => L n (zI v) (zI i)) (g := g) (N := 16) (P := fun i v => -(2000 * (i : Int)) ≤ v ∧ v ≤ 2000 * i) (out := zI) (by
      intro n v hp
      exact h0 n (zI v)) (fun n i v hi hp => hs n i v hi hp) (by
      intro i v hi hp
      have := hb i v hi hp
      omega)
  exact (key 16 0 2000 0 rfl (by omega) ⟨by omega, by omega⟩).1
def moZ (Z : Nat → Int) (q : Nat) : Int := zit (fun i v => max v (abZ Z q i)) 0 16 0
def alZ (Z : Nat → Int) (q : Nat) : Int := zit (fun i v => v + abZ Z q i) 0 16 0
def smZ (Z : Nat → Int) (c : Nat) : Int := zit (fun i v => v + mZ Z c i) 0 16 0
def gmZ (Z : Nat → Int) (c : Nat) : Int := zit (fun i v => max v (mZ Z c i)) 0 16 0
def sdZ (Z : Nat → Int) (q : Nat) : Int := zit (fun i v => v + dZ Z q i) 0 16 0
def dfZ (Z : Nat → Int) (q c : Nat) : Int := zit (fun i v => v + max (dZ Z q i - mZ Z c i) (-(dZ Z q i - mZ Z c i))) 0 16 0
def faZ (Z : Nat → Int) (q : Nat) : Int := zit (fun i v => if max (dZ Z q i - mZ Z (Z 48).toNat i) (-(dZ Z q i - mZ Z (Z 48).toNat i)) ≤ Z 56 then v else v + 1) 0 16 0
def loZ (Z : Nat → Int) : Int := zit (fun i v => if rdZ Z i ≤ mZ Z (Z 48).toNat i then v else v + 1) 0 16 0
def tkZ (Z : Nat → Int) (q : Nat) (s : Int) : Int := zit (fun i v => max v (s * (dZ Z q i - mZ Z (Z 48).toNat i))) 0 16 0
theorem mZ_b {Z : Nat → Int} (hR : Rg Z) {c i : Nat} (hc : c < 3) (hi : i < 16) : 5 ≤ mZ Z c i ∧ mZ Z c i ≤ 99 := hR.md (by omega)
theorem dZ_b {Z : Nat → Int} (hR : Rg Z) {q i : Nat} (hq : q < 5) (hi : i < 16) : 0 ≤ dZ Z q i ∧ dZ Z q i ≤ 120 := ⟨(hR.di hq hi).1, (hR.di hq hi).2.1⟩
theorem chN {Z : Nat → Int} (hR : Rg Z) : (((Z 48).toNat : Nat) : Int) = Z 48 ∧ (Z 48).toNat < 3 := by have := hR.ch; omega
theorem zcX4_mostAbove {md rd : Nat → Int32} {Z : Nat → Int} (hmd : ∀ j : Nat, j < 48 → md j = zI (Z j)) (hrd : rdO Z rd) (hR : Rg Z) {q : Nat} (hq : q < 5) : fX4_mostAbove md (zI (Z 48)) (zI (Z 49)) (zI (Z 50)) (zI (Z 52)) rd (zI q) = some (zI (moZ Z q)) := by
  have key : fX4_mostAbove_L4 md (zI (Z 48)) (zI (Z 49)) (zI (Z 50)) (zI (Z 52)) rd (zI q) 2000 0 0 = some (zI (moZ Z q)) := acc16 (fun n v i => fX4_mostAbove_L4 md (zI (Z 48)) (zI (Z 49)) (zI (Z 50)) (zI (Z 52)) rd (zI q) n v i) (fun i v => max v (abZ Z q i)) (by
      intro n v
      try dsimp only
      rw [fX4_mostAbove_L4]
      exact ite_t (by decide)) (by
      intro n i v hi hv
      try dsimp only
      have ha := abZ_b hR hq hi
      rw [fX4_mostAbove_L4]
      simp only [zL0, zL1, zL2, zL3, zL5, zL6, zL7, zL8, zL9, zL10, zL15, zL16, zL18, zL20, zL30, zL31, zL33, zL48, zL49, zL50, zL51, zL52, zL53, zL54, zL55, zL56, zL57, zL58, zL59, zL60, zL61, zL62, zL63, zL64, zL65, zL66, zL80, zL99, zL100, zL120, zL126, zL156, zL200, zL1000, zL1404, zL1560, zLm, zI_neg, zI_add, zI_sub, zI_mul]
      rw [ite_n (show ¬ (zI 16 ≤ zI (i : Int)) by rw [zI_le (by omega)]; omega), zcX4_above hmd hrd hR hq hi, Option.bind_some, zI_mx (by omega)]) (by
      intro i v hi hv
      try dsimp only
      have ha := abZ_b hR hq hi
      omega)
  unfold fX4_mostAbove
  rw [key, Option.bind_some]
theorem zcX4_allAbove {md rd : Nat → Int32} {Z : Nat → Int} (hmd : ∀ j : Nat, j < 48 → md j = zI (Z j)) (hrd : rdO Z rd) (hR : Rg Z) {q : Nat} (hq : q < 5) : fX4_allAbove md (zI (Z 48)) (zI (Z 49)) (zI (Z 50)) (zI (Z 52)) rd (zI q) = some (zI (alZ Z q)) := by
  have key : fX4_allAbove_L4 md (zI (Z 48)) (zI (Z 49)) (zI (Z 50)) (zI (Z 52)) rd (zI q) 2000 0 0 = some (zI (alZ Z q)) := acc16 (fun n v i => fX4_allAbove_L4 md (zI (Z 48)) (zI (Z 49)) (zI (Z 50)) (zI (Z 52)) rd (zI q) n v i) (fun i v => v + abZ Z q i) (by
      intro n v
      try dsimp only
      rw [fX4_allAbove_L4]
      exact ite_t (by decide)) (by
      intro n i v hi hv
      try dsimp only
      have ha := abZ_b hR hq hi
      rw [fX4_allAbove_L4]
      simp only [zL0, zL1, zL2, zL3, zL5, zL6, zL7, zL8, zL9, zL10, zL15, zL16, zL18, zL20, zL30, zL31, zL33, zL48, zL49, zL50, zL51, zL52, zL53, zL54, zL55, zL56, zL57, zL58, zL59, zL60, zL61, zL62, zL63, zL64, zL65, zL66, zL80, zL99, zL100, zL120, zL126, zL156, zL200, zL1000, zL1404, zL1560, zLm, zI_neg, zI_add, zI_sub, zI_mul]
      rw [ite_n (show ¬ (zI 16 ≤ zI (i : Int)) by rw [zI_le (by omega)]; omega), zcX4_above hmd hrd hR hq hi, Option.bind_some, zI_add]) (by
      intro i v hi hv
      try dsimp only
      have ha := abZ_b hR hq hi
      omega)
  unfold fX4_allAbove
  rw [key, Option.bind_some]
theorem zcX7_sumOf {rd : Nat → Int32} {Z : Nat → Int} (hrd : rdO Z rd) (hR : Rg Z) {q : Nat} (hq : q < 5) : fX7_sumOf rd (zI q) = some (zI (sdZ Z q)) := by
  have key : fX7_sumOf_L4 rd (zI q) 2000 0 0 = some (zI (sdZ Z q)) := acc16 (fun n v i => fX7_sumOf_L4 rd (zI q) n v i) (fun i v => v + dZ Z q i) (by
      intro n v
      try dsimp only
      rw [fX7_sumOf_L4]
      exact ite_t (by decide)) (by
      intro n i v hi hv
      try dsimp only
      have ha := dZ_b hR hq hi
      rw [fX7_sumOf_L4]
      simp only [zL0, zL1, zL2, zL3, zL5, zL6, zL7, zL8, zL9, zL10, zL15, zL16, zL18, zL20, zL30, zL31, zL33, zL48, zL49, zL50, zL51, zL52, zL53, zL54, zL55, zL56, zL57, zL58, zL59, zL60, zL61, zL62, zL63, zL64, zL65, zL66, zL80, zL99, zL100, zL120, zL126, zL156, zL200, zL1000, zL1404, zL1560, zLm, zI_neg, zI_add, zI_sub, zI_mul]
      rw [ite_n (show ¬ (zI 16 ≤ zI (i : Int)) by rw [zI_le (by omega)]; omega), zcX7_at hrd hq hi, Option.bind_some, zI_add]) (by
      intro i v hi hv
      try dsimp only
      have ha := dZ_b hR hq hi
      omega)
  unfold fX7_sumOf
  rw [key, Option.bind_some]
theorem zcX4_difference {md rd : Nat → Int32} {Z : Nat → Int} (hmd : ∀ j : Nat, j < 48 → md j = zI (Z j)) (hrd : rdO Z rd) (hR : Rg Z) {q c i : Nat} (hq : q < 5) (hc : c < 3) (hi : i < 16) : fX4_difference md rd (zI q) (zI c) (zI i) = some (zI (dZ Z q i - mZ Z c i)) := by
  unfold fX4_difference
  rw [zcX7_at hrd hq hi, Option.bind_some, zcX6_at hmd hc hi, Option.bind_some, zI_sub]
theorem zcX4_differences {md rd : Nat → Int32} {Z : Nat → Int} (hmd : ∀ j : Nat, j < 48 → md j = zI (Z j)) (hrd : rdO Z rd) (hR : Rg Z) {q c : Nat} (hq : q < 5) (hc : c < 3) : fX4_differences md rd (zI q) (zI c) = some (zI (dfZ Z q c)) := by
  have key : fX4_differences_L5 md rd (zI q) (zI c) 2000 0 0 = some (zI (dfZ Z q c)) := acc16 (fun n v i => fX4_differences_L5 md rd (zI q) (zI c) n v i) (fun i v => v + max (dZ Z q i - mZ Z c i) (-(dZ Z q i - mZ Z c i))) (by
      intro n v
      try dsimp only
      rw [fX4_differences_L5]
      exact ite_t (by decide)) (by
      intro n i v hi hv
      try dsimp only
      have ha := mZ_b hR hc hi; have hb := dZ_b hR hq hi
      rw [fX4_differences_L5]
      simp only [zL0, zL1, zL2, zL3, zL5, zL6, zL7, zL8, zL9, zL10, zL15, zL16, zL18, zL20, zL30, zL31, zL33, zL48, zL49, zL50, zL51, zL52, zL53, zL54, zL55, zL56, zL57, zL58, zL59, zL60, zL61, zL62, zL63, zL64, zL65, zL66, zL80, zL99, zL100, zL120, zL126, zL156, zL200, zL1000, zL1404, zL1560, zLm, zI_neg, zI_add, zI_sub, zI_mul]
      rw [ite_n (show ¬ (zI 16 ≤ zI (i : Int)) by rw [zI_le (by omega)]; omega), zcX4_difference hmd hrd hR hq hc hi, Option.bind_some, zI_ab (by omega), zI_add]) (by
      intro i v hi hv
      try dsimp only
      have ha := mZ_b hR hc hi; have hb := dZ_b hR hq hi
      omega)
  unfold fX4_differences
  rw [key, Option.bind_some]
theorem zcX4_faults {md rd : Nat → Int32} {Z : Nat → Int} (hmd : ∀ j : Nat, j < 48 → md j = zI (Z j)) (hrd : rdO Z rd) (hR : Rg Z) {q : Nat} (hq : q < 5) : fX4_faults md (zI (Z 48)) rd (zI (Z 56)) (zI q) = some (zI (faZ Z q)) := by
  have key : fX4_faults_L4 md (zI (Z 48)) rd (zI (Z 56)) (zI q) 2000 0 0 = some (zI (faZ Z q)) := acc16 (fun n v i => fX4_faults_L4 md (zI (Z 48)) rd (zI (Z 56)) (zI q) n v i) (fun i v => if max (dZ Z q i - mZ Z (Z 48).toNat i) (-(dZ Z q i - mZ Z (Z 48).toNat i)) ≤ Z 56 then v else v + 1) (by
      intro n v
      try dsimp only
      rw [fX4_faults_L4]
      exact ite_t (by decide)) (by
      intro n i v hi hv
      try dsimp only
      have hc := chN hR; have ht := hR.to; have ha := mZ_b hR hc.2 hi; have hb := dZ_b hR hq hi
      rw [fX4_faults_L4]
      simp only [zL0, zL1, zL2, zL3, zL5, zL6, zL7, zL8, zL9, zL10, zL15, zL16, zL18, zL20, zL30, zL31, zL33, zL48, zL49, zL50, zL51, zL52, zL53, zL54, zL55, zL56, zL57, zL58, zL59, zL60, zL61, zL62, zL63, zL64, zL65, zL66, zL80, zL99, zL100, zL120, zL126, zL156, zL200, zL1000, zL1404, zL1560, zLm, zI_neg, zI_add, zI_sub, zI_mul]
      rw [ite_n (show ¬ (zI 16 ≤ zI (i : Int)) by rw [zI_le (by omega)]; omega), ← hc.1, zcX4_difference hmd hrd hR hq hc.2 hi, Option.bind_some, zI_ab (by omega), zi_le (by omega), hc.1]
      split <;> rfl) (by
      intro i v hi hv
      try dsimp only
      have hc := chN hR; have ht := hR.to; have ha := mZ_b hR hc.2 hi; have hb := dZ_b hR hq hi
      split <;> omega)
  unfold fX4_faults
  rw [key, Option.bind_some]
theorem zcX6_chosenAt {md : Nat → Int32} {Z : Nat → Int} (hmd : ∀ j : Nat, j < 48 → md j = zI (Z j)) (hR : Rg Z) {k : Nat} (hk : k < 16) : fX6_chosenAt md (zI (Z 48)) (zI k) = some (zI (mZ Z (Z 48).toNat k)) := by
  have hc := chN hR
  unfold fX6_chosenAt
  rw [← hc.1, zcX6_at hmd hc.2 hk, Option.bind_some, Int.toNat_natCast]
theorem zcX9_lostGrooves {md : Nat → Int32} {Z : Nat → Int} (hmd : ∀ j : Nat, j < 48 → md j = zI (Z j)) (hR : Rg Z) : fX9_lostGrooves md (zI (Z 48)) (zI (Z 49)) = some (zI (loZ Z)) := by
  have key : fX9_lostGrooves_L4 md (zI (Z 48)) (zI (Z 49)) 2000 0 0 = some (zI (loZ Z)) := acc16 (fun n v i => fX9_lostGrooves_L4 md (zI (Z 48)) (zI (Z 49)) n v i) (fun i v => if rdZ Z i ≤ mZ Z (Z 48).toNat i then v else v + 1) (by
      intro n v
      try dsimp only
      rw [fX9_lostGrooves_L4]
      exact ite_t (by decide)) (by
      intro n i v hi hv
      try dsimp only
      have hc := chN hR; have ha := mZ_b hR hc.2 hi; have hb := rdZ_b hR (k := i)
      rw [fX9_lostGrooves_L4]
      simp only [zL0, zL1, zL2, zL3, zL5, zL6, zL7, zL8, zL9, zL10, zL15, zL16, zL18, zL20, zL30, zL31, zL33, zL48, zL49, zL50, zL51, zL52, zL53, zL54, zL55, zL56, zL57, zL58, zL59, zL60, zL61, zL62, zL63, zL64, zL65, zL66, zL80, zL99, zL100, zL120, zL126, zL156, zL200, zL1000, zL1404, zL1560, zLm, zI_neg, zI_add, zI_sub, zI_mul]
      rw [ite_n (show ¬ (zI 16 ≤ zI (i : Int)) by rw [zI_le (by omega)]; omega), zcX4_reading hmd hR hi, Option.bind_some, zcX6_chosenAt hmd hR hi, Option.bind_some, zi_le (by omega)]
      split <;> rfl) (by
      intro i v hi hv
      try dsimp only
      have hc := chN hR; have ha := mZ_b hR hc.2 hi; have hb := rdZ_b hR (k := i)
      split <;> omega)
  unfold fX9_lostGrooves
  rw [key, Option.bind_some]
theorem zcX9_tooThick_L {md rd : Nat → Int32} {Z : Nat → Int} (hmd : ∀ j : Nat, j < 48 → md j = zI (Z j)) (hrd : rdO Z rd) (hR : Rg Z) {q : Nat} (hq : q < 5) : fX9_tooThick_L9 md (zI (Z 48)) rd (zI q) 2000 0 0 = some (zI (tkZ Z q 1)) := acc16 (fun n v i => fX9_tooThick_L9 md (zI (Z 48)) rd (zI q) n v i) (fun i v => max v (1 * (dZ Z q i - mZ Z (Z 48).toNat i))) (by
      intro n v
      try dsimp only
      rw [fX9_tooThick_L9]
      exact ite_t (by decide)) (by
      intro n i v hi hv
      try dsimp only
      have hc := chN hR; have ha := mZ_b hR hc.2 hi; have hb := dZ_b hR hq hi
      rw [fX9_tooThick_L9]
      simp only [zL0, zL1, zL2, zL3, zL5, zL6, zL7, zL8, zL9, zL10, zL15, zL16, zL18, zL20, zL30, zL31, zL33, zL48, zL49, zL50, zL51, zL52, zL53, zL54, zL55, zL56, zL57, zL58, zL59, zL60, zL61, zL62, zL63, zL64, zL65, zL66, zL80, zL99, zL100, zL120, zL126, zL156, zL200, zL1000, zL1404, zL1560, zLm, zI_neg, zI_add, zI_sub, zI_mul]
      rw [ite_n (show ¬ (zI 16 ≤ zI (i : Int)) by rw [zI_le (by omega)]; omega), ← hc.1, zcX4_difference hmd hrd hR hq hc.2 hi, Option.bind_some, zI_mx (by omega), hc.1]
      rw [show (1 * (dZ Z q i - mZ Z (Z 48).toNat i)) = dZ Z q i - mZ Z (Z 48).toNat i by omega]) (by
      intro i v hi hv
      try dsimp only
      have hc := chN hR; have ha := mZ_b hR hc.2 hi; have hb := dZ_b hR hq hi
      omega)
theorem zcX9_tooThin_L {md rd : Nat → Int32} {Z : Nat → Int} (hmd : ∀ j : Nat, j < 48 → md j = zI (Z j)) (hrd : rdO Z rd) (hR : Rg Z) {q : Nat} (hq : q < 5) : fX9_tooThin_L9 md (zI (Z 48)) rd (zI q) 2000 0 0 = some (zI (tkZ Z q (-1))) := acc16 (fun n v i => fX9_tooThin_L9 md (zI (Z 48)) rd (zI q) n v i) (fun i v => max v ((-1) * (dZ Z q i - mZ Z (Z 48).toNat i))) (by
      intro n v
      try dsimp only
      rw [fX9_tooThin_L9]
      exact ite_t (by decide)) (by
      intro n i v hi hv
      try dsimp only
      have hc := chN hR; have ha := mZ_b hR hc.2 hi; have hb := dZ_b hR hq hi
      rw [fX9_tooThin_L9]
      simp only [zL0, zL1, zL2, zL3, zL5, zL6, zL7, zL8, zL9, zL10, zL15, zL16, zL18, zL20, zL30, zL31, zL33, zL48, zL49, zL50, zL51, zL52, zL53, zL54, zL55, zL56, zL57, zL58, zL59, zL60, zL61, zL62, zL63, zL64, zL65, zL66, zL80, zL99, zL100, zL120, zL126, zL156, zL200, zL1000, zL1404, zL1560, zLm, zI_neg, zI_add, zI_sub, zI_mul]
      rw [ite_n (show ¬ (zI 16 ≤ zI (i : Int)) by rw [zI_le (by omega)]; omega), ← hc.1, zcX4_difference hmd hrd hR hq hc.2 hi, Option.bind_some, zI_neg, zI_mx (by omega), hc.1]
      rw [show ((-1) * (dZ Z q i - mZ Z (Z 48).toNat i)) = -(dZ Z q i - mZ Z (Z 48).toNat i) by omega]) (by
      intro i v hi hv
      try dsimp only
      have hc := chN hR; have ha := mZ_b hR hc.2 hi; have hb := dZ_b hR hq hi
      omega)
