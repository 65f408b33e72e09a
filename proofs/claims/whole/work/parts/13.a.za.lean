/-! numbers: zI is the Int32 of an integer; its sums, products and comparisons -/
def zI (a : Int) : Int32 := Int32.ofInt a
theorem zL0 : (0 : Int32) = zI 0 := by decide
theorem zL1 : (1 : Int32) = zI 1 := by decide
theorem zL2 : (2 : Int32) = zI 2 := by decide
theorem zL3 : (3 : Int32) = zI 3 := by decide
theorem zL5 : (5 : Int32) = zI 5 := by decide
theorem zL6 : (6 : Int32) = zI 6 := by decide
theorem zL7 : (7 : Int32) = zI 7 := by decide
theorem zL8 : (8 : Int32) = zI 8 := by decide
theorem zL9 : (9 : Int32) = zI 9 := by decide
theorem zL10 : (10 : Int32) = zI 10 := by decide
theorem zL15 : (15 : Int32) = zI 15 := by decide
theorem zL16 : (16 : Int32) = zI 16 := by decide
theorem zL18 : (18 : Int32) = zI 18 := by decide
theorem zL20 : (20 : Int32) = zI 20 := by decide
theorem zL30 : (30 : Int32) = zI 30 := by decide
theorem zL31 : (31 : Int32) = zI 31 := by decide
theorem zL33 : (33 : Int32) = zI 33 := by decide
theorem zL48 : (48 : Int32) = zI 48 := by decide
theorem zL49 : (49 : Int32) = zI 49 := by decide
theorem zL50 : (50 : Int32) = zI 50 := by decide
theorem zL51 : (51 : Int32) = zI 51 := by decide
theorem zL52 : (52 : Int32) = zI 52 := by decide
theorem zL53 : (53 : Int32) = zI 53 := by decide
theorem zL54 : (54 : Int32) = zI 54 := by decide
theorem zL55 : (55 : Int32) = zI 55 := by decide
theorem zL56 : (56 : Int32) = zI 56 := by decide
theorem zL57 : (57 : Int32) = zI 57 := by decide
theorem zL58 : (58 : Int32) = zI 58 := by decide
theorem zL59 : (59 : Int32) = zI 59 := by decide
theorem zL60 : (60 : Int32) = zI 60 := by decide
theorem zL61 : (61 : Int32) = zI 61 := by decide
theorem zL62 : (62 : Int32) = zI 62 := by decide
theorem zL63 : (63 : Int32) = zI 63 := by decide
theorem zL64 : (64 : Int32) = zI 64 := by decide
theorem zL65 : (65 : Int32) = zI 65 := by decide
theorem zL66 : (66 : Int32) = zI 66 := by decide
theorem zL80 : (80 : Int32) = zI 80 := by decide
theorem zL99 : (99 : Int32) = zI 99 := by decide
theorem zL100 : (100 : Int32) = zI 100 := by decide
theorem zL120 : (120 : Int32) = zI 120 := by decide
theorem zL126 : (126 : Int32) = zI 126 := by decide
theorem zL156 : (156 : Int32) = zI 156 := by decide
theorem zL200 : (200 : Int32) = zI 200 := by decide
theorem zL1000 : (1000 : Int32) = zI 1000 := by decide
theorem zL1404 : (1404 : Int32) = zI 1404 := by decide
theorem zL1560 : (1560 : Int32) = zI 1560 := by decide
theorem zLm : (-1 : Int32) = zI (-1) := by decide
theorem zI_add (a b : Int) : zI a + zI b = zI (a + b) := (Int32.ofInt_add a b).symm
theorem zI_sub (a b : Int) : zI a - zI b = zI (a - b) := (Int32.ofInt_sub a b).symm
theorem zI_mul (a b : Int) : zI a * zI b = zI (a * b) := (Int32.ofInt_mul a b).symm
theorem zI_neg (a : Int) : - zI a = zI (-a) := (Int32.ofInt_neg a).symm
theorem zI_toInt {a : Int} (h : (-2147483648 ≤ a ∧ a < 2147483648)) : (zI a).toInt = a := Int32.toInt_ofInt_of_le h.1 h.2
theorem zI_le {a b : Int} (h : (-2147483648 ≤ a ∧ a < 2147483648) ∧ (-2147483648 ≤ b ∧ b < 2147483648)) : (zI a ≤ zI b) = (a ≤ b) := by
  rw [Int32.le_iff_toInt_le, zI_toInt h.1, zI_toInt h.2]
theorem zI_lt {a b : Int} (h : (-2147483648 ≤ a ∧ a < 2147483648) ∧ (-2147483648 ≤ b ∧ b < 2147483648)) : (zI a < zI b) = (a < b) := by
  rw [Int32.lt_iff_toInt_lt, zI_toInt h.1, zI_toInt h.2]
theorem zI_eq {a b : Int} (h : (-2147483648 ≤ a ∧ a < 2147483648) ∧ (-2147483648 ≤ b ∧ b < 2147483648)) : (zI a = zI b) = (a = b) := by
  apply propext
  constructor
  · intro e
    have := congrArg Int32.toInt e
    rwa [zI_toInt h.1, zI_toInt h.2] at this
  · intro e; rw [e]
theorem zI_cl {a : Int} (h : (-2147483648 ≤ a ∧ a < 2147483648)) : (zI a).toNatClampNeg = a.toNat := Int32.toNatClampNeg_ofInt_of_le h.1 h.2
theorem zI_div {a b : Int} (h : (-2147483648 ≤ a ∧ a < 2147483648) ∧ (-2147483648 ≤ b ∧ b < 2147483648) ∧ 0 ≤ a ∧ 0 < b) : zI a / zI b = zI (a / b) := by
  unfold zI
  rw [← Int32.ofInt_tdiv (a := a) (b := b) (by show -2147483648 ≤ a; omega) (by show a ≤ 2147483647; omega) (by show -2147483648 ≤ b; omega) (by show b ≤ 2147483647; omega), Int.tdiv_eq_ediv_of_nonneg h.2.2.1]
theorem zi_le {α : Type} {a b : Int} {i : Decidable (zI a ≤ zI b)} {x y : α} (h : (-2147483648 ≤ a ∧ a < 2147483648) ∧ (-2147483648 ≤ b ∧ b < 2147483648)) : @ite α (zI a ≤ zI b) i x y = if a ≤ b then x else y := by
  by_cases c : a ≤ b
  · rw [if_pos c, if_pos (by rw [zI_le h]; exact c)]
  · rw [if_neg c, if_neg (by rw [zI_le h]; exact c)]
theorem zi_lt {α : Type} {a b : Int} {i : Decidable (zI a < zI b)} {x y : α} (h : (-2147483648 ≤ a ∧ a < 2147483648) ∧ (-2147483648 ≤ b ∧ b < 2147483648)) : @ite α (zI a < zI b) i x y = if a < b then x else y := by
  by_cases c : a < b
  · rw [if_pos c, if_pos (by rw [zI_lt h]; exact c)]
  · rw [if_neg c, if_neg (by rw [zI_lt h]; exact c)]
theorem zi_eq {α : Type} {a b : Int} {i : Decidable (zI a = zI b)} {x y : α} (h : (-2147483648 ≤ a ∧ a < 2147483648) ∧ (-2147483648 ≤ b ∧ b < 2147483648)) : @ite α (zI a = zI b) i x y = if a = b then x else y := by
  by_cases c : a = b
  · rw [if_pos c, if_pos (by rw [zI_eq h]; exact c)]
  · rw [if_neg c, if_neg (by rw [zI_eq h]; exact c)]
theorem zi_ne {α : Type} {a b : Int} {i : Decidable (¬ zI a = zI b)} {x y : α} (h : (-2147483648 ≤ a ∧ a < 2147483648) ∧ (-2147483648 ≤ b ∧ b < 2147483648)) : @ite α (¬ zI a = zI b) i x y = if ¬ a = b then x else y := by
  by_cases c : a = b
  · rw [if_neg (fun d => d (by rw [zI_eq h]; exact c)), if_neg (fun d => d c)]
  · rw [if_pos c, if_pos (by rw [zI_eq h]; exact c)]
theorem zI_mx {a b : Int} (h : (-2147483648 ≤ a ∧ a < 2147483648) ∧ (-2147483648 ≤ b ∧ b < 2147483648)) : mxI (zI a) (zI b) = zI (max a b) := by
  unfold mxI
  rw [zi_lt h]
  split
  · rw [Int.max_eq_right (by omega)]
  · rw [Int.max_eq_left (by omega)]
theorem zI_mn {a b : Int} (h : (-2147483648 ≤ a ∧ a < 2147483648) ∧ (-2147483648 ≤ b ∧ b < 2147483648)) : mnI (zI a) (zI b) = zI (min a b) := by
  unfold mnI
  rw [zi_lt ⟨h.2, h.1⟩]
  split
  · rw [Int.min_eq_right (by omega)]
  · rw [Int.min_eq_left (by omega)]
theorem zI_ab {a : Int} (h : (-2147483648 ≤ a ∧ a < 2147483648) ∧ (-2147483648 ≤ -a ∧ -a < 2147483648)) : abI (zI a) = zI (max a (-a)) := by
  unfold abI
  rw [zL0, zi_le ⟨by omega, h.1⟩, zI_sub]
  split
  · rw [Int.max_eq_left (by omega)]
  · rw [Int.max_eq_right (by omega), Int.zero_sub]
theorem zI_ix {a : Int} {n : Nat} (h : 0 ≤ a ∧ a < n ∧ n < 2147483648) : ¬ (zI a < zI 0 ∨ n ≤ (zI a).toNatClampNeg) := by
  have hb : (-2147483648 ≤ a ∧ a < 2147483648) := by omega
  rw [zI_lt ⟨hb, by omega⟩, zI_cl hb]
  omega
theorem zI_surj (x : Int32) : ∃ a : Int, (-2147483648 ≤ a ∧ a < 2147483648) ∧ x = zI a :=
  ⟨x.toInt, ⟨by have := Int32.minValue_le_toInt x; have h9 : Int32.minValue.toInt = -2147483648 := by decide
                omega, by have := Int32.toInt_lt x; omega⟩, (Int32.ofInt_toInt x).symm⟩
theorem nI_zI (n : Nat) : nI n = zI (n : Int) := (Int32.ofInt_eq_ofNat).symm
theorem ite_t {α : Type} {c : Prop} {i : Decidable c} {a b : α} (h : c) : @ite α c i a b = a := if_pos h
theorem ite_n {α : Type} {c : Prop} {i : Decidable c} {a b : α} (h : ¬ c) : @ite α c i a b = b := if_neg h
/-! loops -/
def zit {S : Type} (g : Nat → S → S) : Nat → Nat → S → S
  | _, 0, s => s
  | i, k + 1, s => zit g (i + 1) k (g i s)
theorem loopG {S R : Type} (L : Nat → Nat → S → Option R) (g : Nat → S → S) (N : Nat) (P : Nat → S → Prop) (out : S → R) (h0 : ∀ n s, P N s → L (n + 1) N s = some (out s)) (hs : ∀ n i s, i < N → P i s → L (n + 1) i s = L n (i + 1) (g i s)) (hP : ∀ i s, i < N → P i s → P (i + 1) (g i s)) :
    ∀ (k i n : Nat) (s : S), i + k = N → k < n → P i s → L n i s = some (out (zit g i k s)) ∧ P N (zit g i k s) := by
  intro k
  induction k with
  | zero =>
    intro i n s e hn hp
    obtain ⟨m, rfl⟩ : ∃ m, n = m + 1 := ⟨n - 1, by omega⟩
    have e' : i = N := by omega
    subst e'
    exact ⟨h0 m s hp, hp⟩
  | succ k ih =>
    intro i n s e hn hp
    obtain ⟨m, rfl⟩ : ∃ m, n = m + 1 := ⟨n - 1, by omega⟩
    rw [hs m i s (by omega) hp]
    exact ih (i + 1) m (g i s) (by omega) (by omega) (hP i s (by omega) hp)
theorem zit_P {S : Type} {g : Nat → S → S} {N : Nat} {P : Nat → S → Prop} (hP : ∀ i s, i < N → P i s → P (i + 1) (g i s)) : ∀ (k i : Nat) (s : S), i + k = N → P i s → P N (zit g i k s) := by
  intro k
  induction k with
  | zero => intro i s e hp; have e' : i = N := by omega
            subst e'; exact hp
  | succ k ih => intro i s e hp; exact ih (i + 1) (g i s) (by omega) (hP i s (by omega) hp)
theorem zit_congr {S : Type} {g h : Nat → S → S} {N : Nat} (P : Nat → S → Prop) (hP : ∀ i s, i < N → P i s → P (i + 1) (g i s)) (he : ∀ i s, i < N → P i s → g i s = h i s) : ∀ (k i : Nat) (s : S), i + k = N → P i s → zit g i k s = zit h i k s := by
  intro k
  induction k with
  | zero => intro i s _ _; rfl
  | succ k ih =>
    intro i s e hp
    show zit g (i + 1) k (g i s) = zit h (i + 1) k (h i s)
    rw [← he i s (by omega) hp]
    exact ih (i + 1) (g i s) (by omega) (hP i s (by omega) hp)
/-! what a lathe is, as integers: the model's block of 156 places -/
def zup (Z : Nat → Int) (k : Nat) (v : Int) : Nat → Int := fun j => if j = k then v else Z j
theorem zup_s {Z : Nat → Int} {k : Nat} {v : Int} : zup Z k v k = v := by simp [zup]
theorem zup_n {Z : Nat → Int} {k j : Nat} {v : Int} (h : j ≠ k) : zup Z k v j = Z j := by simp [zup, h]
def Rg (Z : Nat → Int) : Prop :=
  (∀ j : Nat, j < 48 → 5 ≤ Z j ∧ Z j ≤ 99) ∧ (0 ≤ Z 48 ∧ Z 48 ≤ 2) ∧ (0 ≤ Z 49 ∧ Z 49 ≤ 3) ∧ (0 ≤ Z 50 ∧ Z 50 ≤ 30) ∧ (0 ≤ Z 52 ∧ Z 52 ≤ 5) ∧ (0 ≤ Z 53 ∧ Z 53 ≤ 100) ∧ (1 ≤ Z 54 ∧ Z 54 ≤ 9) ∧ (1 ≤ Z 55 ∧ Z 55 ≤ 5) ∧ (0 ≤ Z 56 ∧ Z 56 ≤ 20) ∧ (0 ≤ Z 57 ∧ Z 57 ≤ 200) ∧ (Z 58 = 0 ∨ Z 58 = 1) ∧ (0 ≤ Z 59 ∧ Z 59 ≤ 5) ∧ (-1 ≤ Z 60 ∧ Z 60 < max 0 (Z 59)) ∧
  (∀ q : Nat, q < 5 → 0 ≤ Z (66 + 18 * q) ∧ Z (66 + 18 * q) ≤ 2) ∧ (∀ q k : Nat, q < 5 → k < 16 → 0 ≤ Z (68 + 18 * q + k) ∧ Z (68 + 18 * q + k) ≤ 120 ∧ ((q : Int) < Z 59 → 1 ≤ Z (68 + 18 * q + k)))
theorem Rg.md {Z : Nat → Int} (h : Rg Z) {j : Nat} (hj : j < 48) : 5 ≤ Z j ∧ Z j ≤ 99 := h.1 j hj
theorem Rg.ch {Z : Nat → Int} (h : Rg Z) : 0 ≤ Z 48 ∧ Z 48 ≤ 2 := h.2.1
theorem Rg.ra {Z : Nat → Int} (h : Rg Z) : 0 ≤ Z 49 ∧ Z 49 ≤ 3 := h.2.2.1
theorem Rg.we {Z : Nat → Int} (h : Rg Z) : 0 ≤ Z 50 ∧ Z 50 ≤ 30 := h.2.2.2.1
theorem Rg.of {Z : Nat → Int} (h : Rg Z) : 0 ≤ Z 52 ∧ Z 52 ≤ 5 := h.2.2.2.2.1
theorem Rg.sh {Z : Nat → Int} (h : Rg Z) : 0 ≤ Z 53 ∧ Z 53 ≤ 100 := h.2.2.2.2.2.1
theorem Rg.de {Z : Nat → Int} (h : Rg Z) : 1 ≤ Z 54 ∧ Z 54 ≤ 9 := h.2.2.2.2.2.2.1
theorem Rg.sp {Z : Nat → Int} (h : Rg Z) : 1 ≤ Z 55 ∧ Z 55 ≤ 5 := h.2.2.2.2.2.2.2.1
theorem Rg.to {Z : Nat → Int} (h : Rg Z) : 0 ≤ Z 56 ∧ Z 56 ≤ 20 := h.2.2.2.2.2.2.2.2.1
theorem Rg.chi {Z : Nat → Int} (h : Rg Z) : 0 ≤ Z 57 ∧ Z 57 ≤ 200 := h.2.2.2.2.2.2.2.2.2.1
theorem Rg.ja {Z : Nat → Int} (h : Rg Z) : Z 58 = 0 ∨ Z 58 = 1 := h.2.2.2.2.2.2.2.2.2.2.1
theorem Rg.co {Z : Nat → Int} (h : Rg Z) : 0 ≤ Z 59 ∧ Z 59 ≤ 5 := h.2.2.2.2.2.2.2.2.2.2.2.1
theorem Rg.mo {Z : Nat → Int} (h : Rg Z) : -1 ≤ Z 60 ∧ Z 60 < max 0 (Z 59) := h.2.2.2.2.2.2.2.2.2.2.2.2.1
theorem Rg.wo {Z : Nat → Int} (h : Rg Z) {q : Nat} (hq : q < 5) : 0 ≤ Z (66 + 18 * q) ∧ Z (66 + 18 * q) ≤ 2 := h.2.2.2.2.2.2.2.2.2.2.2.2.2.1 q hq
theorem Rg.di {Z : Nat → Int} (h : Rg Z) {q k : Nat} (hq : q < 5) (hk : k < 16) : 0 ≤ Z (68 + 18 * q + k) ∧ Z (68 + 18 * q + k) ≤ 120 ∧ ((q : Int) < Z 59 → 1 ≤ Z (68 + 18 * q + k)) := h.2.2.2.2.2.2.2.2.2.2.2.2.2.2 q k hq hk
/-! readings -/
def mZ (Z : Nat → Int) (c k : Nat) : Int := Z (16 * c + k)
def dZ (Z : Nat → Int) (q k : Nat) : Int := Z (68 + 18 * q + k)
def win (r k j : Nat) : Prop := k ≤ j + r ∧ j ≤ k + r
def isMx (g : Nat → Int) (W : Nat → Prop) (v : Int) : Prop := 0 ≤ v ∧ (∀ j, j < 16 → W j → g j ≤ v) ∧ (v = 0 ∨ ∃ j, j < 16 ∧ W j ∧ g j = v)
theorem isMx.uniq {g : Nat → Int} {W : Nat → Prop} {v w : Int} (h1 : isMx g W v) (h2 : isMx g W w) : v = w := by
  obtain ⟨a1, a2, a3⟩ := h1
  obtain ⟨b1, b2, b3⟩ := h2
  apply Int.le_antisymm
  · rcases a3 with h | ⟨j, hj, hw, e⟩
    · omega
    · have := b2 j hj hw; omega
  · rcases b3 with h | ⟨j, hj, hw, e⟩
    · omega
    · have := a2 j hj hw; omega
theorem isMx.congr {g : Nat → Int} {W W' : Nat → Prop} {v : Int} (h : isMx g W v) (e : ∀ j, j < 16 → (W j ↔ W' j)) : isMx g W' v :=
  ⟨h.1, fun j hj hw => h.2.1 j hj ((e j hj).mpr hw), h.2.2.elim Or.inl (fun ⟨j, hj, hw, e1⟩ => Or.inr ⟨j, hj, (e j hj).mp hw, e1⟩)⟩
theorem isMx.step {g : Nat → Int} {W W' : Nat → Prop} {v : Int} {i : Nat} (h : isMx g W v) (hi : i < 16) (e : ∀ j, j < 16 → (W' j ↔ W j ∨ j = i)) : isMx g W' (max v (g i)) := by
  refine ⟨by have := h.1; omega, fun j hj hw => ?_, ?_⟩
  · rcases (e j hj).mp hw with h1 | h1
    · have := h.2.1 j hj h1; omega
    · subst h1; omega
  · by_cases hv : g i ≤ v
    · rw [Int.max_eq_left hv]
      rcases h.2.2 with h1 | ⟨j, hj, hw, e1⟩
      · exact Or.inl h1
      · exact Or.inr ⟨j, hj, (e j hj).mpr (Or.inl hw), e1⟩
    · rw [Int.max_eq_right (by omega)]
      exact Or.inr ⟨i, hi, (e i hi).mpr (Or.inr rfl), rfl⟩
def rdZ (Z : Nat → Int) (k : Nat) : Int := zit (fun j v => if k ≤ j + (Z 49).toNat ∧ j ≤ k + (Z 49).toNat then max v (mZ Z (Z 48).toNat j) else v) 0 16 0
theorem rdZ_is (Z : Nat → Int) (k : Nat) : isMx (mZ Z (Z 48).toNat) (win (Z 49).toNat k) (rdZ Z k) := by
  have h := zit_P (g := fun j v => if k ≤ j + (Z 49).toNat ∧ j ≤ k + (Z 49).toNat then max v (mZ Z (Z 48).toNat j) else v) (N := 16) (P := fun i v => isMx (mZ Z (Z 48).toNat) (fun j => win (Z 49).toNat k j ∧ j < i) v) (by
    intro i v hi hp
    try dsimp only
    by_cases hc : k ≤ i + (Z 49).toNat ∧ i ≤ k + (Z 49).toNat
    · rw [ite_t hc]
      refine hp.step hi (fun j hj => ?_)
      unfold win
      constructor
      · rintro ⟨h1, h2⟩
        by_cases e : j = i
        · exact Or.inr e
        · exact Or.inl ⟨h1, by omega⟩
      · rintro (⟨h1, h2⟩ | rfl)
        · exact ⟨h1, by omega⟩
        · exact ⟨hc, by omega⟩
    · rw [ite_n hc]
      refine hp.congr (fun j hj => ?_)
      unfold win
      constructor
      · rintro ⟨h1, h2⟩; exact ⟨h1, by omega⟩
      · rintro ⟨h1, h2⟩
        refine ⟨h1, ?_⟩
        rcases Nat.lt_or_ge j i with h3 | h3
        · exact h3
        · have : j = i := by omega
          subst this; exact absurd h1 hc) 16 0 0 rfl ⟨by omega, fun j hj hw => absurd hw.2 (by omega), Or.inl rfl⟩
  exact h.congr (fun j hj => ⟨fun h => h.1, fun h => ⟨h, hj⟩⟩)
theorem rdZ_b {Z : Nat → Int} (hR : Rg Z) {k : Nat} : 0 ≤ rdZ Z k ∧ rdZ Z k ≤ 99 := by
  have h := rdZ_is Z k
  refine ⟨h.1, ?_⟩
  rcases h.2.2 with h1 | ⟨j, hj, hw, e⟩
  · omega
  · have hc := hR.ch
    have := hR.md (j := 16 * (Z 48).toNat + j) (by omega)
    unfold mZ at e
    omega
