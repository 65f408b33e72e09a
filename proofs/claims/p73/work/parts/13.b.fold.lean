/-! folds over the steps, said by their places -/
theorem zmaxG {f : Nat → Int} {b : Int} : ∀ (k i : Nat) (v : Int), zit (fun j v => max v (f j)) i k v ≤ b ↔ (v ≤ b ∧ ∀ j, i ≤ j → j < i + k → f j ≤ b) := by
  intro k
  induction k with
  | zero => intro i v; exact ⟨fun h => ⟨h, fun j h1 h2 => absurd h2 (by omega)⟩, fun h => h.1⟩
  | succ k ih =>
    intro i v
    show zit (fun j v => max v (f j)) (i + 1) k (max v (f i)) ≤ b ↔ _
    rw [ih]
    constructor
    · rintro ⟨h1, h2⟩
      refine ⟨by omega, fun j a c => ?_⟩
      by_cases e : j = i
      · subst e; omega
      · exact h2 j (by omega) (by omega)
    · rintro ⟨h1, h2⟩
      have := h2 i (by omega) (by omega)
      exact ⟨by omega, fun j a c => h2 j (by omega) (by omega)⟩
theorem zmax_le {f : Nat → Int} {b : Int} (hb : 0 ≤ b) : zit (fun j v => max v (f j)) 0 16 0 ≤ b ↔ ∀ j, j < 16 → f j ≤ b := by
  rw [zmaxG]
  exact ⟨fun h j hj => h.2 j (by omega) (by omega), fun h => ⟨hb, fun j _ h2 => h j (by omega)⟩⟩
theorem zcntG {c : Nat → Prop} [h9 : ∀ i, Decidable (c i)] : ∀ (k i : Nat) (v : Int), v ≤ zit (fun j v => if c j then v else v + 1) i k v ∧ (zit (fun j v => if c j then v else v + 1) i k v = v ↔ ∀ j, i ≤ j → j < i + k → c j) := by
  intro k
  induction k with
  | zero => intro i v; exact ⟨Int.le_refl _, fun _ j h1 h2 => absurd h2 (by omega), fun _ => rfl⟩
  | succ k ih =>
    intro i v
    show v ≤ zit (fun j v => if c j then v else v + 1) (i + 1) k (if c i then v else v + 1) ∧ (zit (fun j v => if c j then v else v + 1) (i + 1) k (if c i then v else v + 1) = v ↔ _)
    by_cases hc : c i
    · rw [if_pos hc]
      obtain ⟨h1, h2⟩ := ih (i + 1) v
      refine ⟨h1, h2.trans ⟨fun h j a b => ?_, fun h j a b => h j (by omega) (by omega)⟩⟩
      by_cases e : j = i
      · subst e; exact hc
      · exact h j (by omega) (by omega)
    · rw [if_neg hc]
      obtain ⟨h1, h2⟩ := ih (i + 1) (v + 1)
      exact ⟨by omega, fun h => absurd h (by omega), fun h => absurd (h i (by omega) (by omega)) hc⟩
theorem zcnt_0 {c : Nat → Prop} [h9 : ∀ i, Decidable (c i)] : zit (fun j v => if c j then v else v + 1) 0 16 (0 : Int) = 0 ↔ ∀ j, j < 16 → c j := by
  rw [(zcntG 16 0 0).2]
  exact ⟨fun h j hj => h j (by omega) (by omega), fun h j _ h2 => h j (by omega)⟩
theorem zsum0G {f : Nat → Int} : ∀ (k i : Nat) (v : Int), (∀ j, i ≤ j → j < i + k → 0 ≤ f j) → v ≤ zit (fun j v => v + f j) i k v ∧ (zit (fun j v => v + f j) i k v = v ↔ ∀ j, i ≤ j → j < i + k → f j = 0) := by
  intro k
  induction k with
  | zero => intro i v _; exact ⟨Int.le_refl _, fun _ j h1 h2 => absurd h2 (by omega), fun _ => rfl⟩
  | succ k ih =>
    intro i v hf
    have h0 := hf i (by omega) (by omega)
    obtain ⟨h1, h2⟩ := ih (i + 1) (v + f i) (fun j a b => hf j (by omega) (by omega))
    show v ≤ zit (fun j v => v + f j) (i + 1) k (v + f i) ∧ (zit (fun j v => v + f j) (i + 1) k (v + f i) = v ↔ _)
    refine ⟨by omega, fun h j a b => ?_, fun h => ?_⟩
    · by_cases e : j = i
      · subst e; omega
      · have e0 : f i = 0 := by omega
        rw [e0] at h h2
        rw [Int.add_zero] at h h2
        exact h2.mp h j (by omega) (by omega)
    · have e0 := h i (by omega) (by omega)
      rw [e0] at h2 ⊢
      rw [Int.add_zero] at h2 ⊢
      exact h2.mpr (fun j a b => h j (by omega) (by omega))
theorem zsum_0 {f : Nat → Int} (hf : ∀ j, j < 16 → 0 ≤ f j) : zit (fun j v => v + f j) 0 16 0 = 0 ↔ ∀ j, j < 16 → f j = 0 := by
  rw [(zsum0G 16 0 0 (fun j _ h => hf j (by omega))).2]
  exact ⟨fun h j hj => h j (by omega) (by omega), fun h j _ h2 => h j (by omega)⟩
theorem zsum_sh (f : Nat → Int) : ∀ (k i : Nat) (v w : Int), zit (fun j v => v + f j) i k (v + w) = zit (fun j v => v + f j) i k v + w := by
  intro k
  induction k with
  | zero => intro i v w; rfl
  | succ k ih =>
    intro i v w
    show zit (fun j v => v + f j) (i + 1) k (v + w + f i) = zit (fun j v => v + f j) (i + 1) k (v + f i) + w
    rw [show v + w + f i = (v + f i) + w by omega, ih]
theorem zsum_pt {f g : Nat → Int} {p : Nat} (h : ∀ j, j ≠ p → g j = f j) : ∀ (k i : Nat) (v : Int), zit (fun j v => v + g j) i k v = zit (fun j v => v + f j) i k v + (if i ≤ p ∧ p < i + k then g p - f p else 0) := by
  intro k
  induction k with
  | zero => intro i v; rw [if_neg (by omega)]; exact (Int.add_zero _).symm
  | succ k ih =>
    intro i v
    show zit (fun j v => v + g j) (i + 1) k (v + g i) = zit (fun j v => v + f j) (i + 1) k (v + f i) + _
    rw [ih]
    by_cases e : i = p
    · subst e
      rw [if_neg (by omega), if_pos (by omega), show v + g i = (v + f i) + (g i - f i) by omega, zsum_sh]
      omega
    · rw [h i e]
      by_cases c : i ≤ p ∧ p < i + (k + 1)
      · rw [if_pos c, if_pos (by omega)]
      · rw [if_neg c, if_neg (by omega)]
theorem dZ_up {Y : Nat → Int} {q i j : Nat} {v : Int} : dZ (zup Y (68 + 18 * q + i) v) q j = if j = i then v else dZ Y q j := by
  unfold dZ zup
  by_cases e : j = i
  · rw [if_pos (by omega), if_pos e]
  · rw [if_neg (by omega), if_neg e]
theorem dZ_sc {Y : Nat → Int} {q j p : Nat} {v : Int} (h : p < 68) : dZ (zup Y p v) q j = dZ Y q j := by
  unfold dZ
  rw [zup_n (by omega)]
theorem sd_up {Y : Nat → Int} {q i : Nat} {v : Int} (hi : i < 16) : sdZ (zup Y (68 + 18 * q + i) v) q = sdZ Y q + (v - dZ Y q i) := by
  unfold sdZ
  rw [zsum_pt (f := dZ Y q) (g := dZ (zup Y (68 + 18 * q + i) v) q) (p := i) (fun j hj => by rw [dZ_up, if_neg hj]) 16 0 0, if_pos (by omega), dZ_up, if_pos rfl]
theorem sd_sc {Y : Nat → Int} {q p : Nat} {v : Int} (h : p < 68) : sdZ (zup Y p v) q = sdZ Y q := by
  unfold sdZ
  rw [zsum_pt (f := dZ Y q) (g := dZ (zup Y p v) q) (p := 99) (fun j hj => dZ_sc h) 16 0 0, if_neg (by omega), Int.add_zero]
theorem sd_congr {Y Z : Nat → Int} {q : Nat} (h : ∀ j, dZ Y q j = dZ Z q j) : sdZ Y q = sdZ Z q := by
  unfold sdZ
  rw [zsum_pt (f := dZ Z q) (g := dZ Y q) (p := 99) (fun j hj => h j) 16 0 0, if_neg (by omega), Int.add_zero]
/-! a pass, step by step -/
def cutI (Z : Nat → Int) (c : Int) (q i : Nat) (s : Int × (Nat → Int)) : Prop :=
  cutP Z q i s ∧ sdZ s.2 q = sdZ Z q - s.1 ∧ s.2 57 = Z 57 + s.1 ∧ ((s.2 58 = 0 ∧ s.2 64 = Z 64) ∨ (s.2 58 = 1 ∧ s.2 64 = Z 64 + 1)) ∧ (∀ k, i ≤ k → k < 16 → dZ s.2 q k = dZ Z q k) ∧ (∀ k, k < i → dZ s.2 q k = dZ Z q k - min c (abZ Z q k) ∨ (dZ s.2 q k = dZ Z q k ∧ s.2 58 = 1))
theorem cutI_step {Z : Nat → Int} (hZ : Rg Z) {c : Int} (hc : 0 ≤ c ∧ c ≤ 9) {q : Nat} (hq : q < 5) : ∀ (i : Nat) (s : Int × (Nat → Int)), i < 16 → cutI Z c q i s → cutI Z c q (i + 1) (cutG c q i s) := by
  rintro i ⟨s, Y⟩ hi ⟨hP, hs, h57, h58, hr, hl⟩
  have hP2 := cutP_step (Z0 := Z) hc hq i (s, Y) hi hP
  refine ⟨hP2, ?_⟩
  have hf := hP.2.2
  have hd : dZ Y q i = dZ Z q i := hr i (Nat.le_refl _) hi
  have ha : abZ Y q i = abZ Z q i := abZ_congr hZ (fun j hj => hf j (by omega)) hd
  clear hP hP2
  try dsimp only at hs h57 h58 hr hl
  unfold cutG
  try dsimp only
  rw [ha, hd]
  by_cases h1 : Y 58 = 0
  · rw [if_pos h1]
    have h64 : Y 64 = Z 64 := by omega
    by_cases h2 : min c (abZ Z q i) ≤ 200 - Y 57
    · rw [if_pos h2]
      try dsimp only
      refine ⟨?_, ?_, ?_, ?_, ?_⟩
      · rw [sd_sc (by omega), sd_up hi, hd, hs]; omega
      · rw [zup_s, h57]; omega
      · left
        rw [zup_n (by omega), zup_n (by omega), zup_n (by omega), zup_n (by omega)]
        exact ⟨h1, h64⟩
      · intro k a b
        rw [dZ_sc (by omega), dZ_up, if_neg (by omega)]
        exact hr k (by omega) b
      · intro k a
        left
        rw [dZ_sc (by omega), dZ_up]
        by_cases e : k = i
        · rw [if_pos e, e]
        · rw [if_neg e]
          rcases hl k (by omega) with h | h
          · exact h
          · omega
    · rw [if_neg h2]
      try dsimp only
      refine ⟨?_, ?_, ?_, ?_, ?_⟩
      · rw [sd_sc (by omega), sd_sc (by omega), hs]
      · rw [zup_n (by omega), zup_n (by omega), h57]
      · right
        rw [zup_n (by omega), zup_s, zup_s]
        omega
      · intro k a b
        rw [dZ_sc (by omega), dZ_sc (by omega)]
        exact hr k (by omega) b
      · intro k a
        rw [dZ_sc (by omega), dZ_sc (by omega), zup_n (by omega), zup_s]
        by_cases e : k = i
        · right; rw [e]; exact ⟨hd, rfl⟩
        · rcases hl k (by omega) with h | h
          · exact Or.inl h
          · omega
  · rw [if_neg h1]
    try dsimp only
    refine ⟨hs, h57, h58, fun k a b => hr k (by omega) b, fun k a => ?_⟩
    by_cases e : k = i
    · right; rw [e]; exact ⟨hd, by omega⟩
    · exact hl k (by omega)
theorem cutZ_I {Z : Nat → Int} (hZ : Rg Z) {q : Nat} (hq : q < 5) (h58 : Z 58 = 0) : cutI Z (cuZ Z) q 16 (cutZ Z q) :=
  zit_P (N := 16) (P := cutI Z (cuZ Z) q) (fun i s hi hp => cutI_step hZ ⟨(cuZ_b hZ).1, (cuZ_b hZ).2.1⟩ hq i s hi hp) 16 0 (0, Z) rfl
    ⟨⟨hZ, by (try dsimp only); omega, fun _ _ => rfl⟩, by (try dsimp only); omega, by (try dsimp only); omega, Or.inl ⟨h58, rfl⟩, fun _ _ _ => rfl, fun k hk => absurd hk (by omega)⟩
/-! sanding, step by step -/
def rubI (Z : Nat → Int) (a : Int) (q i : Nat) (s : Int × (Nat → Int)) : Prop :=
  rubP Z q i s ∧ sdZ s.2 q = sdZ Z q - s.1 ∧ (∀ k, i ≤ k → k < 16 → dZ s.2 q k = dZ Z q k) ∧ (∀ k, k < i → dZ s.2 q k = dZ Z q k - min a (abZ Z q k))
theorem rubI_step {Z : Nat → Int} (hZ : Rg Z) {a : Int} (ha : 1 ≤ a ∧ a ≤ 3) {q : Nat} (hq : q < 5) : ∀ (i : Nat) (s : Int × (Nat → Int)), i < 16 → rubI Z a q i s → rubI Z a q (i + 1) (rubG a q i s) := by
  rintro i ⟨s, Y⟩ hi ⟨hP, hs, hr, hl⟩
  have hP2 := rubP_step (Z0 := Z) ha hq i (s, Y) hi hP
  refine ⟨hP2, ?_⟩
  have hf := hP.2.2
  have hd : dZ Y q i = dZ Z q i := hr i (Nat.le_refl _) hi
  have hb : abZ Y q i = abZ Z q i := abZ_congr hZ (fun j hj => hf j (by omega)) hd
  clear hP hP2
  try dsimp only at hs hr hl
  unfold rubG
  try dsimp only
  rw [hb, hd]
  refine ⟨?_, ?_, ?_⟩
  · rw [sd_up hi, hd, hs]; omega
  · intro k a b
    rw [dZ_up, if_neg (by omega)]
    exact hr k (by omega) b
  · intro k b
    rw [dZ_up]
    by_cases e : k = i
    · rw [if_pos e, e]
    · rw [if_neg e]; exact hl k (by omega)
def rubZ (a : Int) (q : Nat) (Z : Nat → Int) : Int × (Nat → Int) := zit (rubG a q) 0 16 (0, Z)
theorem rubZ_I {Z : Nat → Int} (hZ : Rg Z) {a : Int} (ha : 1 ≤ a ∧ a ≤ 3) {q : Nat} (hq : q < 5) : rubI Z a q 16 (rubZ a q Z) :=
  zit_P (N := 16) (P := rubI Z a q) (fun i s hi hp => rubI_step hZ ha hq i s hi hp) 16 0 (0, Z) rfl
    ⟨⟨hZ, by (try dsimp only); omega, fun _ _ => rfl⟩, by (try dsimp only); omega, fun _ _ _ => rfl, fun k hk => absurd hk (by omega)⟩
/-! masters made alike, masters turned round -/
def cpZ (f t : Nat) (Z : Nat → Int) : Int × (Nat → Int) := zit (cpyG f t) 0 16 (0, Z)
theorem cpZ_P {Z : Nat → Int} (hZ : Rg Z) {f t : Nat} (hf : f < 3) (ht : t < 3) : maP Z 16 (cpZ f t Z) ∧ ∀ k, k < 16 → (cpZ f t Z).2 (16 * t + k) = (cpZ f t Z).2 (16 * f + k) := by
  have h := zit_P (N := 16) (P := fun i s => maP Z i s ∧ ∀ k, k < i → s.2 (16 * t + k) = s.2 (16 * f + k)) (g := cpyG f t) (fun i s hi hp => ⟨cpyP hf ht i s hi hp.1, fun k hk => by
    obtain ⟨s, Y⟩ := s
    have h2 := hp.2
    unfold cpyG
    try dsimp only at h2 ⊢
    by_cases e : k = i
    · subst e
      rw [zup_s]
      by_cases e2 : f = t
      · subst e2; rw [zup_s]
      · rw [zup_n (by omega)]
    · rw [zup_n (by omega)]
      by_cases e2 : f = t
      · subst e2; rw [zup_n (by omega)]
      · rw [zup_n (by omega)]; exact h2 k (by omega)⟩) 16 0 (0, Z) rfl ⟨⟨hZ, by (try dsimp only); omega, fun _ _ => rfl⟩, fun k hk => absurd hk (by omega)⟩
  exact h
def mirF (c : Nat) (Z : Nat → Int) : Nat → Int := fun j => if 16 * c ≤ j ∧ j < 16 * c + 16 then Z (32 * c + 15 - j) else Z j
def mirC (c : Nat) (Z : Nat → Int) : Int := zit (fun k v => if Z (16 * c + k) = Z (16 * c + (15 - k)) then v else v + 2) 0 8 0
theorem mirZ_is {Z : Nat → Int} {c : Nat} : (zit (mirG c) 0 8 (0, Z)).1 = mirC c Z ∧ (zit (mirG c) 0 8 (0, Z)).2 = mirF c Z := by
  have h := zit_rel (N := 8) (g := mirG c) (h := fun k v => if Z (16 * c + k) = Z (16 * c + (15 - k)) then v else v + 2) (fun i s t => s.1 = t ∧ ∀ j, s.2 j = if (16 * c ≤ j ∧ j < 16 * c + i) ∨ (16 * c + 16 ≤ j + i ∧ j < 16 * c + 16) then Z (32 * c + 15 - j) else Z j) (by
    rintro i ⟨s, Y⟩ t hi ⟨h1, h2⟩
    try dsimp only at h1 h2
    have e1 : Y (16 * c + i) = Z (16 * c + i) := by rw [h2, if_neg (by omega)]
    have e2 : Y (16 * c + (15 - i)) = Z (16 * c + (15 - i)) := by rw [h2, if_neg (by omega)]
    unfold mirG
    try dsimp only
    simp only [e1, e2]
    refine ⟨by rw [h1], fun j => ?_⟩
    by_cases a1 : j = 16 * c + (15 - i)
    · rw [a1, zup_s, if_pos (by omega)]
      congr 1
      omega
    · rw [zup_n a1]
      by_cases a2 : j = 16 * c + i
      · rw [a2, zup_s, if_pos (by omega)]
        congr 1
        omega
      · rw [zup_n a2, h2]
        by_cases a3 : (16 * c ≤ j ∧ j < 16 * c + i) ∨ (16 * c + 16 ≤ j + i ∧ j < 16 * c + 16)
        · rw [if_pos a3, if_pos (by omega)]
        · rw [if_neg a3, if_neg (by omega)]) 8 0 (0, Z) 0 rfl ⟨rfl, fun j => by rw [if_neg (by omega)]⟩
  refine ⟨h.1, funext fun j => ?_⟩
  rw [h.2 j]
  unfold mirF
  by_cases a3 : 16 * c ≤ j ∧ j < 16 * c + 16
  · rw [if_pos (by omega), if_pos a3]
  · rw [if_neg (by omega), if_neg a3]
theorem mirF_2 (c : Nat) (Z : Nat → Int) : mirF c (mirF c Z) = Z := by
  funext j
  unfold mirF
  by_cases a3 : 16 * c ≤ j ∧ j < 16 * c + 16
  · rw [if_pos a3, if_pos (by omega)]
    congr 1
    omega
  · rw [if_neg a3, if_neg a3]
theorem mirF_o {c : Nat} (hc : c < 3) {Z : Nat → Int} {j : Nat} (h : 48 ≤ j) : mirF c Z j = Z j := by
  unfold mirF
  rw [if_neg (by omega)]
theorem mirC_2 (c : Nat) (Z : Nat → Int) : mirC c (mirF c Z) = mirC c Z := by
  unfold mirC
  refine zit_congr (N := 8) (fun _ _ => True) (fun _ _ _ _ => trivial) (fun i s hi _ => ?_) 8 0 0 rfl trivial
  have e1 : mirF c Z (16 * c + i) = Z (16 * c + (15 - i)) := by
    unfold mirF
    rw [if_pos (by omega)]
    congr 1
    omega
  have e2 : mirF c Z (16 * c + (15 - i)) = Z (16 * c + i) := by
    unfold mirF
    rw [if_pos (by omega)]
    congr 1
    omega
  rw [e1, e2]
  by_cases h : Z (16 * c + i) = Z (16 * c + (15 - i))
  · rw [if_pos h, if_pos h.symm]
  · rw [if_neg h, if_neg (fun e => h e.symm)]
theorem mirF_R {Z : Nat → Int} (hZ : Rg Z) {c : Nat} (hc : c < 3) : Rg (mirF c Z) ∧ 0 ≤ mirC c Z ∧ mirC c Z ≤ 16 := by
  have h : maP Z 8 (zit (mirG c) 0 8 (0, Z)) := zit_P (N := 8) (P := maP Z) (fun i s hi hp => mirP hc i s hi hp) 8 0 (0, Z) rfl ⟨hZ, by (try dsimp only); omega, fun _ _ => rfl⟩
  obtain ⟨h1, h2, -⟩ := h
  rw [mirZ_is.2] at h1
  rw [mirZ_is.1] at h2
  exact ⟨h1, by omega, by omega⟩
/-! gauging -/
theorem fa_0 {Z : Nat → Int} (hR : Rg Z) {q : Nat} : faZ Z q = 0 ↔ (tkZ Z q 1 ≤ Z 56 ∧ tkZ Z q (-1) ≤ Z 56) := by
  have ht := hR.to
  unfold faZ tkZ
  rw [zcnt_0, zmax_le ht.1, zmax_le ht.1]
  constructor
  · intro h
    exact ⟨fun j hj => by have := h j hj; omega, fun j hj => by have := h j hj; omega⟩
  · rintro ⟨h1, h2⟩ j hj
    have := h1 j hj
    have := h2 j hj
    omega
theorem tk_b {Z : Nat → Int} (hR : Rg Z) {q : Nat} (hq : q < 5) {s : Int} (hs : s = 1 ∨ s = -1) : 0 ≤ tkZ Z q s ∧ tkZ Z q s ≤ 200 := by
  have hc := chN hR
  unfold tkZ
  refine zmax_b (by omega) (fun i hi => ?_)
  have h1 := dZ_b hR hq hi
  have h2 := mZ_b hR hc.2 hi
  rcases hs with rfl | rfl <;> omega
theorem li_le {Z : Nat → Int} (hR : Rg Z) {q : Nat} (hq : q < 5) (h1 : tkZ Z q 1 ≤ 0) (h2 : tkZ Z q (-1) ≤ 0) : (liZ Z q : Int) ≤ Z 48 := by
  have hc := chN hR
  have d0 := dfZ_b hR hq (c := 0) (by omega)
  have d1 := dfZ_b hR hq (c := 1) (by omega)
  have d2 := dfZ_b hR hq (c := 2) (by omega)
  unfold tkZ at h1 h2
  rw [zmax_le (by omega)] at h1 h2
  have hz : dfZ Z q (Z 48).toNat = 0 := by
    unfold dfZ
    rw [zsum_0 (fun j hj => by omega)]
    intro j hj
    have := h1 j hj
    have := h2 j hj
    omega
  have hl : liZ Z q = (if dfZ Z q (if dfZ Z q 0 ≤ dfZ Z q 1 then 0 else 1) ≤ dfZ Z q 2 then (if dfZ Z q 0 ≤ dfZ Z q 1 then 0 else 1) else 2) := rfl
  rw [hl]
  rcases (show (Z 48).toNat = 0 ∨ (Z 48).toNat = 1 ∨ (Z 48).toNat = 2 by omega) with e | e | e
  · rw [e] at hz
    rw [if_pos (show dfZ Z q 0 ≤ dfZ Z q 1 by omega), if_pos (show dfZ Z q 0 ≤ dfZ Z q 2 by omega)]
    omega
  · rw [e] at hz
    by_cases a : dfZ Z q 0 ≤ dfZ Z q 1
    · rw [if_pos a, if_pos (show dfZ Z q 0 ≤ dfZ Z q 2 by omega)]
      omega
    · rw [if_neg a, if_pos (show dfZ Z q 1 ≤ dfZ Z q 2 by omega)]
      omega
  · rw [← hc.1, e]
    by_cases a : dfZ Z q 0 ≤ dfZ Z q 1
    · rw [if_pos a]
      by_cases b : dfZ Z q 0 ≤ dfZ Z q 2
      · rw [if_pos b]; omega
      · rw [if_neg b]; omega
    · rw [if_neg a]
      by_cases b : dfZ Z q 1 ≤ dfZ Z q 2
      · rw [if_pos b]; omega
      · rw [if_neg b]; omega
theorem be_min {Z : Nat → Int} {N : Nat} (h0 : 0 < N) : beZ Z N < N ∧ ∀ j, j < N → faZ Z (beZ Z N) ≤ faZ Z j := by
  have h00 : (0 : Nat) < 1 ∧ ∀ j : Nat, j < 1 → faZ Z 0 ≤ faZ Z j := by
    refine ⟨by omega, fun j hj => ?_⟩
    have : j = 0 := by omega
    subst this
    exact Int.le_refl _
  have h := zit_P (N := N) (g := fun i v => if faZ Z i < faZ Z v ∨ (faZ Z i = faZ Z v ∧ dfZ Z i (Z 48).toNat < dfZ Z v (Z 48).toNat) then i else v) (P := fun i v => v < i ∧ ∀ j, j < i → faZ Z v ≤ faZ Z j) (by
    intro i v hi hp
    try dsimp only
    split
    · rename_i hc
      refine ⟨by omega, fun j hj => ?_⟩
      by_cases e : j = i
      · subst e; exact Int.le_refl _
      · have := hp.2 j (by omega); omega
    · rename_i hc
      refine ⟨by omega, fun j hj => ?_⟩
      by_cases e : j = i
      · subst e; omega
      · exact hp.2 j (by omega)) (N - 1) 1 0 (by omega) h00
  exact h
theorem mo_al {Z : Nat → Int} (hR : Rg Z) {q : Nat} (hq : q < 5) : moZ Z q = 0 ↔ alZ Z q = 0 := by
  have hb := moZ_b hR hq
  have h1 : moZ Z q ≤ 0 ↔ ∀ j, j < 16 → abZ Z q j ≤ 0 := zmax_le (Int.le_refl _)
  have h2 : alZ Z q = 0 ↔ ∀ j, j < 16 → abZ Z q j = 0 := zsum_0 (fun j hj => (abZ_b hR hq hj).1)
  rw [h2]
  constructor
  · intro h j hj
    have := h1.mp (by omega) j hj
    have := (abZ_b hR hq hj).1
    omega
  · intro h
    have := h1.mpr (fun j hj => by have := h j hj; omega)
    omega
theorem dv_0 {a b : Int} (ha : 0 ≤ a) (hb : 1 ≤ b) : dvZ a b = 0 ↔ a = 0 := by
  unfold dvZ
  constructor
  · intro h
    by_cases e : a = 0
    · exact e
    · have : 1 ≤ (a + b - 1) / b := (Int.le_ediv_iff_mul_le (by omega)).mpr (by omega)
      omega
  · intro h
    rw [h]
    exact Int.ediv_eq_zero_of_lt (by omega) (by omega)
theorem dv_1 {a b : Int} (hb : 1 ≤ b) (h : dvZ a b = 1) : a ≤ b := by
  unfold dvZ at h
  have h2 : (a + b - 1) / b < 2 := by omega
  have := (Int.ediv_lt_iff_lt_mul (show 0 < b by omega)).mp h2
  omega
theorem rd_0 {Z : Nat → Int} (hR : Rg Z) (h0 : Z 49 = 0) {k : Nat} (hk : k < 16) : rdZ Z k = mZ Z (Z 48).toNat k := by
  have hc := chN hR
  have h := rdZ_is Z k
  have hm := mZ_b hR hc.2 hk
  have hw : win (Z 49).toNat k k := by unfold win; omega
  have h1 := h.2.1 k hk hw
  rcases h.2.2 with e | ⟨j, hj, hw2, e⟩
  · omega
  · have : j = k := by unfold win at hw2; omega
    subst this
    exact e.symm
theorem rd_ge {Z : Nat → Int} {k : Nat} (hk : k < 16) : mZ Z (Z 48).toNat k ≤ rdZ Z k :=
  (rdZ_is Z k).2.1 k hk (by unfold win; omega)
theorem lo_b {Z : Nat → Int} : 0 ≤ loZ Z ∧ loZ Z ≤ 16 := zcnt_b (c := fun i => rdZ Z i ≤ mZ Z (Z 48).toNat i)
theorem lo_0 {Z : Nat → Int} (hR : Rg Z) (h0 : Z 49 = 0) : loZ Z = 0 := by
  unfold loZ
  rw [zcnt_0]
  intro j hj
  rw [rd_0 hR h0 hj]
  exact Int.le_refl _
/-! saved states -/
def Hq (hs : List LTH) (ho hcn : Int32) (hsv : Nat → Option LTH) : Prop :=
  ∃ a b : Nat, ho = nI a ∧ a < 6 ∧ hcn = nI b ∧ b ≤ 6 ∧ hs.length = b ∧ ∀ i, i < b → hsv ((a + b - 1 - i) % 6) = hs[i]?
theorem Hq.len {hs : List LTH} {ho hcn : Int32} {hsv : Nat → Option LTH} (h : Hq hs ho hcn hsv) : hcn = nI hs.length ∧ hs.length ≤ 6 := by
  obtain ⟨a, b, -, -, h3, h4, h5, -⟩ := h
  subst h5
  exact ⟨h3, h4⟩
section HQS
variable {md : Nat → Int32} {mch : Int32} {fra : Int32} {fwe : Int32} {fof : Int32} {fsi : Int32} {csh : Int32} {cde : Int32} {csp : Int32} {rd : Nat → Int32} {rw : Nat → Int32} {rp : Nat → Int32} {rco : Int32} {rmo : Int32} {apa : Int32} {awo : Int32} {ash : Int32} {aja : Int32} {abu : Int32} {ltol : Int32} {lchi : Int32} {ljam : Int32} {hs : List LTH} {ho hcn : Int32} {hsv : Nat → Option LTH}
theorem hq_save (h : Hq hs ho hcn hsv) (hj : ljam = 0 ∨ ljam = 1) : ∃ (ho2 hcn2 : Int32) (hsv2 : Nat → Option LTH), fX3_save ho hcn hsv md mch fra fwe fof fsi csh cde csp rd rw rp rco rmo apa awo ash aja abu ltol lchi ljam = some (ho2, hcn2, hsv2) ∧ Hq ((lpk md mch fra fwe fof fsi csh cde csp rd rw rp rco rmo apa awo ash aja abu ltol lchi ljam :: hs).take 6) ho2 hcn2 hsv2 := by
  obtain ⟨a, b, rfl, ha, rfl, hb, hl, he⟩ := h
  generalize hσ : lpk md mch fra fwe fof fsi csh cde csp rd rw rp rco rmo apa awo ash aja abu ltol lchi ljam = σ
  have hB := svB ha hb
  refine ⟨nI (svO a b), nI (svC b), va_up hsv (svP a b) (some σ), ?_, svO a b, svC b, rfl, hB.1, rfl, hB.2.2, ?_, ?_⟩
  · unfold fX3_save
    rw [nI_cl6 (by omega), nI_cl6 (by omega), if_pos ⟨rfl, ha, rfl, hb, hj⟩, hσ]
  · rw [List.length_take, List.length_cons, hl]
    unfold svC
    split <;> omega
  · intro i hi
    cases i with
    | zero =>
      rw [show svO a b + svC b - 1 - 0 = svO a b + svC b - 1 by omega]
      exact va_up_self _ _ _
    | succ i =>
      rw [List.getElem?_take, if_pos (by omega), List.getElem?_cons_succ]
      rw [va_up_ne]
      · rw [← he i (by unfold svC at hi; split at hi <;> omega)]
        congr 1
        unfold svO svC at *
        split
        · rw [if_pos (by assumption)] at hi; omega
        · rw [if_neg (by assumption)] at hi; omega
      · unfold svP
        unfold svO svC at *
        split
        · rw [if_pos (by assumption)] at hi; omega
        · rw [if_neg (by assumption)] at hi; omega
theorem hq_undo {σ : LTH} (h : Hq (σ :: hs) ho hcn hsv) (hj : σ 21 0 = 0 ∨ σ 21 0 = 1) : ∃ hcn2 : Int32, fX9_undo ho hcn hsv = some (.inr (σ 0, σ 1 0, σ 2 0, σ 3 0, σ 4 0, σ 5 0, σ 6 0, σ 7 0, σ 8 0, σ 9, σ 10, σ 11, σ 12 0, σ 13 0, σ 14 0, σ 15 0, σ 16 0, σ 17 0, σ 18 0, σ 19 0, σ 20 0, σ 21 0, hcn2)) ∧ Hq hs ho hcn2 hsv := by
  obtain ⟨a, b, rfl, ha, rfl, hb, hl, he⟩ := h
  rw [List.length_cons] at hl
  have e0 := he 0 (by omega)
  rw [List.getElem?_cons_zero, show a + b - 1 - 0 = a + b - 1 by omega] at e0
  refine ⟨nI (b - 1), ?_, a, b - 1, rfl, ha, rfl, by omega, by omega, fun i hi => ?_⟩
  · have e1 : fX3_restoreLatest (nI a) (nI b) hsv = some (nI (b - 1), σ 0, σ 1 0, σ 2 0, σ 3 0, σ 4 0, σ 5 0, σ 6 0, σ 7 0, σ 8 0, σ 9, σ 10, σ 11, σ 12 0, σ 13 0, σ 14 0, σ 15 0, σ 16 0, σ 17 0, σ 18 0, σ 19 0, σ 20 0, σ 21 0) := by
      unfold fX3_restoreLatest
      rw [nI_cl6 (by omega), nI_cl6 (by omega), if_pos ⟨rfl, ha, rfl, hb, by omega⟩, e0, Option.bind_some, if_pos hj]
    have e2 : ¬ nI b ≤ 0 := by rw [nI_zI, zL0, zI_le (by omega)]; omega
    have e4 : fX9_checkState 1 = some (.inr ()) := rfl
    simp only [fX9_undo, if_neg e2, e4, e1, Option.bind_some, Option.map_some]
  · rw [← List.getElem?_cons_succ (a := σ), ← he (i + 1) (by omega)]
    congr 1
    omega
end HQS
