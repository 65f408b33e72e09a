/-! rows that a loop changes place by place -/
theorem zit_upd (F : Nat → Int32 → Int32) : ∀ (n i : Nat) (le : Nat → Int32) (j : Nat), zit (fun k (le : Nat → Int32) => upd le k (F k (le k))) i n le j = if i ≤ j ∧ j < i + n then F j (le j) else le j := by
  intro n
  induction n with
  | zero => intro i le j; rw [if_neg (by omega)]; rfl
  | succ n ih =>
    intro i le j
    show zit (fun k (le : Nat → Int32) => upd le k (F k (le k))) (i + 1) n (upd le i (F i (le i))) j = _
    rw [ih]
    by_cases h : j = i
    · subst h
      rw [if_neg (by omega), if_pos (by omega), pk_us]
    · by_cases h2 : i + 1 ≤ j ∧ j < i + 1 + n
      · rw [if_pos h2, if_pos (by omega), pk_un h]
      · rw [if_neg h2, if_neg (by omega), pk_un h]
theorem zit_upd16 (F : Nat → Int32 → Int32) (le : Nat → Int32) {j : Nat} (hj : j < 16) : zit (fun k (le : Nat → Int32) => upd le k (F k (le k))) 0 16 le j = F j (le j) := by
  rw [zit_upd, if_pos (by omega)]
/-! passes counted -/
theorem zcX9_cp2 {md rd : Nat → Int32} {Z : Nat → Int} (hmd : ∀ j : Nat, j < 48 → md j = zI (Z j)) (hrd : rdO Z rd) (hR : Rg Z) {q : Nat} (hq : q < 5) (le : Nat → Int32) : fX9_countPasses_L2 md (zI (Z 48)) (zI (Z 49)) (zI (Z 50)) (zI (Z 52)) rd (zI q) 2000 0 le = some (zit (fun k (le : Nat → Int32) => upd le k ((fun k _ => zI (abZ Z q k)) k (le k))) 0 16 le) := by
  have key := loopG (S := Nat → Int32) (L := fun n i le => fX9_countPasses_L2 md (zI (Z 48)) (zI (Z 49)) (zI (Z 50)) (zI (Z 52)) rd (zI q) n (zI i) le) (g := fun k (le : Nat → Int32) => upd le k ((fun k _ => zI (abZ Z q k)) k (le k))) (N := 16) (P := fun _ _ => True) (out := id) (by
      intro n le _
      try dsimp only
      rw [fX9_countPasses_L2]
      exact ite_t (by decide)) (by
      intro n i le hi _
      try dsimp only
      rw [fX9_countPasses_L2]
      simp only [zL0, zL1, zL2, zL3, zL5, zL6, zL7, zL8, zL9, zL10, zL15, zL16, zL18, zL20, zL30, zL31, zL33, zL48, zL49, zL50, zL51, zL52, zL53, zL54, zL55, zL56, zL57, zL58, zL59, zL60, zL61, zL62, zL63, zL64, zL65, zL66, zL80, zL99, zL100, zL120, zL126, zL156, zL200, zL1000, zL1404, zL1560, zLm, zI_neg, zI_add, zI_sub, zI_mul]
      rw [ite_n (show ¬ (zI 16 ≤ zI (i : Int)) by rw [zI_le (by omega)]; omega), zcX4_above hmd hrd hR hq hi, Option.bind_some, zcX8_put (by omega) hi, Option.bind_some]
      rfl) (fun _ _ _ _ => trivial)
  exact (key 16 0 2000 le rfl (by omega) trivial).1
theorem zcX9_cp61 {Z : Nat → Int} (hR : Rg Z) (le : Nat → Int32) : fX9_countPasses_L61 (zI (Z 53)) (zI (Z 54)) 2000 0 le = some (zit (fun k (le : Nat → Int32) => upd le k ((fun _ v => mxI 0 (v - zI (cuZ Z))) k (le k))) 0 16 le) := by
  have key := loopG (S := Nat → Int32) (L := fun n i le => fX9_countPasses_L61 (zI (Z 53)) (zI (Z 54)) n (zI i) le) (g := fun k (le : Nat → Int32) => upd le k ((fun _ v => mxI 0 (v - zI (cuZ Z))) k (le k))) (N := 16) (P := fun _ _ => True) (out := id) (by
      intro n le _
      try dsimp only
      rw [fX9_countPasses_L61]
      exact ite_t (by decide)) (by
      intro n i le hi _
      try dsimp only
      rw [fX9_countPasses_L61, ite_n (show ¬ (16 ≤ zI (i : Int)) by rw [zL16, zI_le (by omega)]; omega), zcX8_at (by omega) hi, Option.bind_some, zcX1_reach hR, Option.bind_some, zcX8_put (by omega) hi, Option.bind_some, zL1, zI_add]
      rfl) (fun _ _ _ _ => trivial)
  exact (key 16 0 2000 le rfl (by omega) trivial).1
theorem zcX8_greatest {le : Nat → Int32} {h : Nat → Int} (hle : ∀ k, k < 16 → le k = zI (h k) ∧ 0 ≤ h k ∧ h k ≤ 2000) : fX8_greatest 16 le = some (zI (zit (fun i v => max v (h i)) 0 16 0)) := by
  have key : fX8_greatest_L4 16 le 2000 0 0 = some (zI (zit (fun i v => max v (h i)) 0 16 0)) := acc16 (fun n v i => fX8_greatest_L4 16 le n v i) (fun i v => max v (h i)) (by
      intro n v
      try dsimp only
      rw [fX8_greatest_L4]
      exact ite_t (by decide)) (by
      intro n i v hi hv
      try dsimp only
      obtain ⟨e1, e2, e3⟩ := hle i hi
      rw [fX8_greatest_L4, show Int32.ofNat 16 = zI 16 from rfl]
      simp only [zL0, zL1, zL2, zL3, zL5, zL6, zL7, zL8, zL9, zL10, zL15, zL16, zL18, zL20, zL30, zL31, zL33, zL48, zL49, zL50, zL51, zL52, zL53, zL54, zL55, zL56, zL57, zL58, zL59, zL60, zL61, zL62, zL63, zL64, zL65, zL66, zL80, zL99, zL100, zL120, zL126, zL156, zL200, zL1000, zL1404, zL1560, zLm, zI_neg, zI_add, zI_sub, zI_mul]
      rw [ite_n (show ¬ (zI 16 ≤ zI (i : Int)) by rw [zI_le (by omega)]; omega), ite_t (zI_ix (by omega)), zI_cl (by omega), show (i : Int).toNat = i by omega, e1, zI_mx (by omega)]) (by
      intro i v hi hv
      try dsimp only
      obtain ⟨e1, e2, e3⟩ := hle i hi
      omega)
  unfold fX8_greatest
  rw [key, Option.bind_some]
theorem dvF {mo c : Int} (h : 0 ≤ mo ∧ mo ≤ 119) (hc : 1 ≤ c ∧ c ≤ 9) : 0 ≤ dvZ mo c ∧ dvZ mo c ≤ 119 ∧ (∀ t : Int, t < dvZ mo c → t * c < mo) ∧ mo ≤ dvZ mo c * c := by
  have e : c = 1 ∨ c = 2 ∨ c = 3 ∨ c = 4 ∨ c = 5 ∨ c = 6 ∨ c = 7 ∨ c = 8 ∨ c = 9 := by omega
  unfold dvZ
  rcases e with rfl | rfl | rfl | rfl | rfl | rfl | rfl | rfl | rfl <;> refine ⟨by omega, by omega, fun t ht => by omega, by omega⟩
theorem zmax_sub {f : Nat → Int} {y : Int} (hy : 0 ≤ y) : zit (fun i v => max v (max 0 (f i - y))) 0 16 0 = max 0 (zit (fun i v => max v (f i)) 0 16 0 - y) :=
  (zit_rel (g := fun i v => max v (max 0 (f i - y))) (h := fun i v => max v (f i)) (N := 16) (fun _ s t => s = max 0 (t - y)) (by
    intro i s t hi e
    try dsimp only at *
    omega) 16 0 0 0 rfl (by omega))
theorem zcX9_countPasses {md rd : Nat → Int32} {Z : Nat → Int} (hmd : ∀ j : Nat, j < 48 → md j = zI (Z j)) (hrd : rdO Z rd) (hR : Rg Z) {q : Nat} (hq : q < 5) (hs : 0 < Z 53) (le : Nat → Int32) : ∃ le2 : Nat → Int32, fX9_countPasses md (zI (Z 48)) (zI (Z 49)) (zI (Z 50)) (zI (Z 52)) (zI (Z 53)) (zI (Z 54)) rd (zI q) le = some (zI (dvZ (moZ Z q) (cuZ Z)), le2) := by
  have hmo := moZ_b hR hq
  have hcu := cuZ_b hR
  have hc1 := hcu.2.2 hs
  obtain ⟨f1, f2, f3, f4⟩ := dvF (mo := moZ Z q) (c := cuZ Z) hmo (by omega)
  obtain ⟨T, hT⟩ : ∃ T : Nat, dvZ (moZ Z q) (cuZ Z) = T := ⟨(dvZ (moZ Z q) (cuZ Z)).toNat, by omega⟩
  rw [hT] at f2 f3 f4 ⊢
  have gr : ∀ (t : Nat) (y : Int) (le : Nat → Int32), t ≤ T → y = (t : Int) * cuZ Z → (∀ k, k < 16 → le k = zI (max 0 (abZ Z q k - y))) → 0 ≤ y → fX8_greatest 16 le = some (zI (max 0 (moZ Z q - y))) := by
    intro t y le ht hy hle h0
    rw [zcX8_greatest (h := fun k => max 0 (abZ Z q k - y)) (fun k hk => ⟨hle k hk, by have := abZ_b hR hq hk; omega⟩)]
    rw [zmax_sub h0]
    rfl
  have key := loopG (S := Nat → Int32) (L := fun n i le => fX9_countPasses_L42 (zI (Z 53)) (zI (Z 54)) n (zI i) le) (g := fun _ le => zit (fun k (le : Nat → Int32) => upd le k ((fun _ v => mxI 0 (v - zI (cuZ Z))) k (le k))) 0 16 le) (N := T) (P := fun t le => ∃ y : Int, y = (t : Int) * cuZ Z ∧ 0 ≤ y ∧ y ≤ 2000 ∧ ∀ k, k < 16 → le k = zI (max 0 (abZ Z q k - y))) (out := fun le => (zI (T : Int), le)) (by
      rintro n le ⟨y, hy, h0, h9, hle⟩
      try dsimp only
      rw [fX9_countPasses_L42, gr T y le (Nat.le_refl _) hy hle h0, Option.bind_some]
      simp only [zL0, zL1, zL2, zL3, zL5, zL6, zL7, zL8, zL9, zL10, zL15, zL16, zL18, zL20, zL30, zL31, zL33, zL48, zL49, zL50, zL51, zL52, zL53, zL54, zL55, zL56, zL57, zL58, zL59, zL60, zL61, zL62, zL63, zL64, zL65, zL66, zL80, zL99, zL100, zL120, zL126, zL156, zL200, zL1000, zL1404, zL1560, zLm, zI_neg, zI_add, zI_sub, zI_mul]
      rw [zi_le (by omega), ite_n (by omega), zi_le (by omega), ite_t (by omega)]) (by
      rintro n t le ht ⟨y, hy, h0, h9, hle⟩
      try dsimp only
      have h3 := f3 t (by omega)
      rw [← hy] at h3
      rw [fX9_countPasses_L42, gr t y le (by omega) hy hle h0, Option.bind_some, zcX9_cp61 hR, Option.bind_some]
      simp only [zL0, zL1, zL2, zL3, zL5, zL6, zL7, zL8, zL9, zL10, zL15, zL16, zL18, zL20, zL30, zL31, zL33, zL48, zL49, zL50, zL51, zL52, zL53, zL54, zL55, zL56, zL57, zL58, zL59, zL60, zL61, zL62, zL63, zL64, zL65, zL66, zL80, zL99, zL100, zL120, zL126, zL156, zL200, zL1000, zL1404, zL1560, zLm, zI_neg, zI_add, zI_sub, zI_mul]
      rw [zi_le (by omega), ite_n (by omega), zi_le (by omega), ite_n (by omega)]
      rfl) (by
      rintro t le ht ⟨y, hy, h0, h9, hle⟩
      have h3 := f3 t (by omega)
      rw [← hy] at h3
      refine ⟨y + cuZ Z, ?_, by omega, by omega, fun k hk => ?_⟩
      · rw [hy, Int.natCast_add, Int.add_mul]
        omega
      · have hab := abZ_b hR hq hk
        try dsimp only
        have e9 := zit_upd16 (fun _ v => mxI 0 (v - zI (cuZ Z))) le hk
        try dsimp only at e9
        rw [e9, hle k hk, zL0, zI_sub, zI_mx (by omega)]
        congr 1
        omega)
  obtain ⟨e1, e2⟩ := key T 0 2000 (zit (fun k (le : Nat → Int32) => upd le k ((fun k _ => zI (abZ Z q k)) k (le k))) 0 16 le) (by omega) (by omega) ⟨0, by omega, by omega, by omega, fun k hk => by
    have hab := abZ_b hR hq hk
    rw [zit_upd16 (fun k _ => zI (abZ Z q k)) le hk]
    congr 1
    omega⟩
  try dsimp only at e1
  obtain ⟨W, hW⟩ : ∃ W : Nat → Int32, fX9_countPasses_L42 (zI (Z 53)) (zI (Z 54)) 2000 0 (zit (fun k (le : Nat → Int32) => upd le k ((fun k _ => zI (abZ Z q k)) k (le k))) 0 16 le) = some (zI (T : Int), W) := ⟨_, e1⟩
  refine ⟨W, ?_⟩
  unfold fX9_countPasses
  rw [zcX9_cp2 hmd hrd hR hq le, Option.bind_some, hW, Option.bind_some]
/-! the row of those that wait -/
def qOk (g : Nat → Int) (r t f e : Nat) (p : Nat → Nat) : Prop :=
  f ≤ e ∧ e ≤ t ∧ e ≤ 16 ∧ (∀ i, f ≤ i → i < e → p i < 16 ∧ p i < t) ∧ (∀ i j, f ≤ i → i < j → j < e → p i < p j) ∧ (∀ i j, f ≤ i → i ≤ j → j < e → g (p j) ≤ g (p i)) ∧
  (∀ x, x < 16 → x < t → t ≤ x + 2 * r + 1 → ∃ i, f ≤ i ∧ i < e ∧ x ≤ p i ∧ g x ≤ g (p i)) ∧ (∀ i, f ≤ i → i < e → t ≤ p i + 2 * r + 1)
theorem zcX9_notThicker {md : Nat → Int32} {Z : Nat → Int} (hmd : ∀ j : Nat, j < 48 → md j = zI (Z j)) (hR : Rg Z) {a b : Nat} (ha : a < 16) (hb : b < 16) : fX9_isNotThicker md (zI (Z 48)) (zI a) (zI b) = some (if mZ Z (Z 48).toNat b < mZ Z (Z 48).toNat a then 0 else 1) := by
  have hc := chN hR
  have h1 := mZ_b hR hc.2 ha
  have h2 := mZ_b hR hc.2 hb
  unfold fX9_isNotThicker
  rw [zcX6_chosenAt hmd hR ha, Option.bind_some, zcX6_chosenAt hmd hR hb, Option.bind_some, zi_lt (by omega)]
  split <;> rfl
theorem zcX9_pop {md wa : Nat → Int32} {Z : Nat → Int} (hmd : ∀ j : Nat, j < 48 → md j = zI (Z j)) (hR : Rg Z) {f t : Nat} {p : Nat → Nat} (ht : t < 16) : ∀ (e n : Nat), f ≤ e → e ≤ 16 → e < n → (∀ i, i < e → wa i = zI (p i)) → (∀ i, f ≤ i → i < e → p i < 16) →
    ∃ e2 : Nat, fX9_firstWaiting_L39 md (zI (Z 48)) wa (zI f) (zI t) n (zI e) = some (zI e2) ∧ f ≤ e2 ∧ e2 ≤ e ∧ (∀ i, e2 ≤ i → i < e → mZ Z (Z 48).toNat (p i) ≤ mZ Z (Z 48).toNat t) ∧ (e2 = f ∨ mZ Z (Z 48).toNat t < mZ Z (Z 48).toNat (p (e2 - 1))) := by
  intro e
  induction e with
  | zero =>
    intro n h1 h2 h3 h4 h5
    obtain ⟨m, rfl⟩ : ∃ m, n = m + 1 := ⟨n - 1, by omega⟩
    refine ⟨0, ?_, h1, Nat.le_refl _, fun i a b => by omega, Or.inl (by omega)⟩
    rw [fX9_firstWaiting_L39, zi_le (by omega), ite_t (by omega)]
  | succ e ih =>
    intro n h1 h2 h3 h4 h5
    obtain ⟨m, rfl⟩ : ∃ m, n = m + 1 := ⟨n - 1, by omega⟩
    by_cases hf : f = e + 1
    · refine ⟨e + 1, ?_, h1, Nat.le_refl _, fun i a b => by omega, Or.inl hf.symm⟩
      rw [fX9_firstWaiting_L39, zi_le (by omega), ite_t (by omega)]
    · have hp := h5 e (by omega) (by omega)
      have e1 : zI ((e + 1 : Nat) : Int) - 1 = zI (e : Int) := by rw [zL1, zI_sub]; congr 1; omega
      have e3 : zI ((e + 1 : Nat) : Int) + (-1) = zI (e : Int) := by rw [zLm, zI_add]; congr 1; omega
      by_cases hg : mZ Z (Z 48).toNat t < mZ Z (Z 48).toNat (p e)
      · refine ⟨e + 1, ?_, h1, Nat.le_refl _, fun i a b => by omega, Or.inr hg⟩
        rw [fX9_firstWaiting_L39, zi_le (by omega), ite_n (by omega), e1, zcX8_at (by omega) (by omega), Option.bind_some, h4 e (by omega), zcX9_notThicker hmd hR hp ht, ite_t hg, Option.bind_some, ite_t rfl]
      · obtain ⟨e2, a1, a2, a3, a4, a5⟩ := ih m (by omega) (by omega) (by omega) (fun i hi => h4 i (by omega)) (fun i a b => h5 i a (by omega))
        refine ⟨e2, ?_, a2, by omega, fun i a b => ?_, a5⟩
        · rw [fX9_firstWaiting_L39, zi_le (by omega), ite_n (by omega), e1, zcX8_at (by omega) (by omega), Option.bind_some, h4 e (by omega), zcX9_notThicker hmd hR hp ht, ite_n hg, Option.bind_some, ite_n (by decide), e3, a1]
        · by_cases hi : i = e
          · subst hi; omega
          · exact a4 i a (by omega)
theorem zcX9_trim {wa : Nat → Int32} {r t e : Nat} {p : Nat → Nat} (hr : r ≤ 3) (ht : t < 40) (he : e ≤ 16) : ∀ (d f n : Nat), f + d = e → d < n → (∀ i, i < e → wa i = zI (p i)) → (∀ i, f ≤ i → i < e → p i < 16) →
    ∃ f2 : Nat, fX9_firstWaiting_L85 wa (zI r) (zI e) (zI ((t : Int) - r)) n (zI f) = some (zI f2) ∧ f ≤ f2 ∧ f2 ≤ e ∧ (∀ i, f ≤ i → i < f2 → p i + 2 * r < t) ∧ (f2 = e ∨ t ≤ p f2 + 2 * r) := by
  intro d
  induction d with
  | zero =>
    intro f n h1 h3 h4 h5
    obtain ⟨m, rfl⟩ : ∃ m, n = m + 1 := ⟨n - 1, by omega⟩
    refine ⟨f, ?_, Nat.le_refl _, by omega, fun i a b => by omega, Or.inl (by omega)⟩
    rw [fX9_firstWaiting_L85, zi_le (by omega), ite_t (by omega)]
  | succ d ih =>
    intro f n h1 h3 h4 h5
    obtain ⟨m, rfl⟩ : ∃ m, n = m + 1 := ⟨n - 1, by omega⟩
    have hp := h5 f (by omega) (by omega)
    by_cases hg : t ≤ p f + 2 * r
    · refine ⟨f, ?_, Nat.le_refl _, by omega, fun i a b => by omega, Or.inr hg⟩
      rw [fX9_firstWaiting_L85, zi_le (by omega), ite_n (by omega), zcX8_at (by omega) (by omega), Option.bind_some, h4 f (by omega), zI_sub, zi_le (by omega), ite_t (by omega)]
    · obtain ⟨f2, a1, a2, a3, a4, a5⟩ := ih (f + 1) m (by omega) (by omega) h4 (fun i a b => h5 i (by omega) b)
      refine ⟨f2, ?_, by omega, a3, fun i a b => ?_, a5⟩
      · rw [fX9_firstWaiting_L85, zi_le (by omega), ite_n (by omega), zcX8_at (by omega) (by omega), Option.bind_some, h4 f (by omega), zI_sub, zi_le (by omega), ite_n (by omega), zL1, zI_add, show ((f : Int) + 1) = ((f + 1 : Nat) : Int) by omega, a1]
      · by_cases hi : i = f
        · subst hi; omega
        · exact a4 i (by omega) b
theorem zcX9_waitL {md : Nat → Int32} {Z : Nat → Int} (hmd : ∀ j : Nat, j < 48 → md j = zI (Z j)) (hR : Rg Z) {k r : Nat} (hk : k < 16) (hr : r ≤ 3) : ∀ (d t f e n : Nat) (wa : Nat → Int32) (p : Nat → Nat), t + d = k + r + 1 → d < n → (∀ i, i < e → wa i = zI (p i)) → qOk (mZ Z (Z 48).toNat) r t f e p →
    ∃ (f2 e2 : Nat) (wa2 : Nat → Int32) (p2 : Nat → Nat), fX9_firstWaiting_L20 md (zI (Z 48)) (zI k) (zI r) n (zI f) (zI e) (zI ((t : Int) - r)) wa = some (zI f2, wa2) ∧ (∀ i, i < e2 → wa2 i = zI (p2 i)) ∧ qOk (mZ Z (Z 48).toNat) r (k + r + 1) f2 e2 p2 := by
  intro d
  induction d with
  | zero =>
    intro t f e n wa p h1 h2 h3 h4
    obtain ⟨m, rfl⟩ : ∃ m, n = m + 1 := ⟨n - 1, by omega⟩
    have e1 : t = k + r + 1 := by omega
    subst e1
    refine ⟨f, e, wa, p, ?_, h3, h4⟩
    rw [fX9_firstWaiting_L20, zi_lt (by omega), ite_t (by omega)]
  | succ d ih =>
    intro t f e n wa p h1 h2 h3 h4
    obtain ⟨m, rfl⟩ : ∃ m, n = m + 1 := ⟨n - 1, by omega⟩
    obtain ⟨q1, q2, q3, q4, q5, q6, q7, q8⟩ := h4
    have ea : zI ((t : Int) - r) + zI r = zI (t : Int) := by rw [zI_add]; congr 1; omega
    have eb : zI ((t : Int) - r) + 1 = zI (((t + 1 : Nat) : Int) - r) := by rw [zL1, zI_add]; congr 1; omega
    by_cases h16 : 16 ≤ t
    · obtain ⟨f2, a1, a2, a3, a4, a5⟩ := zcX9_trim (wa := wa) (t := t) hr (by omega) q3 (e - f) f 2000 (by omega) (by omega) h3 (fun i a b => (q4 i a b).1)
      obtain ⟨f3, e3, wa3, p3, b1, b2, b3⟩ := ih (t + 1) f2 e m wa p (by omega) (by omega) h3 ⟨a3, by omega, q3, fun i a b => ⟨(q4 i (by omega) b).1, by have := (q4 i (by omega) b).2; omega⟩, fun i j a b c => q5 i j (by omega) b c, fun i j a b c => q6 i j (by omega) b c, fun x x1 x2 x3 => by
        obtain ⟨i, i1, i2, i3, i4⟩ := q7 x x1 (by omega) (by omega)
        refine ⟨i, ?_, i2, i3, i4⟩
        rcases Nat.lt_or_ge i f2 with h | h
        · have := a4 i i1 h; omega
        · exact h, fun i a b => by
        rcases a5 with h | h
        · omega
        · by_cases hi : i = f2
          · subst hi; omega
          · have := q5 f2 i a2 (by omega) b; omega⟩
      refine ⟨f3, e3, wa3, p3, ?_, b2, b3⟩
      rw [fX9_firstWaiting_L20, zi_lt (by omega), ite_n (by omega), ea, zL16, zi_le (by omega), ite_t (by omega), a1, Option.bind_some, eb, b1]
    · have ht : t < 16 := by omega
      obtain ⟨e2, a1, a2, a3, a4, a5⟩ := zcX9_pop (wa := wa) (f := f) (p := p) hmd hR ht e 2000 q1 q3 (by omega) h3 (fun i a b => (q4 i a b).1)
      obtain ⟨pp, pe, pt⟩ : ∃ pp : Nat → Nat, (∀ i, i ≠ e2 → pp i = p i) ∧ pp e2 = t := ⟨fun i => if i = e2 then t else p i, fun i h => if_neg h, if_pos rfl⟩
      have hw : ∀ i, i < e2 + 1 → upd wa e2 (zI (t : Int)) i = zI (pp i : Int) := by
        intro i hi
        by_cases h : i = e2
        · subst h; rw [pk_us, pt]
        · rw [pk_un h, pe i h]; exact h3 i (by omega)
      obtain ⟨f2, c1, c2, c3, c4, c5⟩ := zcX9_trim (wa := upd wa e2 (zI (t : Int))) (t := t) (p := pp) hr (by omega) (show e2 + 1 ≤ 16 by omega) (e2 + 1 - f) f 2000 (by omega) (by omega) hw (fun i a b => by
        by_cases h : i = e2
        · rw [h, pt]; exact ht
        · rw [pe i h]; exact (q4 i a (by omega)).1)
      have hf2 : f2 ≤ e2 := by
        rcases Nat.lt_or_ge e2 f2 with h | h
        · have := c4 e2 a2 h
          rw [pt] at this
          omega
        · exact h
      obtain ⟨f3, e3, wa3, p3, b1, b2, b3⟩ := ih (t + 1) f2 (e2 + 1) m (upd wa e2 (zI (t : Int))) pp (by omega) (by omega) hw ⟨by omega, by omega, by omega, fun i a b => by
          by_cases h : i = e2
          · subst h; rw [pt]; omega
          · rw [pe i h]; have := q4 i (by omega) (by omega); omega, fun i j a b c => by
          by_cases h : j = e2
          · subst h
            rw [pt, pe i (by omega)]
            have := q4 i (by omega) (by omega)
            omega
          · rw [pe i (by omega), pe j h]
            exact q5 i j (by omega) b (by omega), fun i j a b c => by
          by_cases h : j = e2
          · subst h
            by_cases h2 : i = j
            · subst h2; exact Int.le_refl _
            · rw [pt, pe i h2]
              rcases a5 with h5 | h5
              · omega
              · have := q6 i (j - 1) (by omega) (by omega) (by omega)
                omega
          · rw [pe i (by omega), pe j h]
            exact q6 i j (by omega) b (by omega), fun x x1 x2 x3 => by
          by_cases hx : x = t
          · subst hx
            exact ⟨e2, hf2, by omega, by rw [pt]; omega, by rw [pt]; omega⟩
          · obtain ⟨i, i1, i2, i3, i4⟩ := q7 x x1 (by omega) (by omega)
            by_cases hi : i < e2
            · refine ⟨i, ?_, by omega, by rw [pe i (by omega)]; exact i3, by rw [pe i (by omega)]; exact i4⟩
              rcases Nat.lt_or_ge i f2 with h | h
              · have := c4 i i1 h
                rw [pe i (by omega)] at this
                omega
              · exact h
            · have := a4 i (by omega) i2
              exact ⟨e2, hf2, by omega, by rw [pt]; omega, by rw [pt]; omega⟩, fun i a b => by
          rcases c5 with h | h
          · omega
          · by_cases hi : i = f2
            · subst hi; omega
            · by_cases h6 : i = e2
              · subst h6; rw [pt]; omega
              · rw [pe f2 (by omega)] at h
                rw [pe i h6]
                have := q5 f2 i (by omega) (by omega) (by omega)
                omega⟩
      refine ⟨f3, e3, wa3, p3, ?_, b2, b3⟩
      rw [fX9_firstWaiting_L20, zi_lt (by omega), ite_n (by omega), ea, zL16, zi_le (by omega), ite_n (by omega), a1, Option.bind_some, zcX8_put (by omega) (by omega), Option.bind_some, zL1, zI_add, show ((e2 : Int) + 1) = ((e2 + 1 : Nat) : Int) by omega, c1, Option.bind_some, zI_add, show ((t : Int) - r + 1) = (((t + 1 : Nat) : Int) - r) by omega, b1]
theorem zcX9_firstWaiting {md : Nat → Int32} {Z : Nat → Int} (hmd : ∀ j : Nat, j < 48 → md j = zI (Z j)) (hR : Rg Z) {k : Nat} (hk : k < 16) (wa : Nat → Int32) : ∃ wa2 : Nat → Int32, fX9_firstWaiting md (zI (Z 48)) (zI (Z 49)) wa (zI k) = some (zI (rdZ Z k), wa2) := by
  obtain ⟨r, hr⟩ : ∃ r : Nat, Z 49 = r := ⟨(Z 49).toNat, by have := hR.ra; omega⟩
  have h2 := hR.ra
  have hW : isMx (mZ Z (Z 48).toNat) (win r k) (rdZ Z k) := by
    have := rdZ_is Z k
    rw [hr] at this
    exact this
  obtain ⟨f2, e2, wa2, p2, b1, b2, q1, q2, q3, q4, q5, q6, q7, q8⟩ := zcX9_waitL (md := md) (Z := Z) hmd hR hk (show r ≤ 3 by omega) (k + r + 1) 0 0 0 2000 wa (fun _ => 0) (by omega) (by omega) (fun i hi => by omega) ⟨by omega, by omega, by omega, fun i a b => by omega, fun i j a b c => by omega, fun i j a b c => by omega, fun x a b c => by omega, fun i a b => by omega⟩
  obtain ⟨i0, j1, j2, j3, j4⟩ := q7 k hk (by omega) (by omega)
  have hp := q4 f2 (Nat.le_refl _) (by omega)
  have hv : isMx (mZ Z (Z 48).toNat) (win r k) (mZ Z (Z 48).toNat (p2 f2)) := by
    have hc := chN hR
    have hm := mZ_b hR hc.2 hp.1
    have h8 := q8 f2 (Nat.le_refl _) (by omega)
    refine ⟨by omega, fun x hx hw => ?_, Or.inr ⟨p2 f2, hp.1, by unfold win; omega, rfl⟩⟩
    unfold win at hw
    obtain ⟨i, i1, i2, i3, i4⟩ := q7 x hx (by omega) (by omega)
    have := q6 f2 i (Nat.le_refl _) i1 i2
    omega
  refine ⟨wa2, ?_⟩
  unfold fX9_firstWaiting
  rw [hr]
  rw [show (0 : Int32) = zI ((0 : Nat) : Int) from rfl, show -zI (r : Int) = zI (((0 : Nat) : Int) - r) by rw [zI_neg]; congr 1; omega, b1, Option.bind_some]
  try dsimp only
  rw [zcX8_at (by omega) (by omega), Option.bind_some, b2 f2 (by omega), zcX6_chosenAt hmd hR hp.1, Option.bind_some, isMx.uniq hv hW]
