/-! changes that keep the ranges -/
theorem Rg.sc {Z : Nat → Int} {j : Nat} {v : Int} (hR : Rg Z) (hj : 48 ≤ j ∧ j < 66 ∧ j ≠ 59) (h : (j = 48 → 0 ≤ v ∧ v ≤ 2) ∧ (j = 49 → 0 ≤ v ∧ v ≤ 3) ∧ (j = 50 → 0 ≤ v ∧ v ≤ 30) ∧ (j = 52 → 0 ≤ v ∧ v ≤ 5) ∧ (j = 53 → 0 ≤ v ∧ v ≤ 100) ∧ (j = 54 → 1 ≤ v ∧ v ≤ 9) ∧ (j = 55 → 1 ≤ v ∧ v ≤ 5) ∧ (j = 56 → 0 ≤ v ∧ v ≤ 20) ∧ (j = 57 → 0 ≤ v ∧ v ≤ 200) ∧ (j = 58 → v = 0 ∨ v = 1) ∧ (j = 60 → -1 ≤ v ∧ v < max 0 (Z 59))) : Rg (zup Z j v) := by
  obtain ⟨g1, g2, g3, g4, g5, g6, g7, g8, g9, g10, g11⟩ := h
  have e59 : zup Z j v 59 = Z 59 := zup_n (by omega)
  refine ⟨fun i hi => by rw [zup_n (by omega)]; exact hR.md hi, ?_, ?_, ?_, ?_, ?_, ?_, ?_, ?_, ?_, ?_, ?_, ?_, fun q hq => by rw [zup_n (by omega)]; exact hR.wo hq, fun q k hq hk => by rw [zup_n (by omega), e59]; exact hR.di hq hk⟩
  · have := hR.ch; by_cases e : 48 = j
    · subst e; rw [zup_s]; exact g1 rfl
    · rw [zup_n e]; exact this
  · have := hR.ra; by_cases e : 49 = j
    · subst e; rw [zup_s]; exact g2 rfl
    · rw [zup_n e]; exact this
  · have := hR.we; by_cases e : 50 = j
    · subst e; rw [zup_s]; exact g3 rfl
    · rw [zup_n e]; exact this
  · have := hR.of; by_cases e : 52 = j
    · subst e; rw [zup_s]; exact g4 rfl
    · rw [zup_n e]; exact this
  · have := hR.sh; by_cases e : 53 = j
    · subst e; rw [zup_s]; exact g5 rfl
    · rw [zup_n e]; exact this
  · have := hR.de; by_cases e : 54 = j
    · subst e; rw [zup_s]; exact g6 rfl
    · rw [zup_n e]; exact this
  · have := hR.sp; by_cases e : 55 = j
    · subst e; rw [zup_s]; exact g7 rfl
    · rw [zup_n e]; exact this
  · have := hR.to; by_cases e : 56 = j
    · subst e; rw [zup_s]; exact g8 rfl
    · rw [zup_n e]; exact this
  · have := hR.chi; by_cases e : 57 = j
    · subst e; rw [zup_s]; exact g9 rfl
    · rw [zup_n e]; exact this
  · have := hR.ja; by_cases e : 58 = j
    · subst e; rw [zup_s]; exact g10 rfl
    · rw [zup_n e]; exact this
  · rw [e59]; exact hR.co
  · rw [e59]
    have := hR.mo; by_cases e : 60 = j
    · subst e; rw [zup_s]; exact g11 rfl
    · rw [zup_n e]; exact this
theorem Rg.ma {Z : Nat → Int} {j : Nat} {v : Int} (hR : Rg Z) (hj : j < 48) (h : 5 ≤ v ∧ v ≤ 99) : Rg (zup Z j v) := by
  refine ⟨fun i hi => ?_, ?_, ?_, ?_, ?_, ?_, ?_, ?_, ?_, ?_, ?_, ?_, ?_, fun q hq => by rw [zup_n (by omega)]; exact hR.wo hq, fun q k hq hk => by rw [zup_n (by omega), zup_n (by omega)]; exact hR.di hq hk⟩
  · by_cases e : i = j
    · subst e; rw [zup_s]; exact h
    · rw [zup_n e]; exact hR.md hi
  · rw [zup_n (by omega)]; exact hR.ch
  · rw [zup_n (by omega)]; exact hR.ra
  · rw [zup_n (by omega)]; exact hR.we
  · rw [zup_n (by omega)]; exact hR.of
  · rw [zup_n (by omega)]; exact hR.sh
  · rw [zup_n (by omega)]; exact hR.de
  · rw [zup_n (by omega)]; exact hR.sp
  · rw [zup_n (by omega)]; exact hR.to
  · rw [zup_n (by omega)]; exact hR.chi
  · rw [zup_n (by omega)]; exact hR.ja
  · rw [zup_n (by omega)]; exact hR.co
  · rw [zup_n (by omega), zup_n (by omega)]; exact hR.mo
theorem Rg.pc {Z : Nat → Int} {j : Nat} {v : Int} (hR : Rg Z) (hj : 66 ≤ j) (h1 : ∀ q : Nat, q < 5 → j = 66 + 18 * q → 0 ≤ v ∧ v ≤ 2) (h2 : ∀ q k : Nat, q < 5 → k < 16 → j = 68 + 18 * q + k → 0 ≤ v ∧ v ≤ 120 ∧ ((q : Int) < Z 59 → 1 ≤ v)) : Rg (zup Z j v) := by
  refine ⟨fun i hi => by rw [zup_n (by omega)]; exact hR.md hi, ?_, ?_, ?_, ?_, ?_, ?_, ?_, ?_, ?_, ?_, ?_, ?_, fun q hq => ?_, fun q k hq hk => ?_⟩
  · rw [zup_n (by omega)]; exact hR.ch
  · rw [zup_n (by omega)]; exact hR.ra
  · rw [zup_n (by omega)]; exact hR.we
  · rw [zup_n (by omega)]; exact hR.of
  · rw [zup_n (by omega)]; exact hR.sh
  · rw [zup_n (by omega)]; exact hR.de
  · rw [zup_n (by omega)]; exact hR.sp
  · rw [zup_n (by omega)]; exact hR.to
  · rw [zup_n (by omega)]; exact hR.chi
  · rw [zup_n (by omega)]; exact hR.ja
  · rw [zup_n (by omega)]; exact hR.co
  · rw [zup_n (by omega), zup_n (by omega)]; exact hR.mo
  · by_cases e : 66 + 18 * q = j
    · rw [← e, zup_s]; exact h1 q hq e.symm
    · rw [zup_n e]; exact hR.wo hq
  · rw [zup_n (j := 59) (by omega)]
    by_cases e : 68 + 18 * q + k = j
    · rw [← e, zup_s]; exact h2 q k hq hk e.symm
    · rw [zup_n e]; exact hR.di hq hk
/-! what readings look at -/
theorem rdZ_congr {Z Y : Nat → Int} (hR : Rg Z) (h : ∀ j : Nat, j < 50 → Y j = Z j) (k : Nat) : rdZ Y k = rdZ Z k := by
  unfold rdZ
  have hc := chN hR
  rw [h 49 (by omega), h 48 (by omega)]
  refine zit_congr (N := 16) (fun _ _ => True) (fun _ _ _ _ => trivial) (fun i v hi _ => ?_) 16 0 0 rfl trivial
  have : mZ Y (Z 48).toNat i = mZ Z (Z 48).toNat i := h _ (by omega)
  rw [this]
theorem tgZ_congr {Z Y : Nat → Int} (hR : Rg Z) (h : ∀ j : Nat, j < 53 → Y j = Z j) (k : Nat) : tgZ Y k = tgZ Z k := by
  unfold tgZ
  rw [rdZ_congr hR (fun j hj => h j (by omega)), h 50 (by omega), h 52 (by omega)]
theorem abZ_congr {Z Y : Nat → Int} (hR : Rg Z) (h : ∀ j : Nat, j < 53 → Y j = Z j) {q k : Nat} (hd : dZ Y q k = dZ Z q k) : abZ Y q k = abZ Z q k := by
  unfold abZ
  rw [tgZ_congr hR h, hd]
theorem loopE {S R : Type} (L : Nat → Nat → S → Option R) (g : Nat → S → S) (N : Nat) (P : Nat → S → Prop) (E : S → Prop) (out : S → R) (h0 : ∀ n s, P N s → L (n + 1) N s = some (out s)) (hE : ∀ n i s, i < N → P i s → E s → L (n + 1) i s = some (out s)) (hg : ∀ i s, E s → g i s = s) (hs : ∀ n i s, i < N → P i s → ¬ E s → L (n + 1) i s = L n (i + 1) (g i s)) (hP : ∀ i s, i < N → P i s → P (i + 1) (g i s)) :
    ∀ (k i n : Nat) (s : S), i + k = N → k < n → P i s → L n i s = some (out (zit g i k s)) ∧ P N (zit g i k s) := by
  intro k
  induction k with
  | zero =>
    intro i n s e hn hp
    obtain ⟨m, rfl⟩ : ∃ m, n = m + 1 := ⟨n - 1, by omega⟩
    have e' : i = N := by omega
    subst e'
    exact ⟨h0 m s hp, hp⟩
  | succ k ih =>
    intro i n s e hn hp
    obtain ⟨m, rfl⟩ : ∃ m, n = m + 1 := ⟨n - 1, by omega⟩
    by_cases he : E s
    · have hz : ∀ (k i : Nat), zit g i k s = s := by
        intro k
        induction k with
        | zero => intro i; rfl
        | succ k ih2 => intro i; show zit g (i + 1) k (g i s) = s; rw [hg i s he]; exact ih2 _
      refine ⟨by rw [hE m i s (by omega) hp he, hz], zit_P hP (k + 1) i s e hp⟩
    · rw [hs m i s (by omega) hp he]
      exact ih (i + 1) m (g i s) (by omega) (by omega) (hP i s (by omega) hp)
/-! a pass along a piece -/
def cutG (c : Int) (q : Nat) (k : Nat) (s : Int × (Nat → Int)) : Int × (Nat → Int) :=
  if s.2 58 = 0 then
    if min c (abZ s.2 q k) ≤ 200 - s.2 57 then (s.1 + min c (abZ s.2 q k), zup (zup s.2 (68 + 18 * q + k) (dZ s.2 q k - min c (abZ s.2 q k))) 57 (s.2 57 + min c (abZ s.2 q k)))
    else (s.1, zup (zup s.2 58 1) 64 (s.2 64 + 1))
  else s
def cutP (Z0 : Nat → Int) (q i : Nat) (s : Int × (Nat → Int)) : Prop := Rg s.2 ∧ (0 ≤ s.1 ∧ s.1 ≤ 119 * i) ∧ (∀ j : Nat, (j ≠ 57 ∧ j ≠ 58 ∧ j ≠ 64 ∧ (j < 68 + 18 * q ∨ 84 + 18 * q ≤ j)) → s.2 j = Z0 j)
theorem cutP_step {Z0 : Nat → Int} {c : Int} (hc : 0 ≤ c ∧ c ≤ 9) {q : Nat} (hq : q < 5) : ∀ (i : Nat) (s : Int × (Nat → Int)), i < 16 → cutP Z0 q i s → cutP Z0 q (i + 1) (cutG c q i s) := by
  rintro i ⟨s, Z⟩ hi ⟨hR, hb, hf⟩
  try dsimp only at hR hb hf
  unfold cutG
  try dsimp only
  have ha := abZ_b hR hq hi
  have hd := hR.di hq hi
  have ht := tgZ_b hR i
  have hch := hR.chi
  by_cases h1 : Z 58 = 0
  · rw [if_pos h1]
    by_cases h2 : min c (abZ Z q i) ≤ 200 - Z 57
    · rw [if_pos h2]
      refine ⟨?_, by (try dsimp only); omega, fun j hj => ?_⟩
      · try dsimp only
        refine Rg.sc (Rg.pc hR (by omega) (fun q2 _ e => by omega) (fun q2 k2 a b e => ?_)) (by omega) (by rw [zup_n (by omega)]; omega)
        have e1 : q2 = q := by omega
        subst e1
        unfold abZ dZ at *
        omega
      · try dsimp only
        rw [zup_n (by omega), zup_n (by omega)]; exact hf j hj
    · rw [if_neg h2]
      refine ⟨?_, by (try dsimp only); omega, fun j hj => ?_⟩
      · try dsimp only
        exact Rg.sc (Rg.sc hR (by omega) (by omega)) (by omega) (by rw [zup_n (by omega)]; omega)
      · try dsimp only
        rw [zup_n (by omega), zup_n (by omega)]; exact hf j hj
  · rw [if_neg h1]
    exact ⟨hR, by (try dsimp only); omega, hf⟩
def cutZ (Z : Nat → Int) (q : Nat) : Int × (Nat → Int) := zit (cutG (cuZ Z) q) 0 16 (0, Z)
theorem cutZ_P {Z : Nat → Int} (hR : Rg Z) {q : Nat} (hq : q < 5) : cutP Z q 16 (cutZ Z q) :=
  zit_P (cutP_step (c := cuZ Z) (by have := cuZ_b hR; omega) hq) 16 0 (0, Z) rfl ⟨hR, by (try dsimp only); omega, fun _ _ => rfl⟩
theorem rdO.up {Z : Nat → Int} {rd : Nat → Int32} (h : rdO Z rd) {q k : Nat} (hq : q < 5) (hk : k < 16) (v : Int) : rdO (zup Z (68 + 18 * q + k) v) (upd rd (16 * q + k) (zI v)) := by
  intro q2 k2 h1 h2
  unfold upd dZ zup
  by_cases e : 16 * q2 + k2 = 16 * q + k
  · rw [if_pos e, if_pos (by omega)]
  · rw [if_neg e, if_neg (by omega)]; exact h q2 k2 h1 h2
theorem rdO.sc {Z : Nat → Int} {rd : Nat → Int32} (h : rdO Z rd) {j : Nat} (hj : j < 68) (v : Int) : rdO (zup Z j v) rd := by
  intro q k hq hk
  unfold dZ
  rw [zup_n (by omega)]
  exact h q k hq hk
theorem zcX7_thin {rd : Nat → Int32} {Z : Nat → Int} (hrd : rdO Z rd) {q k : Nat} (hq : q < 5) (hk : k < 16) (v : Int) : fX7_thin rd (zI q) (zI k) (zI v) = some (upd rd (16 * q + k) (zI (dZ Z q k - v))) := by
  unfold fX7_thin
  simp only [zL0, zL1, zL2, zL3, zL5, zL6, zL7, zL8, zL9, zL10, zL15, zL16, zL18, zL20, zL30, zL31, zL33, zL48, zL49, zL50, zL51, zL52, zL53, zL54, zL55, zL56, zL57, zL58, zL59, zL60, zL61, zL62, zL63, zL64, zL65, zL66, zL80, zL99, zL100, zL120, zL126, zL156, zL200, zL1000, zL1404, zL1560, zLm, zI_neg, zI_add, zI_sub, zI_mul]
  rw [show ((q : Int) * 16 + k) = ((16 * q + k : Nat) : Int) by omega, zcX8_add (by omega) (by omega), Option.bind_some, hrd q k hq hk, zI_add]
  rfl
def cutC (c : Int) (q : Nat) (k : Nat) (s : (Int × (Nat → Int)) × (Nat → Int32)) : (Int × (Nat → Int)) × (Nat → Int32) :=
  (cutG c q k s.1, if s.1.2 58 = 0 ∧ min c (abZ s.1.2 q k) ≤ 200 - s.1.2 57 then upd s.2 (16 * q + k) (zI (dZ s.1.2 q k - min c (abZ s.1.2 q k))) else s.2)
theorem zcX4_cutSteps {md rd : Nat → Int32} {Z : Nat → Int} (hmd : ∀ j : Nat, j < 48 → md j = zI (Z j)) (hrd : rdO Z rd) (hR : Rg Z) {q : Nat} (hq : q < 5) :
    ∃ rd2 : Nat → Int32, fX4_cutSteps md (zI (Z 48)) (zI (Z 49)) (zI (Z 50)) (zI (Z 52)) (zI (Z 53)) (zI (Z 54)) rd (zI q) (zI (Z 64)) (zI (Z 57)) (zI (Z 58)) = some (zI (cutZ Z q).1, rd2, zI ((cutZ Z q).2 64), zI ((cutZ Z q).2 57), zI ((cutZ Z q).2 58)) ∧ rdO (cutZ Z q).2 rd2 := by
  have hcu := cuZ_b hR
  have key := loopE (S := (Int × (Nat → Int)) × (Nat → Int32)) (L := fun n i s => fX4_cutSteps_L4 md (zI (Z 48)) (zI (Z 49)) (zI (Z 50)) (zI (Z 52)) (zI (Z 53)) (zI (Z 54)) (zI q) n (zI s.1.1) (zI i) s.2 (zI (s.1.2 64)) (zI (s.1.2 57)) (zI (s.1.2 58))) (g := cutC (cuZ Z) q) (N := 16) (P := fun i s => cutP Z q i s.1 ∧ rdO s.1.2 s.2) (E := fun s => ¬ s.1.2 58 = 0) (out := fun s => (zI s.1.1, s.2, zI (s.1.2 64), zI (s.1.2 57), zI (s.1.2 58))) (by
      intro n s _
      try dsimp only
      rw [fX4_cutSteps_L4]
      exact ite_t (by decide)) (by
      rintro n i ⟨⟨s, Y⟩, rd⟩ hi ⟨⟨hR, hb, hf⟩, hrd⟩ he
      try dsimp only at *
      have hj := hR.ja
      rw [fX4_cutSteps_L4, zL16, zi_le (by omega), if_neg (by omega), zL0, zi_eq (by omega), if_neg he]) (by
      rintro i ⟨⟨s, Y⟩, rd⟩ he
      try dsimp only at he
      unfold cutC cutG
      try dsimp only
      rw [if_neg he, if_neg (fun h => he h.1)]) (by
      rintro n i ⟨⟨s, Y⟩, rd⟩ hi ⟨⟨hRY, hb, hf⟩, hrdY⟩ he
      try dsimp only at *
      have he' : Y 58 = 0 := Decidable.of_not_not he
      have hmdY : ∀ j : Nat, j < 48 → md j = zI (Y j) := fun j hj => by rw [hf j (by omega)]; exact hmd j hj
      have ha := abZ_b hRY hq hi
      have hch := hRY.chi
      rw [fX4_cutSteps_L4, zL16, zi_le (by omega), if_neg (by omega), zL0, he', if_pos rfl, zcX1_reach hR, Option.bind_some, ← hf 48 (by omega), ← hf 49 (by omega), ← hf 50 (by omega), ← hf 52 (by omega), zcX4_above hmdY hrdY hRY hq hi, Option.bind_some]
      simp only [zL0, zL1, zL2, zL3, zL5, zL6, zL7, zL8, zL9, zL10, zL15, zL16, zL18, zL20, zL30, zL31, zL33, zL48, zL49, zL50, zL51, zL52, zL53, zL54, zL55, zL56, zL57, zL58, zL59, zL60, zL61, zL62, zL63, zL64, zL65, zL66, zL80, zL99, zL100, zL120, zL126, zL156, zL200, zL1000, zL1404, zL1560, zLm, zI_neg, zI_add, zI_sub, zI_mul]
      rw [zI_mn (by omega), zi_le (by omega)]
      unfold cutC cutG
      try dsimp only
      rw [if_pos he']
      by_cases h2 : min (cuZ Z) (abZ Y q i) ≤ 200 - Y 57
      · rw [if_pos h2, if_pos h2, if_pos ⟨he', h2⟩, zcX7_thin hrdY hq hi, Option.bind_some]
        try dsimp only
        simp (disch := omega) only [zup_s, zup_n, zI_add, he']
        rfl
      · rw [if_neg h2, if_neg h2, if_neg (fun h => h2 h.2)]
        try dsimp only
        simp (disch := omega) only [zup_s, zup_n, zI_add]
        rfl) (by
      rintro i ⟨⟨s, Y⟩, rd⟩ hi ⟨hp, hrdY⟩
      refine ⟨cutP_step (by omega) hq i _ hi hp, ?_⟩
      try dsimp only at *
      unfold cutC cutG
      try dsimp only
      by_cases he' : Y 58 = 0
      · by_cases h2 : min (cuZ Z) (abZ Y q i) ≤ 200 - Y 57
        · rw [if_pos he', if_pos h2, if_pos ⟨he', h2⟩]
          exact (hrdY.up hq hi _).sc (by omega) _
        · rw [if_pos he', if_neg h2, if_neg (fun h => h2 h.2)]
          exact (hrdY.sc (by omega) _).sc (by omega) _
      · rw [if_neg he', if_neg (fun h => he' h.1)]
        exact hrdY)
  obtain ⟨e1, e2⟩ := key 16 0 2000 ((0, Z), rd) rfl (by omega) ⟨⟨hR, by (try dsimp only); omega, fun _ _ => rfl⟩, hrd⟩
  have e3 : (zit (cutC (cuZ Z) q) 0 16 ((0, Z), rd)).1 = cutZ Z q :=
    zit_rel (g := cutC (cuZ Z) q) (h := cutG (cuZ Z) q) (N := 16) (fun _ s t => s.1 = t) (by
      intro i s t hi e
      subst e
      rfl) 16 0 ((0, Z), rd) (0, Z) rfl rfl
  refine ⟨(zit (cutC (cuZ Z) q) 0 16 ((0, Z), rd)).2, ?_, by rw [← e3]; exact e2.2⟩
  unfold fX4_cutSteps
  try dsimp only at e1
  rw [show fX4_cutSteps_L4 md (zI (Z 48)) (zI (Z 49)) (zI (Z 50)) (zI (Z 52)) (zI (Z 53)) (zI (Z 54)) (zI q) 2000 0 0 rd (zI (Z 64)) (zI (Z 57)) (zI (Z 58)) = _ from e1, Option.bind_some, e3]
/-! the model's pass along -/
