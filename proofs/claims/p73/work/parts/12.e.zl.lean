/-! the model's blocks -/
/-! what is saved, what is kept -/
def tup (σ : LTH) : (Nat → Int32) × Int32 × Int32 × Int32 × Int32 × Int32 × Int32 × Int32 × Int32 × (Nat → Int32) × (Nat → Int32) × (Nat → Int32) × Int32 × Int32 × Int32 × Int32 × Int32 × Int32 × Int32 × Int32 × Int32 × Int32 :=
  (σ 0, σ 1 0, σ 2 0, σ 3 0, σ 4 0, σ 5 0, σ 6 0, σ 7 0, σ 8 0, σ 9, σ 10, σ 11, σ 12 0, σ 13 0, σ 14 0, σ 15 0, σ 16 0, σ 17 0, σ 18 0, σ 19 0, σ 20 0, σ 21 0)
theorem nI_cl6 {n : Nat} (h : n < 100) : (nI n).toNatClampNeg = n := nI_clamp (by omega)
section SAV
variable {Z : Nat → Int} {xs : Nat → Int32} {ho hcn xsv : Int32} {hsv hsl : Nat → Option LTH} {md : Nat → Int32} {mch : Int32} {fra : Int32} {fwe : Int32} {fof : Int32} {fsi : Int32} {csh : Int32} {cde : Int32} {csp : Int32} {rd : Nat → Int32} {rw : Nat → Int32} {rp : Nat → Int32} {rco : Int32} {rmo : Int32} {apa : Int32} {awo : Int32} {ash : Int32} {aja : Int32} {abu : Int32} {ltol : Int32} {lchi : Int32} {ljam : Int32}
theorem tup_lpk : tup (lpk md mch fra fwe fof fsi csh cde csp rd rw rp rco rmo apa awo ash aja abu ltol lchi ljam) = (md, mch, fra, fwe, fof, fsi, csh, cde, csp, rd, rw, rp, rco, rmo, apa, awo, ash, aja, abu, ltol, lchi, ljam) := rfl
theorem jam01 (hc : ClS Z (md, mch, fra, fwe, fof, fsi, csh, cde, csp, rd, rw, rp, rco, rmo, apa, awo, ash, aja, abu, ltol, lchi, ljam)) (hR : Rg Z) : ljam = 0 ∨ ljam = 1 := by
  have h : ljam = zI (Z 58) := hc.2.2.2.2.2.2.2.2.2.2.2.2.2.2.2.2.2.2.2.2.2
  rcases hR.ja with e | e
  · rw [h, e]; exact Or.inl rfl
  · rw [h, e]; exact Or.inr rfl
end SAV
/-! the state of the class and of the model, together -/
theorem updM {md : Nat → Int32} {Z : Nat → Int} (hmd : ∀ j : Nat, j < 48 → md j = zI (Z j)) {j : Nat} {v : Int} : ∀ i : Nat, i < 48 → upd md j (zI v) i = zI (zup Z j v i) := by
  intro i hi
  by_cases e9 : i = j
  · subst e9; rw [pk_us, zup_s]
  · rw [pk_un e9, zup_n e9]; exact hmd i hi
theorem rRaY {a b c : Int} {lo hi : Int32} (e1 : lo = zI b) (e2 : hi = zI c) (h : (-2147483648 ≤ a ∧ a < 2147483648) ∧ (-2147483648 ≤ b ∧ b < 2147483648) ∧ (-2147483648 ≤ c ∧ c < 2147483648)) (hv : b ≤ a ∧ a ≤ c) : fX9_checkRange (zI a) lo hi = some (.inr ()) := by
  rw [e1, e2]; exact cRaY h hv
theorem rRaN {a b c : Int} {lo hi : Int32} (e1 : lo = zI b) (e2 : hi = zI c) (h : (-2147483648 ≤ a ∧ a < 2147483648) ∧ (-2147483648 ≤ b ∧ b < 2147483648) ∧ (-2147483648 ≤ c ∧ c < 2147483648)) (hv : ¬ (b ≤ a ∧ a ≤ c)) : fX9_checkRange (zI a) lo hi = some (.inl 1) := by
  rw [e1, e2]; exact cRaN h hv
section MUT
variable {md : Nat → Int32} {mch : Int32} {fra : Int32} {fwe : Int32} {fof : Int32} {fsi : Int32} {csh : Int32} {cde : Int32} {csp : Int32} {rd : Nat → Int32} {rw : Nat → Int32} {rp : Nat → Int32} {rco : Int32} {rmo : Int32} {apa : Int32} {awo : Int32} {ash : Int32} {aja : Int32} {abu : Int32} {ltol : Int32} {lchi : Int32} {ljam : Int32} {ho : Int32} {hcn : Int32} {hsv : Nat → Option LTH} {hsl : Nat → Option LTH} {cav : Nat → Nat → Nat} {cal : Nat → Nat → Nat} {ou : Nat → Int64} {od : Nat → UInt64} {xs : Nat → Int32} {xsv : Int32} {xth : Int32} {xk0 : Int32} {xk1 : Int32} {xtx : Nat → Int32} {xle : Int32} {xat : Int32} {xdi : Int32} {xma : Int32} {xto : Int32} {xha : Int64} {wa : Nat → Int32} {le : Nat → Int32} {tc : Nat → Int32} {tt : Nat → Int32} {tle : Int32} {tpl : Int32} {tdi : Int32} {tti : Int32} {tst : Int32}
theorem zcX6_put {md : Nat → Int32} {c k : Nat} (hc : c < 3) (hk : k < 16) (v : Int32) : fX6_put md (zI c) (zI k) v = some (upd md (16 * c + k) v) := by
  unfold fX6_put
  simp only [zL0, zL1, zL2, zL3, zL5, zL6, zL7, zL8, zL9, zL10, zL15, zL16, zL18, zL20, zL30, zL31, zL33, zL48, zL49, zL50, zL51, zL52, zL53, zL54, zL55, zL56, zL57, zL58, zL59, zL60, zL61, zL62, zL63, zL64, zL65, zL66, zL80, zL99, zL100, zL120, zL126, zL156, zL200, zL1000, zL1404, zL1560, zLm, zI_neg, zI_add, zI_sub, zI_mul]
  rw [zi_lt (by omega), zi_le (by omega), if_neg (by omega), if_neg (by omega), zI_cl (by omega), show ((c : Int) * 16 + k).toNat = 16 * c + k by omega]
end MUT
section MUK
variable {md : Nat → Int32} {mch : Int32} {fra : Int32} {fwe : Int32} {fof : Int32} {fsi : Int32} {csh : Int32} {cde : Int32} {csp : Int32} {rd : Nat → Int32} {rw : Nat → Int32} {rp : Nat → Int32} {rco : Int32} {rmo : Int32} {apa : Int32} {awo : Int32} {ash : Int32} {aja : Int32} {abu : Int32} {ltol : Int32} {lchi : Int32} {ljam : Int32} {ho : Int32} {hcn : Int32} {hsv : Nat → Option LTH} {hsl : Nat → Option LTH} {cav : Nat → Nat → Nat} {cal : Nat → Nat → Nat} {ou : Nat → Int64} {od : Nat → UInt64} {xs : Nat → Int32} {xsv : Int32} {xth : Int32} {xk0 : Int32} {xk1 : Int32} {xtx : Nat → Int32} {xle : Int32} {xat : Int32} {xdi : Int32} {xma : Int32} {xto : Int32} {xha : Int64} {wa : Nat → Int32} {le : Nat → Int32} {tc : Nat → Int32} {tt : Nat → Int32} {tle : Int32} {tpl : Int32} {tdi : Int32} {tti : Int32} {tst : Int32}
theorem jamS {σ : LTH} {Z : Nat → Int} (hc : ClS Z (tup σ)) (hR : Rg Z) : σ 21 0 = 0 ∨ σ 21 0 = 1 := jam01 hc hR
end MUK
section MUL
variable {md : Nat → Int32} {mch : Int32} {fra : Int32} {fwe : Int32} {fof : Int32} {fsi : Int32} {csh : Int32} {cde : Int32} {csp : Int32} {rd : Nat → Int32} {rw : Nat → Int32} {rp : Nat → Int32} {rco : Int32} {rmo : Int32} {apa : Int32} {awo : Int32} {ash : Int32} {aja : Int32} {abu : Int32} {ltol : Int32} {lchi : Int32} {ljam : Int32} {ho : Int32} {hcn : Int32} {hsv : Nat → Option LTH} {hsl : Nat → Option LTH} {cav : Nat → Nat → Nat} {cal : Nat → Nat → Nat} {ou : Nat → Int64} {od : Nat → UInt64} {xs : Nat → Int32} {xsv : Int32} {xth : Int32} {xk0 : Int32} {xk1 : Int32} {xtx : Nat → Int32} {xle : Int32} {xat : Int32} {xdi : Int32} {xma : Int32} {xto : Int32} {xha : Int64} {wa : Nat → Int32} {le : Nat → Int32} {tc : Nat → Int32} {tt : Nat → Int32} {tle : Int32} {tpl : Int32} {tdi : Int32} {tti : Int32} {tst : Int32}
/-! masters changed by a loop -/
def cpyG (f t k : Nat) (s : Int × (Nat → Int)) : Int × (Nat → Int) := (if s.2 (16 * f + k) = s.2 (16 * t + k) then s.1 else s.1 + 1, zup s.2 (16 * t + k) (s.2 (16 * f + k)))
def mirG (c k : Nat) (s : Int × (Nat → Int)) : Int × (Nat → Int) := (if s.2 (16 * c + k) = s.2 (16 * c + (15 - k)) then s.1 else s.1 + 2, zup (zup s.2 (16 * c + k) (s.2 (16 * c + (15 - k)))) (16 * c + (15 - k)) (s.2 (16 * c + k)))
def maP (Z0 : Nat → Int) (i : Nat) (s : Int × (Nat → Int)) : Prop := Rg s.2 ∧ (0 ≤ s.1 ∧ s.1 ≤ 2 * i) ∧ (∀ j : Nat, 48 ≤ j → s.2 j = Z0 j)
theorem cpyP {Z0 : Nat → Int} {f t : Nat} (hf : f < 3) (ht : t < 3) : ∀ (i : Nat) (s : Int × (Nat → Int)), i < 16 → maP Z0 i s → maP Z0 (i + 1) (cpyG f t i s) := by
  rintro i ⟨n, Z⟩ hi ⟨hR, hb, hfr⟩
  refine ⟨Rg.ma hR (by omega) (hR.md (by omega)), ?_, fun j hj => ?_⟩
  · unfold cpyG
    try dsimp only at *
    split <;> omega
  · unfold cpyG
    try dsimp only at *
    rw [zup_n (by omega)]
    exact hfr j hj
theorem mirP {Z0 : Nat → Int} {c : Nat} (hc : c < 3) : ∀ (i : Nat) (s : Int × (Nat → Int)), i < 8 → maP Z0 i s → maP Z0 (i + 1) (mirG c i s) := by
  rintro i ⟨n, Z⟩ hi ⟨hR, hb, hfr⟩
  refine ⟨Rg.ma (Rg.ma hR (by omega) (hR.md (by omega))) (by omega) (hR.md (by omega)), ?_, fun j hj => ?_⟩
  · unfold mirG
    try dsimp only at *
    split <;> omega
  · unfold mirG
    try dsimp only at *
    rw [zup_n (by omega), zup_n (by omega)]
    exact hfr j hj
theorem fst_rel {S T : Type} {g : Nat → S → S} {h : Nat → S × T → S × T} {N : Nat} (e : ∀ i s, (h i s).1 = g i s.1) (k i : Nat) (s : S × T) (hk : i + k = N) : (zit h i k s).1 = zit g i k s.1 :=
  zit_rel (g := h) (h := g) (N := N) (fun _ s t => s.1 = t) (fun i s t _ e1 => by subst e1; exact e i s) k i s s.1 hk rfl
theorem zcX6_makeAlike {md : Nat → Int32} {Z : Nat → Int} (hmd : ∀ j : Nat, j < 48 → md j = zI (Z j)) (hR : Rg Z) {f t : Nat} (hf : f < 3) (ht : t < 3) :
    ∃ md2 : Nat → Int32, fX6_makeAlike md (zI f) (zI t) = some (zI (zit (cpyG f t) 0 16 (0, Z)).1, md2) ∧ ∀ j : Nat, j < 48 → md2 j = zI ((zit (cpyG f t) 0 16 (0, Z)).2 j) := by
  have key := loopG (S := (Int × (Nat → Int)) × (Nat → Int32)) (L := fun n i s => fX6_makeAlike_L5 (zI f) (zI t) n (zI s.1.1) (zI i) s.2) (g := fun i s => (cpyG f t i s.1, upd s.2 (16 * t + i) (zI (s.1.2 (16 * f + i))))) (N := 16) (P := fun i s => maP Z i s.1 ∧ ∀ j : Nat, j < 48 → s.2 j = zI (s.1.2 j)) (out := fun s => (zI s.1.1, s.2)) (by
      intro n s _
      try dsimp only
      rw [fX6_makeAlike_L5]
      exact ite_t (by decide)) (by
      rintro n i ⟨⟨v, Y⟩, md⟩ hi ⟨⟨hRY, hb, hfr⟩, hmdY⟩
      try dsimp only at *
      have h1 := hRY.md (j := 16 * f + i) (by omega)
      have h2 := hRY.md (j := 16 * t + i) (by omega)
      rw [fX6_makeAlike_L5, zL16, zi_le (by omega), if_neg (by omega), zcX6_at hmdY hf hi, Option.bind_some, zcX6_at hmdY ht hi, Option.bind_some, Option.bind_some, Option.bind_some]
      unfold mZ
      rw [zi_eq (by omega), zcX6_put ht hi, Option.bind_some, Option.bind_some]
      unfold cpyG
      simp only [zL0, zL1, zL2, zL3, zL5, zL6, zL7, zL8, zL9, zL10, zL15, zL16, zL18, zL20, zL30, zL31, zL33, zL48, zL49, zL50, zL51, zL52, zL53, zL54, zL55, zL56, zL57, zL58, zL59, zL60, zL61, zL62, zL63, zL64, zL65, zL66, zL80, zL99, zL100, zL120, zL126, zL156, zL200, zL1000, zL1404, zL1560, zLm, zI_neg, zI_add, zI_sub, zI_mul]
      by_cases h : Y (16 * f + i) = Y (16 * t + i)
      · rw [if_pos h, if_pos h]; rfl
      · rw [if_neg h, if_neg h]; rfl) (by
      rintro i ⟨⟨v, Y⟩, md⟩ hi ⟨hp, hmdY⟩
      exact ⟨cpyP hf ht i _ hi hp, updM hmdY⟩)
  obtain ⟨e1, e2⟩ := key 16 0 2000 ((0, Z), md) rfl (by omega) ⟨⟨hR, by (try dsimp only); omega, fun _ _ => rfl⟩, hmd⟩
  have e3 := fst_rel (g := cpyG f t) (h := fun i (s : (Int × (Nat → Int)) × (Nat → Int32)) => (cpyG f t i s.1, upd s.2 (16 * t + i) (zI (s.1.2 (16 * f + i))))) (N := 16) (fun _ _ => rfl) 16 0 ((0, Z), md) rfl
  refine ⟨_, ?_, by rw [← e3]; exact e2.2⟩
  unfold fX6_makeAlike
  try dsimp only at e1
  rw [show fX6_makeAlike_L5 (zI f) (zI t) 2000 0 0 md = _ from e1, Option.bind_some, e3]
theorem zcX6_turnRound {md : Nat → Int32} {Z : Nat → Int} (hmd : ∀ j : Nat, j < 48 → md j = zI (Z j)) (hR : Rg Z) {c : Nat} (hc : c < 3) :
    ∃ md2 : Nat → Int32, fX6_turnRound md (zI c) = some (zI (zit (mirG c) 0 8 (0, Z)).1, md2) ∧ ∀ j : Nat, j < 48 → md2 j = zI ((zit (mirG c) 0 8 (0, Z)).2 j) := by
  have key := loopG (S := (Int × (Nat → Int)) × (Nat → Int32)) (L := fun n i s => fX6_turnRound_L4 (zI c) n (zI s.1.1) (zI i) s.2) (g := fun i s => (mirG c i s.1, upd (upd s.2 (16 * c + i) (zI (s.1.2 (16 * c + (15 - i))))) (16 * c + (15 - i)) (zI (s.1.2 (16 * c + i))))) (N := 8) (P := fun i s => maP Z i s.1 ∧ ∀ j : Nat, j < 48 → s.2 j = zI (s.1.2 j)) (out := fun s => (zI s.1.1, s.2)) (by
      intro n s _
      try dsimp only
      rw [fX6_turnRound_L4]
      exact ite_t (by decide)) (by
      rintro n i ⟨⟨v, Y⟩, md⟩ hi ⟨⟨hRY, hb, hfr⟩, hmdY⟩
      try dsimp only at *
      have h1 := hRY.md (j := 16 * c + i) (by omega)
      have h2 := hRY.md (j := 16 * c + (15 - i)) (by omega)
      have e15 : (15 : Int32) - zI (i : Int) = zI ((15 - i : Nat) : Int) := by rw [zL15, zI_sub]; congr 1; omega
      rw [fX6_turnRound_L4, zL8, zi_le (by omega), if_neg (by omega), zcX6_at hmdY hc (by omega), Option.bind_some, e15, zcX6_at hmdY hc (by omega), Option.bind_some, Option.bind_some, Option.bind_some]
      unfold mZ
      rw [zi_eq (by omega), zcX6_put hc (by omega), Option.bind_some, Option.bind_some, zcX6_put hc (by omega), Option.bind_some, Option.bind_some]
      unfold mirG
      simp only [zL0, zL1, zL2, zL3, zL5, zL6, zL7, zL8, zL9, zL10, zL15, zL16, zL18, zL20, zL30, zL31, zL33, zL48, zL49, zL50, zL51, zL52, zL53, zL54, zL55, zL56, zL57, zL58, zL59, zL60, zL61, zL62, zL63, zL64, zL65, zL66, zL80, zL99, zL100, zL120, zL126, zL156, zL200, zL1000, zL1404, zL1560, zLm, zI_neg, zI_add, zI_sub, zI_mul]
      by_cases h : Y (16 * c + i) = Y (16 * c + (15 - i))
      · rw [if_pos h, if_pos h]; rfl
      · rw [if_neg h, if_neg h]; rfl) (by
      rintro i ⟨⟨v, Y⟩, md⟩ hi ⟨hp, hmdY⟩
      exact ⟨mirP hc i _ hi hp, updM (updM hmdY)⟩)
  obtain ⟨e1, e2⟩ := key 8 0 2000 ((0, Z), md) rfl (by omega) ⟨⟨hR, by (try dsimp only); omega, fun _ _ => rfl⟩, hmd⟩
  have e3 := fst_rel (g := mirG c) (h := fun i (s : (Int × (Nat → Int)) × (Nat → Int32)) => (mirG c i s.1, upd (upd s.2 (16 * c + i) (zI (s.1.2 (16 * c + (15 - i))))) (16 * c + (15 - i)) (zI (s.1.2 (16 * c + i))))) (N := 8) (fun _ _ => rfl) 8 0 ((0, Z), md) rfl
  refine ⟨_, ?_, by rw [← e3]; exact e2.2⟩
  unfold fX6_turnRound
  try dsimp only at e1
  rw [show fX6_turnRound_L4 (zI c) 2000 0 0 md = _ from e1, Option.bind_some, e3]
/-! sanding -/
def rubG (a : Int) (q k : Nat) (s : Int × (Nat → Int)) : Int × (Nat → Int) := (s.1 + min a (abZ s.2 q k), zup s.2 (68 + 18 * q + k) (dZ s.2 q k - min a (abZ s.2 q k)))
def rubP (Z0 : Nat → Int) (q i : Nat) (s : Int × (Nat → Int)) : Prop := Rg s.2 ∧ (0 ≤ s.1 ∧ s.1 ≤ 119 * i) ∧ (∀ j : Nat, (j < 68 + 18 * q ∨ 84 + 18 * q ≤ j) → s.2 j = Z0 j)
theorem rubP_step {Z0 : Nat → Int} {a : Int} (ha : 1 ≤ a ∧ a ≤ 3) {q : Nat} (hq : q < 5) : ∀ (i : Nat) (s : Int × (Nat → Int)), i < 16 → rubP Z0 q i s → rubP Z0 q (i + 1) (rubG a q i s) := by
  rintro i ⟨s, Z⟩ hi ⟨hR, hb, hf⟩
  have h1 := abZ_b hR hq hi
  have hd := hR.di hq hi
  have ht := tgZ_b hR i
  unfold rubG
  try dsimp only at *
  refine ⟨Rg.pc hR (by omega) (fun q2 _ e => by omega) (fun q2 k2 a1 b1 e => ?_), by (try dsimp only); omega, fun j hj => ?_⟩
  · have e1 : q2 = q := by omega
    subst e1
    unfold abZ dZ at *
    omega
  · dsimp only
    rw [zup_n (by omega)]; exact hf j hj
theorem zcX4_rubL {md rd : Nat → Int32} {Z : Nat → Int} (hmd : ∀ j : Nat, j < 48 → md j = zI (Z j)) (hrd : rdO Z rd) (hR : Rg Z) {q : Nat} (hq : q < 5) {a : Int} (ha : 1 ≤ a ∧ a ≤ 3) :
    ∃ rd2 : Nat → Int32, fX4_rub_L4 md (zI (Z 48)) (zI (Z 49)) (zI (Z 50)) (zI (Z 52)) (zI q) (zI a) 2000 0 0 rd = some (zI (zit (rubG a q) 0 16 (0, Z)).1, rd2) ∧ rdO (zit (rubG a q) 0 16 (0, Z)).2 rd2 := by
  have key := loopG (S := (Int × (Nat → Int)) × (Nat → Int32)) (L := fun n i s => fX4_rub_L4 md (zI (Z 48)) (zI (Z 49)) (zI (Z 50)) (zI (Z 52)) (zI q) (zI a) n (zI s.1.1) (zI i) s.2) (g := fun i s => (rubG a q i s.1, upd s.2 (16 * q + i) (zI (dZ s.1.2 q i - min a (abZ s.1.2 q i))))) (N := 16) (P := fun i s => rubP Z q i s.1 ∧ rdO s.1.2 s.2) (out := fun s => (zI s.1.1, s.2)) (by
      intro n s _
      try dsimp only
      rw [fX4_rub_L4]
      exact ite_t (by decide)) (by
      rintro n i ⟨⟨v, Y⟩, rd⟩ hi ⟨⟨hRY, hb, hf⟩, hrdY⟩
      try dsimp only at *
      have hmdY : ∀ j : Nat, j < 48 → md j = zI (Y j) := fun j hj => by rw [hf j (by omega)]; exact hmd j hj
      have h1 := abZ_b hRY hq hi
      rw [fX4_rub_L4, zL16, zi_le (by omega), if_neg (by omega), ← hf 48 (by omega), ← hf 49 (by omega), ← hf 50 (by omega), ← hf 52 (by omega), zcX4_above hmdY hrdY hRY hq hi, Option.bind_some, zI_mn (by omega), zcX7_thin hrdY hq hi, Option.bind_some]
      simp only [zL0, zL1, zL2, zL3, zL5, zL6, zL7, zL8, zL9, zL10, zL15, zL16, zL18, zL20, zL30, zL31, zL33, zL48, zL49, zL50, zL51, zL52, zL53, zL54, zL55, zL56, zL57, zL58, zL59, zL60, zL61, zL62, zL63, zL64, zL65, zL66, zL80, zL99, zL100, zL120, zL126, zL156, zL200, zL1000, zL1404, zL1560, zLm, zI_neg, zI_add, zI_sub, zI_mul]
      unfold rubG
      rfl) (by
      rintro i ⟨⟨v, Y⟩, rd⟩ hi ⟨hp, hrdY⟩
      exact ⟨rubP_step ha hq i _ hi hp, hrdY.up hq hi _⟩)
  obtain ⟨e1, e2⟩ := key 16 0 2000 ((0, Z), rd) rfl (by omega) ⟨⟨hR, by (try dsimp only); omega, fun _ _ => rfl⟩, hrd⟩
  have e3 := fst_rel (g := rubG a q) (h := fun i (s : (Int × (Nat → Int)) × (Nat → Int32)) => (rubG a q i s.1, upd s.2 (16 * q + i) (zI (dZ s.1.2 q i - min a (abZ s.1.2 q i))))) (N := 16) (fun _ _ => rfl) 16 0 ((0, Z), rd) rfl
  try dsimp only at e1
  rw [e3] at e1
  exact ⟨_, e1, by rw [← e3]; exact e2.2⟩
end MUL
