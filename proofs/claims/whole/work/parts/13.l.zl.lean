section MUL
variable {md : Nat → Int32} {mch : Int32} {fra : Int32} {fwe : Int32} {fof : Int32} {fsi : Int32} {csh : Int32} {cde : Int32} {csp : Int32} {rd : Nat → Int32} {rw : Nat → Int32} {rp : Nat → Int32} {rco : Int32} {rmo : Int32} {apa : Int32} {awo : Int32} {ash : Int32} {aja : Int32} {abu : Int32} {ltol : Int32} {lchi : Int32} {ljam : Int32} {ho : Int32} {hcn : Int32} {hsv : Nat → Option LTH} {hsl : Nat → Option LTH} {cav : Nat → Nat → Nat} {cal : Nat → Nat → Nat} {ou : Nat → Int64} {od : Nat → UInt64} {xs : Nat → Int32} {xsv : Int32} {xth : Int32} {xk0 : Int32} {xk1 : Int32} {xtx : Nat → Int32} {xle : Int32} {xat : Int32} {xdi : Int32} {xma : Int32} {xto : Int32} {xha : Int64} {wa : Nat → Int32} {le : Nat → Int32} {tc : Nat → Int32} {tt : Nat → Int32} {tle : Int32} {tpl : Int32} {tdi : Int32} {tti : Int32} {tst : Int32}
/-! masters changed by a loop -/
def cpyG (f t k : Nat) (s : Int × (Nat → Int)) : Int × (Nat → Int) := (if s.2 (16 * f + k) = s.2 (16 * t + k) then s.1 else s.1 + 1, zup s.2 (16 * t + k) (s.2 (16 * f + k)))
def mirG (c k : Nat) (s : Int × (Nat → Int)) : Int × (Nat → Int) := (if s.2 (16 * c + k) = s.2 (16 * c + (15 - k)) then s.1 else s.1 + 2, zup (zup s.2 (16 * c + k) (s.2 (16 * c + (15 - k)))) (16 * c + (15 - k)) (s.2 (16 * c + k)))
def maP (Z0 : Nat → Int) (i : Nat) (s : Int × (Nat → Int)) : Prop := Rg s.2 ∧ (0 ≤ s.1 ∧ s.1 ≤ 2 * i) ∧ (∀ j : Nat, 48 ≤ j → s.2 j = Z0 j)
theorem cpyP {Z0 : Nat → Int} {f t : Nat} (hf : f < 3) (ht : t < 3) : ∀ (i : Nat) (s : Int × (Nat → Int)), i < 16 → maP Z0 i s → maP Z0 (i + 1) (cpyG f t i s) := by
  rintro i ⟨n, Z⟩ hi ⟨hR, hb, hfr⟩
  refine ⟨Rg.ma hR (by omega) (hR.md (by omega)), ?_, fun j hj => ?_⟩
  · unfold cpyG
    try dsimp only at *
    split <;> omega
  · unfold cpyG
    try dsimp only at *
    rw [zup_n (by omega)]
    exact hfr j hj
theorem mirP {Z0 : Nat → Int} {c : Nat} (hc : c < 3) : ∀ (i : Nat) (s : Int × (Nat → Int)), i < 8 → maP Z0 i s → maP Z0 (i + 1) (mirG c i s) := by
  rintro i ⟨n, Z⟩ hi ⟨hR, hb, hfr⟩
  refine ⟨Rg.ma (Rg.ma hR (by omega) (hR.md (by omega))) (by omega) (hR.md (by omega)), ?_, fun j hj => ?_⟩
  · unfold mirG
    try dsimp only at *
    split <;> omega
  · unfold mirG
    try dsimp only at *
    rw [zup_n (by omega), zup_n (by omega)]
    exact hfr j hj
theorem fst_rel {S T : Type} {g : Nat → S → S} {h : Nat → S × T → S × T} {N : Nat} (e : ∀ i s, (h i s).1 = g i s.1) (k i : Nat) (s : S × T) (hk : i + k = N) : (zit h i k s).1 = zit g i k s.1 :=
  zit_rel (g := h) (h := g) (N := N) (fun _ s t => s.1 = t) (fun i s t _ e1 => by subst e1; exact e i s) k i s s.1 hk rfl
theorem zcX6_makeAlike {md : Nat → Int32} {Z : Nat → Int} (hmd : ∀ j : Nat, j < 48 → md j = zI (Z j)) (hR : Rg Z) {f t : Nat} (hf : f < 3) (ht : t < 3) :
    ∃ md2 : Nat → Int32, fX6_makeAlike md (zI f) (zI t) = some (zI (zit (cpyG f t) 0 16 (0, Z)).1, md2) ∧ ∀ j : Nat, j < 48 → md2 j = zI ((zit (cpyG f t) 0 16 (0, Z)).2 j) := by
  have key := loopG (S := (Int × (Nat → Int)) × (Nat → Int32)) (L := fun n i s => fX6_makeAlike_L5 (zI f) (zI t) n (zI s.1.1) (zI i) s.2) (g := fun i s => (cpyG f t i s.1, upd s.2 (16 * t + i) (zI (s.1.2 (16 * f + i))))) (N := 16) (P := fun i s => maP Z i s.1 ∧ ∀ j : Nat, j < 48 → s.2 j = zI (s.1.2 j)) (out := fun s => (zI s.1.1, s.2)) (by
      intro n s _
      try dsimp only
      rw [fX6_makeAlike_L5]
      exact ite_t (by decide)) (by
      rintro n i ⟨⟨v, Y⟩, md⟩ hi ⟨⟨hRY, hb, hfr⟩, hmdY⟩
      try dsimp only at *
      have h1 := hRY.md (j := 16 * f + i) (by omega)
      have h2 := hRY.md (j := 16 * t + i) (by omega)
      rw [fX6_makeAlike_L5, zL16, zi_le (by omega), if_neg (by omega), zcX6_at hmdY hf hi, Option.bind_some, zcX6_at hmdY ht hi, Option.bind_some, Option.bind_some, Option.bind_some]
      unfold mZ
      rw [zi_eq (by omega), zcX6_put ht hi, Option.bind_some, Option.bind_some]
      unfold cpyG
      simp only [zL0, zL1, zL2, zL3, zL5, zL6, zL7, zL8, zL9, zL10, zL15, zL16, zL18, zL20, zL30, zL31, zL33, zL48, zL49, zL50, zL51, zL52, zL53, zL54, zL55, zL56, zL57, zL58, zL59, zL60, zL61, zL62, zL63, zL64, zL65, zL66, zL80, zL99, zL100, zL120, zL126, zL156, zL200, zL1000, zL1404, zL1560, zLm, zI_neg, zI_add, zI_sub, zI_mul]
      by_cases h : Y (16 * f + i) = Y (16 * t + i)
      · rw [if_pos h, if_pos h]; rfl
      · rw [if_neg h, if_neg h]; rfl) (by
      rintro i ⟨⟨v, Y⟩, md⟩ hi ⟨hp, hmdY⟩
      exact ⟨cpyP hf ht i _ hi hp, updM hmdY⟩)
  obtain ⟨e1, e2⟩ := key 16 0 2000 ((0, Z), md) rfl (by omega) ⟨⟨hR, by (try dsimp only); omega, fun _ _ => rfl⟩, hmd⟩
  have e3 := fst_rel (g := cpyG f t) (h := fun i (s : (Int × (Nat → Int)) × (Nat → Int32)) => (cpyG f t i s.1, upd s.2 (16 * t + i) (zI (s.1.2 (16 * f + i))))) (N := 16) (fun _ _ => rfl) 16 0 ((0, Z), md) rfl
  refine ⟨_, ?_, by rw [← e3]; exact e2.2⟩
  unfold fX6_makeAlike
  try dsimp only at e1
  rw [show fX6_makeAlike_L5 (zI f) (zI t) 2000 0 0 md = _ from e1, Option.bind_some, e3]
theorem mX10_copyL {xs : Nat → Int32} {Z : Nat → Int} (hx : MoS Z 0 xs) (hR : Rg Z) {f t : Nat} (hf : f < 3) (ht : t < 3) :
    ∃ ys : Nat → Int32, fX10_copyMaster_L37 (zI f) (zI t) 2000 0 0 xs = some (zI (zit (cpyG f t) 0 16 (0, Z)).1, ys) ∧ MoS (zit (cpyG f t) 0 16 (0, Z)).2 0 ys ∧ (∀ i, 156 ≤ i → ys i = xs i) := by
  have key := loopG (S := (Int × (Nat → Int)) × (Nat → Int32)) (L := fun n i s => fX10_copyMaster_L37 (zI f) (zI t) n (zI s.1.1) (zI i) s.2) (g := fun i s => (cpyG f t i s.1, upd s.2 (16 * t + i) (zI (s.1.2 (16 * f + i))))) (N := 16) (P := fun i s => maP Z i s.1 ∧ MoS s.1.2 0 s.2 ∧ ∀ i, 156 ≤ i → s.2 i = xs i) (out := fun s => (zI s.1.1, s.2)) (by
      intro n s _
      try dsimp only
      rw [fX10_copyMaster_L37]
      exact ite_t (by decide)) (by
      rintro n i ⟨⟨v, Y⟩, ys⟩ hi ⟨⟨hRY, hb, hfr⟩, hxY, hys⟩
      try dsimp only at *
      have h1 := hRY.md (j := 16 * f + i) (by omega)
      have h2 := hRY.md (j := 16 * t + i) (by omega)
      have k1 : ¬ (zI (16 * (f : Int) + i) < zI 0 ∨ 1560 ≤ (zI (16 * (f : Int) + i)).toNatClampNeg) := ixB (by omega)
      have k2 : ¬ (zI (16 * (t : Int) + i) < zI 0 ∨ 1560 ≤ (zI (16 * (t : Int) + i)).toNatClampNeg) := ixB (by omega)
      have i1 : (zI (16 * (f : Int) + i)).toNatClampNeg = 16 * f + i := by rw [zI_cl (by omega)]; omega
      have i2 : (zI (16 * (t : Int) + i)).toNatClampNeg = 16 * t + i := by rw [zI_cl (by omega)]; omega
      rw [fX10_copyMaster_L37]
      simp only [zL0, zL1, zL2, zL3, zL5, zL6, zL7, zL8, zL9, zL10, zL15, zL16, zL18, zL20, zL30, zL31, zL33, zL48, zL49, zL50, zL51, zL52, zL53, zL54, zL55, zL56, zL57, zL58, zL59, zL60, zL61, zL62, zL63, zL64, zL65, zL66, zL80, zL99, zL100, zL120, zL126, zL156, zL200, zL1000, zL1404, zL1560, zLm, zI_neg, zI_add, zI_sub, zI_mul]
      simp only [if_pos k1, if_pos k2]
      rw [i1, i2, hxY.z (j := 16 * f + i) (by omega), hxY.z (j := 16 * t + i) (by omega), zi_le (by omega), if_neg (by omega), zi_eq (by omega)]
      unfold cpyG
      try dsimp only
      by_cases h : Y (16 * f + i) = Y (16 * t + i)
      · rw [if_pos h, if_pos h, Int.add_zero]; rfl
      · rw [if_neg h, if_neg h]; rfl) (by
      rintro i ⟨⟨v, Y⟩, ys⟩ hi ⟨hp, hxY, hys⟩
      exact ⟨cpyP hf ht i _ hi hp, hxY.up0, fun j hj => by (try dsimp only); rw [pk_un (by omega)]; exact hys j hj⟩)
  obtain ⟨e1, e2⟩ := key 16 0 2000 ((0, Z), xs) rfl (by omega) ⟨⟨hR, by (try dsimp only); omega, fun _ _ => rfl⟩, hx, fun _ _ => rfl⟩
  have e3 := fst_rel (g := cpyG f t) (h := fun i (s : (Int × (Nat → Int)) × (Nat → Int32)) => (cpyG f t i s.1, upd s.2 (16 * t + i) (zI (s.1.2 (16 * f + i))))) (N := 16) (fun _ _ => rfl) 16 0 ((0, Z), xs) rfl
  try dsimp only at e1
  rw [e3] at e1
  exact ⟨_, e1, by rw [← e3]; exact e2.2.1, e2.2.2⟩
theorem zcX6_turnRound {md : Nat → Int32} {Z : Nat → Int} (hmd : ∀ j : Nat, j < 48 → md j = zI (Z j)) (hR : Rg Z) {c : Nat} (hc : c < 3) :
    ∃ md2 : Nat → Int32, fX6_turnRound md (zI c) = some (zI (zit (mirG c) 0 8 (0, Z)).1, md2) ∧ ∀ j : Nat, j < 48 → md2 j = zI ((zit (mirG c) 0 8 (0, Z)).2 j) := by
  have key := loopG (S := (Int × (Nat → Int)) × (Nat → Int32)) (L := fun n i s => fX6_turnRound_L4 (zI c) n (zI s.1.1) (zI i) s.2) (g := fun i s => (mirG c i s.1, upd (upd s.2 (16 * c + i) (zI (s.1.2 (16 * c + (15 - i))))) (16 * c + (15 - i)) (zI (s.1.2 (16 * c + i))))) (N := 8) (P := fun i s => maP Z i s.1 ∧ ∀ j : Nat, j < 48 → s.2 j = zI (s.1.2 j)) (out := fun s => (zI s.1.1, s.2)) (by
      intro n s _
      try dsimp only
      rw [fX6_turnRound_L4]
      exact ite_t (by decide)) (by
      rintro n i ⟨⟨v, Y⟩, md⟩ hi ⟨⟨hRY, hb, hfr⟩, hmdY⟩
      try dsimp only at *
      have h1 := hRY.md (j := 16 * c + i) (by omega)
      have h2 := hRY.md (j := 16 * c + (15 - i)) (by omega)
      have e15 : (15 : Int32) - zI (i : Int) = zI ((15 - i : Nat) : Int) := by rw [zL15, zI_sub]; congr 1; omega
      rw [fX6_turnRound_L4, zL8, zi_le (by omega), if_neg (by omega), zcX6_at hmdY hc (by omega), Option.bind_some, e15, zcX6_at hmdY hc (by omega), Option.bind_some, Option.bind_some, Option.bind_some]
      unfold mZ
      rw [zi_eq (by omega), zcX6_put hc (by omega), Option.bind_some, Option.bind_some, zcX6_put hc (by omega), Option.bind_some, Option.bind_some]
      unfold mirG
      simp only [zL0, zL1, zL2, zL3, zL5, zL6, zL7, zL8, zL9, zL10, zL15, zL16, zL18, zL20, zL30, zL31, zL33, zL48, zL49, zL50, zL51, zL52, zL53, zL54, zL55, zL56, zL57, zL58, zL59, zL60, zL61, zL62, zL63, zL64, zL65, zL66, zL80, zL99, zL100, zL120, zL126, zL156, zL200, zL1000, zL1404, zL1560, zLm, zI_neg, zI_add, zI_sub, zI_mul]
      by_cases h : Y (16 * c + i) = Y (16 * c + (15 - i))
      · rw [if_pos h, if_pos h]; rfl
      · rw [if_neg h, if_neg h]; rfl) (by
      rintro i ⟨⟨v, Y⟩, md⟩ hi ⟨hp, hmdY⟩
      exact ⟨mirP hc i _ hi hp, updM (updM hmdY)⟩)
  obtain ⟨e1, e2⟩ := key 8 0 2000 ((0, Z), md) rfl (by omega) ⟨⟨hR, by (try dsimp only); omega, fun _ _ => rfl⟩, hmd⟩
  have e3 := fst_rel (g := mirG c) (h := fun i (s : (Int × (Nat → Int)) × (Nat → Int32)) => (mirG c i s.1, upd (upd s.2 (16 * c + i) (zI (s.1.2 (16 * c + (15 - i))))) (16 * c + (15 - i)) (zI (s.1.2 (16 * c + i))))) (N := 8) (fun _ _ => rfl) 8 0 ((0, Z), md) rfl
  refine ⟨_, ?_, by rw [← e3]; exact e2.2⟩
  unfold fX6_turnRound
  try dsimp only at e1
  rw [show fX6_turnRound_L4 (zI c) 2000 0 0 md = _ from e1, Option.bind_some, e3]
theorem mX10_mirL {xs : Nat → Int32} {Z : Nat → Int} (hx : MoS Z 0 xs) (hR : Rg Z) {c : Nat} (hc : c < 3) :
    ∃ ys : Nat → Int32, fX10_mirrorMaster_L29 (zI c) 2000 0 0 xs = some (zI (zit (mirG c) 0 8 (0, Z)).1, ys) ∧ MoS (zit (mirG c) 0 8 (0, Z)).2 0 ys ∧ (∀ i, 156 ≤ i → ys i = xs i) := by
  have key := loopG (S := (Int × (Nat → Int)) × (Nat → Int32)) (L := fun n i s => fX10_mirrorMaster_L29 (zI c) n (zI s.1.1) (zI i) s.2) (g := fun i s => (mirG c i s.1, upd (upd s.2 (16 * c + i) (zI (s.1.2 (16 * c + (15 - i))))) (16 * c + (15 - i)) (zI (s.1.2 (16 * c + i))))) (N := 8) (P := fun i s => maP Z i s.1 ∧ MoS s.1.2 0 s.2 ∧ ∀ i, 156 ≤ i → s.2 i = xs i) (out := fun s => (zI s.1.1, s.2)) (by
      intro n s _
      try dsimp only
      rw [fX10_mirrorMaster_L29]
      exact ite_t (by decide)) (by
      rintro n i ⟨⟨v, Y⟩, ys⟩ hi ⟨⟨hRY, hb, hfr⟩, hxY, hys⟩
      try dsimp only at *
      have h1 := hRY.md (j := 16 * c + i) (by omega)
      have h2 := hRY.md (j := 16 * c + (15 - i)) (by omega)
      have k1 : ¬ (zI (16 * (c : Int) + i) < zI 0 ∨ 1560 ≤ (zI (16 * (c : Int) + i)).toNatClampNeg) := ixB (by omega)
      have k2 : ¬ (zI (16 * (c : Int) + 16 - 1 - i) < zI 0 ∨ 1560 ≤ (zI (16 * (c : Int) + 16 - 1 - i)).toNatClampNeg) := ixB (by omega)
      have i1 : (zI (16 * (c : Int) + i)).toNatClampNeg = 16 * c + i := by rw [zI_cl (by omega)]; omega
      have i2 : (zI (16 * (c : Int) + 16 - 1 - i)).toNatClampNeg = 16 * c + (15 - i) := by rw [zI_cl (by omega)]; omega
      rw [fX10_mirrorMaster_L29]
      simp only [zL0, zL1, zL2, zL3, zL5, zL6, zL7, zL8, zL9, zL10, zL15, zL16, zL18, zL20, zL30, zL31, zL33, zL48, zL49, zL50, zL51, zL52, zL53, zL54, zL55, zL56, zL57, zL58, zL59, zL60, zL61, zL62, zL63, zL64, zL65, zL66, zL80, zL99, zL100, zL120, zL126, zL156, zL200, zL1000, zL1404, zL1560, zLm, zI_neg, zI_add, zI_sub, zI_mul]
      simp only [if_pos k1, if_pos k2]
      rw [i1, i2, hxY.z (j := 16 * c + i) (by omega), hxY.z (j := 16 * c + (15 - i)) (by omega), zi_le (by omega), if_neg (by omega), zi_eq (by omega)]
      unfold mirG
      try dsimp only
      by_cases h : Y (16 * c + i) = Y (16 * c + (15 - i))
      · rw [if_pos h, if_pos h, Int.add_zero]; rfl
      · rw [if_neg h, if_neg h]; rfl) (by
      rintro i ⟨⟨v, Y⟩, ys⟩ hi ⟨hp, hxY, hys⟩
      exact ⟨mirP hc i _ hi hp, hxY.up0.up0, fun j hj => by (try dsimp only); rw [pk_un (by omega), pk_un (by omega)]; exact hys j hj⟩)
  obtain ⟨e1, e2⟩ := key 8 0 2000 ((0, Z), xs) rfl (by omega) ⟨⟨hR, by (try dsimp only); omega, fun _ _ => rfl⟩, hx, fun _ _ => rfl⟩
  have e3 := fst_rel (g := mirG c) (h := fun i (s : (Int × (Nat → Int)) × (Nat → Int32)) => (mirG c i s.1, upd (upd s.2 (16 * c + i) (zI (s.1.2 (16 * c + (15 - i))))) (16 * c + (15 - i)) (zI (s.1.2 (16 * c + i))))) (N := 8) (fun _ _ => rfl) 8 0 ((0, Z), xs) rfl
  try dsimp only at e1
  rw [e3] at e1
  exact ⟨_, e1, by rw [← e3]; exact e2.2.1, e2.2.2⟩
theorem st_1 (hC : Core (md, mch, fra, fwe, fof, fsi, csh, cde, csp, rd, rw, rp, rco, rmo, apa, awo, ash, aja, abu, ltol, lchi, ljam) ho hcn hsv hsl xs xsv xk0 xk1) (s1 : Int32) (s2 : Int32) : ∃ (md_0 : Nat → Int32) (ho_0 : Int32) (hcn_0 : Int32) (hsv_0 : Nat → Option LTH) (ou_0 : Nat → Int64) (xth_0 : Int32) (xs_0 : Nat → Int32) (xsv_0 : Int32), flaw_1 md mch fra fwe fof fsi csh cde csp rd rw rp rco rmo apa awo ash aja abu ltol lchi ljam ho hcn hsv ou xs xsv s1 s2 = some (md_0, ho_0, hcn_0, hsv_0, ou_0, xth_0, xs_0, xsv_0) ∧ Core (md_0, mch, fra, fwe, fof, fsi, csh, cde, csp, rd, rw, rp, rco, rmo, apa, awo, ash, aja, abu, ltol, lchi, ljam) ho_0 hcn_0 hsv_0 hsl xs_0 xsv_0 xk0 xk1 := by
  obtain ⟨⟨Z, hR, hc, hx⟩, hH, hs0, hs1⟩ := hC
  obtain ⟨ho2, hcn2, hsv2, ys, yv, e1, e2, hx2, hH2, hfr⟩ := save_ok hc hR hx hH
  obtain ⟨hmd, hrd, hrw, hrp, rfl, rfl, rfl, rfl, rfl, rfl, rfl, rfl, rfl, rfl, rfl, rfl, rfl, rfl, rfl, rfl, rfl, rfl⟩ := hc
  obtain ⟨a, hb, rfl⟩ := zI_surj s1
  obtain ⟨b, hb2, rfl⟩ := zI_surj s2
  by_cases hv : 0 ≤ a ∧ a < 3
  · by_cases hv2 : 0 ≤ b ∧ b < 3
    · obtain ⟨f, rfl⟩ : ∃ q : Nat, a = q := ⟨a.toNat, by omega⟩
      obtain ⟨t, rfl⟩ : ∃ q : Nat, b = q := ⟨b.toNat, by omega⟩
      obtain ⟨md2, e3, hmd2⟩ := zcX6_makeAlike hmd hR (f := f) (t := t) (by omega) (by omega)
      obtain ⟨zs, e4, hx3, hz⟩ := mX10_copyL hx2 hR (f := f) (t := t) (by omega) (by omega)
      have hP := zit_P (g := cpyG f t) (N := 16) (P := maP Z) (cpyP (by omega) (by omega)) 16 0 (0, Z) rfl ⟨hR, by (try dsimp only); omega, fun _ _ => rfl⟩
      obtain ⟨hRY, -, hfz⟩ := hP
      refine ⟨md2, ho2, hcn2, hsv2, vp_updL ou (0 : Int32).toNatClampNeg (zI (zit (cpyG f t) 0 16 (0, Z)).1).toInt64, 0, zs, yv, ?_, core_up hRY ⟨hmd2, fun q k hq hk => by have h9 := hrd q k hq hk; unfold dZ at *; rw [hfz _ (by omega)]; exact h9, fun q hq => by rw [hfz _ (by omega)]; exact hrw q hq, fun q hq => by rw [hfz _ (by omega)]; exact hrp q hq, by rw [hfz _ (by omega)], by rw [hfz _ (by omega)], by rw [hfz _ (by omega)], by rw [hfz _ (by omega)], by rw [hfz _ (by omega)], by rw [hfz _ (by omega)], by rw [hfz _ (by omega)], by rw [hfz _ (by omega)], by rw [hfz _ (by omega)], by rw [hfz _ (by omega)], by rw [hfz _ (by omega)], by rw [hfz _ (by omega)], by rw [hfz _ (by omega)], by rw [hfz _ (by omega)], by rw [hfz _ (by omega)], by rw [hfz _ (by omega)], by rw [hfz _ (by omega)], by rw [hfz _ (by omega)]⟩ hx3 hH2 hfr (fun i i1 _ => hz i i1) hs0 hs1⟩
      simp only [flaw_1, fL_copyMaster, fX9_copyMaster, cMaY hb hv, cMaY hb2 hv2, e1, e3, fX10_copyMaster, mMaY hb hv, mMaY hb2 hv2, e2, e4, nn10, nn20, nn21, e01, true_or, or_true, Option.bind_some, Option.map_some, fX10_thrown, hd0, hd1, hd2, hd3, e10, e20, e30, eq_self, ↓reduceIte, lgu]
    · refine ⟨_, _, _, _, ou, 1, _, _, ?_, ⟨Z, hR, ⟨hmd, hrd, hrw, hrp, rfl, rfl, rfl, rfl, rfl, rfl, rfl, rfl, rfl, rfl, rfl, rfl, rfl, rfl, rfl, rfl, rfl, rfl⟩, hx⟩, hH, hs0, hs1⟩
      simp only [flaw_1, fL_copyMaster, fX9_copyMaster, cMaY hb hv, cMaN hb2 hv2, fX10_copyMaster, mMaY hb hv, mMaN hb2 hv2, nn10, nn20, nn21, e01, true_or, or_true, Option.bind_some, Option.map_some, fX10_thrown, hd0, hd1, hd2, hd3, e10, e20, e30, eq_self, ↓reduceIte, lgu]
  · refine ⟨_, _, _, _, ou, 1, _, _, ?_, ⟨Z, hR, ⟨hmd, hrd, hrw, hrp, rfl, rfl, rfl, rfl, rfl, rfl, rfl, rfl, rfl, rfl, rfl, rfl, rfl, rfl, rfl, rfl, rfl, rfl⟩, hx⟩, hH, hs0, hs1⟩
    simp only [flaw_1, fL_copyMaster, fX9_copyMaster, cMaN hb hv, fX10_copyMaster, mMaN hb hv, nn10, nn20, nn21, e01, true_or, or_true, Option.bind_some, Option.map_some, fX10_thrown, hd0, hd1, hd2, hd3, e10, e20, e30, eq_self, ↓reduceIte, lgu]
theorem st_2 (hC : Core (md, mch, fra, fwe, fof, fsi, csh, cde, csp, rd, rw, rp, rco, rmo, apa, awo, ash, aja, abu, ltol, lchi, ljam) ho hcn hsv hsl xs xsv xk0 xk1) (s1 : Int32) : ∃ (md_0 : Nat → Int32) (ho_0 : Int32) (hcn_0 : Int32) (hsv_0 : Nat → Option LTH) (ou_0 : Nat → Int64) (xth_0 : Int32) (xs_0 : Nat → Int32) (xsv_0 : Int32), flaw_2 md mch fra fwe fof fsi csh cde csp rd rw rp rco rmo apa awo ash aja abu ltol lchi ljam ho hcn hsv ou xs xsv s1 = some (md_0, ho_0, hcn_0, hsv_0, ou_0, xth_0, xs_0, xsv_0) ∧ Core (md_0, mch, fra, fwe, fof, fsi, csh, cde, csp, rd, rw, rp, rco, rmo, apa, awo, ash, aja, abu, ltol, lchi, ljam) ho_0 hcn_0 hsv_0 hsl xs_0 xsv_0 xk0 xk1 := by
  obtain ⟨⟨Z, hR, hc, hx⟩, hH, hs0, hs1⟩ := hC
  obtain ⟨ho2, hcn2, hsv2, ys, yv, e1, e2, hx2, hH2, hfr⟩ := save_ok hc hR hx hH
  obtain ⟨hmd, hrd, hrw, hrp, rfl, rfl, rfl, rfl, rfl, rfl, rfl, rfl, rfl, rfl, rfl, rfl, rfl, rfl, rfl, rfl, rfl, rfl⟩ := hc
  obtain ⟨a, hb, rfl⟩ := zI_surj s1
  by_cases hv : 0 ≤ a ∧ a < 3
  · obtain ⟨c, rfl⟩ : ∃ q : Nat, a = q := ⟨a.toNat, by omega⟩
    obtain ⟨md2, e3, hmd2⟩ := zcX6_turnRound hmd hR (c := c) (by omega)
    obtain ⟨zs, e4, hx3, hz⟩ := mX10_mirL hx2 hR (c := c) (by omega)
    have hP := zit_P (g := mirG c) (N := 8) (P := maP Z) (mirP (by omega)) 8 0 (0, Z) rfl ⟨hR, by (try dsimp only); omega, fun _ _ => rfl⟩
    obtain ⟨hRY, -, hfz⟩ := hP
    refine ⟨md2, ho2, hcn2, hsv2, vp_updL ou (0 : Int32).toNatClampNeg (zI (zit (mirG c) 0 8 (0, Z)).1).toInt64, 0, zs, yv, ?_, core_up hRY ⟨hmd2, fun q k hq hk => by have h9 := hrd q k hq hk; unfold dZ at *; rw [hfz _ (by omega)]; exact h9, fun q hq => by rw [hfz _ (by omega)]; exact hrw q hq, fun q hq => by rw [hfz _ (by omega)]; exact hrp q hq, by rw [hfz _ (by omega)], by rw [hfz _ (by omega)], by rw [hfz _ (by omega)], by rw [hfz _ (by omega)], by rw [hfz _ (by omega)], by rw [hfz _ (by omega)], by rw [hfz _ (by omega)], by rw [hfz _ (by omega)], by rw [hfz _ (by omega)], by rw [hfz _ (by omega)], by rw [hfz _ (by omega)], by rw [hfz _ (by omega)], by rw [hfz _ (by omega)], by rw [hfz _ (by omega)], by rw [hfz _ (by omega)], by rw [hfz _ (by omega)], by rw [hfz _ (by omega)], by rw [hfz _ (by omega)]⟩ hx3 hH2 hfr (fun i i1 _ => hz i i1) hs0 hs1⟩
    simp only [flaw_2, fL_mirrorMaster, fX9_mirrorMaster, cMaY hb hv, e1, e3, fX10_mirrorMaster, mMaY hb hv, e2, e4, nn10, nn20, nn21, e01, true_or, or_true, Option.bind_some, Option.map_some, fX10_thrown, hd0, hd1, hd2, hd3, e10, e20, e30, eq_self, ↓reduceIte, lgu]
  · refine ⟨_, _, _, _, ou, 1, _, _, ?_, ⟨Z, hR, ⟨hmd, hrd, hrw, hrp, rfl, rfl, rfl, rfl, rfl, rfl, rfl, rfl, rfl, rfl, rfl, rfl, rfl, rfl, rfl, rfl, rfl, rfl⟩, hx⟩, hH, hs0, hs1⟩
    simp only [flaw_2, fL_mirrorMaster, fX9_mirrorMaster, cMaN hb hv, fX10_mirrorMaster, mMaN hb hv, nn10, nn20, nn21, e01, true_or, or_true, Option.bind_some, Option.map_some, fX10_thrown, hd0, hd1, hd2, hd3, e10, e20, e30, eq_self, ↓reduceIte, lgu]
/-! sanding -/
def rubG (a : Int) (q k : Nat) (s : Int × (Nat → Int)) : Int × (Nat → Int) := (s.1 + min a (abZ s.2 q k), zup s.2 (68 + 18 * q + k) (dZ s.2 q k - min a (abZ s.2 q k)))
def rubP (Z0 : Nat → Int) (q i : Nat) (s : Int × (Nat → Int)) : Prop := Rg s.2 ∧ (0 ≤ s.1 ∧ s.1 ≤ 119 * i) ∧ (∀ j : Nat, (j < 68 + 18 * q ∨ 84 + 18 * q ≤ j) → s.2 j = Z0 j)
theorem rubP_step {Z0 : Nat → Int} {a : Int} (ha : 1 ≤ a ∧ a ≤ 3) {q : Nat} (hq : q < 5) : ∀ (i : Nat) (s : Int × (Nat → Int)), i < 16 → rubP Z0 q i s → rubP Z0 q (i + 1) (rubG a q i s) := by
  rintro i ⟨s, Z⟩ hi ⟨hR, hb, hf⟩
  have h1 := abZ_b hR hq hi
  have hd := hR.di hq hi
  have ht := tgZ_b hR i
  unfold rubG
  try dsimp only at *
  refine ⟨Rg.pc hR (by omega) (fun q2 _ e => by omega) (fun q2 k2 a1 b1 e => ?_), by (try dsimp only); omega, fun j hj => ?_⟩
  · have e1 : q2 = q := by omega
    subst e1
    unfold abZ dZ at *
    omega
  · dsimp only
    rw [zup_n (by omega)]; exact hf j hj
theorem zcX4_rubL {md rd : Nat → Int32} {Z : Nat → Int} (hmd : ∀ j : Nat, j < 48 → md j = zI (Z j)) (hrd : rdO Z rd) (hR : Rg Z) {q : Nat} (hq : q < 5) {a : Int} (ha : 1 ≤ a ∧ a ≤ 3) :
    ∃ rd2 : Nat → Int32, fX4_rub_L4 md (zI (Z 48)) (zI (Z 49)) (zI (Z 50)) (zI (Z 52)) (zI q) (zI a) 2000 0 0 rd = some (zI (zit (rubG a q) 0 16 (0, Z)).1, rd2) ∧ rdO (zit (rubG a q) 0 16 (0, Z)).2 rd2 := by
  have key := loopG (S := (Int × (Nat → Int)) × (Nat → Int32)) (L := fun n i s => fX4_rub_L4 md (zI (Z 48)) (zI (Z 49)) (zI (Z 50)) (zI (Z 52)) (zI q) (zI a) n (zI s.1.1) (zI i) s.2) (g := fun i s => (rubG a q i s.1, upd s.2 (16 * q + i) (zI (dZ s.1.2 q i - min a (abZ s.1.2 q i))))) (N := 16) (P := fun i s => rubP Z q i s.1 ∧ rdO s.1.2 s.2) (out := fun s => (zI s.1.1, s.2)) (by
      intro n s _
      try dsimp only
      rw [fX4_rub_L4]
      exact ite_t (by decide)) (by
      rintro n i ⟨⟨v, Y⟩, rd⟩ hi ⟨⟨hRY, hb, hf⟩, hrdY⟩
      try dsimp only at *
      have hmdY : ∀ j : Nat, j < 48 → md j = zI (Y j) := fun j hj => by rw [hf j (by omega)]; exact hmd j hj
      have h1 := abZ_b hRY hq hi
      rw [fX4_rub_L4, zL16, zi_le (by omega), if_neg (by omega), ← hf 48 (by omega), ← hf 49 (by omega), ← hf 50 (by omega), ← hf 52 (by omega), zcX4_above hmdY hrdY hRY hq hi, Option.bind_some, zI_mn (by omega), zcX7_thin hrdY hq hi, Option.bind_some]
      simp only [zL0, zL1, zL2, zL3, zL5, zL6, zL7, zL8, zL9, zL10, zL15, zL16, zL18, zL20, zL30, zL31, zL33, zL48, zL49, zL50, zL51, zL52, zL53, zL54, zL55, zL56, zL57, zL58, zL59, zL60, zL61, zL62, zL63, zL64, zL65, zL66, zL80, zL99, zL100, zL120, zL126, zL156, zL200, zL1000, zL1404, zL1560, zLm, zI_neg, zI_add, zI_sub, zI_mul]
      unfold rubG
      rfl) (by
      rintro i ⟨⟨v, Y⟩, rd⟩ hi ⟨hp, hrdY⟩
      exact ⟨rubP_step ha hq i _ hi hp, hrdY.up hq hi _⟩)
  obtain ⟨e1, e2⟩ := key 16 0 2000 ((0, Z), rd) rfl (by omega) ⟨⟨hR, by (try dsimp only); omega, fun _ _ => rfl⟩, hrd⟩
  have e3 := fst_rel (g := rubG a q) (h := fun i (s : (Int × (Nat → Int)) × (Nat → Int32)) => (rubG a q i s.1, upd s.2 (16 * q + i) (zI (dZ s.1.2 q i - min a (abZ s.1.2 q i))))) (N := 16) (fun _ _ => rfl) 16 0 ((0, Z), rd) rfl
  try dsimp only at e1
  rw [e3] at e1
  exact ⟨_, e1, by rw [← e3]; exact e2.2⟩
theorem mX10_sandL {xs : Nat → Int32} {Z : Nat → Int} (hx : MoS Z 0 xs) (hR : Rg Z) {q : Nat} (hq : q < 5) {a : Int} (ha : 1 ≤ a ∧ a ≤ 3) :
    ∃ ys : Nat → Int32, fX10_sand_L55 (zI a) (zI q) 2000 0 0 xs = some (zI (zit (rubG a q) 0 16 (0, Z)).1, ys) ∧ MoS (zit (rubG a q) 0 16 (0, Z)).2 0 ys ∧ (∀ i, 156 ≤ i → ys i = xs i) := by
  have key := loopG (S := (Int × (Nat → Int)) × (Nat → Int32)) (L := fun n i s => fX10_sand_L55 (zI a) (zI q) n (zI s.1.1) (zI i) s.2) (g := fun i s => (rubG a q i s.1, upd s.2 ((0 : Int).toNat + (66 + 18 * q + (2 + i))) (zI (dZ s.1.2 q i - min a (abZ s.1.2 q i))))) (N := 16) (P := fun i s => rubP Z q i s.1 ∧ MoS s.1.2 0 s.2 ∧ ∀ i, 156 ≤ i → s.2 i = xs i) (out := fun s => (zI s.1.1, s.2)) (by
      intro n s _
      try dsimp only
      rw [fX10_sand_L55]
      exact ite_t (by decide)) (by
      rintro n i ⟨⟨v, Y⟩, ys⟩ hi ⟨⟨hRY, hb, hf⟩, hxY, hys⟩
      try dsimp only at *
      have h1 := abZ_b hRY hq hi
      rw [fX10_sand_L55]
      simp only [zL0, zL1, zL2, zL3, zL5, zL6, zL7, zL8, zL9, zL10, zL15, zL16, zL18, zL20, zL30, zL31, zL33, zL48, zL49, zL50, zL51, zL52, zL53, zL54, zL55, zL56, zL57, zL58, zL59, zL60, zL61, zL62, zL63, zL64, zL65, zL66, zL80, zL99, zL100, zL120, zL126, zL156, zL200, zL1000, zL1404, zL1560, zLm, zI_neg, zI_add, zI_sub, zI_mul]
      rw [zi_le (by omega), if_neg (by omega), mX10_above hxY hRY hq hi, Option.bind_some, Option.bind_some, zi_le (by omega), mX10_at hxY hq hi, Option.bind_some, Option.bind_some]
      simp only [zL0, zL1, zL2, zL3, zL5, zL6, zL7, zL8, zL9, zL10, zL15, zL16, zL18, zL20, zL30, zL31, zL33, zL48, zL49, zL50, zL51, zL52, zL53, zL54, zL55, zL56, zL57, zL58, zL59, zL60, zL61, zL62, zL63, zL64, zL65, zL66, zL80, zL99, zL100, zL120, zL126, zL156, zL200, zL1000, zL1404, zL1560, zLm, zI_neg, zI_add, zI_sub, zI_mul]
      rw [mX10_lay hxY (w := 2 + i) hq (by omega) (by omega), mX10_lay hxY (w := 2 + i) hq (by omega) (by omega), Option.bind_some, Option.bind_some]
      unfold rubG
      try dsimp only
      by_cases h : a ≤ abZ Y q i
      · rw [if_pos h, Int.min_eq_left h]; rfl
      · rw [if_neg h, Int.min_eq_right (by omega)]; rfl) (by
      rintro i ⟨⟨v, Y⟩, ys⟩ hi ⟨hp, hxY, hys⟩
      refine ⟨rubP_step ha hq i _ hi hp, ?_, fun j hj => by (try dsimp only); rw [pk_un (by omega)]; exact hys j hj⟩
      have h9 := hxY.up (j := 66 + 18 * q + (2 + i)) (v := dZ Y q i - min a (abZ Y q i))
      rw [show 66 + 18 * q + (2 + i) = 68 + 18 * q + i by omega] at h9 ⊢
      exact h9)
  obtain ⟨e1, e2⟩ := key 16 0 2000 ((0, Z), xs) rfl (by omega) ⟨⟨hR, by (try dsimp only); omega, fun _ _ => rfl⟩, hx, fun _ _ => rfl⟩
  have e3 := fst_rel (g := rubG a q) (h := fun i (s : (Int × (Nat → Int)) × (Nat → Int32)) => (rubG a q i s.1, upd s.2 ((0 : Int).toNat + (66 + 18 * q + (2 + i))) (zI (dZ s.1.2 q i - min a (abZ s.1.2 q i))))) (N := 16) (fun _ _ => rfl) 16 0 ((0, Z), xs) rfl
  try dsimp only at e1
  rw [e3] at e1
  exact ⟨_, e1, by rw [← e3]; exact e2.2.1, e2.2.2⟩
theorem st_17 (hC : Core (md, mch, fra, fwe, fof, fsi, csh, cde, csp, rd, rw, rp, rco, rmo, apa, awo, ash, aja, abu, ltol, lchi, ljam) ho hcn hsv hsl xs xsv xk0 xk1) (s1 : Int32) : ∃ (rd_0 : Nat → Int32) (awo_0 : Int32) (ho_0 : Int32) (hcn_0 : Int32) (hsv_0 : Nat → Option LTH) (ou_0 : Nat → Int64) (xth_0 : Int32) (xs_0 : Nat → Int32) (xsv_0 : Int32), flaw_17 md mch fra fwe fof fsi csh cde csp rd rw rp rco rmo apa awo ash aja abu ltol lchi ljam ho hcn hsv ou xs xsv s1 = some (rd_0, awo_0, ho_0, hcn_0, hsv_0, ou_0, xth_0, xs_0, xsv_0) ∧ Core (md, mch, fra, fwe, fof, fsi, csh, cde, csp, rd_0, rw, rp, rco, rmo, apa, awo_0, ash, aja, abu, ltol, lchi, ljam) ho_0 hcn_0 hsv_0 hsl xs_0 xsv_0 xk0 xk1 := by
  obtain ⟨⟨Z, hR, hc, hx⟩, hH, hs0, hs1⟩ := hC
  obtain ⟨ho2, hcn2, hsv2, ys, yv, e1, e2, hx2, hH2, hfr⟩ := save_ok hc hR hx hH
  obtain ⟨hmd, hrd, hrw, hrp, rfl, rfl, rfl, rfl, rfl, rfl, rfl, rfl, rfl, rfl, rfl, rfl, rfl, rfl, rfl, rfl, rfl, rfl⟩ := hc
  have e60 : xs (60 : Int32).toNatClampNeg = zI (Z 60) := by rw [zL60]; exact hx.g 60 (by omega) (by omega)
  have f60 : ys (60 : Int32).toNatClampNeg = zI (Z 60) := by rw [zL60]; exact hx2.g 60 (by omega) (by omega)
  have h1 := hR.mo
  have h2 := hR.co
  obtain ⟨a, hb, rfl⟩ := zI_surj s1
  by_cases hv : (1 : Int) ≤ a ∧ a ≤ 3
  · have c1 := rRaY zL1 zL3 (by omega) hv
    have m1 := mInY zL1 zL3 (by omega) hv
    by_cases hm0 : Z 60 = -1
    · have e3 : zI (Z 60) = -1 := by rw [hm0]; exact zLm.symm
      refine ⟨_, _, _, _, _, ou, 2, _, _, ?_, ⟨Z, hR, ⟨hmd, hrd, hrw, hrp, rfl, rfl, rfl, rfl, rfl, rfl, rfl, rfl, rfl, rfl, rfl, rfl, rfl, rfl, rfl, rfl, rfl, rfl⟩, hx⟩, hH, hs0, hs1⟩
      simp only [flaw_17, fL_sand, fX9_sand, c1, cMoN hm0, fX10_sand, m1, e60, if_pos e3, nn10, nn20, nn21, e01, true_or, or_true, Option.bind_some, Option.map_some, fX10_thrown, hd0, hd1, hd2, hd3, e10, e20, e30, eq_self, ↓reduceIte, lgu]
    · have e3 : ¬ zI (Z 60) = -1 := by rw [zLm, zI_eq (by omega)]; exact hm0
      obtain ⟨q, hm, hq, hq2⟩ := moN hR hm0
      obtain ⟨rd2, e4, hrd2⟩ := zcX4_rubL hmd hrd hR hq hv
      obtain ⟨zs, e5, hx3, hz⟩ := mX10_sandL hx2 hR hq hv
      rw [← hm] at e4 e5
      have hP := zit_P (g := rubG a q) (N := 16) (P := rubP Z q) (rubP_step hv hq) 16 0 (0, Z) rfl ⟨hR, by (try dsimp only); omega, fun _ _ => rfl⟩
      obtain ⟨hRY, hbs, hfz⟩ := hP
      have i62 : (62 : Int32).toNatClampNeg = 62 := by decide
      have v62 : zs 62 + zI (zit (rubG a q) 0 16 (0, Z)).1 = zI (Z 62 + (zit (rubG a q) 0 16 (0, Z)).1) := by rw [hx3.z (by omega), hfz 62 (by omega), zI_add]
      refine ⟨rd2, zI (Z 62) + zI (zit (rubG a q) 0 16 (0, Z)).1, ho2, hcn2, hsv2, vp_updL ou (0 : Int32).toNatClampNeg (zI (zit (rubG a q) 0 16 (0, Z)).1).toInt64, 0, upd zs 62 (zI (Z 62 + (zit (rubG a q) 0 16 (0, Z)).1)), yv, ?_, core_up (Y := zup (zit (rubG a q) 0 16 (0, Z)).2 62 (Z 62 + (zit (rubG a q) 0 16 (0, Z)).1)) (Rg.sc hRY (by omega) (by omega)) ⟨fun i hi => by rw [zup_n (by omega), hfz i (by omega)]; exact hmd i hi, hrd2.sc (by omega) _, fun q9 hq9 => by rw [zup_n (by omega), hfz _ (by omega)]; exact hrw q9 hq9, fun q9 hq9 => by rw [zup_n (by omega), hfz _ (by omega)]; exact hrp q9 hq9, by rw [zup_n (by omega), hfz _ (by omega)], by rw [zup_n (by omega), hfz _ (by omega)], by rw [zup_n (by omega), hfz _ (by omega)], by rw [zup_n (by omega), hfz _ (by omega)], by rw [zup_n (by omega), hfz _ (by omega)], by rw [zup_n (by omega), hfz _ (by omega)], by rw [zup_n (by omega), hfz _ (by omega)], by rw [zup_n (by omega), hfz _ (by omega)], by rw [zup_n (by omega), hfz _ (by omega)], by rw [zup_n (by omega), hfz _ (by omega)], by rw [zup_n (by omega), hfz _ (by omega)], by rw [zup_s, zI_add], by rw [zup_n (by omega), hfz _ (by omega)], by rw [zup_n (by omega), hfz _ (by omega)], by rw [zup_n (by omega), hfz _ (by omega)], by rw [zup_n (by omega), hfz _ (by omega)], by rw [zup_n (by omega), hfz _ (by omega)], by rw [zup_n (by omega), hfz _ (by omega)]⟩ hx3.up0 hH2 hfr (fun i i1 _ => by rw [pk_un (by omega)]; exact hz i i1) hs0 hs1⟩
      simp only [flaw_17, fL_sand, fX9_sand, c1, cMoY hR hm0, e1, fX4_rub, e4, fX10_sand, m1, e60, if_neg e3, e2, f60, e5, i62, v62, nn10, nn20, nn21, e01, true_or, or_true, Option.bind_some, Option.map_some, fX10_thrown, hd0, hd1, hd2, hd3, e10, e20, e30, eq_self, ↓reduceIte, lgu]
  · have c1 := rRaN zL1 zL3 (by omega) hv
    have m1 := mInN zL1 zL3 (by omega) hv
    refine ⟨_, _, _, _, _, ou, 1, _, _, ?_, ⟨Z, hR, ⟨hmd, hrd, hrw, hrp, rfl, rfl, rfl, rfl, rfl, rfl, rfl, rfl, rfl, rfl, rfl, rfl, rfl, rfl, rfl, rfl, rfl, rfl⟩, hx⟩, hH, hs0, hs1⟩
    simp only [flaw_17, fL_sand, fX9_sand, c1, fX10_sand, m1, nn10, nn20, nn21, e01, true_or, or_true, Option.bind_some, Option.map_some, fX10_thrown, hd0, hd1, hd2, hd3, e10, e20, e30, eq_self, ↓reduceIte, lgu]
end MUL
