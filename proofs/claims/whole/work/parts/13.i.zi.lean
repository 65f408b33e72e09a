/-! the model's blocks -/
def blk (Z : Nat → Int) (xs : Nat → Int32) (o : Nat) : Prop := ∀ i : Nat, i < 156 → xs (o + i) = zI (Z i)
def cpB (xs : Nat → Int32) (a b n : Nat) : Nat → Int32 := fun j => if 156 * b ≤ j ∧ j < 156 * b + n then xs (156 * a + (j - 156 * b)) else xs j
theorem mX10_copies {xs : Nat → Int32} {a b : Nat} (ha : a < 10) (hb : b < 10) (hab : a ≠ b) : fX10_copies xs (zI a) (zI b) = some (cpB xs a b 156) := by
  have key := loopG (S := Nat → Int32) (L := fun n i ys => fX10_copies_L2 (zI a) (zI b) n (zI i) ys) (g := fun i ys => upd ys (156 * b + i) (ys (156 * a + i))) (N := 156) (P := fun i ys => ys = cpB xs a b i) (out := id) (by
      intro n ys _
      try dsimp only
      rw [fX10_copies_L2]
      exact ite_t (by decide)) (by
      intro n i ys hi _
      try dsimp only
      rw [fX10_copies_L2]
      simp only [zL0, zL1, zL2, zL3, zL5, zL6, zL7, zL8, zL9, zL10, zL15, zL16, zL18, zL20, zL30, zL31, zL33, zL48, zL49, zL50, zL51, zL52, zL53, zL54, zL55, zL56, zL57, zL58, zL59, zL60, zL61, zL62, zL63, zL64, zL65, zL66, zL80, zL99, zL100, zL120, zL126, zL156, zL200, zL1000, zL1404, zL1560, zLm, zI_neg, zI_add, zI_sub, zI_mul]
      rw [zi_le (by omega), if_neg (by omega), if_pos (ixB (by omega)), if_pos (ixB (by omega)), zI_cl (by omega), zI_cl (by omega), show (156 * (b : Int) + i).toNat = 156 * b + i by omega, show (156 * (a : Int) + i).toNat = 156 * a + i by omega]
      rfl) (by
      intro i ys hi e
      subst e
      funext j
      unfold upd cpB
      by_cases h : j = 156 * b + i
      · subst h
        rw [if_pos rfl, if_neg (by omega), if_pos (by omega)]
        congr 1
        omega
      · rw [if_neg h]
        by_cases h2 : 156 * b ≤ j ∧ j < 156 * b + i
        · rw [if_pos h2, if_pos (by omega)]
        · rw [if_neg h2, if_neg (by omega)])
  obtain ⟨e1, e2⟩ := key 156 0 2000 xs rfl (by omega) (by
    funext j
    unfold cpB
    rw [if_neg (by omega)])
  unfold fX10_copies
  try dsimp only at e1 e2
  rw [show fX10_copies_L2 (zI a) (zI b) 2000 0 xs = _ from e1, Option.bind_some]
  rw [e2]
  rfl
theorem cpB_in {xs : Nat → Int32} {a b i : Nat} (hi : i < 156) : cpB xs a b 156 (156 * b + i) = xs (156 * a + i) := by
  unfold cpB
  rw [if_pos (by omega)]
  congr 1
  omega
theorem cpB_out {xs : Nat → Int32} {a b j : Nat} (h : j < 156 * b ∨ 156 * b + 156 ≤ j) : cpB xs a b 156 j = xs j := by
  unfold cpB
  rw [if_neg (by omega)]
/-- what the model's save leaves -/
def svX (xs : Nat → Int32) (n : Nat) : Nat → Int32 := fun j =>
  if n = 6 then (if 156 ≤ j ∧ j < 936 then xs (j + 156) else if 936 ≤ j ∧ j < 1092 then xs (j - 936) else xs j)
  else (if 156 * (n + 1) ≤ j ∧ j < 156 * (n + 1) + 156 then xs (j - 156 * (n + 1)) else xs j)
theorem mX10_save {xs : Nat → Int32} {n : Nat} (hn : n ≤ 6) : fX10_save xs (zI n) = some (svX xs n, zI (svC n : Nat)) := by
  unfold fX10_save
  by_cases h6 : n = 6
  · subst h6
    have key := loopG (S := Nat → Int32) (L := fun m i ys => fX10_save_L2 (zI (6 : Nat)) m (zI i) ys) (g := fun i ys => cpB ys (i + 1) i 156) (N := 6) (P := fun i ys => 1 ≤ i ∧ ys = fun j => if 156 ≤ j ∧ j < 156 * i then xs (j + 156) else xs j) (out := id) (by
      intro m ys _
      try dsimp only
      rw [fX10_save_L2]
      exact ite_t (by decide)) (by
      rintro m i ys hi ⟨h1, _⟩
      try dsimp only
      rw [fX10_save_L2]
      simp only [zL0, zL1, zL2, zL3, zL5, zL6, zL7, zL8, zL9, zL10, zL15, zL16, zL18, zL20, zL30, zL31, zL33, zL48, zL49, zL50, zL51, zL52, zL53, zL54, zL55, zL56, zL57, zL58, zL59, zL60, zL61, zL62, zL63, zL64, zL65, zL66, zL80, zL99, zL100, zL120, zL126, zL156, zL200, zL1000, zL1404, zL1560, zLm, zI_neg, zI_add, zI_sub, zI_mul]
      rw [zi_le (by omega), if_neg (by omega), if_pos (show zI ((6 : Nat) : Int) = zI 6 from rfl), show ((i : Int) + 1) = ((i + 1 : Nat) : Int) by omega, mX10_copies (by omega) (by omega) (by omega), Option.bind_some]) (by
      rintro i ys hi ⟨h1, e⟩
      subst e
      refine ⟨by omega, ?_⟩
      funext j
      unfold cpB
      try dsimp only
      by_cases h : 156 * i ≤ j ∧ j < 156 * i + 156
      · rw [if_pos h, if_neg (by omega), if_pos (by omega)]
        exact congrArg xs (by omega)
      · rw [if_neg h]
        by_cases h2 : 156 ≤ j ∧ j < 156 * i
        · rw [if_pos h2, if_pos (by omega)]
        · rw [if_neg h2, if_neg (by omega)])
    obtain ⟨e1, e2⟩ := key 5 1 2000 xs rfl (by omega) ⟨by omega, by
      funext j
      rw [if_neg (by omega)]⟩
    try dsimp only at e1 e2
    rw [show fX10_save_L2 (zI (6 : Nat)) 2000 1 xs = _ from e1, Option.bind_some]
    dsimp only [id]
    rw [e2.2]
    rw [if_pos (by decide), show zI ((6 : Nat) : Int) + 0 = zI ((6 : Nat) : Int) from rfl, show (0 : Int32) = zI ((0 : Nat) : Int) from rfl, mX10_copies (by omega) (by omega) (by omega), Option.bind_some]
    refine congrArg some (Prod.ext ?_ rfl)
    try dsimp only
    funext j
    unfold cpB svX
    try dsimp only
    rw [if_pos rfl]
    by_cases h : 156 * 6 ≤ j ∧ j < 156 * 6 + 156
    · rw [if_pos h, if_neg (by omega), if_neg (by omega), if_pos (by omega)]
      exact congrArg xs (by omega)
    · rw [if_neg h]
      by_cases h2 : 156 ≤ j ∧ j < 156 * 6
      · rw [if_pos h2, if_pos (by omega)]
      · rw [if_neg h2, if_neg (by omega), if_neg (by omega)]
  · have e1 : fX10_save_L2 (zI (n : Int)) 2000 1 xs = some xs := by
      rw [fX10_save_L2]
      simp only [zL0, zL1, zL2, zL3, zL5, zL6, zL7, zL8, zL9, zL10, zL15, zL16, zL18, zL20, zL30, zL31, zL33, zL48, zL49, zL50, zL51, zL52, zL53, zL54, zL55, zL56, zL57, zL58, zL59, zL60, zL61, zL62, zL63, zL64, zL65, zL66, zL80, zL99, zL100, zL120, zL126, zL156, zL200, zL1000, zL1404, zL1560, zLm, zI_neg, zI_add, zI_sub, zI_mul]
      rw [if_neg (by decide), zi_eq (by omega), if_neg (by omega)]
    rw [e1, Option.bind_some]
    simp only [zL0, zL1, zL2, zL3, zL5, zL6, zL7, zL8, zL9, zL10, zL15, zL16, zL18, zL20, zL30, zL31, zL33, zL48, zL49, zL50, zL51, zL52, zL53, zL54, zL55, zL56, zL57, zL58, zL59, zL60, zL61, zL62, zL63, zL64, zL65, zL66, zL80, zL99, zL100, zL120, zL126, zL156, zL200, zL1000, zL1404, zL1560, zLm, zI_neg, zI_add, zI_sub, zI_mul]
    rw [zi_le (by omega), if_neg (by omega), show ((n : Int) + 1) = ((n + 1 : Nat) : Int) by omega, show zI (0 : Int) = zI ((0 : Nat) : Int) from rfl, mX10_copies (by omega) (by omega) (by omega), Option.bind_some]
    have e2 : svC n = n + 1 := by unfold svC; rw [if_pos (by omega)]
    rw [e2]
    refine congrArg some (Prod.ext ?_ rfl)
    try dsimp only
    funext j
    unfold cpB svX
    try dsimp only
    rw [if_neg h6]
    by_cases h : 156 * (n + 1) ≤ j ∧ j < 156 * (n + 1) + 156
    · rw [if_pos h, if_pos h]
      exact congrArg xs (by omega)
    · rw [if_neg h, if_neg h]
/-! what is saved, what is kept -/
def tup (σ : LTH) : (Nat → Int32) × Int32 × Int32 × Int32 × Int32 × Int32 × Int32 × Int32 × Int32 × (Nat → Int32) × (Nat → Int32) × (Nat → Int32) × Int32 × Int32 × Int32 × Int32 × Int32 × Int32 × Int32 × Int32 × Int32 × Int32 :=
  (σ 0, σ 1 0, σ 2 0, σ 3 0, σ 4 0, σ 5 0, σ 6 0, σ 7 0, σ 8 0, σ 9, σ 10, σ 11, σ 12 0, σ 13 0, σ 14 0, σ 15 0, σ 16 0, σ 17 0, σ 18 0, σ 19 0, σ 20 0, σ 21 0)
def Kept (σ : LTH) (xs : Nat → Int32) (o : Nat) : Prop := ∃ Z : Nat → Int, Rg Z ∧ ClS Z (tup σ) ∧ blk Z xs o
def Hist (ho hcn : Int32) (hsv : Nat → Option LTH) (xs : Nat → Int32) (xsv : Int32) : Prop :=
  ∃ a b : Nat, a < 6 ∧ b ≤ 6 ∧ ho = nI a ∧ hcn = nI b ∧ xsv = nI b ∧ ∀ j : Nat, j < b → ∃ σ : LTH, hsv ((a + j) % 6) = some σ ∧ Kept σ xs (156 * (j + 1))
def Slot1 (hsl : Nat → Option LTH) (k : Nat) (xk : Int32) (xs : Nat → Int32) : Prop := (xk = 0 ∧ hsl k = none) ∨ (xk = 1 ∧ ∃ σ : LTH, hsl k = some σ ∧ Kept σ xs (156 * (7 + k)))
theorem Kept.frame {σ : LTH} {xs ys : Nat → Int32} {o : Nat} (h : Kept σ xs o) (e : ∀ i, i < 156 → ys (o + i) = xs (o + i)) : Kept σ ys o := by
  obtain ⟨Z, a, b, c⟩ := h
  exact ⟨Z, a, b, fun i hi => by rw [e i hi]; exact c i hi⟩
theorem Hist.frame {ho hcn xsv : Int32} {hsv : Nat → Option LTH} {xs ys : Nat → Int32} (h : Hist ho hcn hsv xs xsv) (e : ∀ i, 156 ≤ i → i < 1092 → ys i = xs i) : Hist ho hcn hsv ys xsv := by
  obtain ⟨a, b, h1, h2, h3, h4, h5, h6⟩ := h
  refine ⟨a, b, h1, h2, h3, h4, h5, fun j hj => ?_⟩
  obtain ⟨σ, s1, s2⟩ := h6 j hj
  exact ⟨σ, s1, s2.frame (fun i hi => e _ (by omega) (by omega))⟩
theorem Slot1.frame {hsl : Nat → Option LTH} {k : Nat} {xk : Int32} {xs ys : Nat → Int32} (h : Slot1 hsl k xk xs) (hk : k < 2) (e : ∀ i, 1092 ≤ i → i < 1404 → ys i = xs i) : Slot1 hsl k xk ys := by
  rcases h with h | ⟨h1, σ, h2, h3⟩
  · exact Or.inl h
  · exact Or.inr ⟨h1, σ, h2, h3.frame (fun i hi => e _ (by omega) (by omega))⟩
theorem nI_cl6 {n : Nat} (h : n < 100) : (nI n).toNatClampNeg = n := nI_clamp (by omega)
section SAV
variable {Z : Nat → Int} {xs : Nat → Int32} {ho hcn xsv : Int32} {hsv hsl : Nat → Option LTH} {md : Nat → Int32} {mch : Int32} {fra : Int32} {fwe : Int32} {fof : Int32} {fsi : Int32} {csh : Int32} {cde : Int32} {csp : Int32} {rd : Nat → Int32} {rw : Nat → Int32} {rp : Nat → Int32} {rco : Int32} {rmo : Int32} {apa : Int32} {awo : Int32} {ash : Int32} {aja : Int32} {abu : Int32} {ltol : Int32} {lchi : Int32} {ljam : Int32}
theorem tup_lpk : tup (lpk md mch fra fwe fof fsi csh cde csp rd rw rp rco rmo apa awo ash aja abu ltol lchi ljam) = (md, mch, fra, fwe, fof, fsi, csh, cde, csp, rd, rw, rp, rco, rmo, apa, awo, ash, aja, abu, ltol, lchi, ljam) := rfl
theorem jam01 (hc : ClS Z (md, mch, fra, fwe, fof, fsi, csh, cde, csp, rd, rw, rp, rco, rmo, apa, awo, ash, aja, abu, ltol, lchi, ljam)) (hR : Rg Z) : ljam = 0 ∨ ljam = 1 := by
  have h : ljam = zI (Z 58) := hc.2.2.2.2.2.2.2.2.2.2.2.2.2.2.2.2.2.2.2.2.2
  rcases hR.ja with e | e
  · rw [h, e]; exact Or.inl rfl
  · rw [h, e]; exact Or.inr rfl
theorem save_ok (hc : ClS Z (md, mch, fra, fwe, fof, fsi, csh, cde, csp, rd, rw, rp, rco, rmo, apa, awo, ash, aja, abu, ltol, lchi, ljam)) (hR : Rg Z) (hx : MoS Z 0 xs) (hH : Hist ho hcn hsv xs xsv) :
    ∃ (ho2 hcn2 : Int32) (hsv2 : Nat → Option LTH) (ys : Nat → Int32) (yv : Int32), fX3_save ho hcn hsv md mch fra fwe fof fsi csh cde csp rd rw rp rco rmo apa awo ash aja abu ltol lchi ljam = some (ho2, hcn2, hsv2) ∧ fX10_save xs xsv = some (ys, yv) ∧ MoS Z 0 ys ∧ Hist ho2 hcn2 hsv2 ys yv ∧ (∀ i, 1092 ≤ i → ys i = xs i) := by
  obtain ⟨a, b, h1, h2, rfl, rfl, rfl, h6⟩ := hH
  have e0 : ∀ i, i < 156 → xs (0 + i) = zI (Z i) := hx.2
  refine ⟨nI (svO a b), nI (svC b), va_up hsv (svP a b) (some (lpk md mch fra fwe fof fsi csh cde csp rd rw rp rco rmo apa awo ash aja abu ltol lchi ljam)), svX xs b, nI (svC b), ?_, ?_, ?_, ?_, ?_⟩
  · unfold fX3_save
    rw [nI_cl6 (show a < 100 by omega), nI_cl6 (show b < 100 by omega), if_pos ⟨rfl, h1, rfl, h2, jam01 hc hR⟩]
  · rw [nI_zI, mX10_save h2, nI_zI]
  · refine ⟨Or.inl rfl, fun i hi => ?_⟩
    have : svX xs b ((0 : Int).toNat + i) = xs ((0 : Int).toNat + i) := by
      rw [show (0 : Int).toNat + i = i by omega]
      unfold svX
      by_cases h : b = 6
      · rw [if_pos h, if_neg (by omega), if_neg (by omega)]
      · rw [if_neg h, if_neg (by omega)]
    rw [this]
    exact hx.2 i hi
  · have hKn : ∀ (ys : Nat → Int32) (o : Nat), (∀ i, i < 156 → ys (o + i) = xs (0 + i)) → Kept (lpk md mch fra fwe fof fsi csh cde csp rd rw rp rco rmo apa awo ash aja abu ltol lchi ljam) ys o := fun ys o h => ⟨Z, hR, by rw [tup_lpk]; exact hc, fun i hi => by rw [h i hi]; exact e0 i hi⟩
    by_cases h : b = 6
    · subst h
      refine ⟨(a + 1) % 6, 6, by omega, by omega, ?_, rfl, rfl, fun j hj => ?_⟩
      · unfold svO; rw [if_neg (by omega)]
      · have hp : svP a 6 = ((a + 1) % 6 + 5) % 6 := by unfold svP svO svC; rw [if_neg (by omega), if_neg (by omega)]; omega
        rw [hp]
        by_cases h5 : j = 5
        · subst h5
          refine ⟨_, by unfold va_up; rw [if_pos rfl], hKn _ _ (fun i hi => ?_)⟩
          unfold svX
          rw [if_pos rfl, if_neg (by omega), if_pos (by omega)]
          exact congrArg xs (by omega)
        · obtain ⟨σ, s1, s2⟩ := h6 (j + 1) (by omega)
          refine ⟨σ, ?_, ?_⟩
          · unfold va_up
            rw [if_neg (by omega), show ((a + 1) % 6 + j) % 6 = (a + (j + 1)) % 6 by omega]
            exact s1
          · obtain ⟨Y, y1, y2, y3⟩ := s2
            refine ⟨Y, y1, y2, fun i hi => ?_⟩
            rw [← y3 i hi]
            unfold svX
            rw [if_pos rfl, if_pos (by omega)]
            exact congrArg xs (by omega)
    · have eO : svO a b = a := by unfold svO; rw [if_pos (by omega)]
      have eC : svC b = b + 1 := by unfold svC; rw [if_pos (by omega)]
      have eP : svP a b = (a + b) % 6 := by unfold svP; rw [eO, eC]; exact congrArg (· % 6) (by omega)
      rw [eO, eC, eP]
      refine ⟨a, b + 1, h1, by omega, rfl, rfl, rfl, fun j hj => ?_⟩
      by_cases h5 : j = b
      · subst h5
        refine ⟨_, by unfold va_up; rw [if_pos rfl], hKn _ _ (fun i hi => ?_)⟩
        unfold svX
        rw [if_neg h, if_pos (by omega)]
        exact congrArg xs (by omega)
      · obtain ⟨σ, s1, s2⟩ := h6 j (by omega)
        refine ⟨σ, ?_, s2.frame (fun i hi => ?_)⟩
        · unfold va_up
          rw [if_neg (by omega)]
          exact s1
        · unfold svX
          rw [if_neg h, if_neg (by omega)]
  · intro i hi
    unfold svX
    by_cases h : b = 6
    · rw [if_pos h, if_neg (by omega), if_neg (by omega)]
    · rw [if_neg h, if_neg (by omega)]
end SAV
