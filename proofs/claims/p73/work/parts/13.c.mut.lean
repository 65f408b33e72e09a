/-! what changes the class, told by the integers -/
theorem CA.fr {Z Y : Nat → Int} {md md2 rd rw rp : Nat → Int32} (h : CA Z md rd rw rp) (h2 : ∀ j : Nat, j < 48 → md2 j = zI (Y j)) (hf : ∀ j : Nat, 66 ≤ j → Y j = Z j) : CA Y md2 rd rw rp :=
  ⟨h2, fun q k hq hk => by have h9 := h.2.1 q k hq hk; unfold dZ at *; rw [hf _ (by omega)]; exact h9, fun q hq => by rw [hf _ (by omega)]; exact h.2.2.1 q hq, fun q hq => by rw [hf _ (by omega)]; exact h.2.2.2 q hq⟩
theorem CA.sc {Z : Nat → Int} {md rd rw rp : Nat → Int32} (h : CA Z md rd rw rp) {j : Nat} (hj : 48 ≤ j ∧ j < 66) (v : Int) : CA (zup Z j v) md rd rw rp :=
  h.fr (fun i hi => by rw [zup_n (by omega)]; exact h.1 i hi) (fun i hi => zup_n (by omega))
theorem ja01 {Z : Nat → Int} (hR : Rg Z) : zI (Z 58) = 0 ∨ zI (Z 58) = 1 := by
  rcases hR.ja with h | h
  · left; rw [h]; rfl
  · right; rw [h]; rfl
theorem cRa {b c : Int} {lo hi : Int32} (e1 : lo = zI b) (e2 : hi = zI c) {a : Int} (h : b ≤ a ∧ a ≤ c) (hb : -1000 ≤ b ∧ c ≤ 1000) : fX9_checkRange (zI a) lo hi = some (.inr ()) := by
  rw [e1, e2]
  exact cRaY (by omega) h
theorem cMa {c : Nat} (hc : c < 3) : fX9_checkMaster (zI c) = some (.inr ()) := cMaY (by omega) (by omega)
section MUTS
variable {Z : Nat → Int} {md rd rw rp : Nat → Int32} {hs : List LTH} {ho hcn : Int32} {hsv : Nat → Option LTH}
theorem z_save (hR : Rg Z) (h : Hq hs ho hcn hsv) : ∃ (ho2 hcn2 : Int32) (hsv2 : Nat → Option LTH), fX3_save ho hcn hsv md (zI (Z 48)) (zI (Z 49)) (zI (Z 50)) (zI (Z 52)) (zI (Z 51)) (zI (Z 53)) (zI (Z 54)) (zI (Z 55)) rd rw rp (zI (Z 59)) (zI (Z 60)) (zI (Z 61)) (zI (Z 62)) (zI (Z 63)) (zI (Z 64)) (zI (Z 65)) (zI (Z 56)) (zI (Z 57)) (zI (Z 58)) = some (ho2, hcn2, hsv2) ∧ Hq ((lpk md (zI (Z 48)) (zI (Z 49)) (zI (Z 50)) (zI (Z 52)) (zI (Z 51)) (zI (Z 53)) (zI (Z 54)) (zI (Z 55)) rd rw rp (zI (Z 59)) (zI (Z 60)) (zI (Z 61)) (zI (Z 62)) (zI (Z 63)) (zI (Z 64)) (zI (Z 65)) (zI (Z 56)) (zI (Z 57)) (zI (Z 58)) :: hs).take 6) ho2 hcn2 hsv2 := hq_save h (ja01 hR)
theorem m_carve (hR : Rg Z) (hca : CA Z md rd rw rp) (hq : Hq hs ho hcn hsv) {c k : Nat} {v : Int} (hc : c < 3) (hk : k < 16) (hv : 5 ≤ v ∧ v ≤ 99) : ∃ (md2 : Nat → Int32) (ho2 hcn2 : Int32) (hsv2 : Nat → Option LTH), fX9_carve md (zI (Z 48)) (zI (Z 49)) (zI (Z 50)) (zI (Z 52)) (zI (Z 51)) (zI (Z 53)) (zI (Z 54)) (zI (Z 55)) rd rw rp (zI (Z 59)) (zI (Z 60)) (zI (Z 61)) (zI (Z 62)) (zI (Z 63)) (zI (Z 64)) (zI (Z 65)) (zI (Z 56)) (zI (Z 57)) (zI (Z 58)) ho hcn hsv (zI c) (zI k) (zI v) = some (.inr (zI (mZ Z c k), md2, ho2, hcn2, hsv2)) ∧ CA (zup Z (16 * c + k) v) md2 rd rw rp ∧ Hq ((lpk md (zI (Z 48)) (zI (Z 49)) (zI (Z 50)) (zI (Z 52)) (zI (Z 51)) (zI (Z 53)) (zI (Z 54)) (zI (Z 55)) rd rw rp (zI (Z 59)) (zI (Z 60)) (zI (Z 61)) (zI (Z 62)) (zI (Z 63)) (zI (Z 64)) (zI (Z 65)) (zI (Z 56)) (zI (Z 57)) (zI (Z 58)) :: hs).take 6) ho2 hcn2 hsv2 := by
  obtain ⟨ho2, hcn2, hsv2, e1, hq2⟩ := z_save (md := md) (rd := rd) (rw := rw) (rp := rp) hR hq
  have c1 := cMa hc
  have c2 := cStY (a := k) (by omega) (by omega)
  have c3 := cRa zL5 zL99 hv (by omega)
  have e2 := zcX6_at hca.1 hc hk
  have e3 := zcX6_put (md := md) hc hk (zI v)
  exact ⟨upd md (16 * c + k) (zI v), ho2, hcn2, hsv2, by simp only [fX9_carve, e1, c1, c2, c3, e2, e3, true_or, or_true, Option.bind_some, Option.map_some, eq_self, ↓reduceIte], hca.fr (fun i hi => updM hca.1 i hi) (fun i hi => zup_n (by omega)), hq2⟩
theorem m_copyMaster (hR : Rg Z) (hca : CA Z md rd rw rp) (hq : Hq hs ho hcn hsv) {f t : Nat} (hf : f < 3) (ht : t < 3) : ∃ (md2 : Nat → Int32) (ho2 hcn2 : Int32) (hsv2 : Nat → Option LTH), fX9_copyMaster md (zI (Z 48)) (zI (Z 49)) (zI (Z 50)) (zI (Z 52)) (zI (Z 51)) (zI (Z 53)) (zI (Z 54)) (zI (Z 55)) rd rw rp (zI (Z 59)) (zI (Z 60)) (zI (Z 61)) (zI (Z 62)) (zI (Z 63)) (zI (Z 64)) (zI (Z 65)) (zI (Z 56)) (zI (Z 57)) (zI (Z 58)) ho hcn hsv (zI f) (zI t) = some (.inr (zI (cpZ f t Z).1, md2, ho2, hcn2, hsv2)) ∧ CA (cpZ f t Z).2 md2 rd rw rp ∧ Hq ((lpk md (zI (Z 48)) (zI (Z 49)) (zI (Z 50)) (zI (Z 52)) (zI (Z 51)) (zI (Z 53)) (zI (Z 54)) (zI (Z 55)) rd rw rp (zI (Z 59)) (zI (Z 60)) (zI (Z 61)) (zI (Z 62)) (zI (Z 63)) (zI (Z 64)) (zI (Z 65)) (zI (Z 56)) (zI (Z 57)) (zI (Z 58)) :: hs).take 6) ho2 hcn2 hsv2 := by
  obtain ⟨ho2, hcn2, hsv2, e1, hq2⟩ := z_save (md := md) (rd := rd) (rw := rw) (rp := rp) hR hq
  have c1 := cMa hf
  have c2 := cMa ht
  obtain ⟨md2, e2, h2⟩ := zcX6_makeAlike hca.1 hR hf ht
  have hp := (cpZ_P hR hf ht).1
  have e2 : fX6_makeAlike md (zI f) (zI t) = some (zI (cpZ f t Z).1, md2) := e2
  exact ⟨md2, ho2, hcn2, hsv2, by simp only [fX9_copyMaster, e1, c1, c2, e2, true_or, or_true, Option.bind_some, Option.map_some, eq_self, ↓reduceIte], hca.fr h2 (fun i hi => hp.2.2 i (by omega)), hq2⟩
theorem m_mirrorMaster (hR : Rg Z) (hca : CA Z md rd rw rp) (hq : Hq hs ho hcn hsv) {c : Nat} (hc : c < 3) : ∃ (md2 : Nat → Int32) (ho2 hcn2 : Int32) (hsv2 : Nat → Option LTH), fX9_mirrorMaster md (zI (Z 48)) (zI (Z 49)) (zI (Z 50)) (zI (Z 52)) (zI (Z 51)) (zI (Z 53)) (zI (Z 54)) (zI (Z 55)) rd rw rp (zI (Z 59)) (zI (Z 60)) (zI (Z 61)) (zI (Z 62)) (zI (Z 63)) (zI (Z 64)) (zI (Z 65)) (zI (Z 56)) (zI (Z 57)) (zI (Z 58)) ho hcn hsv (zI c) = some (.inr (zI (mirC c Z), md2, ho2, hcn2, hsv2)) ∧ CA (mirF c Z) md2 rd rw rp ∧ Hq ((lpk md (zI (Z 48)) (zI (Z 49)) (zI (Z 50)) (zI (Z 52)) (zI (Z 51)) (zI (Z 53)) (zI (Z 54)) (zI (Z 55)) rd rw rp (zI (Z 59)) (zI (Z 60)) (zI (Z 61)) (zI (Z 62)) (zI (Z 63)) (zI (Z 64)) (zI (Z 65)) (zI (Z 56)) (zI (Z 57)) (zI (Z 58)) :: hs).take 6) ho2 hcn2 hsv2 := by
  obtain ⟨ho2, hcn2, hsv2, e1, hq2⟩ := z_save (md := md) (rd := rd) (rw := rw) (rp := rp) hR hq
  have c1 := cMa hc
  obtain ⟨md2, e2, h2⟩ := zcX6_turnRound hca.1 hR hc
  rw [mirZ_is.1] at e2
  rw [mirZ_is.2] at h2
  exact ⟨md2, ho2, hcn2, hsv2, by simp only [fX9_mirrorMaster, e1, c1, e2, true_or, or_true, Option.bind_some, Option.map_some, eq_self, ↓reduceIte], hca.fr h2 (fun i hi => mirF_o hc (by omega)), hq2⟩
theorem m_chooseMaster (hR : Rg Z) (hca : CA Z md rd rw rp) (hq : Hq hs ho hcn hsv) {c : Nat} (hc : c < 3) : ∃ (ho2 hcn2 : Int32) (hsv2 : Nat → Option LTH), fX9_chooseMaster md (zI (Z 48)) (zI (Z 49)) (zI (Z 50)) (zI (Z 52)) (zI (Z 51)) (zI (Z 53)) (zI (Z 54)) (zI (Z 55)) rd rw rp (zI (Z 59)) (zI (Z 60)) (zI (Z 61)) (zI (Z 62)) (zI (Z 63)) (zI (Z 64)) (zI (Z 65)) (zI (Z 56)) (zI (Z 57)) (zI (Z 58)) ho hcn hsv (zI c) = some (.inr (zI (Z 48), zI c, ho2, hcn2, hsv2)) ∧ Hq ((lpk md (zI (Z 48)) (zI (Z 49)) (zI (Z 50)) (zI (Z 52)) (zI (Z 51)) (zI (Z 53)) (zI (Z 54)) (zI (Z 55)) rd rw rp (zI (Z 59)) (zI (Z 60)) (zI (Z 61)) (zI (Z 62)) (zI (Z 63)) (zI (Z 64)) (zI (Z 65)) (zI (Z 56)) (zI (Z 57)) (zI (Z 58)) :: hs).take 6) ho2 hcn2 hsv2 := by
  obtain ⟨ho2, hcn2, hsv2, e1, hq2⟩ := z_save (md := md) (rd := rd) (rw := rw) (rp := rp) hR hq
  have c1 := cMa hc
  exact ⟨ho2, hcn2, hsv2, by simp only [fX9_chooseMaster, e1, c1, true_or, or_true, Option.bind_some, Option.map_some, eq_self, ↓reduceIte], hq2⟩
theorem m_fitFollower (hR : Rg Z) (hca : CA Z md rd rw rp) (hq : Hq hs ho hcn hsv) {v : Int} (hv : 0 ≤ v ∧ v ≤ 3) : ∃ (ho2 hcn2 : Int32) (hsv2 : Nat → Option LTH), fX9_fitFollower md (zI (Z 48)) (zI (Z 49)) (zI (Z 50)) (zI (Z 52)) (zI (Z 51)) (zI (Z 53)) (zI (Z 54)) (zI (Z 55)) rd rw rp (zI (Z 59)) (zI (Z 60)) (zI (Z 61)) (zI (Z 62)) (zI (Z 63)) (zI (Z 64)) (zI (Z 65)) (zI (Z 56)) (zI (Z 57)) (zI (Z 58)) ho hcn hsv (zI v) = some (.inr (zI (Z 50), zI v, zI 0, zI 0, ho2, hcn2, hsv2)) ∧ Hq ((lpk md (zI (Z 48)) (zI (Z 49)) (zI (Z 50)) (zI (Z 52)) (zI (Z 51)) (zI (Z 53)) (zI (Z 54)) (zI (Z 55)) rd rw rp (zI (Z 59)) (zI (Z 60)) (zI (Z 61)) (zI (Z 62)) (zI (Z 63)) (zI (Z 64)) (zI (Z 65)) (zI (Z 56)) (zI (Z 57)) (zI (Z 58)) :: hs).take 6) ho2 hcn2 hsv2 := by
  obtain ⟨ho2, hcn2, hsv2, e1, hq2⟩ := z_save (md := md) (rd := rd) (rw := rw) (rp := rp) hR hq
  have c1 := cRa zL0 zL3 hv (by omega)
  have e2 : fX2_renew (zI v) = some (zI v, zI 0, zI 0) := rfl
  exact ⟨ho2, hcn2, hsv2, by simp only [fX9_fitFollower, e1, c1, e2, true_or, or_true, Option.bind_some, Option.map_some, eq_self, ↓reduceIte], hq2⟩
theorem m_changeOffset (hR : Rg Z) (hca : CA Z md rd rw rp) (hq : Hq hs ho hcn hsv) {v : Int} (hv : 0 ≤ v ∧ v ≤ 5) : ∃ (ho2 hcn2 : Int32) (hsv2 : Nat → Option LTH), fX9_changeOffset md (zI (Z 48)) (zI (Z 49)) (zI (Z 50)) (zI (Z 52)) (zI (Z 51)) (zI (Z 53)) (zI (Z 54)) (zI (Z 55)) rd rw rp (zI (Z 59)) (zI (Z 60)) (zI (Z 61)) (zI (Z 62)) (zI (Z 63)) (zI (Z 64)) (zI (Z 65)) (zI (Z 56)) (zI (Z 57)) (zI (Z 58)) ho hcn hsv (zI v) = some (.inr (zI (Z 52), zI v, ho2, hcn2, hsv2)) ∧ Hq ((lpk md (zI (Z 48)) (zI (Z 49)) (zI (Z 50)) (zI (Z 52)) (zI (Z 51)) (zI (Z 53)) (zI (Z 54)) (zI (Z 55)) rd rw rp (zI (Z 59)) (zI (Z 60)) (zI (Z 61)) (zI (Z 62)) (zI (Z 63)) (zI (Z 64)) (zI (Z 65)) (zI (Z 56)) (zI (Z 57)) (zI (Z 58)) :: hs).take 6) ho2 hcn2 hsv2 := by
  obtain ⟨ho2, hcn2, hsv2, e1, hq2⟩ := z_save (md := md) (rd := rd) (rw := rw) (rp := rp) hR hq
  have c1 := cRa zL0 zL5 hv (by omega)
  exact ⟨ho2, hcn2, hsv2, by simp only [fX9_changeOffset, e1, c1, true_or, or_true, Option.bind_some, Option.map_some, eq_self, ↓reduceIte], hq2⟩
theorem m_changeDepth (hR : Rg Z) (hca : CA Z md rd rw rp) (hq : Hq hs ho hcn hsv) {v : Int} (hv : 1 ≤ v ∧ v ≤ 9) : ∃ (ho2 hcn2 : Int32) (hsv2 : Nat → Option LTH), fX9_changeDepth md (zI (Z 48)) (zI (Z 49)) (zI (Z 50)) (zI (Z 52)) (zI (Z 51)) (zI (Z 53)) (zI (Z 54)) (zI (Z 55)) rd rw rp (zI (Z 59)) (zI (Z 60)) (zI (Z 61)) (zI (Z 62)) (zI (Z 63)) (zI (Z 64)) (zI (Z 65)) (zI (Z 56)) (zI (Z 57)) (zI (Z 58)) ho hcn hsv (zI v) = some (.inr (zI (Z 54), zI v, ho2, hcn2, hsv2)) ∧ Hq ((lpk md (zI (Z 48)) (zI (Z 49)) (zI (Z 50)) (zI (Z 52)) (zI (Z 51)) (zI (Z 53)) (zI (Z 54)) (zI (Z 55)) rd rw rp (zI (Z 59)) (zI (Z 60)) (zI (Z 61)) (zI (Z 62)) (zI (Z 63)) (zI (Z 64)) (zI (Z 65)) (zI (Z 56)) (zI (Z 57)) (zI (Z 58)) :: hs).take 6) ho2 hcn2 hsv2 := by
  obtain ⟨ho2, hcn2, hsv2, e1, hq2⟩ := z_save (md := md) (rd := rd) (rw := rw) (rp := rp) hR hq
  have c1 := cRa zL1 zL9 hv (by omega)
  exact ⟨ho2, hcn2, hsv2, by simp only [fX9_changeDepth, e1, c1, true_or, or_true, Option.bind_some, Option.map_some, eq_self, ↓reduceIte], hq2⟩
theorem m_changeSpeed (hR : Rg Z) (hca : CA Z md rd rw rp) (hq : Hq hs ho hcn hsv) {v : Int} (hv : 1 ≤ v ∧ v ≤ 5) : ∃ (ho2 hcn2 : Int32) (hsv2 : Nat → Option LTH), fX9_changeSpeed md (zI (Z 48)) (zI (Z 49)) (zI (Z 50)) (zI (Z 52)) (zI (Z 51)) (zI (Z 53)) (zI (Z 54)) (zI (Z 55)) rd rw rp (zI (Z 59)) (zI (Z 60)) (zI (Z 61)) (zI (Z 62)) (zI (Z 63)) (zI (Z 64)) (zI (Z 65)) (zI (Z 56)) (zI (Z 57)) (zI (Z 58)) ho hcn hsv (zI v) = some (.inr (zI (Z 55), zI v, ho2, hcn2, hsv2)) ∧ Hq ((lpk md (zI (Z 48)) (zI (Z 49)) (zI (Z 50)) (zI (Z 52)) (zI (Z 51)) (zI (Z 53)) (zI (Z 54)) (zI (Z 55)) rd rw rp (zI (Z 59)) (zI (Z 60)) (zI (Z 61)) (zI (Z 62)) (zI (Z 63)) (zI (Z 64)) (zI (Z 65)) (zI (Z 56)) (zI (Z 57)) (zI (Z 58)) :: hs).take 6) ho2 hcn2 hsv2 := by
  obtain ⟨ho2, hcn2, hsv2, e1, hq2⟩ := z_save (md := md) (rd := rd) (rw := rw) (rp := rp) hR hq
  have c1 := cRa zL1 zL5 hv (by omega)
  exact ⟨ho2, hcn2, hsv2, by simp only [fX9_changeSpeed, e1, c1, true_or, or_true, Option.bind_some, Option.map_some, eq_self, ↓reduceIte], hq2⟩
theorem m_changeTolerance (hR : Rg Z) (hca : CA Z md rd rw rp) (hq : Hq hs ho hcn hsv) {v : Int} (hv : 0 ≤ v ∧ v ≤ 20) : ∃ (ho2 hcn2 : Int32) (hsv2 : Nat → Option LTH), fX9_changeTolerance md (zI (Z 48)) (zI (Z 49)) (zI (Z 50)) (zI (Z 52)) (zI (Z 51)) (zI (Z 53)) (zI (Z 54)) (zI (Z 55)) rd rw rp (zI (Z 59)) (zI (Z 60)) (zI (Z 61)) (zI (Z 62)) (zI (Z 63)) (zI (Z 64)) (zI (Z 65)) (zI (Z 56)) (zI (Z 57)) (zI (Z 58)) ho hcn hsv (zI v) = some (.inr (zI (Z 56), zI v, ho2, hcn2, hsv2)) ∧ Hq ((lpk md (zI (Z 48)) (zI (Z 49)) (zI (Z 50)) (zI (Z 52)) (zI (Z 51)) (zI (Z 53)) (zI (Z 54)) (zI (Z 55)) rd rw rp (zI (Z 59)) (zI (Z 60)) (zI (Z 61)) (zI (Z 62)) (zI (Z 63)) (zI (Z 64)) (zI (Z 65)) (zI (Z 56)) (zI (Z 57)) (zI (Z 58)) :: hs).take 6) ho2 hcn2 hsv2 := by
  obtain ⟨ho2, hcn2, hsv2, e1, hq2⟩ := z_save (md := md) (rd := rd) (rw := rw) (rp := rp) hR hq
  have c1 := cRa zL0 zL20 hv (by omega)
  exact ⟨ho2, hcn2, hsv2, by simp only [fX9_changeTolerance, e1, c1, true_or, or_true, Option.bind_some, Option.map_some, eq_self, ↓reduceIte], hq2⟩
theorem m_sharpen (hR : Rg Z) (hca : CA Z md rd rw rp) (hq : Hq hs ho hcn hsv) : ∃ (ho2 hcn2 : Int32) (hsv2 : Nat → Option LTH), fX9_sharpen md (zI (Z 48)) (zI (Z 49)) (zI (Z 50)) (zI (Z 52)) (zI (Z 51)) (zI (Z 53)) (zI (Z 54)) (zI (Z 55)) rd rw rp (zI (Z 59)) (zI (Z 60)) (zI (Z 61)) (zI (Z 62)) (zI (Z 63)) (zI (Z 64)) (zI (Z 65)) (zI (Z 56)) (zI (Z 57)) (zI (Z 58)) ho hcn hsv = some (zI (Z 53), zI 100, zI (Z 63 + 1), ho2, hcn2, hsv2) ∧ Hq ((lpk md (zI (Z 48)) (zI (Z 49)) (zI (Z 50)) (zI (Z 52)) (zI (Z 51)) (zI (Z 53)) (zI (Z 54)) (zI (Z 55)) rd rw rp (zI (Z 59)) (zI (Z 60)) (zI (Z 61)) (zI (Z 62)) (zI (Z 63)) (zI (Z 64)) (zI (Z 65)) (zI (Z 56)) (zI (Z 57)) (zI (Z 58)) :: hs).take 6) ho2 hcn2 hsv2 := by
  obtain ⟨ho2, hcn2, hsv2, e1, hq2⟩ := z_save (md := md) (rd := rd) (rw := rw) (rp := rp) hR hq
  have e2 : zI (Z 63) + 1 = zI (Z 63 + 1) := by rw [zL1, zI_add]
  exact ⟨ho2, hcn2, hsv2, by simp only [fX9_sharpen, e1, e2, zL100, true_or, or_true, Option.bind_some, Option.map_some, eq_self, ↓reduceIte], hq2⟩
theorem m_sweep (hR : Rg Z) (hca : CA Z md rd rw rp) (hq : Hq hs ho hcn hsv) : ∃ (ho2 hcn2 : Int32) (hsv2 : Nat → Option LTH), fX9_sweep md (zI (Z 48)) (zI (Z 49)) (zI (Z 50)) (zI (Z 52)) (zI (Z 51)) (zI (Z 53)) (zI (Z 54)) (zI (Z 55)) rd rw rp (zI (Z 59)) (zI (Z 60)) (zI (Z 61)) (zI (Z 62)) (zI (Z 63)) (zI (Z 64)) (zI (Z 65)) (zI (Z 56)) (zI (Z 57)) (zI (Z 58)) ho hcn hsv = some (zI (Z 57), zI 0, zI 0, ho2, hcn2, hsv2) ∧ Hq ((lpk md (zI (Z 48)) (zI (Z 49)) (zI (Z 50)) (zI (Z 52)) (zI (Z 51)) (zI (Z 53)) (zI (Z 54)) (zI (Z 55)) rd rw rp (zI (Z 59)) (zI (Z 60)) (zI (Z 61)) (zI (Z 62)) (zI (Z 63)) (zI (Z 64)) (zI (Z 65)) (zI (Z 56)) (zI (Z 57)) (zI (Z 58)) :: hs).take 6) ho2 hcn2 hsv2 := by
  obtain ⟨ho2, hcn2, hsv2, e1, hq2⟩ := z_save (md := md) (rd := rd) (rw := rw) (rp := rp) hR hq
  exact ⟨ho2, hcn2, hsv2, by simp only [fX9_sweep, e1, zL0, true_or, or_true, Option.bind_some, Option.map_some, eq_self, ↓reduceIte], hq2⟩
theorem m_addBlank (hR : Rg Z) (hca : CA Z md rd rw rp) (hq : Hq hs ho hcn hsv) {n w : Nat} {e : Int} (hn : Z 59 = n) (h5 : n < 5) (hw : w < 3) (he : 20 ≤ e ∧ e ≤ 120) : ∃ (rd2 rw2 rp2 : Nat → Int32) (ho2 hcn2 : Int32) (hsv2 : Nat → Option LTH), fX9_addBlank md (zI (Z 48)) (zI (Z 49)) (zI (Z 50)) (zI (Z 52)) (zI (Z 51)) (zI (Z 53)) (zI (Z 54)) (zI (Z 55)) rd rw rp (zI (Z 59)) (zI (Z 60)) (zI (Z 61)) (zI (Z 62)) (zI (Z 63)) (zI (Z 64)) (zI (Z 65)) (zI (Z 56)) (zI (Z 57)) (zI (Z 58)) ho hcn hsv (zI w) (zI e) = some (.inr (zI (Z 59), rd2, rw2, rp2, zI ((n : Int) + 1), ho2, hcn2, hsv2)) ∧ CA (adZ Z n w e) md rd2 rw2 rp2 ∧ Hq ((lpk md (zI (Z 48)) (zI (Z 49)) (zI (Z 50)) (zI (Z 52)) (zI (Z 51)) (zI (Z 53)) (zI (Z 54)) (zI (Z 55)) rd rw rp (zI (Z 59)) (zI (Z 60)) (zI (Z 61)) (zI (Z 62)) (zI (Z 63)) (zI (Z 64)) (zI (Z 65)) (zI (Z 56)) (zI (Z 57)) (zI (Z 58)) :: hs).take 6) ho2 hcn2 hsv2 := by
  obtain ⟨ho2, hcn2, hsv2, e1, hq2⟩ := z_save (md := md) (rd := rd) (rw := rw) (rp := rp) hR hq
  have c1 : fX9_checkIndex (zI w) 3 = some (.inr ()) := by rw [zL3]; exact cIdxY (by omega) (by omega)
  have c2 := cRa zL20 zL120 he (by omega)
  have c3 : ¬ (5 : Int32) ≤ zI (Z 59) := by rw [zL5, zI_le (by omega)]; omega
  have c4 : fX9_checkState 1 = some (.inr ()) := rfl
  have p1 : fX8_put 5 rw (zI (Z 59)) (zI w) = some (upd rw n (zI w)) := by rw [hn]; exact zcX8_put (by omega) h5 _
  have p2 : fX8_put 5 rp (zI (Z 59)) 0 = some (upd rp n 0) := by rw [hn]; exact zcX8_put (by omega) h5 _
  have p3 : fX7_add_L26 (zI e) (zI (Z 59)) 2000 0 rd = some (fun j => if 16 * n ≤ j ∧ j < 16 * n + 16 then zI e else rd j) := by rw [hn]; exact zcX7_addL h5 _
  have p4 : zI (Z 59) + 1 = zI ((n : Int) + 1) := by rw [zL1, zI_add, hn]
  exact ⟨(fun j => if 16 * n ≤ j ∧ j < 16 * n + 16 then zI e else rd j), upd rw n (zI w), upd rp n 0, ho2, hcn2, hsv2, by simp only [fX9_addBlank, e1, c1, c2, if_neg c3, c4, fX7_add, p1, p2, p3, p4, true_or, or_true, Option.bind_some, Option.map_some, eq_self, ↓reduceIte], ⟨fun i hi => by rw [adZ_o (by omega)]; exact hca.1 i hi, fun q k hq hk => by
    try dsimp only
    by_cases e9 : q = n
    · subst e9
      rw [if_pos (by omega)]
      unfold dZ
      rw [adZ_k hk]
    · rw [if_neg (by omega), hca.2.1 q k hq hk]
      unfold dZ
      rw [adZ_o (by omega)], fun q hq => by
    by_cases e9 : q = n
    · subst e9
      rw [pk_us, adZ_w]
    · rw [pk_un e9, adZ_o (by omega)]
      exact hca.2.2.1 q hq, fun q hq => by
    by_cases e9 : q = n
    · subst e9
      rw [pk_us, adZ_d]
      rfl
    · rw [pk_un e9, adZ_o (by omega)]
      exact hca.2.2.2 q hq⟩, hq2⟩
theorem m_burn (hR : Rg Z) (hca : CA Z md rd rw rp) (hq : Hq hs ho hcn hsv) {n p : Nat} (hn : Z 59 = n) (hp : p < n) (h60 : Z 60 = -1) : ∃ (rd2 rw2 rp2 : Nat → Int32) (ho2 hcn2 : Int32) (hsv2 : Nat → Option LTH), fX9_burn md (zI (Z 48)) (zI (Z 49)) (zI (Z 50)) (zI (Z 52)) (zI (Z 51)) (zI (Z 53)) (zI (Z 54)) (zI (Z 55)) rd rw rp (zI (Z 59)) (zI (Z 60)) (zI (Z 61)) (zI (Z 62)) (zI (Z 63)) (zI (Z 64)) (zI (Z 65)) (zI (Z 56)) (zI (Z 57)) (zI (Z 58)) ho hcn hsv (zI p) = some (.inr (zI ((n : Int) - 1), rd2, rw2, rp2, zI ((n : Int) - 1), zI (Z 60), zI (Z 65 + 1), ho2, hcn2, hsv2)) ∧ CA (buZ Z p n) md rd2 rw2 rp2 ∧ Hq ((lpk md (zI (Z 48)) (zI (Z 49)) (zI (Z 50)) (zI (Z 52)) (zI (Z 51)) (zI (Z 53)) (zI (Z 54)) (zI (Z 55)) rd rw rp (zI (Z 59)) (zI (Z 60)) (zI (Z 61)) (zI (Z 62)) (zI (Z 63)) (zI (Z 64)) (zI (Z 65)) (zI (Z 56)) (zI (Z 57)) (zI (Z 58)) :: hs).take 6) ho2 hcn2 hsv2 := by
  obtain ⟨ho2, hcn2, hsv2, e1, hq2⟩ := z_save (md := md) (rd := rd) (rw := rw) (rp := rp) hR hq
  have h5 := hR.co
  have c1 := cPiY hR (a := p) (by omega) (by omega)
  have c3 : ¬ zI p = zI (Z 60) := by rw [zI_eq (by omega)]; omega
  have c4 : fX9_checkState 1 = some (.inr ()) := rfl
  have p3 : fX7_drop_L4 (zI (Z 59)) 2000 (zI p + 1) rd rw rp = some (drR p rd n, dr1 p rw n, dr1 p rp n) := by rw [hn, zL1, zI_add]; exact zcX7_dropL hp (by omega)
  have c5 : zI (Z 60) ≤ zI p := by rw [zI_le (by omega)]; omega
  have p4 : zI (Z 59) - 1 = zI ((n : Int) - 1) := by rw [zL1, zI_sub, hn]
  have p5 : zI (Z 65) + 1 = zI (Z 65 + 1) := by rw [zL1, zI_add]
  exact ⟨drR p rd n, dr1 p rw n, dr1 p rp n, ho2, hcn2, hsv2, by simp only [fX9_burn, e1, c1, if_neg c3, c4, fX7_drop, p3, if_pos c5, p4, p5, true_or, or_true, Option.bind_some, Option.map_some, eq_self, ↓reduceIte], ⟨fun i hi => by rw [buZ_o (by omega)]; exact hca.1 i hi, fun q k hq hk => by
    unfold drR dZ
    by_cases e9 : 16 * p ≤ 16 * q + k ∧ 16 * q + k + 16 < 16 * n
    · rw [if_pos e9, buZ_s (by omega), show 16 * q + k + 16 = 16 * (q + 1) + k by omega, hca.2.1 (q + 1) k (by omega) hk]
      unfold dZ
      congr 2
      omega
    · rw [if_neg e9, buZ_o (by omega), hca.2.1 q k hq hk]
      rfl, fun q hq => by
    unfold dr1
    by_cases e9 : p ≤ q ∧ q + 1 < n
    · rw [if_pos e9, buZ_s (by omega), hca.2.2.1 (q + 1) (by omega)]
      congr 2
    · rw [if_neg e9, buZ_o (by omega), hca.2.2.1 q hq], fun q hq => by
    unfold dr1
    by_cases e9 : p ≤ q ∧ q + 1 < n
    · rw [if_pos e9, buZ_s (by omega), hca.2.2.2 (q + 1) (by omega)]
      congr 2
    · rw [if_neg e9, buZ_o (by omega), hca.2.2.2 q hq]⟩, hq2⟩
theorem m_mount (hR : Rg Z) (hca : CA Z md rd rw rp) (hq : Hq hs ho hcn hsv) {p : Nat} (hp : (p : Int) < Z 59) (h60 : Z 60 = -1) : ∃ (ho2 hcn2 : Int32) (hsv2 : Nat → Option LTH), fX9_mount md (zI (Z 48)) (zI (Z 49)) (zI (Z 50)) (zI (Z 52)) (zI (Z 51)) (zI (Z 53)) (zI (Z 54)) (zI (Z 55)) rd rw rp (zI (Z 59)) (zI (Z 60)) (zI (Z 61)) (zI (Z 62)) (zI (Z 63)) (zI (Z 64)) (zI (Z 65)) (zI (Z 56)) (zI (Z 57)) (zI (Z 58)) ho hcn hsv (zI p) = some (.inr (zI p, ho2, hcn2, hsv2)) ∧ Hq ((lpk md (zI (Z 48)) (zI (Z 49)) (zI (Z 50)) (zI (Z 52)) (zI (Z 51)) (zI (Z 53)) (zI (Z 54)) (zI (Z 55)) rd rw rp (zI (Z 59)) (zI (Z 60)) (zI (Z 61)) (zI (Z 62)) (zI (Z 63)) (zI (Z 64)) (zI (Z 65)) (zI (Z 56)) (zI (Z 57)) (zI (Z 58)) :: hs).take 6) ho2 hcn2 hsv2 := by
  obtain ⟨ho2, hcn2, hsv2, e1, hq2⟩ := z_save (md := md) (rd := rd) (rw := rw) (rp := rp) hR hq
  have h5 := hR.co
  have c1 := cPiY hR (a := p) (by omega) (by omega)
  have c3 : zI (Z 60) = -1 := by rw [h60]; exact zLm.symm
  have c4 : fX9_checkState 1 = some (.inr ()) := rfl
  exact ⟨ho2, hcn2, hsv2, by simp only [fX9_mount, e1, c1, fX7_isTurning, if_pos c3, c4, true_or, or_true, Option.bind_some, Option.map_some, eq_self, ↓reduceIte], hq2⟩
theorem m_takeOut (hR : Rg Z) (hca : CA Z md rd rw rp) (hq : Hq hs ho hcn hsv) (hv : Z 60 ≠ -1) : ∃ (ho2 hcn2 : Int32) (hsv2 : Nat → Option LTH), fX9_takeOut md (zI (Z 48)) (zI (Z 49)) (zI (Z 50)) (zI (Z 52)) (zI (Z 51)) (zI (Z 53)) (zI (Z 54)) (zI (Z 55)) rd rw rp (zI (Z 59)) (zI (Z 60)) (zI (Z 61)) (zI (Z 62)) (zI (Z 63)) (zI (Z 64)) (zI (Z 65)) (zI (Z 56)) (zI (Z 57)) (zI (Z 58)) ho hcn hsv = some (.inr (zI (Z 60), zI (-1), ho2, hcn2, hsv2)) ∧ Hq ((lpk md (zI (Z 48)) (zI (Z 49)) (zI (Z 50)) (zI (Z 52)) (zI (Z 51)) (zI (Z 53)) (zI (Z 54)) (zI (Z 55)) rd rw rp (zI (Z 59)) (zI (Z 60)) (zI (Z 61)) (zI (Z 62)) (zI (Z 63)) (zI (Z 64)) (zI (Z 65)) (zI (Z 56)) (zI (Z 57)) (zI (Z 58)) :: hs).take 6) ho2 hcn2 hsv2 := by
  obtain ⟨ho2, hcn2, hsv2, e1, hq2⟩ := z_save (md := md) (rd := rd) (rw := rw) (rp := rp) hR hq
  exact ⟨ho2, hcn2, hsv2, by simp only [fX9_takeOut, e1, cMoY hR hv, zLm, true_or, or_true, Option.bind_some, Option.map_some, eq_self, ↓reduceIte], hq2⟩
theorem m_pass (hR : Rg Z) (hca : CA Z md rd rw rp) (hq : Hq hs ho hcn hsv) {q : Nat} (hm : Z 60 = q) (h5 : q < 5) (hv : rdy Z) : ∃ (rd2 rp2 : Nat → Int32) (ho2 hcn2 : Int32) (hsv2 : Nat → Option LTH), fX9_pass md (zI (Z 48)) (zI (Z 49)) (zI (Z 50)) (zI (Z 52)) (zI (Z 51)) (zI (Z 53)) (zI (Z 54)) (zI (Z 55)) rd rw rp (zI (Z 59)) (zI (Z 60)) (zI (Z 61)) (zI (Z 62)) (zI (Z 63)) (zI (Z 64)) (zI (Z 65)) (zI (Z 56)) (zI (Z 57)) (zI (Z 58)) ho hcn hsv = some (.inr (zI (cutZ Z q).1, zI (pasZ Z q 50), zI (pasZ Z q 51), zI (pasZ Z q 53), rd2, rp2, zI (pasZ Z q 61), zI (pasZ Z q 62), zI (pasZ Z q 64), zI (pasZ Z q 57), zI (pasZ Z q 58), ho2, hcn2, hsv2)) ∧ CA (pasZ Z q) md rd2 rw rp2 ∧ Hq ((lpk md (zI (Z 48)) (zI (Z 49)) (zI (Z 50)) (zI (Z 52)) (zI (Z 51)) (zI (Z 53)) (zI (Z 54)) (zI (Z 55)) rd rw rp (zI (Z 59)) (zI (Z 60)) (zI (Z 61)) (zI (Z 62)) (zI (Z 63)) (zI (Z 64)) (zI (Z 65)) (zI (Z 56)) (zI (Z 57)) (zI (Z 58)) :: hs).take 6) ho2 hcn2 hsv2 := by
  obtain ⟨ho2, hcn2, hsv2, e1, hq2⟩ := z_save (md := md) (rd := rd) (rw := rw) (rp := rp) hR hq
  obtain ⟨rd2, rp2, e2, h2, h3⟩ := zcX4_runPass hca.1 hca.2.1 hca.2.2.1 hca.2.2.2 hR h5
  rw [← hm] at e2
  exact ⟨rd2, rp2, ho2, hcn2, hsv2, by simp only [fX9_pass, e1, cReY hR hv, e2, true_or, or_true, Option.bind_some, Option.map_some, eq_self, ↓reduceIte], ⟨fun i hi => by rw [pasZ_f hR h5 (by omega)]; exact hca.1 i hi, h2, fun i hi => by rw [pasZ_f hR h5 (by omega)]; exact hca.2.2.1 i hi, h3⟩, hq2⟩
theorem m_passUpTo (hR : Rg Z) (hca : CA Z md rd rw rp) (hq : Hq hs ho hcn hsv) {q v : Nat} (hm : Z 60 = q) (h5 : q < 5) (hv : rdy Z) (hn : 1 ≤ v ∧ v ≤ 30) : ∃ (rd2 rp2 : Nat → Int32) (ho2 hcn2 : Int32) (hsv2 : Nat → Option LTH), fX9_passUpTo md (zI (Z 48)) (zI (Z 49)) (zI (Z 50)) (zI (Z 52)) (zI (Z 51)) (zI (Z 53)) (zI (Z 54)) (zI (Z 55)) rd rw rp (zI (Z 59)) (zI (Z 60)) (zI (Z 61)) (zI (Z 62)) (zI (Z 63)) (zI (Z 64)) (zI (Z 65)) (zI (Z 56)) (zI (Z 57)) (zI (Z 58)) ho hcn hsv (zI v) = some (.inr (zI (puZ q v Z).1, zI ((puZ q v Z).2 50), zI ((puZ q v Z).2 51), zI ((puZ q v Z).2 53), rd2, rp2, zI ((puZ q v Z).2 61), zI ((puZ q v Z).2 62), zI ((puZ q v Z).2 64), zI ((puZ q v Z).2 57), zI ((puZ q v Z).2 58), ho2, hcn2, hsv2)) ∧ CA (puZ q v Z).2 md rd2 rw rp2 ∧ Hq ((lpk md (zI (Z 48)) (zI (Z 49)) (zI (Z 50)) (zI (Z 52)) (zI (Z 51)) (zI (Z 53)) (zI (Z 54)) (zI (Z 55)) rd rw rp (zI (Z 59)) (zI (Z 60)) (zI (Z 61)) (zI (Z 62)) (zI (Z 63)) (zI (Z 64)) (zI (Z 65)) (zI (Z 56)) (zI (Z 57)) (zI (Z 58)) :: hs).take 6) ho2 hcn2 hsv2 := by
  obtain ⟨ho2, hcn2, hsv2, e1, hq2⟩ := z_save (md := md) (rd := rd) (rw := rw) (rp := rp) hR hq
  have hF := puZ_F h5 (Z0 := Z) v Z hR (fun j _ => rfl)
  have c1 := cRa zL1 zL30 (a := (v : Int)) (by omega) (by omega)
  obtain ⟨rd2, rp2, e2, h2, h3⟩ := zcX9_puL (Z0 := Z) h5 (a := (v : Int)) (by omega) hca.1 hca.2.2.1 v 2000 0 Z rd rp (by omega) (by omega) (by omega) hR (fun j _ => rfl) hca.2.1 hca.2.2.2
  rw [← hm, ← zL0, Int.zero_add] at e2
  exact ⟨rd2, rp2, ho2, hcn2, hsv2, by simp only [fX9_passUpTo, e1, c1, cReY hR hv, e2, true_or, or_true, Option.bind_some, Option.map_some, eq_self, ↓reduceIte], ⟨fun i hi => by rw [hF.2 _ (by omega)]; exact hca.1 i hi, h2, fun i hi => by rw [hF.2 _ (by omega)]; exact hca.2.2.1 i hi, h3⟩, hq2⟩
theorem m_sand (hR : Rg Z) (hca : CA Z md rd rw rp) (hq : Hq hs ho hcn hsv) {q : Nat} {v : Int} (hm : Z 60 = q) (h5 : q < 5) (hv : 1 ≤ v ∧ v ≤ 3) : ∃ (rd2 : Nat → Int32) (ho2 hcn2 : Int32) (hsv2 : Nat → Option LTH), fX9_sand md (zI (Z 48)) (zI (Z 49)) (zI (Z 50)) (zI (Z 52)) (zI (Z 51)) (zI (Z 53)) (zI (Z 54)) (zI (Z 55)) rd rw rp (zI (Z 59)) (zI (Z 60)) (zI (Z 61)) (zI (Z 62)) (zI (Z 63)) (zI (Z 64)) (zI (Z 65)) (zI (Z 56)) (zI (Z 57)) (zI (Z 58)) ho hcn hsv (zI v) = some (.inr (zI (rubZ v q Z).1, rd2, zI (Z 62 + (rubZ v q Z).1), ho2, hcn2, hsv2)) ∧ CA (zup (rubZ v q Z).2 62 (Z 62 + (rubZ v q Z).1)) md rd2 rw rp ∧ Hq ((lpk md (zI (Z 48)) (zI (Z 49)) (zI (Z 50)) (zI (Z 52)) (zI (Z 51)) (zI (Z 53)) (zI (Z 54)) (zI (Z 55)) rd rw rp (zI (Z 59)) (zI (Z 60)) (zI (Z 61)) (zI (Z 62)) (zI (Z 63)) (zI (Z 64)) (zI (Z 65)) (zI (Z 56)) (zI (Z 57)) (zI (Z 58)) :: hs).take 6) ho2 hcn2 hsv2 := by
  obtain ⟨ho2, hcn2, hsv2, e1, hq2⟩ := z_save (md := md) (rd := rd) (rw := rw) (rp := rp) hR hq
  have c1 := cRa zL1 zL3 hv (by omega)
  obtain ⟨rd2, e2, h2⟩ := zcX4_rubL hca.1 hca.2.1 hR h5 hv
  have hI := (rubZ_I hR hv h5).1
  have e2 : fX4_rub_L4 md (zI (Z 48)) (zI (Z 49)) (zI (Z 50)) (zI (Z 52)) (zI (Z 60)) (zI v) 2000 0 0 rd = some (zI (rubZ v q Z).1, rd2) := by rw [hm]; exact e2
  have e3 : zI (Z 62) + zI (rubZ v q Z).1 = zI (Z 62 + (rubZ v q Z).1) := zI_add _ _
  have h2 : rdO (rubZ v q Z).2 rd2 := h2
  exact ⟨rd2, ho2, hcn2, hsv2, by simp only [fX9_sand, e1, c1, cMoY hR (show Z 60 ≠ -1 by omega), fX4_rub, e2, e3, true_or, or_true, Option.bind_some, Option.map_some, eq_self, ↓reduceIte], ⟨fun i hi => by rw [zup_n (by omega), hI.2.2 i (by omega)]; exact hca.1 i hi, h2.sc (by omega) _, fun i hi => by rw [zup_n (by omega), hI.2.2 _ (by omega)]; exact hca.2.2.1 i hi, fun i hi => by rw [zup_n (by omega), hI.2.2 _ (by omega)]; exact hca.2.2.2 i hi⟩, hq2⟩
end MUTS
