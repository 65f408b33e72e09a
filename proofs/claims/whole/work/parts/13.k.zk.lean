section MUK
variable {md : Nat → Int32} {mch : Int32} {fra : Int32} {fwe : Int32} {fof : Int32} {fsi : Int32} {csh : Int32} {cde : Int32} {csp : Int32} {rd : Nat → Int32} {rw : Nat → Int32} {rp : Nat → Int32} {rco : Int32} {rmo : Int32} {apa : Int32} {awo : Int32} {ash : Int32} {aja : Int32} {abu : Int32} {ltol : Int32} {lchi : Int32} {ljam : Int32} {ho : Int32} {hcn : Int32} {hsv : Nat → Option LTH} {hsl : Nat → Option LTH} {cav : Nat → Nat → Nat} {cal : Nat → Nat → Nat} {ou : Nat → Int64} {od : Nat → UInt64} {xs : Nat → Int32} {xsv : Int32} {xth : Int32} {xk0 : Int32} {xk1 : Int32} {xtx : Nat → Int32} {xle : Int32} {xat : Int32} {xdi : Int32} {xma : Int32} {xto : Int32} {xha : Int64} {wa : Nat → Int32} {le : Nat → Int32} {tc : Nat → Int32} {tt : Nat → Int32} {tle : Int32} {tpl : Int32} {tdi : Int32} {tti : Int32} {tst : Int32}
theorem fk_25 (hH : Hist ho hcn hsv xs xsv) : (flaw_25 hcn xsv).isSome = true := by
  obtain ⟨a, b, h1, h2, rfl, rfl, rfl, h6⟩ := hH
  simp only [flaw_25, fX9_savedStates, fX10_savedStates, Option.bind_some, ↓reduceIte, Option.isSome_some]
theorem fk_64 {Z : Nat → Int} (hc : ClS Z (md, mch, fra, fwe, fof, fsi, csh, cde, csp, rd, rw, rp, rco, rmo, apa, awo, ash, aja, abu, ltol, lchi, ljam)) (hR : Rg Z) (hx : MoS Z 0 xs) : (flaw_64 md mch fra fwe fof csh cde rd rmo le ou xs).isSome = true := by
  obtain ⟨hmd, hrd, hrw, hrp, rfl, rfl, rfl, rfl, rfl, rfl, rfl, rfl, rfl, rfl, rfl, rfl, rfl, rfl, rfl, rfl, rfl, rfl⟩ := hc
  by_cases hv : Z 60 ≠ -1 ∧ Z 53 ≠ 0
  · obtain ⟨q, hm, hq, hq2⟩ := moN hR hv.1
    have hs : 0 < Z 53 := by have := hR.sh; omega
    have e0 : fX1_isSharp (zI (Z 53)) = some 1 := by rw [zcX1_isSharp hR, if_neg hv.2]
    have e9 : fX9_checkState 1 = some (.inr ()) := rfl
    obtain ⟨le2, e1⟩ := zcX9_countPasses hmd hrd hR hq hs le
    rw [← hm] at e1
    have e2 : fX10_toFinish xs = some (zI (dvZ (moZ Z q) (cuZ Z))) := mX10_toFinish hx hR hq hm hs
    simp only [flaw_64, fL_passesBySteps, fX9_passesBySteps, cMoY hR hv.1, e0, e9, e1, fX10_passesBySteps, mFinY hx hR hv, e2, nn10, nn20, nn21, e01, true_or, or_true, Option.bind_some, Option.map_some, fX10_thrown, hd0, hd1, hd2, hd3, e10, e20, e30, eq_self, ↓reduceIte, lgu, Option.isSome_some]
  · by_cases h1 : Z 60 = -1
    · simp only [flaw_64, fL_passesBySteps, fX9_passesBySteps, cMoN h1, fX10_passesBySteps, mFinN hx hR hv, nn10, nn20, nn21, e01, true_or, or_true, Option.bind_some, Option.map_some, fX10_thrown, hd0, hd1, hd2, hd3, e10, e20, e30, eq_self, ↓reduceIte, lgu, Option.isSome_some]
    · have e0 : fX1_isSharp (zI (Z 53)) = some 0 := by rw [zcX1_isSharp hR, if_pos (by omega)]
      have e9 : fX9_checkState 0 = some (.inl 2) := rfl
      simp only [flaw_64, fL_passesBySteps, fX9_passesBySteps, cMoY hR h1, e0, e9, fX10_passesBySteps, mFinN hx hR hv, nn10, nn20, nn21, e01, true_or, or_true, Option.bind_some, Option.map_some, fX10_thrown, hd0, hd1, hd2, hd3, e10, e20, e30, eq_self, ↓reduceIte, lgu, Option.isSome_some]
theorem fk_52 {Z : Nat → Int} (hc : ClS Z (md, mch, fra, fwe, fof, fsi, csh, cde, csp, rd, rw, rp, rco, rmo, apa, awo, ash, aja, abu, ltol, lchi, ljam)) (hR : Rg Z) (hx : MoS Z 0 xs) (s1 : Int32) : (flaw_52 md mch fra wa ou xs s1).isSome = true := by
  obtain ⟨hmd, hrd, hrw, hrp, rfl, rfl, rfl, rfl, rfl, rfl, rfl, rfl, rfl, rfl, rfl, rfl, rfl, rfl, rfl, rfl, rfl, rfl⟩ := hc
  obtain ⟨a, hb, rfl⟩ := zI_surj s1
  by_cases hv : 0 ≤ a ∧ a < 16
  · obtain ⟨q, rfl⟩ : ∃ q : Nat, a = q := ⟨a.toNat, by omega⟩
    have hq : q < 16 := by omega
    obtain ⟨wa2, e1⟩ := zcX9_firstWaiting hmd hR hq wa
    have e2 : fX10_reading xs 0 (zI q) = some (zI (rdZ Z q)) := by rw [zL0]; exact mX10_reading hx hR hq
    simp only [flaw_52, fL_readingByQueue, fX9_readingByQueue, cStY hb hv, e1, fX10_readingByQueue, mStY hb hv, e2, nn10, nn20, nn21, e01, true_or, or_true, Option.bind_some, Option.map_some, fX10_thrown, hd0, hd1, hd2, hd3, e10, e20, e30, eq_self, ↓reduceIte, lgu, Option.isSome_some]
  · simp only [flaw_52, fL_readingByQueue, fX9_readingByQueue, cStN hb hv, fX10_readingByQueue, mStN hb hv, nn10, nn20, nn21, e01, true_or, or_true, Option.bind_some, Option.map_some, fX10_thrown, hd0, hd1, hd2, hd3, e10, e20, e30, eq_self, ↓reduceIte, lgu, Option.isSome_some]
theorem st_19 (hT : Txt tc tle xtx xle) : ∃ (tle_0 xth_0 xle_0 : Int32), flaw_19 tle xle = some (tle_0, xth_0, xle_0) ∧ Txt tc tle_0 xtx xle_0 := by
  obtain ⟨n, hn, rfl, rfl, h⟩ := hT
  refine ⟨0, 0, 0, ?_, ⟨0, by omega, rfl, rfl, fun j hj => by omega⟩⟩
  simp only [flaw_19, fX9_clearBuffer, fX5_empty, fX10_clearBuffer, nn10, nn20, nn21, e01, true_or, or_true, Option.bind_some, Option.map_some, fX10_thrown, hd0, hd1, hd2, hd3, e10, e20, e30, eq_self, ↓reduceIte, lgu]
theorem st_18 (hT : Txt tc tle xtx xle) (s1 : Int32) : ∃ (tc_0 : Nat → Int32) (tle_0 : Int32) (ou_0 : Nat → Int64) (xth_0 : Int32) (xtx_0 : Nat → Int32) (xle_0 : Int32), flaw_18 tc tle ou xtx xle s1 = some (tc_0, tle_0, ou_0, xth_0, xtx_0, xle_0) ∧ Txt tc_0 tle_0 xtx_0 xle_0 := by
  have hT0 := hT
  obtain ⟨n, hn, rfl, rfl, h⟩ := hT
  obtain ⟨a, hb, rfl⟩ := zI_surj s1
  have s0 : fX9_checkState 0 = some (.inl 2) := rfl
  have s1' : fX9_checkState 1 = some (.inr ()) := rfl
  by_cases hv : (33 : Int) ≤ a ∧ a ≤ 126
  · have c1 := rRaY zL33 zL126 (by omega) hv
    have m1 := mInY zL33 zL126 (by omega) hv
    by_cases h60 : n = 60
    · have e1 : (60 : Int32) ≤ zI (n : Int) := by subst h60; decide
      have e2 : zI (n : Int) = 60 := by subst h60; exact zL60.symm
      refine ⟨_, _, ou, 2, _, _, ?_, hT0⟩
      simp only [flaw_18, fL_append, fX9_append, c1, if_pos e1, s0, fX10_append, m1, if_pos e2, nn10, nn20, nn21, e01, true_or, or_true, Option.bind_some, Option.map_some, fX10_thrown, hd0, hd1, hd2, hd3, e10, e20, e30, eq_self, ↓reduceIte, lgu]
    · have e1 : ¬ (60 : Int32) ≤ zI (n : Int) := by rw [zL60, zI_le (by omega)]; omega
      have e2 : ¬ zI (n : Int) = 60 := by rw [zL60, zI_eq (by omega)]; omega
      have e3 : zI (n : Int) + 1 = zI ((n + 1 : Nat) : Int) := by rw [zL1, zI_add]; rfl
      have e4 : fX8_put 60 tc (zI (n : Int)) (zI a) = some (upd tc n (zI a)) := zcX8_put (by omega) (by omega) _
      have e5 : ¬ (zI (n : Int) < 0 ∨ 60 ≤ n) := by rw [zL0, zI_lt (by omega)]; omega
      have e6 : (zI (n : Int)).toNatClampNeg = n := by rw [zI_cl (by omega)]; omega
      refine ⟨upd tc n (zI a), zI ((n + 1 : Nat) : Int), vp_updL ou (0 : Int32).toNatClampNeg (zI ((n + 1 : Nat) : Int)).toInt64, 0, upd xtx n (zI a), zI ((n + 1 : Nat) : Int), ?_, ⟨n + 1, by omega, rfl, rfl, fun j hj => ?_⟩⟩
      · simp only [flaw_18, fL_append, fX9_append, c1, if_neg e1, s1', fX5_add, e4, fX10_append, m1, if_neg e2, if_pos e5, e3, e6, nn10, nn20, nn21, e01, true_or, or_true, Option.bind_some, Option.map_some, fX10_thrown, hd0, hd1, hd2, hd3, e10, e20, e30, eq_self, ↓reduceIte, lgu]
      · by_cases hj2 : j = n
        · subst hj2
          exact ⟨a, hv, pk_us, pk_us⟩
        · obtain ⟨b, h1, h2, h3⟩ := h j (by omega)
          exact ⟨b, h1, by rw [pk_un hj2]; exact h2, by rw [pk_un hj2]; exact h3⟩
  · have c1 := rRaN zL33 zL126 (by omega) hv
    have m1 := mInN zL33 zL126 (by omega) hv
    refine ⟨_, _, ou, 1, _, _, ?_, hT0⟩
    simp only [flaw_18, fL_append, fX9_append, c1, fX10_append, m1, nn10, nn20, nn21, e01, true_or, or_true, Option.bind_some, Option.map_some, fX10_thrown, hd0, hd1, hd2, hd3, e10, e20, e30, eq_self, ↓reduceIte, lgu]
theorem jamS {σ : LTH} {Z : Nat → Int} (hc : ClS Z (tup σ)) (hR : Rg Z) : σ 21 0 = 0 ∨ σ 21 0 = 1 := jam01 hc hR
theorem Kept.to0 {σ : LTH} {xs : Nat → Int32} {k : Nat} (h : Kept σ xs (156 * k)) : ∃ Z : Nat → Int, Rg Z ∧ ClS Z (tup σ) ∧ MoS Z 0 (cpB xs k 0 156) := by
  obtain ⟨Z, a, b, c⟩ := h
  refine ⟨Z, a, b, Or.inl rfl, fun i hi => ?_⟩
  have h9 := cpB_in (xs := xs) (a := k) (b := 0) hi
  rw [show (0 : Int).toNat + i = 156 * 0 + i by omega, h9]
  exact c i hi
theorem st_24 (hC : Core (md, mch, fra, fwe, fof, fsi, csh, cde, csp, rd, rw, rp, rco, rmo, apa, awo, ash, aja, abu, ltol, lchi, ljam) ho hcn hsv hsl xs xsv xk0 xk1) : ∃ (md_0 : Nat → Int32) (mch_0 : Int32) (fra_0 : Int32) (fwe_0 : Int32) (fof_0 : Int32) (fsi_0 : Int32) (csh_0 : Int32) (cde_0 : Int32) (csp_0 : Int32) (rd_0 : Nat → Int32) (rw_0 : Nat → Int32) (rp_0 : Nat → Int32) (rco_0 : Int32) (rmo_0 : Int32) (apa_0 : Int32) (awo_0 : Int32) (ash_0 : Int32) (aja_0 : Int32) (abu_0 : Int32) (ltol_0 : Int32) (lchi_0 : Int32) (ljam_0 : Int32) (hcn_0 : Int32) (xth_0 : Int32) (xs_0 : Nat → Int32) (xsv_0 : Int32), flaw_24 md mch fra fwe fof fsi csh cde csp rd rw rp rco rmo apa awo ash aja abu ltol lchi ljam ho hcn hsv xs xsv = some (md_0, mch_0, fra_0, fwe_0, fof_0, fsi_0, csh_0, cde_0, csp_0, rd_0, rw_0, rp_0, rco_0, rmo_0, apa_0, awo_0, ash_0, aja_0, abu_0, ltol_0, lchi_0, ljam_0, hcn_0, xth_0, xs_0, xsv_0) ∧ Core (md_0, mch_0, fra_0, fwe_0, fof_0, fsi_0, csh_0, cde_0, csp_0, rd_0, rw_0, rp_0, rco_0, rmo_0, apa_0, awo_0, ash_0, aja_0, abu_0, ltol_0, lchi_0, ljam_0) ho hcn_0 hsv hsl xs_0 xsv_0 xk0 xk1 := by
  obtain ⟨hZ, hH, hs0, hs1⟩ := hC
  have hH0 := hH
  obtain ⟨a, b, h1, h2, rfl, rfl, rfl, h6⟩ := hH
  have s0 : fX9_checkState 0 = some (.inl 2) := rfl
  have s1' : fX9_checkState 1 = some (.inr ()) := rfl
  by_cases h0 : b = 0
  · subst h0
    have e1 : nI 0 ≤ 0 := by decide
    refine ⟨_, _, _, _, _, _, _, _, _, _, _, _, _, _, _, _, _, _, _, _, _, _, _, 1, _, _, ?_, hZ, hH0, hs0, hs1⟩
    simp only [flaw_24, fL_undo, fX9_undo, if_pos e1, s0, fX10_undo, nn10, nn20, nn21, e01, true_or, or_true, Option.bind_some, Option.map_some, fX10_thrown, hd0, hd1, hd2, hd3, e10, e20, e30, eq_self, ↓reduceIte, lgu]
  · have e1 : ¬ nI b ≤ 0 := by rw [nI_zI, zL0, zI_le (by omega)]; omega
    obtain ⟨σ, q1, q2⟩ := h6 (b - 1) (by omega)
    rw [show b - 1 + 1 = b by omega] at q2
    obtain ⟨Z, z1, z2, z3⟩ := q2.to0
    have e2 : fX3_restoreLatest (nI a) (nI b) hsv = some (nI (b - 1), σ 0, σ 1 0, σ 2 0, σ 3 0, σ 4 0, σ 5 0, σ 6 0, σ 7 0, σ 8 0, σ 9, σ 10, σ 11, σ 12 0, σ 13 0, σ 14 0, σ 15 0, σ 16 0, σ 17 0, σ 18 0, σ 19 0, σ 20 0, σ 21 0) := by
      unfold fX3_restoreLatest
      rw [nI_cl6 (show a < 100 by omega), nI_cl6 (show b < 100 by omega), if_pos ⟨rfl, h1, rfl, h2, by omega⟩, show (a + b - 1) % 6 = (a + (b - 1)) % 6 by omega, q1, Option.bind_some, if_pos (jamS z2 z1)]
    have e3 : fX10_copies xs (nI b) 0 = some (cpB xs b 0 156) := by rw [nI_zI, zL0]; exact mX10_copies (b := 0) (by omega) (by omega) (by omega)
    have e4 : nI b - 1 = zI ((b - 1 : Nat) : Int) := by rw [nI_zI, zL1, zI_sub]; congr 1; omega
    refine ⟨σ 0, σ 1 0, σ 2 0, σ 3 0, σ 4 0, σ 5 0, σ 6 0, σ 7 0, σ 8 0, σ 9, σ 10, σ 11, σ 12 0, σ 13 0, σ 14 0, σ 15 0, σ 16 0, σ 17 0, σ 18 0, σ 19 0, σ 20 0, σ 21 0, nI (b - 1), 0, cpB xs b 0 156, zI ((b - 1 : Nat) : Int), ?_, ⟨Z, z1, z2, z3⟩, ⟨a, b - 1, h1, by omega, rfl, rfl, (nI_zI _).symm, fun j hj => ?_⟩, hs0.frame (by omega) (fun i i1 i2 => cpB_out (by omega)), hs1.frame (by omega) (fun i i1 i2 => cpB_out (by omega))⟩
    · simp only [flaw_24, fL_undo, fX9_undo, if_neg e1, s1', e2, fX10_undo, e3, e4, nn10, nn20, nn21, e01, true_or, or_true, Option.bind_some, Option.map_some, fX10_thrown, hd0, hd1, hd2, hd3, e10, e20, e30, eq_self, ↓reduceIte, lgu]
    · obtain ⟨τ, t1, t2⟩ := h6 j (by omega)
      exact ⟨τ, t1, t2.frame (fun i hi => cpB_out (by omega))⟩
theorem st_22 (hC : Core (md, mch, fra, fwe, fof, fsi, csh, cde, csp, rd, rw, rp, rco, rmo, apa, awo, ash, aja, abu, ltol, lchi, ljam) ho hcn hsv hsl xs xsv xk0 xk1) (s1 : Int32) : ∃ (hsl_0 : Nat → Option LTH) (xth_0 : Int32) (xs_0 : Nat → Int32) (xk0_0 : Int32) (xk1_0 : Int32), flaw_22 md mch fra fwe fof fsi csh cde csp rd rw rp rco rmo apa awo ash aja abu ltol lchi ljam hsl xs xk0 xk1 s1 = some (hsl_0, xth_0, xs_0, xk0_0, xk1_0) ∧ Core (md, mch, fra, fwe, fof, fsi, csh, cde, csp, rd, rw, rp, rco, rmo, apa, awo, ash, aja, abu, ltol, lchi, ljam) ho hcn hsv hsl_0 xs_0 xsv xk0_0 xk1_0 := by
  obtain ⟨⟨Z, hR, hc, hx⟩, hH, hs0, hs1⟩ := hC
  obtain ⟨a, hb, rfl⟩ := zI_surj s1
  have s0 : fX9_checkArgument 0 = some (.inl 1) := rfl
  have s1' : fX9_checkArgument 1 = some (.inr ()) := rfl
  have hj := jam01 hc hR
  by_cases hv : (0 : Int) ≤ a ∧ a ≤ 1
  · have m1 := mInY zL0 zL1 (by omega) hv
    have hKn : ∀ k : Nat, 0 < k → k < 10 → Kept (lpk md mch fra fwe fof fsi csh cde csp rd rw rp rco rmo apa awo ash aja abu ltol lchi ljam) (cpB xs 0 k 156) (156 * k) := fun k k1 k2 => ⟨Z, hR, by rw [tup_lpk]; exact hc, fun i hi => by
      have h9 := cpB_in (xs := xs) (a := 0) (b := k) hi
      rw [h9, show 156 * 0 + i = i by omega]
      exact hx.z hi⟩
    have hx2 : ∀ k : Nat, 0 < k → k < 10 → MoS Z 0 (cpB xs 0 k 156) := fun k k1 k2 => ⟨Or.inl rfl, fun i hi => by
      rw [cpB_out (by omega)]
      exact hx.2 i hi⟩
    have hav : a = 0 ∨ a = 1 := by omega
    rcases hav with rfl | rfl
    · have e1 : fX9_isIndex (zI 0) 2 = some 1 := by decide
      have e2 : fX3_fillSlot hsl md mch fra fwe fof fsi csh cde csp rd rw rp rco rmo apa awo ash aja abu ltol lchi ljam (zI 0) = some (va_up hsl 0 (some (lpk md mch fra fwe fof fsi csh cde csp rd rw rp rco rmo apa awo ash aja abu ltol lchi ljam))) := by
        have h9 : (zI 0).toNatClampNeg = 0 := by decide
        unfold fX3_fillSlot
        rw [h9, if_pos ⟨by decide, by omega, hj⟩]
      have e3 : fX10_copies xs 0 (7 + zI 0) = some (cpB xs 0 7 156) := by
        rw [show (0 : Int32) = zI ((0 : Nat) : Int) from rfl, show (7 : Int32) + zI 0 = zI ((7 : Nat) : Int) by decide]
        exact mX10_copies (by omega) (by omega) (by omega)
      have u0 : (zI 0 = (0 : Int32)) = True := eq_true (by decide)
      have u1 : (zI 0 = (1 : Int32)) = False := eq_false (by decide)
      have hk : Slot1 (va_up hsl 0 (some (lpk md mch fra fwe fof fsi csh cde csp rd rw rp rco rmo apa awo ash aja abu ltol lchi ljam))) 0 1 (cpB xs 0 7 156) := Or.inr ⟨rfl, _, by unfold va_up; rw [if_pos rfl], hKn 7 (by omega) (by omega)⟩
      have ho9 : ∀ x : Int32, Slot1 hsl 1 x xs → Slot1 (va_up hsl 0 (some (lpk md mch fra fwe fof fsi csh cde csp rd rw rp rco rmo apa awo ash aja abu ltol lchi ljam))) 1 x (cpB xs 0 7 156) := by
        rintro x (⟨h1, h2⟩ | ⟨h1, σ, h2, h3⟩)
        · exact Or.inl ⟨h1, by unfold va_up; rw [if_neg (by omega)]; exact h2⟩
        · exact Or.inr ⟨h1, σ, by unfold va_up; rw [if_neg (by omega)]; exact h2, h3.frame (fun i hi => cpB_out (by omega))⟩
      have hH2 : Hist ho hcn hsv (cpB xs 0 7 156) xsv := hH.frame (fun i i1 i2 => cpB_out (by omega))
      have hq0 : xk0 = 0 ∨ xk0 = 1 := hs0.elim (fun h => Or.inl h.1) (fun h => Or.inr h.1)
      have hq1 : xk1 = 0 ∨ xk1 = 1 := hs1.elim (fun h => Or.inl h.1) (fun h => Or.inr h.1)
      rcases hq0 with rfl | rfl <;> rcases hq1 with rfl | rfl
      · refine ⟨va_up hsl 0 (some (lpk md mch fra fwe fof fsi csh cde csp rd rw rp rco rmo apa awo ash aja abu ltol lchi ljam)), 0, cpB xs 0 7 156, 1, 0, ?_, ⟨Z, hR, hc, hx2 7 (by omega) (by omega)⟩, hH2, hk, ho9 _ hs1⟩
        simp only [flaw_22, fL_keep, fX9_keep, e1, s1', e2, fX10_keep, m1, e3, u0, u1, nn10, nn20, nn21, e01, true_or, or_true, Option.bind_some, Option.map_some, fX10_thrown, hd0, hd1, hd2, hd3, e10, e20, e30, eq_self, ↓reduceIte, lgu]
      · refine ⟨va_up hsl 0 (some (lpk md mch fra fwe fof fsi csh cde csp rd rw rp rco rmo apa awo ash aja abu ltol lchi ljam)), 0, cpB xs 0 7 156, 1, 1, ?_, ⟨Z, hR, hc, hx2 7 (by omega) (by omega)⟩, hH2, hk, ho9 _ hs1⟩
        simp only [flaw_22, fL_keep, fX9_keep, e1, s1', e2, fX10_keep, m1, e3, u0, u1, nn10, nn20, nn21, e01, true_or, or_true, Option.bind_some, Option.map_some, fX10_thrown, hd0, hd1, hd2, hd3, e10, e20, e30, eq_self, ↓reduceIte, lgu]
      · refine ⟨va_up hsl 0 (some (lpk md mch fra fwe fof fsi csh cde csp rd rw rp rco rmo apa awo ash aja abu ltol lchi ljam)), 0, cpB xs 0 7 156, 1, 0, ?_, ⟨Z, hR, hc, hx2 7 (by omega) (by omega)⟩, hH2, hk, ho9 _ hs1⟩
        simp only [flaw_22, fL_keep, fX9_keep, e1, s1', e2, fX10_keep, m1, e3, u0, u1, nn10, nn20, nn21, e01, true_or, or_true, Option.bind_some, Option.map_some, fX10_thrown, hd0, hd1, hd2, hd3, e10, e20, e30, eq_self, ↓reduceIte, lgu]
      · refine ⟨va_up hsl 0 (some (lpk md mch fra fwe fof fsi csh cde csp rd rw rp rco rmo apa awo ash aja abu ltol lchi ljam)), 0, cpB xs 0 7 156, 1, 1, ?_, ⟨Z, hR, hc, hx2 7 (by omega) (by omega)⟩, hH2, hk, ho9 _ hs1⟩
        simp only [flaw_22, fL_keep, fX9_keep, e1, s1', e2, fX10_keep, m1, e3, u0, u1, nn10, nn20, nn21, e01, true_or, or_true, Option.bind_some, Option.map_some, fX10_thrown, hd0, hd1, hd2, hd3, e10, e20, e30, eq_self, ↓reduceIte, lgu]
    · have e1 : fX9_isIndex (zI 1) 2 = some 1 := by decide
      have e2 : fX3_fillSlot hsl md mch fra fwe fof fsi csh cde csp rd rw rp rco rmo apa awo ash aja abu ltol lchi ljam (zI 1) = some (va_up hsl 1 (some (lpk md mch fra fwe fof fsi csh cde csp rd rw rp rco rmo apa awo ash aja abu ltol lchi ljam))) := by
        have h9 : (zI 1).toNatClampNeg = 1 := by decide
        unfold fX3_fillSlot
        rw [h9, if_pos ⟨by decide, by omega, hj⟩]
      have e3 : fX10_copies xs 0 (7 + zI 1) = some (cpB xs 0 8 156) := by
        rw [show (0 : Int32) = zI ((0 : Nat) : Int) from rfl, show (7 : Int32) + zI 1 = zI ((8 : Nat) : Int) by decide]
        exact mX10_copies (by omega) (by omega) (by omega)
      have u0 : (zI 1 = (0 : Int32)) = False := eq_false (by decide)
      have u1 : (zI 1 = (1 : Int32)) = True := eq_true (by decide)
      have hk : Slot1 (va_up hsl 1 (some (lpk md mch fra fwe fof fsi csh cde csp rd rw rp rco rmo apa awo ash aja abu ltol lchi ljam))) 1 1 (cpB xs 0 8 156) := Or.inr ⟨rfl, _, by unfold va_up; rw [if_pos rfl], hKn 8 (by omega) (by omega)⟩
      have ho9 : ∀ x : Int32, Slot1 hsl 0 x xs → Slot1 (va_up hsl 1 (some (lpk md mch fra fwe fof fsi csh cde csp rd rw rp rco rmo apa awo ash aja abu ltol lchi ljam))) 0 x (cpB xs 0 8 156) := by
        rintro x (⟨h1, h2⟩ | ⟨h1, σ, h2, h3⟩)
        · exact Or.inl ⟨h1, by unfold va_up; rw [if_neg (by omega)]; exact h2⟩
        · exact Or.inr ⟨h1, σ, by unfold va_up; rw [if_neg (by omega)]; exact h2, h3.frame (fun i hi => cpB_out (by omega))⟩
      have hH2 : Hist ho hcn hsv (cpB xs 0 8 156) xsv := hH.frame (fun i i1 i2 => cpB_out (by omega))
      have hq0 : xk0 = 0 ∨ xk0 = 1 := hs0.elim (fun h => Or.inl h.1) (fun h => Or.inr h.1)
      have hq1 : xk1 = 0 ∨ xk1 = 1 := hs1.elim (fun h => Or.inl h.1) (fun h => Or.inr h.1)
      rcases hq0 with rfl | rfl <;> rcases hq1 with rfl | rfl
      · refine ⟨va_up hsl 1 (some (lpk md mch fra fwe fof fsi csh cde csp rd rw rp rco rmo apa awo ash aja abu ltol lchi ljam)), 0, cpB xs 0 8 156, 0, 1, ?_, ⟨Z, hR, hc, hx2 8 (by omega) (by omega)⟩, hH2, ho9 _ hs0, hk⟩
        simp only [flaw_22, fL_keep, fX9_keep, e1, s1', e2, fX10_keep, m1, e3, u0, u1, nn10, nn20, nn21, e01, true_or, or_true, Option.bind_some, Option.map_some, fX10_thrown, hd0, hd1, hd2, hd3, e10, e20, e30, eq_self, ↓reduceIte, lgu]
      · refine ⟨va_up hsl 1 (some (lpk md mch fra fwe fof fsi csh cde csp rd rw rp rco rmo apa awo ash aja abu ltol lchi ljam)), 0, cpB xs 0 8 156, 0, 1, ?_, ⟨Z, hR, hc, hx2 8 (by omega) (by omega)⟩, hH2, ho9 _ hs0, hk⟩
        simp only [flaw_22, fL_keep, fX9_keep, e1, s1', e2, fX10_keep, m1, e3, u0, u1, nn10, nn20, nn21, e01, true_or, or_true, Option.bind_some, Option.map_some, fX10_thrown, hd0, hd1, hd2, hd3, e10, e20, e30, eq_self, ↓reduceIte, lgu]
      · refine ⟨va_up hsl 1 (some (lpk md mch fra fwe fof fsi csh cde csp rd rw rp rco rmo apa awo ash aja abu ltol lchi ljam)), 0, cpB xs 0 8 156, 1, 1, ?_, ⟨Z, hR, hc, hx2 8 (by omega) (by omega)⟩, hH2, ho9 _ hs0, hk⟩
        simp only [flaw_22, fL_keep, fX9_keep, e1, s1', e2, fX10_keep, m1, e3, u0, u1, nn10, nn20, nn21, e01, true_or, or_true, Option.bind_some, Option.map_some, fX10_thrown, hd0, hd1, hd2, hd3, e10, e20, e30, eq_self, ↓reduceIte, lgu]
      · refine ⟨va_up hsl 1 (some (lpk md mch fra fwe fof fsi csh cde csp rd rw rp rco rmo apa awo ash aja abu ltol lchi ljam)), 0, cpB xs 0 8 156, 1, 1, ?_, ⟨Z, hR, hc, hx2 8 (by omega) (by omega)⟩, hH2, ho9 _ hs0, hk⟩
        simp only [flaw_22, fL_keep, fX9_keep, e1, s1', e2, fX10_keep, m1, e3, u0, u1, nn10, nn20, nn21, e01, true_or, or_true, Option.bind_some, Option.map_some, fX10_thrown, hd0, hd1, hd2, hd3, e10, e20, e30, eq_self, ↓reduceIte, lgu]
  · have m1 := mInN zL0 zL1 (by omega) hv
    have e1 : fX9_isIndex (zI a) 2 = some 0 := by
      unfold fX9_isIndex
      rw [zL0, zL2, zi_lt (by omega), zi_le (by omega)]
      by_cases h : a < 0
      · rw [if_pos h]
      · rw [if_neg h, if_pos (by omega)]
    refine ⟨_, 1, _, _, _, ?_, ⟨Z, hR, hc, hx⟩, hH, hs0, hs1⟩
    simp only [flaw_22, fL_keep, fX9_keep, e1, s0, fX10_keep, m1, nn10, nn20, nn21, e01, true_or, or_true, Option.bind_some, Option.map_some, fX10_thrown, hd0, hd1, hd2, hd3, e10, e20, e30, eq_self, ↓reduceIte, lgu]
theorem st_23 (hC : Core (md, mch, fra, fwe, fof, fsi, csh, cde, csp, rd, rw, rp, rco, rmo, apa, awo, ash, aja, abu, ltol, lchi, ljam) ho hcn hsv hsl xs xsv xk0 xk1) (s1 : Int32) : ∃ (md_0 : Nat → Int32) (mch_0 : Int32) (fra_0 : Int32) (fwe_0 : Int32) (fof_0 : Int32) (fsi_0 : Int32) (csh_0 : Int32) (cde_0 : Int32) (csp_0 : Int32) (rd_0 : Nat → Int32) (rw_0 : Nat → Int32) (rp_0 : Nat → Int32) (rco_0 : Int32) (rmo_0 : Int32) (apa_0 : Int32) (awo_0 : Int32) (ash_0 : Int32) (aja_0 : Int32) (abu_0 : Int32) (ltol_0 : Int32) (lchi_0 : Int32) (ljam_0 : Int32) (ho_0 : Int32) (hcn_0 : Int32) (hsv_0 : Nat → Option LTH) (xth_0 : Int32) (xs_0 : Nat → Int32) (xsv_0 : Int32), flaw_23 md mch fra fwe fof fsi csh cde csp rd rw rp rco rmo apa awo ash aja abu ltol lchi ljam ho hcn hsv hsl cal xs xsv xk0 xk1 s1 = some (md_0, mch_0, fra_0, fwe_0, fof_0, fsi_0, csh_0, cde_0, csp_0, rd_0, rw_0, rp_0, rco_0, rmo_0, apa_0, awo_0, ash_0, aja_0, abu_0, ltol_0, lchi_0, ljam_0, ho_0, hcn_0, hsv_0, xth_0, xs_0, xsv_0) ∧ Core (md_0, mch_0, fra_0, fwe_0, fof_0, fsi_0, csh_0, cde_0, csp_0, rd_0, rw_0, rp_0, rco_0, rmo_0, apa_0, awo_0, ash_0, aja_0, abu_0, ltol_0, lchi_0, ljam_0) ho_0 hcn_0 hsv_0 hsl xs_0 xsv_0 xk0 xk1 := by
  obtain ⟨⟨Z, hR, hc, hx⟩, hH, hs0, hs1⟩ := hC
  obtain ⟨ho2, hcn2, hsv2, ys, yv, e1, e2, hx2, hH2, hfr⟩ := save_ok hc hR hx hH
  obtain ⟨a, hb, rfl⟩ := zI_surj s1
  have s0 : fX9_checkArgument 0 = some (.inl 1) := rfl
  have s1' : fX9_checkArgument 1 = some (.inr ()) := rfl
  have r0 : fX9_checkState 0 = some (.inl 2) := rfl
  have r1 : fX9_checkState 1 = some (.inr ()) := rfl
  by_cases hv : (0 : Int) ≤ a ∧ a ≤ 1
  · have m1 := mInY zL0 zL1 (by omega) hv
    have hav : a = 0 ∨ a = 1 := by omega
    rcases hav with rfl | rfl
    · have i1 : fX9_isIndex (zI 0) 2 = some 1 := by decide
      have u0 : (zI 0 = (0 : Int32)) = True := eq_true (by decide)
      rcases hs0 with ⟨rfl, hn⟩ | ⟨rfl, σ, hσ, hK⟩
      · have f1 : fX3_isFilled (hRow hsl cal) (zI 0) = some 0 := by
          have h9 : (zI 0).toNatClampNeg = 0 := by decide
          unfold fX3_isFilled
          rw [h9, hRow_none hn]
          rfl
        refine ⟨_, _, _, _, _, _, _, _, _, _, _, _, _, _, _, _, _, _, _, _, _, _, _, _, _, 2, _, _, ?_, ⟨Z, hR, hc, hx⟩, hH, Or.inl ⟨rfl, hn⟩, hs1⟩
        simp only [flaw_23, fL_goBack, fX9_goBack, i1, s1', f1, r0, fX10_goBack, u0, m1, nn10, nn20, nn21, e01, true_or, or_true, Option.bind_some, Option.map_some, fX10_thrown, hd0, hd1, hd2, hd3, e10, e20, e30, eq_self, ↓reduceIte, lgu]
      · have f1 : fX3_isFilled (hRow hsl cal) (zI 0) = some 1 := by
          have h9 : (zI 0).toNatClampNeg = 0 := by decide
          unfold fX3_isFilled
          rw [h9, hRow_some hσ]
          rfl
        have hK2 : Kept σ ys (156 * 7) := hK.frame (fun i hi => hfr _ (by omega))
        obtain ⟨Y, z1, z2, z3⟩ := hK2.to0
        have e3 : fX3_restoreSlot hsl (zI 0) = some (σ 0, σ 1 0, σ 2 0, σ 3 0, σ 4 0, σ 5 0, σ 6 0, σ 7 0, σ 8 0, σ 9, σ 10, σ 11, σ 12 0, σ 13 0, σ 14 0, σ 15 0, σ 16 0, σ 17 0, σ 18 0, σ 19 0, σ 20 0, σ 21 0) := by
          have h9 : (zI 0).toNatClampNeg = 0 := by decide
          unfold fX3_restoreSlot
          rw [h9, if_pos ⟨by decide, by omega⟩, hσ, Option.bind_some, if_pos (jamS z2 z1)]
        have e4 : fX10_copies ys (7 + zI 0) 0 = some (cpB ys 7 0 156) := by
          rw [show (7 : Int32) + zI 0 = zI ((7 : Nat) : Int) by decide, show (0 : Int32) = zI ((0 : Nat) : Int) from rfl]
          exact mX10_copies (by omega) (by omega) (by omega)
        refine ⟨σ 0, σ 1 0, σ 2 0, σ 3 0, σ 4 0, σ 5 0, σ 6 0, σ 7 0, σ 8 0, σ 9, σ 10, σ 11, σ 12 0, σ 13 0, σ 14 0, σ 15 0, σ 16 0, σ 17 0, σ 18 0, σ 19 0, σ 20 0, σ 21 0, ho2, hcn2, hsv2, 0, cpB ys 7 0 156, yv, ?_, core_up z1 z2 z3 hH2 hfr (fun i i1 i2 => cpB_out (by omega)) (Or.inr ⟨rfl, σ, hσ, hK⟩) hs1⟩
        simp only [flaw_23, fL_goBack, fX9_goBack, i1, s1', f1, r1, e1, e3, fX10_goBack, u0, m1, e2, e4, nn10, nn20, nn21, e01, true_or, or_true, Option.bind_some, Option.map_some, fX10_thrown, hd0, hd1, hd2, hd3, e10, e20, e30, eq_self, ↓reduceIte, lgu]
    · have i1 : fX9_isIndex (zI 1) 2 = some 1 := by decide
      have u0 : (zI 1 = (0 : Int32)) = False := eq_false (by decide)
      rcases hs1 with ⟨rfl, hn⟩ | ⟨rfl, σ, hσ, hK⟩
      · have f1 : fX3_isFilled (hRow hsl cal) (zI 1) = some 0 := by
          have h9 : (zI 1).toNatClampNeg = 1 := by decide
          unfold fX3_isFilled
          rw [h9, hRow_none hn]
          rfl
        refine ⟨_, _, _, _, _, _, _, _, _, _, _, _, _, _, _, _, _, _, _, _, _, _, _, _, _, 2, _, _, ?_, ⟨Z, hR, hc, hx⟩, hH, hs0, Or.inl ⟨rfl, hn⟩⟩
        simp only [flaw_23, fL_goBack, fX9_goBack, i1, s1', f1, r0, fX10_goBack, u0, m1, nn10, nn20, nn21, e01, true_or, or_true, Option.bind_some, Option.map_some, fX10_thrown, hd0, hd1, hd2, hd3, e10, e20, e30, eq_self, ↓reduceIte, lgu]
      · have f1 : fX3_isFilled (hRow hsl cal) (zI 1) = some 1 := by
          have h9 : (zI 1).toNatClampNeg = 1 := by decide
          unfold fX3_isFilled
          rw [h9, hRow_some hσ]
          rfl
        have hK2 : Kept σ ys (156 * 8) := hK.frame (fun i hi => hfr _ (by omega))
        obtain ⟨Y, z1, z2, z3⟩ := hK2.to0
        have e3 : fX3_restoreSlot hsl (zI 1) = some (σ 0, σ 1 0, σ 2 0, σ 3 0, σ 4 0, σ 5 0, σ 6 0, σ 7 0, σ 8 0, σ 9, σ 10, σ 11, σ 12 0, σ 13 0, σ 14 0, σ 15 0, σ 16 0, σ 17 0, σ 18 0, σ 19 0, σ 20 0, σ 21 0) := by
          have h9 : (zI 1).toNatClampNeg = 1 := by decide
          unfold fX3_restoreSlot
          rw [h9, if_pos ⟨by decide, by omega⟩, hσ, Option.bind_some, if_pos (jamS z2 z1)]
        have e4 : fX10_copies ys (7 + zI 1) 0 = some (cpB ys 8 0 156) := by
          rw [show (7 : Int32) + zI 1 = zI ((8 : Nat) : Int) by decide, show (0 : Int32) = zI ((0 : Nat) : Int) from rfl]
          exact mX10_copies (by omega) (by omega) (by omega)
        refine ⟨σ 0, σ 1 0, σ 2 0, σ 3 0, σ 4 0, σ 5 0, σ 6 0, σ 7 0, σ 8 0, σ 9, σ 10, σ 11, σ 12 0, σ 13 0, σ 14 0, σ 15 0, σ 16 0, σ 17 0, σ 18 0, σ 19 0, σ 20 0, σ 21 0, ho2, hcn2, hsv2, 0, cpB ys 8 0 156, yv, ?_, core_up z1 z2 z3 hH2 hfr (fun i i1 i2 => cpB_out (by omega)) hs0 (Or.inr ⟨rfl, σ, hσ, hK⟩)⟩
        simp only [flaw_23, fL_goBack, fX9_goBack, i1, s1', f1, r1, e1, e3, fX10_goBack, u0, m1, e2, e4, nn10, nn20, nn21, e01, true_or, or_true, Option.bind_some, Option.map_some, fX10_thrown, hd0, hd1, hd2, hd3, e10, e20, e30, eq_self, ↓reduceIte, lgu]
  · have m1 := mInN zL0 zL1 (by omega) hv
    have e9 : fX9_isIndex (zI a) 2 = some 0 := by
      unfold fX9_isIndex
      rw [zL0, zL2, zi_lt (by omega), zi_le (by omega)]
      by_cases h : a < 0
      · rw [if_pos h]
      · rw [if_neg h, if_pos (by omega)]
    have u0 : (zI a = (0 : Int32)) = False := eq_false (by rw [zL0, zI_eq (by omega)]; omega)
    refine ⟨_, _, _, _, _, _, _, _, _, _, _, _, _, _, _, _, _, _, _, _, _, _, _, _, _, 1, _, _, ?_, ⟨Z, hR, hc, hx⟩, hH, hs0, hs1⟩
    simp only [flaw_23, fL_goBack, fX9_goBack, e9, s0, fX10_goBack, u0, m1, nn10, nn20, nn21, e01, true_or, or_true, Option.bind_some, Option.map_some, fX10_thrown, hd0, hd1, hd2, hd3, e10, e20, e30, eq_self, ↓reduceIte, lgu]
end MUK
