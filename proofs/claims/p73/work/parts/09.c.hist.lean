section HC
def svC (b : Nat) : Nat := if b < 6 then b + 1 else b
def svO (a b : Nat) : Nat := if b < 6 then a else (a + 1) % 6
def svP (a b : Nat) : Nat := (svO a b + svC b - 1) % 6
theorem svB {a b : Nat} (ha : a < 6) (hb : b ≤ 6) : svO a b < 6 ∧ 1 ≤ svC b ∧ svC b ≤ 6 := by
  unfold svO svC; split <;> refine ⟨?_, ?_, ?_⟩ <;> omega
theorem k_latest {a b : Nat} (ha : a < 6) (hb : b ≤ 6) (h1 : 1 ≤ b) : fX3_latest (nI a) (nI b) = some (nI ((a + b - 1) % 6)) := by
  unfold fX3_latest
  rw [nI_add, show (1 : Int32) = nI 1 from rfl, pk_sub (by omega), show (6 : Int32) = nI 6 from rfl, pk_rem (by omega) (by omega) (by omega)]
def fX3_save (ho hcn : Int32) (hsv : Nat → Option LTH) (md : Nat → Int32) (mch : Int32) (fra : Int32) (fwe : Int32) (fof : Int32) (fsi : Int32) (csh : Int32) (cde : Int32) (csp : Int32) (rd : Nat → Int32) (rw : Nat → Int32) (rp : Nat → Int32) (rco : Int32) (rmo : Int32) (apa : Int32) (awo : Int32) (ash : Int32) (aja : Int32) (abu : Int32) (ltol : Int32) (lchi : Int32) (ljam : Int32) : Option (Int32 × Int32 × (Nat → Option LTH)) :=
  if ho = nI ho.toNatClampNeg ∧ ho.toNatClampNeg < 6 ∧ hcn = nI hcn.toNatClampNeg ∧ hcn.toNatClampNeg ≤ 6 ∧ (ljam = 0 ∨ ljam = 1) then some (nI (svO ho.toNatClampNeg hcn.toNatClampNeg), nI (svC hcn.toNatClampNeg), va_up hsv (svP ho.toNatClampNeg hcn.toNatClampNeg) (some (lpk md mch fra fwe fof fsi csh cde csp rd rw rp rco rmo apa awo ash aja abu ltol lchi ljam))) else none
def fX3_restoreLatest (ho hcn : Int32) (hsv : Nat → Option LTH) : Option (Int32 × (Nat → Int32) × Int32 × Int32 × Int32 × Int32 × Int32 × Int32 × Int32 × Int32 × (Nat → Int32) × (Nat → Int32) × (Nat → Int32) × Int32 × Int32 × Int32 × Int32 × Int32 × Int32 × Int32 × Int32 × Int32 × Int32) :=
  if ho = nI ho.toNatClampNeg ∧ ho.toNatClampNeg < 6 ∧ hcn = nI hcn.toNatClampNeg ∧ hcn.toNatClampNeg ≤ 6 ∧ 1 ≤ hcn.toNatClampNeg then
    (hsv ((ho.toNatClampNeg + hcn.toNatClampNeg - 1) % 6)).bind fun σ => if σ 21 0 = 0 ∨ σ 21 0 = 1 then some (nI (hcn.toNatClampNeg - 1), σ 0, σ 1 0, σ 2 0, σ 3 0, σ 4 0, σ 5 0, σ 6 0, σ 7 0, σ 8 0, σ 9, σ 10, σ 11, σ 12 0, σ 13 0, σ 14 0, σ 15 0, σ 16 0, σ 17 0, σ 18 0, σ 19 0, σ 20 0, σ 21 0) else none
  else none
set_option maxHeartbeats 4000000 in
set_option maxRecDepth 100000 in
theorem kX3_save (l : Launch) (G : GG) (a0 aS aL : Nat) (bd : Nat → Nat) (ca : Nat → Nat → Nat) (ho hcn : Int32) (hsv : Nat → Option LTH) (md : Nat → Int32) (mch : Int32) (fra : Int32) (fwe : Int32) (fof : Int32) (fsi : Int32) (csh : Int32) (cde : Int32) (csp : Int32) (rd : Nat → Int32) (rw : Nat → Int32) (rp : Nat → Int32) (rco : Int32) (rmo : Int32) (apa : Int32) (awo : Int32) (ash : Int32) (aja : Int32) (abu : Int32) (ltol : Int32) (lchi : Int32) (ljam : Int32) (ho_0 hcn_0 : Int32) (hsv_0 : Nat → Option LTH) (hf : fX3_save ho hcn hsv md mch fra fwe fof fsi csh cde csp rd rw rp rco rmo apa awo ash aja abu ltol lchi ljam = some (ho_0, hcn_0, hsv_0)) :
    Wr l G yX3_save cX3_save 2 none 5 109 13 168 [.ref a0, .ref (bd 0)] ((a0, .inr (3, [.ref aS, .ref aL, .int ho, .int hcn])) :: (aS, .inl (G.2.2.1, 6, .inr (.inr (.inr (.inr (hRow hsv ca)))))) :: (LW G bd (lpk md mch fra fwe fof fsi csh cde csp rd rw rp rco rmo apa awo ash aja abu ltol lchi ljam) ++ hT G 6 hsv ca)) (X := Nat → Nat → Nat)
      (fun ca' => (a0, .inr (3, [.ref aS, .ref aL, .int ho_0, .int hcn_0])) :: (aS, .inl (G.2.2.1, 6, .inr (.inr (.inr (.inr (hRow hsv_0 ca')))))) :: (LW G bd (lpk md mch fra fwe fof fsi csh cde csp rd rw rp rco rmo apa awo ash aja abu ltol lchi ljam) ++ hT G 6 hsv_0 ca')) none := by
  unfold fX3_save at hf
  have hf1 := ock hf
  clear hf
  obtain ⟨⟨e1, ha, e2, hb6, hj⟩, hf⟩ := hf1
  generalize ho.toNatClampNeg = a at e1 ha hf
  generalize hcn.toNatClampNeg = b at e2 hb6 hf
  subst e1; subst e2
  cases hf
  generalize hτ : lpk md mch fra fwe fof fsi csh cde csp rd rw rp rco rmo apa awo ash aja abu ltol lchi ljam = τ
  have hj : τ 21 0 = 0 ∨ τ 21 0 = 1 := by rw [← hτ]; exact hj
  refine wr_of (by decide) (Nat.le_of_ble_eq_true rfl) ?_
  intro p e s m args below meth c ls A hx hb hr hml hown hlk hA hZ hP hD hS hA0 hin hl
  replace hown : s.vm.findClass RX3 = some m.cls := hown
  replace hl : lv_has ls 2 [(0, .ref a0), (1, .ref (bd 0))] := hl
  obtain ⟨q1, q2, q3⟩ := svB ha hb6
  -- behind the new numbers
  have K : ∀ (H : Heap) (locs : List Loc), va_P G.1 vwCl ((a0, .inr (3, [.ref aS, .ref aL, .int (nI (svO a b)), .int (nI (svC b))])) :: (aS, .inl (G.2.2.1, 6, .inr (.inr (.inr (.inr (hRow hsv ca)))))) :: (LW G bd τ ++ hT G 6 hsv ca)) H → va_D A ((a0, .inr (3, [.ref aS, .ref aL, .int (nI (svO a b)), .int (nI (svC b))])) :: (aS, .inl (G.2.2.1, 6, .inr (.inr (.inr (.inr (hRow hsv ca)))))) :: (LW G bd τ ++ hT G 6 hsv ca)) → va_S A s.heap H locs →
      W p l e { frames := 5, cells := 13, slots := 168, locals := 109 } s m args below meth c H locs 0 0 (MQ below (Qwr G A (fun ca' => (a0, .inr (3, [.ref aS, .ref aL, .int (nI (svO a b)), .int (nI (svC b))])) :: (aS, .inl (G.2.2.1, 6, .inr (.inr (.inr (.inr (hRow (va_up hsv (svP a b) (some τ)) ca')))))) :: (LW G bd τ ++ hT G 6 (va_up hsv (svP a b) (some τ)) ca')) none) args s 13 168 A) (F0 m 35 ls []) := by
    intro H locs hP hD hS
    refine lv_aload_n hx hb dX3_save_35 rfl (lv_at hl 0 rfl) ?_
    refine va_get (D := G.1) (ci := 3) (C := RX3) (T := TX3) (N := 4) hx hb hA.hts wdx_3 hown hA.K hP 0 rfl rfl 0 (by decide) (hA.hts _ wd_42) (fun _ h9 => h9) (v := .ref aS) rfl dX3_save_36 ?_
    refine lv_aload_n hx hb dX3_save_39 rfl (lv_at hl 0 rfl) ?_
    refine ro_v (n := 0) (As := []) (q0 := 0) (ci := 3) hx hb hml hown hA (kX3_latest l G a0 aS aL (nI (svO a b)) (nI (svC b)) _ (k_latest q1 q3 q2)) (gV wd_138 wd_139 wd_140 (by decide +kernel) wd_44) (by decide +kernel) ⟨Nat.le_of_ble_eq_true rfl, Nat.le_of_ble_eq_true rfl⟩ (hZ.at hS) (hP.sub [0] rfl) rfl rfl rfl hl.1 (Nat.le_of_ble_eq_true rfl) ⟨Nat.zero_le _, Nat.zero_le _⟩ dX3_save_40 ?_
    refine W.eq (g2 := F0 m 43 ls [.int (nI (svP a b)), .ref aS]) rfl ?_
    refine lv_aload_n hx hb dX3_save_43 rfl (lv_at hl 1 rfl) ?_
    refine wr_sP (n := 3) (As := [.ref aS, .int (nI (svP a b)), .ref (bd 0)]) (rest := []) (wr := [(a0, .inr (3, [.ref aS, .ref aL, .int (nI (svO a b)), .int (nI (svC b))]))]) (w2 := fun ca' => (a0, .inr (3, [.ref aS, .ref aL, .int (nI (svO a b)), .int (nI (svC b))])) :: (aS, .inl (G.2.2.1, 6, .inr (.inr (.inr (.inr (hRow (va_up hsv (svP a b) (some τ)) ca')))))) :: (LW G bd τ ++ hT G 6 (va_up hsv (svP a b) (some τ)) ca')) hx hb hml hown hA (kX3_store l G aS bd 6 (svP a b) hsv ca τ (Nat.mod_lt _ (by omega)) (by omega) hj) (gS wd_142 wd_143 (by decide +kernel) wd_137) (by decide +kernel) ⟨Nat.le_of_ble_eq_true rfl, Nat.le_of_ble_eq_true rfl⟩ hZ hP hD hS hA0 (List.Perm.refl _) (fun _ => List.Perm.refl _) rfl hl.1 (Nat.le_of_ble_eq_true rfl) ⟨Nat.le_of_ble_eq_true rfl, Nat.le_of_ble_eq_true rfl⟩ dX3_save_44 (fun ca' H locs hP hD hS => ?_)
    refine W.eq (g2 := F0 m 47 ls []) rfl ?_
    exact wr_vret ca' hx hb hr hlk hP hD hS dX3_save_47
  refine lv_aload_n hx hb dX3_save_0 rfl (lv_at hl 0 rfl) ?_
  refine gf_X3_20 hx hb hown hA hP 0 rfl rfl dX3_save_1 ?_
  refine lv_bipush (v := 6) hx hb dX3_save_4 (by decide) ?_
  refine lv_icmp_ge (tgt := 22) hx hb dX3_save_6 (by decide) (fun c1 => ?_) (fun c1 => ?_)
  · have hb2 : ¬ b < 6 := fun h => absurd c1 (nI_ge (b := 6) h (by decide))
    have eO : svO a b = (a + 1) % 6 := if_neg hb2
    have eC : svC b = b := if_neg hb2
    refine lv_aload_n hx hb dX3_save_22 rfl (lv_at hl 0 rfl) ?_
    refine lv_aload_n hx hb dX3_save_23 rfl (lv_at hl 0 rfl) ?_
    refine gf_X3_24 hx hb hown hA hP 0 rfl rfl dX3_save_24 ?_
    refine lv_iconst (v := 1) hx hb dX3_save_27 (by decide) ?_
    refine lv_iadd hx hb dX3_save_28 ?_
    refine lv_bipush (v := 6) hx hb dX3_save_29 (by decide) ?_
    refine lv_irem hx hb dX3_save_31 (by decide) ?_
    rw [nI_1, show (6 : Int32) = nI 6 from rfl, pk_rem (by omega) (by omega) (by omega), ← eO]
    refine va_put (D := G.1) (ci := 3) (v := .int (nI (svO a b))) (ty := .int) (C := RX3) (T := TX3) (N := 4) hx hb hA.hts wdx_3 tyX3 tyX3_ok nmX3 hown hA.K hP hD hS 0 rfl rfl 2 (by decide) (hA.hts _ wd_45) (fun _ h9 => h9) rfl (by decide +kernel) rfl rfl (Nat.le_of_ble_eq_true rfl) dX3_save_32 (fun H locs hP hD hS => ?_)
    refine K H locs ?_ ?_ hS
    · rw [eC]; exact hP
    · rw [eC]; exact hD
  · have hb2 : b < 6 := by
      rcases Nat.lt_or_ge b 6 with h | h
      · exact h
      · exact absurd (nI_le (a := 6) h (by omega)) c1
    have eO : svO a b = a := if_pos hb2
    have eC : svC b = b + 1 := if_pos hb2
    refine lv_aload_n hx hb dX3_save_9 rfl (lv_at hl 0 rfl) ?_
    refine lv_dup hx hb dX3_save_10 rfl ?_
    refine gf_X3_20 hx hb hown hA hP 0 rfl rfl dX3_save_11 ?_
    refine lv_iconst (v := 1) hx hb dX3_save_14 (by decide) ?_
    refine lv_iadd hx hb dX3_save_15 ?_
    rw [nI_1, ← eC]
    refine va_put (D := G.1) (ci := 3) (v := .int (nI (svC b))) (ty := .int) (C := RX3) (T := TX3) (N := 4) hx hb hA.hts wdx_3 tyX3 tyX3_ok nmX3 hown hA.K hP hD hS 0 rfl rfl 3 (by decide) (hA.hts _ wd_46) (fun _ h9 => h9) rfl (by decide +kernel) rfl rfl (Nat.le_of_ble_eq_true rfl) dX3_save_16 (fun H locs hP hD hS => ?_)
    refine lv_goto (tgt := 35) hx hb dX3_save_19 (by decide) ?_
    refine K H locs ?_ ?_ hS
    · rw [eO]; exact hP
    · rw [eO]; exact hD
set_option maxHeartbeats 4000000 in
set_option maxRecDepth 100000 in
theorem kX3_restoreLatest (l : Launch) (G : GG) (a0 aS aL : Nat) (bd : Nat → Nat) (ca : Nat → Nat → Nat) (ho hcn : Int32) (hsv : Nat → Option LTH) (md : Nat → Int32) (mch : Int32) (fra : Int32) (fwe : Int32) (fof : Int32) (fsi : Int32) (csh : Int32) (cde : Int32) (csp : Int32) (rd : Nat → Int32) (rw : Nat → Int32) (rp : Nat → Int32) (rco : Int32) (rmo : Int32) (apa : Int32) (awo : Int32) (ash : Int32) (aja : Int32) (abu : Int32) (ltol : Int32) (lchi : Int32) (ljam : Int32) (hcn_0 : Int32) (md_0 : Nat → Int32) (mch_0 : Int32) (fra_0 : Int32) (fwe_0 : Int32) (fof_0 : Int32) (fsi_0 : Int32) (csh_0 : Int32) (cde_0 : Int32) (csp_0 : Int32) (rd_0 : Nat → Int32) (rw_0 : Nat → Int32) (rp_0 : Nat → Int32) (rco_0 : Int32) (rmo_0 : Int32) (apa_0 : Int32) (awo_0 : Int32) (ash_0 : Int32) (aja_0 : Int32) (abu_0 : Int32) (ltol_0 : Int32) (lchi_0 : Int32) (ljam_0 : Int32) (hf : fX3_restoreLatest ho hcn hsv = some (hcn_0, md_0, mch_0, fra_0, fwe_0, fof_0, fsi_0, csh_0, cde_0, csp_0, rd_0, rw_0, rp_0, rco_0, rmo_0, apa_0, awo_0, ash_0, aja_0, abu_0, ltol_0, lchi_0, ljam_0)) :
    Wr l G yX3_restoreLatest cX3_restoreLatest 2 none 5 109 0 0 [.ref a0, .ref (bd 0)] ((a0, .inr (3, [.ref aS, .ref aL, .int ho, .int hcn])) :: (aS, .inl (G.2.2.1, 6, .inr (.inr (.inr (.inr (hRow hsv ca)))))) :: (LW G bd (lpk md mch fra fwe fof fsi csh cde csp rd rw rp rco rmo apa awo ash aja abu ltol lchi ljam) ++ hT G 6 hsv ca)) (X := Unit)
      (fun _ => (a0, .inr (3, [.ref aS, .ref aL, .int ho, .int hcn_0])) :: (aS, .inl (G.2.2.1, 6, .inr (.inr (.inr (.inr (hRow hsv ca)))))) :: (LW G bd (lpk md_0 mch_0 fra_0 fwe_0 fof_0 fsi_0 csh_0 cde_0 csp_0 rd_0 rw_0 rp_0 rco_0 rmo_0 apa_0 awo_0 ash_0 aja_0 abu_0 ltol_0 lchi_0 ljam_0) ++ hT G 6 hsv ca)) none := by
  unfold fX3_restoreLatest at hf
  have hf1 := ock hf
  clear hf
  obtain ⟨⟨e1, ha, e2, hb6, hb1⟩, hf⟩ := hf1
  generalize ho.toNatClampNeg = a at e1 ha hf
  generalize hcn.toNatClampNeg = b at e2 hb6 hb1 hf
  subst e1; subst e2
  have hf2 := obd hf
  clear hf
  obtain ⟨σ, hcs, hf⟩ := hf2
  have hf3 := ock hf
  clear hf
  obtain ⟨hj, hf⟩ := hf3
  cases hf
  generalize lpk md mch fra fwe fof fsi csh cde csp rd rw rp rco rmo apa awo ash aja abu ltol lchi ljam = τ
  refine wr_of (by decide) (Nat.le_of_ble_eq_true rfl) ?_
  intro p e s m args below meth c ls A hx hb hr hml hown hlk hA hZ hP hD hS hA0 hin hl
  replace hown : s.vm.findClass RX3 = some m.cls := hown
  replace hl : lv_has ls 2 [(0, .ref a0), (1, .ref (bd 0))] := hl
  refine lv_aload_n hx hb dX3_restoreLatest_0 rfl (lv_at hl 0 rfl) ?_
  refine gf_X3_20 hx hb hown hA hP 0 rfl rfl dX3_restoreLatest_1 ?_
  refine lv_if_le (tgt := 29) hx hb dX3_restoreLatest_4 (by decide) (fun c1 => absurd c1 (nI_nle (by omega) (by omega))) (fun _ => ?_)
  refine lv_aload_n hx hb dX3_restoreLatest_7 rfl (lv_at hl 0 rfl) ?_
  refine va_get (D := G.1) (ci := 3) (C := RX3) (T := TX3) (N := 4) hx hb hA.hts wdx_3 hown hA.K hP 0 rfl rfl 0 (by decide) (hA.hts _ wd_42) (fun _ h9 => h9) (v := .ref aS) rfl dX3_restoreLatest_8 ?_
  refine lv_aload_n hx hb dX3_restoreLatest_11 rfl (lv_at hl 0 rfl) ?_
  refine ro_v (n := 0) (As := []) (q0 := 0) (ci := 3) hx hb hml hown hA (kX3_latest l G a0 aS aL (nI a) (nI b) _ (k_latest ha hb6 hb1)) (gV wd_138 wd_139 wd_140 (by decide +kernel) wd_44) (by decide +kernel) ⟨Nat.le_of_ble_eq_true rfl, Nat.le_of_ble_eq_true rfl⟩ (hZ.at hS) (hP.sub [0] rfl) rfl rfl rfl hl.1 (Nat.le_of_ble_eq_true rfl) ⟨Nat.zero_le _, Nat.zero_le _⟩ dX3_restoreLatest_12 ?_
  refine W.eq (g2 := F0 m 15 ls [.int (nI ((a + b - 1) % 6)), .ref aS]) rfl ?_
  refine lv_aload_n hx hb dX3_restoreLatest_15 rfl (lv_at hl 1 rfl) ?_
  refine wr_sP (n := 3) (As := [.ref aS, .int (nI ((a + b - 1) % 6)), .ref (bd 0)]) (rest := []) (wr := [(a0, .inr (3, [.ref aS, .ref aL, .int (nI a), .int (nI b)]))]) (w2 := fun _ => (a0, .inr (3, [.ref aS, .ref aL, .int (nI a), .int (nI b)])) :: (aS, .inl (G.2.2.1, 6, .inr (.inr (.inr (.inr (hRow hsv ca)))))) :: (LW G bd σ ++ hT G 6 hsv ca)) hx hb hml hown hA (kX3_fetch l G aS bd 6 ((a + b - 1) % 6) hsv ca τ σ (Nat.mod_lt _ (by omega)) (by omega) hcs hj) (gS wd_146 wd_147 (by decide +kernel) wd_145) (by decide +kernel) ⟨Nat.le_of_ble_eq_true rfl, Nat.le_of_ble_eq_true rfl⟩ hZ hP hD hS hA0 (List.Perm.refl _) (fun _ => List.Perm.refl _) rfl hl.1 (Nat.le_of_ble_eq_true rfl) ⟨Nat.le_of_ble_eq_true rfl, Nat.le_of_ble_eq_true rfl⟩ dX3_restoreLatest_16 (fun _ H locs hP hD hS => ?_)
  refine W.eq (g2 := F0 m 19 ls []) rfl ?_
  refine lv_aload_n hx hb dX3_restoreLatest_19 rfl (lv_at hl 0 rfl) ?_
  refine lv_dup hx hb dX3_restoreLatest_20 rfl ?_
  refine gf_X3_20 hx hb hown hA hP 0 rfl rfl dX3_restoreLatest_21 ?_
  refine lv_iconst (v := 1) hx hb dX3_restoreLatest_24 (by decide) ?_
  refine lv_isub hx hb dX3_restoreLatest_25 ?_
  rw [show (1 : Int32) = nI 1 from rfl, pk_sub hb1]
  refine va_put (D := G.1) (ci := 3) (v := .int (nI (b - 1))) (ty := .int) (C := RX3) (T := TX3) (N := 4) hx hb hA.hts wdx_3 tyX3 tyX3_ok nmX3 hown hA.K hP hD hS 0 rfl rfl 3 (by decide) (hA.hts _ wd_46) (fun _ h9 => h9) rfl (by decide +kernel) rfl rfl (Nat.le_of_ble_eq_true rfl) dX3_restoreLatest_26 (fun H locs hP hD hS => ?_)
  exact wr_vret (w' := fun _ : Unit => (a0, .inr (3, [.ref aS, .ref aL, .int (nI a), .int (nI (b - 1))])) :: (aS, .inl (G.2.2.1, 6, .inr (.inr (.inr (.inr (hRow hsv ca)))))) :: (LW G bd σ ++ hT G 6 hsv ca)) () hx hb hr hlk hP hD hS dX3_restoreLatest_29
end HC
