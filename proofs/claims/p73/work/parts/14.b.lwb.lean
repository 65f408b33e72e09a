section LWB
variable {Z : Nat → Int} {md rd rw rp wa le : Nat → Int32}
theorem l_areReadings (hmd : ∀ j : Nat, j < 48 → md j = zI (Z j)) (hR : Rg Z) (wa : Nat → Int32) : ∃ wa2 : Nat → Int32, fL_areReadings md (zI (Z 48)) (zI (Z 49)) (zI (Z 50)) (zI (Z 52)) (zI (Z 53)) (zI (Z 54)) (zI (Z 57)) wa = some (1, wa2) := by
  have hsh := hR.sh
  have hde := hR.de
  have hwe := hR.we
  have hch := hR.chi
  have hra := hR.ra
  have hlo := lo_b (Z := Z)
  have hl0 : Z 49 = 0 → loZ Z = 0 := fun h => lo_0 hR h
  have e1 := r_cutDepth hR
  have e9 := zcX9_lostGrooves hmd hR
  obtain ⟨wa2, eL⟩ := ar_L hmd hR 16 0 2000 0 wa (by omega) (by omega)
  have eL : fL_areReadings_L103 md (zI (Z 48)) (zI (Z 49)) (zI (Z 50)) (zI (Z 52)) 2000 (zI 0) (zI 0) wa = some (zI (loZ Z), wa2) := eL
  rw [← zL0] at eL
  refine ⟨wa2, ?_⟩
  unfold fL_areReadings
  by_cases c1 : Z 53 = 0
  · have hcu : cuZ Z = 0 := by unfold cuZ; rw [if_pos c1]
    by_cases c2 : 0 < Z 49
    all_goals repeat (first | with_reducible exact rfl | with_reducible refine (obE (show fX9_sharpness (zI (Z 53)) = some (zI (Z 53)) from rfl)).trans ?_ | with_reducible refine (obE (show fX9_depth (zI (Z 54)) = some (zI (Z 54)) from rfl)).trans ?_ | with_reducible refine (obE (show fX9_wear (zI (Z 50)) = some (zI (Z 50)) from rfl)).trans ?_ | with_reducible refine (obE (show fX9_chips (zI (Z 57)) = some (zI (Z 57)) from rfl)).trans ?_ | with_reducible refine (obE (show fX9_radius (zI (Z 49)) = some (zI (Z 49)) from rfl)).trans ?_ | with_reducible refine (obE (show fX9_roomForChips (zI (Z 57)) = some (200 - zI (Z 57)) from rfl)).trans ?_ | with_reducible refine (obE e1).trans ?_ | with_reducible refine (obE eL).trans ?_ | with_reducible refine (obE e9).trans ?_ | with_reducible refine (if_pos (by simp (disch := omega) only [zL0, zL1, zL2, zL3, zL5, zL6, zL7, zL8, zL9, zL15, zL16, zL20, zL30, zL50, zL99, zL100, zL120, zL200, zI_add, zI_sub, zI_mul, zI_div, zI_le, zI_lt, zI_eq, -eq_self]; omega)).trans ?_ | with_reducible refine (if_neg (by simp (disch := omega) only [zL0, zL1, zL2, zL3, zL5, zL6, zL7, zL8, zL9, zL15, zL16, zL20, zL30, zL50, zL99, zL100, zL120, zL200, zI_add, zI_sub, zI_mul, zI_div, zI_le, zI_lt, zI_eq, -eq_self]; omega)).trans ?_ | fail)
  · by_cases c3 : 50 ≤ Z 53
    · have hcu : cuZ Z = Z 54 := by unfold cuZ; rw [if_neg c1, if_pos c3]
      by_cases c2 : 0 < Z 49
      all_goals repeat (first | with_reducible exact rfl | with_reducible refine (obE (show fX9_sharpness (zI (Z 53)) = some (zI (Z 53)) from rfl)).trans ?_ | with_reducible refine (obE (show fX9_depth (zI (Z 54)) = some (zI (Z 54)) from rfl)).trans ?_ | with_reducible refine (obE (show fX9_wear (zI (Z 50)) = some (zI (Z 50)) from rfl)).trans ?_ | with_reducible refine (obE (show fX9_chips (zI (Z 57)) = some (zI (Z 57)) from rfl)).trans ?_ | with_reducible refine (obE (show fX9_radius (zI (Z 49)) = some (zI (Z 49)) from rfl)).trans ?_ | with_reducible refine (obE (show fX9_roomForChips (zI (Z 57)) = some (200 - zI (Z 57)) from rfl)).trans ?_ | with_reducible refine (obE e1).trans ?_ | with_reducible refine (obE eL).trans ?_ | with_reducible refine (obE e9).trans ?_ | with_reducible refine (if_pos (by simp (disch := omega) only [zL0, zL1, zL2, zL3, zL5, zL6, zL7, zL8, zL9, zL15, zL16, zL20, zL30, zL50, zL99, zL100, zL120, zL200, zI_add, zI_sub, zI_mul, zI_div, zI_le, zI_lt, zI_eq, -eq_self]; omega)).trans ?_ | with_reducible refine (if_neg (by simp (disch := omega) only [zL0, zL1, zL2, zL3, zL5, zL6, zL7, zL8, zL9, zL15, zL16, zL20, zL30, zL50, zL99, zL100, zL120, zL200, zI_add, zI_sub, zI_mul, zI_div, zI_le, zI_lt, zI_eq, -eq_self]; omega)).trans ?_ | fail)
    · have hcu : cuZ Z = (Z 54 + 1) / 2 := by unfold cuZ; rw [if_neg c1, if_neg c3]
      by_cases c2 : 0 < Z 49
      all_goals repeat (first | with_reducible exact rfl | with_reducible refine (obE (show fX9_sharpness (zI (Z 53)) = some (zI (Z 53)) from rfl)).trans ?_ | with_reducible refine (obE (show fX9_depth (zI (Z 54)) = some (zI (Z 54)) from rfl)).trans ?_ | with_reducible refine (obE (show fX9_wear (zI (Z 50)) = some (zI (Z 50)) from rfl)).trans ?_ | with_reducible refine (obE (show fX9_chips (zI (Z 57)) = some (zI (Z 57)) from rfl)).trans ?_ | with_reducible refine (obE (show fX9_radius (zI (Z 49)) = some (zI (Z 49)) from rfl)).trans ?_ | with_reducible refine (obE (show fX9_roomForChips (zI (Z 57)) = some (200 - zI (Z 57)) from rfl)).trans ?_ | with_reducible refine (obE e1).trans ?_ | with_reducible refine (obE eL).trans ?_ | with_reducible refine (obE e9).trans ?_ | with_reducible refine (if_pos (by simp (disch := omega) only [zL0, zL1, zL2, zL3, zL5, zL6, zL7, zL8, zL9, zL15, zL16, zL20, zL30, zL50, zL99, zL100, zL120, zL200, zI_add, zI_sub, zI_mul, zI_div, zI_le, zI_lt, zI_eq, -eq_self]; omega)).trans ?_ | with_reducible refine (if_neg (by simp (disch := omega) only [zL0, zL1, zL2, zL3, zL5, zL6, zL7, zL8, zL9, zL15, zL16, zL20, zL30, zL50, zL99, zL100, zL120, zL200, zI_add, zI_sub, zI_mul, zI_div, zI_le, zI_lt, zI_eq, -eq_self]; omega)).trans ?_ | fail)
theorem ap_50 (hmd : ∀ j : Nat, j < 48 → md j = zI (Z j)) (hrd : rdO Z rd) (hR : Rg Z) {q : Nat} (hq : (q : Int) < Z 59) : fL_arePieces_L50 md (zI (Z 48)) (zI (Z 49)) (zI (Z 50)) (zI (Z 52)) rd (zI (Z 59)) (zI q) 2000 0 0 = some (zI (alZ Z q)) := by
  have h5 := idx5 hR hq
  exact acc16 (fun n v i => fL_arePieces_L50 md (zI (Z 48)) (zI (Z 49)) (zI (Z 50)) (zI (Z 52)) rd (zI (Z 59)) (zI q) n v i) (fun i v => v + abZ Z q i) (by
      intro n v
      try dsimp only
      rw [fL_arePieces_L50]
      exact ite_t (by decide)) (by
      intro n i v hi hv
      try dsimp only
      have e1 := r_diameterAt hrd hR hq hi
      have e2 := r_targetAt hmd hR hi
      have hd := hR.di h5 hi
      have hd : 0 ≤ dZ Z q i ∧ dZ Z q i ≤ 120 ∧ ((q : Int) < Z 59 → 1 ≤ dZ Z q i) := hd
      have htb := tgZ_b hR i
      rw [fL_arePieces_L50]
      by_cases c : dZ Z q i - tgZ Z i ≤ 0
      · have hab : abZ Z q i = 0 := by unfold abZ; omega
        repeat (first | with_reducible refine (obE e1).trans ?_ | with_reducible refine (obE e2).trans ?_ | with_reducible refine (if_pos (by simp (disch := omega) only [zL0, zL1, zL2, zL3, zL5, zL6, zL7, zL8, zL9, zL15, zL16, zL20, zL30, zL50, zL99, zL100, zL120, zL200, zI_add, zI_sub, zI_mul, zI_div, zI_le, zI_lt, zI_eq, -eq_self]; omega)).trans ?_ | with_reducible refine (if_neg (by simp (disch := omega) only [zL0, zL1, zL2, zL3, zL5, zL6, zL7, zL8, zL9, zL15, zL16, zL20, zL30, zL50, zL99, zL100, zL120, zL200, zI_add, zI_sub, zI_mul, zI_div, zI_le, zI_lt, zI_eq, -eq_self]; omega)).trans ?_ | fail)
        rw [hab, zL0, zL1, zI_add, zI_add]
      · have hab : abZ Z q i = dZ Z q i - tgZ Z i := by unfold abZ; omega
        repeat (first | with_reducible refine (obE e1).trans ?_ | with_reducible refine (obE e2).trans ?_ | with_reducible refine (if_pos (by simp (disch := omega) only [zL0, zL1, zL2, zL3, zL5, zL6, zL7, zL8, zL9, zL15, zL16, zL20, zL30, zL50, zL99, zL100, zL120, zL200, zI_add, zI_sub, zI_mul, zI_div, zI_le, zI_lt, zI_eq, -eq_self]; omega)).trans ?_ | with_reducible refine (if_neg (by simp (disch := omega) only [zL0, zL1, zL2, zL3, zL5, zL6, zL7, zL8, zL9, zL15, zL16, zL20, zL30, zL50, zL99, zL100, zL120, zL200, zI_add, zI_sub, zI_mul, zI_div, zI_le, zI_lt, zI_eq, -eq_self]; omega)).trans ?_ | fail)
        rw [hab, zL1, zI_sub, zI_add, zI_add]) (by
      intro i v hi hv
      try dsimp only
      have := abZ_b hR h5 hi
      omega)
theorem ap_L (hmd : ∀ j : Nat, j < 48 → md j = zI (Z j)) (hrd : rdO Z rd) (hR : Rg Z) {N b : Nat} (hN : Z 59 = N) (hb : 0 < N → b < N ∧ ∀ j, j < N → faZ Z b ≤ faZ Z j) : ∀ (k q n : Nat), q + k = N → k < n → fL_arePieces_L32 md (zI (Z 48)) (zI (Z 49)) (zI (Z 50)) (zI (Z 52)) rd (zI (Z 59)) (zI (Z 56)) (zI b) n (zI q) = some () := by
  intro k
  induction k with
  | zero =>
    intro q n e hn
    obtain ⟨m, rfl⟩ : ∃ m, n = m + 1 := ⟨n - 1, by omega⟩
    have hco := hR.co
    rw [fL_arePieces_L32]
    refine (obE (show fX9_pieces (zI (Z 59)) = some (zI (Z 59)) from rfl)).trans ?_
    exact if_pos (by rw [zI_le (by omega)]; omega)
  | succ k ih =>
    intro q n e hn
    obtain ⟨m, rfl⟩ : ∃ m, n = m + 1 := ⟨n - 1, by omega⟩
    have hco := hR.co
    have hto := hR.to
    have hch := hR.ch
    have hq : (q : Int) < Z 59 := by omega
    have h5 := idx5 hR hq
    obtain ⟨hb1, hb2⟩ := hb (by omega)
    have hfb := hb2 q (by omega)
    have f1 := faZ_b (Z := Z) (q := q)
    have f2 := faZ_b (Z := Z) (q := b)
    have t1 := tk_b hR h5 (s := 1) (Or.inl rfl)
    have t2 := tk_b hR h5 (s := -1) (Or.inr rfl)
    have a1 := alZ_b hR h5
    have hfa := fa_0 hR (q := q)
    have hli : tkZ Z q 1 ≤ 0 → tkZ Z q (-1) ≤ 0 → (liZ Z q : Int) ≤ Z 48 := fun x y => li_le hR h5 x y
    have hs1 := sdZ_p hR h5 hq
    have hs2 := sdZ_b hR h5
    obtain ⟨d1, d2, d3⟩ := db_ok (n := sdZ Z q) ⟨hs1, hs2.2⟩
    have e1 := ap_50 hmd hrd hR hq
    have e2 := r_tooThick hmd hrd hR hq
    have e3 := r_tooThin hmd hrd hR hq
    have e4 := r_chipsOf hmd hrd hR hq
    have e5 := r_isGood hmd hrd hR hq
    have e6 := r_faultsOf hmd hrd hR hq
    have e7 := r_faultsOf hmd hrd hR (q := b) (by omega)
    have e8 := r_meanDiameter hrd hR hq
    have e9 := l_sumOf hrd hR hq
    have e10 := r_mostLike hmd hrd hR hq
    have ih2 := ih (q + 1) m (by omega) (by omega)
    rw [show ((q + 1 : Nat) : Int) = (q : Int) + 1 by omega] at ih2
    rw [fL_arePieces_L32]
    by_cases c1 : faZ Z q = 0
    · rw [if_pos c1] at e5
      by_cases c2 : 0 < tkZ Z q 1
      all_goals by_cases c3 : 0 < tkZ Z q (-1)
      all_goals first
        | (exfalso; omega)
        | (repeat (first | with_reducible refine (obE (show fX9_pieces (zI (Z 59)) = some (zI (Z 59)) from rfl)).trans ?_ | with_reducible refine (obE (show fX9_tolerance (zI (Z 56)) = some (zI (Z 56)) from rfl)).trans ?_ | with_reducible refine (obE (show fX9_chosenMaster (zI (Z 48)) = some (zI (Z 48)) from rfl)).trans ?_ | with_reducible refine (obE e1).trans ?_ | with_reducible refine (obE e2).trans ?_ | with_reducible refine (obE e3).trans ?_ | with_reducible refine (obE e4).trans ?_ | with_reducible refine (obE e5).trans ?_ | with_reducible refine (obE e6).trans ?_ | with_reducible refine (obE e7).trans ?_ | with_reducible refine (obE e8).trans ?_ | with_reducible refine (obE e9).trans ?_ | with_reducible refine (obE e10).trans ?_ | with_reducible refine (if_pos d1).trans ?_ | with_reducible refine (if_pos d2).trans ?_ | with_reducible refine (if_neg d3).trans ?_ | with_reducible refine (if_pos (by simp (disch := omega) only [zL0, zL1, zL2, zL3, zL5, zL6, zL7, zL8, zL9, zL15, zL16, zL20, zL30, zL50, zL99, zL100, zL120, zL200, zI_add, zI_sub, zI_mul, zI_div, zI_le, zI_lt, zI_eq, -eq_self]; omega)).trans ?_ | with_reducible refine (if_neg (by simp (disch := omega) only [zL0, zL1, zL2, zL3, zL5, zL6, zL7, zL8, zL9, zL15, zL16, zL20, zL30, zL50, zL99, zL100, zL120, zL200, zI_add, zI_sub, zI_mul, zI_div, zI_le, zI_lt, zI_eq, -eq_self]; omega)).trans ?_ | fail)
           rw [zL1, zI_add]
           exact ih2)
    · rw [if_neg c1] at e5
      by_cases c4 : Z 56 < tkZ Z q 1
      all_goals by_cases c2 : 0 < tkZ Z q 1
      all_goals by_cases c3 : 0 < tkZ Z q (-1)
      all_goals first
        | (exfalso; omega)
        | (repeat (first | with_reducible refine (obE (show fX9_pieces (zI (Z 59)) = some (zI (Z 59)) from rfl)).trans ?_ | with_reducible refine (obE (show fX9_tolerance (zI (Z 56)) = some (zI (Z 56)) from rfl)).trans ?_ | with_reducible refine (obE (show fX9_chosenMaster (zI (Z 48)) = some (zI (Z 48)) from rfl)).trans ?_ | with_reducible refine (obE e1).trans ?_ | with_reducible refine (obE e2).trans ?_ | with_reducible refine (obE e3).trans ?_ | with_reducible refine (obE e4).trans ?_ | with_reducible refine (obE e5).trans ?_ | with_reducible refine (obE e6).trans ?_ | with_reducible refine (obE e7).trans ?_ | with_reducible refine (obE e8).trans ?_ | with_reducible refine (obE e9).trans ?_ | with_reducible refine (obE e10).trans ?_ | with_reducible refine (if_pos d1).trans ?_ | with_reducible refine (if_pos d2).trans ?_ | with_reducible refine (if_neg d3).trans ?_ | with_reducible refine (if_pos (by simp (disch := omega) only [zL0, zL1, zL2, zL3, zL5, zL6, zL7, zL8, zL9, zL15, zL16, zL20, zL30, zL50, zL99, zL100, zL120, zL200, zI_add, zI_sub, zI_mul, zI_div, zI_le, zI_lt, zI_eq, -eq_self]; omega)).trans ?_ | with_reducible refine (if_neg (by simp (disch := omega) only [zL0, zL1, zL2, zL3, zL5, zL6, zL7, zL8, zL9, zL15, zL16, zL20, zL30, zL50, zL99, zL100, zL120, zL200, zI_add, zI_sub, zI_mul, zI_div, zI_le, zI_lt, zI_eq, -eq_self]; omega)).trans ?_ | fail)
           rw [zL1, zI_add]
           exact ih2)
theorem l_arePieces (hca : CA Z md rd rw rp) (hR : Rg Z) (le : Nat → Int32) : ∃ le2 : Nat → Int32, fL_arePieces md (zI (Z 48)) (zI (Z 49)) (zI (Z 50)) (zI (Z 52)) (zI (Z 53)) (zI (Z 54)) (zI (Z 55)) rd rw (zI (Z 59)) (zI (Z 60)) (zI (Z 56)) le = some (1, le2) := by
  obtain ⟨hmd, hrd, hrw, hrp⟩ := hca
  have hco := hR.co
  have hmo := hR.mo
  have hsh := hR.sh
  obtain ⟨N, hN⟩ : ∃ N : Nat, Z 59 = N := ⟨(Z 59).toNat, by omega⟩
  have e2 := r_hasMounted hR
  by_cases c0 : Z 59 = 0
  · have e1 := ap_L hmd hrd hR (b := 0) hN (fun h => absurd h (by omega)) N 0 2000 (by omega) (by omega)
    have e1 : fL_arePieces_L32 md (zI (Z 48)) (zI (Z 49)) (zI (Z 50)) (zI (Z 52)) rd (zI (Z 59)) (zI (Z 56)) (zI 0) 2000 (zI 0) = some () := e1
    rw [← zL0] at e1
    have c1 : Z 60 = -1 := by omega
    rw [if_pos c1] at e2
    refine ⟨le, ?_⟩
    unfold fL_arePieces
    repeat (first | with_reducible exact rfl | with_reducible refine (obE (show fX9_pieces (zI (Z 59)) = some (zI (Z 59)) from rfl)).trans ?_ | with_reducible refine (obE (show fX9_sharpness (zI (Z 53)) = some (zI (Z 53)) from rfl)).trans ?_ | with_reducible refine (obE e1).trans ?_ | with_reducible refine (obE e2).trans ?_ | with_reducible refine (if_pos (by simp (disch := omega) only [zL0, zL1, zL2, zL3, zL5, zL6, zL7, zL8, zL9, zL15, zL16, zL20, zL30, zL50, zL99, zL100, zL120, zL200, zI_add, zI_sub, zI_mul, zI_div, zI_le, zI_lt, zI_eq, -eq_self]; omega)).trans ?_ | with_reducible refine (if_neg (by simp (disch := omega) only [zL0, zL1, zL2, zL3, zL5, zL6, zL7, zL8, zL9, zL15, zL16, zL20, zL30, zL50, zL99, zL100, zL120, zL200, zI_add, zI_sub, zI_mul, zI_div, zI_le, zI_lt, zI_eq, -eq_self]; omega)).trans ?_ | fail)
  · have hbe := be_min (Z := Z) (N := N) (by omega)
    have e3 := r_bestCopy hmd hrd hR hN (by omega)
    have e1 := ap_L hmd hrd hR hN (fun _ => hbe) N 0 2000 (by omega) (by omega)
    have e1 : fL_arePieces_L32 md (zI (Z 48)) (zI (Z 49)) (zI (Z 50)) (zI (Z 52)) rd (zI (Z 59)) (zI (Z 56)) (zI (beZ Z N : Nat)) 2000 (zI 0) = some () := e1
    rw [← zL0] at e1
    by_cases c1 : Z 60 = -1
    · rw [if_pos c1] at e2
      refine ⟨le, ?_⟩
      unfold fL_arePieces
      repeat (first | with_reducible exact rfl | with_reducible refine (obE (show fX9_pieces (zI (Z 59)) = some (zI (Z 59)) from rfl)).trans ?_ | with_reducible refine (obE (show fX9_sharpness (zI (Z 53)) = some (zI (Z 53)) from rfl)).trans ?_ | with_reducible refine (obE e1).trans ?_ | with_reducible refine (obE e2).trans ?_ | with_reducible refine (obE e3).trans ?_ | with_reducible refine (if_pos (by simp (disch := omega) only [zL0, zL1, zL2, zL3, zL5, zL6, zL7, zL8, zL9, zL15, zL16, zL20, zL30, zL50, zL99, zL100, zL120, zL200, zI_add, zI_sub, zI_mul, zI_div, zI_le, zI_lt, zI_eq, -eq_self]; omega)).trans ?_ | with_reducible refine (if_neg (by simp (disch := omega) only [zL0, zL1, zL2, zL3, zL5, zL6, zL7, zL8, zL9, zL15, zL16, zL20, zL30, zL50, zL99, zL100, zL120, zL200, zI_add, zI_sub, zI_mul, zI_div, zI_le, zI_lt, zI_eq, -eq_self]; omega)).trans ?_ | fail)
    · rw [if_neg c1] at e2
      obtain ⟨q, hm, h5, hq⟩ := moN hR c1
      have a1 := alZ_b hR h5
      have a2 := moZ_b hR h5
      have hma := mo_al hR h5
      have hbl := blZ_b hR (q := q)
      have hd1 := dv_0 (a := Z 53) (b := blZ Z q) (by omega) (by omega)
      have hcu := cuZ_b hR
      have e4 := r_mounted hR c1
      have e5 := r_isFinished hmd hrd hR hm h5
      have e6 : fX9_chipsOf md (zI (Z 48)) (zI (Z 49)) (zI (Z 50)) (zI (Z 52)) rd (zI (Z 59)) (zI (Z 60)) = some (.inr (zI (alZ Z q))) := by rw [hm]; exact r_chipsOf hmd hrd hR hq
      have e7 := r_passesUntilBlunt hrw hR hm h5
      have hdb : 0 ≤ dvZ (Z 53) (blZ Z q) ∧ dvZ (Z 53) (blZ Z q) ≤ 1000 := by
        unfold dvZ
        refine ⟨Int.ediv_nonneg (by omega) (by omega), Int.le_trans (Int.ediv_le_self _ (by omega)) (by omega)⟩
      by_cases c2 : Z 53 = 0
      · by_cases c3 : moZ Z q = 0
        · rw [if_pos c3] at e5
          refine ⟨le, ?_⟩
          unfold fL_arePieces
          repeat (first | with_reducible exact rfl | with_reducible refine (obE (show fX9_pieces (zI (Z 59)) = some (zI (Z 59)) from rfl)).trans ?_ | with_reducible refine (obE (show fX9_sharpness (zI (Z 53)) = some (zI (Z 53)) from rfl)).trans ?_ | with_reducible refine (obE e1).trans ?_ | with_reducible refine (obE e2).trans ?_ | with_reducible refine (obE e3).trans ?_ | with_reducible refine (obE e4).trans ?_ | with_reducible refine (obE e5).trans ?_ | with_reducible refine (obE e6).trans ?_ | with_reducible refine (obE e7).trans ?_ | with_reducible refine (if_pos (by simp (disch := omega) only [zL0, zL1, zL2, zL3, zL5, zL6, zL7, zL8, zL9, zL15, zL16, zL20, zL30, zL50, zL99, zL100, zL120, zL200, zI_add, zI_sub, zI_mul, zI_div, zI_le, zI_lt, zI_eq, -eq_self]; omega)).trans ?_ | with_reducible refine (if_neg (by simp (disch := omega) only [zL0, zL1, zL2, zL3, zL5, zL6, zL7, zL8, zL9, zL15, zL16, zL20, zL30, zL50, zL99, zL100, zL120, zL200, zI_add, zI_sub, zI_mul, zI_div, zI_le, zI_lt, zI_eq, -eq_self]; omega)).trans ?_ | fail)
        · rw [if_neg c3] at e5
          refine ⟨le, ?_⟩
          unfold fL_arePieces
          repeat (first | with_reducible exact rfl | with_reducible refine (obE (show fX9_pieces (zI (Z 59)) = some (zI (Z 59)) from rfl)).trans ?_ | with_reducible refine (obE (show fX9_sharpness (zI (Z 53)) = some (zI (Z 53)) from rfl)).trans ?_ | with_reducible refine (obE e1).trans ?_ | with_reducible refine (obE e2).trans ?_ | with_reducible refine (obE e3).trans ?_ | with_reducible refine (obE e4).trans ?_ | with_reducible refine (obE e5).trans ?_ | with_reducible refine (obE e6).trans ?_ | with_reducible refine (obE e7).trans ?_ | with_reducible refine (if_pos (by simp (disch := omega) only [zL0, zL1, zL2, zL3, zL5, zL6, zL7, zL8, zL9, zL15, zL16, zL20, zL30, zL50, zL99, zL100, zL120, zL200, zI_add, zI_sub, zI_mul, zI_div, zI_le, zI_lt, zI_eq, -eq_self]; omega)).trans ?_ | with_reducible refine (if_neg (by simp (disch := omega) only [zL0, zL1, zL2, zL3, zL5, zL6, zL7, zL8, zL9, zL15, zL16, zL20, zL30, zL50, zL99, zL100, zL120, zL200, zI_add, zI_sub, zI_mul, zI_div, zI_le, zI_lt, zI_eq, -eq_self]; omega)).trans ?_ | fail)
      · obtain ⟨le1, e8⟩ := r_passesBySteps hmd hrd hR hm h5 c2 le
        obtain ⟨le2, e9⟩ := r_passesBySteps hmd hrd hR hm h5 c2 le1
        have e10 := r_passesByDivision hmd hrd hR hm h5 c2
        have hd2 := dv_0 (a := moZ Z q) (b := cuZ Z) (by omega) (by omega)
        have hdf := dvF a2 (c := cuZ Z) (by omega)
        have hd3 : 0 ≤ dvZ (moZ Z q) (cuZ Z) ∧ dvZ (moZ Z q) (cuZ Z) ≤ 119 := ⟨hdf.1, hdf.2.1⟩
        clear hdf
        by_cases c3 : moZ Z q = 0
        · rw [if_pos c3] at e5
          refine ⟨le2, ?_⟩
          unfold fL_arePieces
          repeat (first | with_reducible exact rfl | with_reducible refine (obE (show fX9_pieces (zI (Z 59)) = some (zI (Z 59)) from rfl)).trans ?_ | with_reducible refine (obE (show fX9_sharpness (zI (Z 53)) = some (zI (Z 53)) from rfl)).trans ?_ | with_reducible refine (obE e1).trans ?_ | with_reducible refine (obE e2).trans ?_ | with_reducible refine (obE e3).trans ?_ | with_reducible refine (obE e4).trans ?_ | with_reducible refine (obE e5).trans ?_ | with_reducible refine (obE e6).trans ?_ | with_reducible refine (obE e7).trans ?_ | with_reducible refine (obE e8).trans ?_ | with_reducible refine (obE e9).trans ?_ | with_reducible refine (obE e10).trans ?_ | with_reducible refine (if_pos (by simp (disch := omega) only [zL0, zL1, zL2, zL3, zL5, zL6, zL7, zL8, zL9, zL15, zL16, zL20, zL30, zL50, zL99, zL100, zL120, zL200, zI_add, zI_sub, zI_mul, zI_div, zI_le, zI_lt, zI_eq, -eq_self]; omega)).trans ?_ | with_reducible refine (if_neg (by simp (disch := omega) only [zL0, zL1, zL2, zL3, zL5, zL6, zL7, zL8, zL9, zL15, zL16, zL20, zL30, zL50, zL99, zL100, zL120, zL200, zI_add, zI_sub, zI_mul, zI_div, zI_le, zI_lt, zI_eq, -eq_self]; omega)).trans ?_ | fail)
        · rw [if_neg c3] at e5
          refine ⟨le2, ?_⟩
          unfold fL_arePieces
          repeat (first | with_reducible exact rfl | with_reducible refine (obE (show fX9_pieces (zI (Z 59)) = some (zI (Z 59)) from rfl)).trans ?_ | with_reducible refine (obE (show fX9_sharpness (zI (Z 53)) = some (zI (Z 53)) from rfl)).trans ?_ | with_reducible refine (obE e1).trans ?_ | with_reducible refine (obE e2).trans ?_ | with_reducible refine (obE e3).trans ?_ | with_reducible refine (obE e4).trans ?_ | with_reducible refine (obE e5).trans ?_ | with_reducible refine (obE e6).trans ?_ | with_reducible refine (obE e7).trans ?_ | with_reducible refine (obE e8).trans ?_ | with_reducible refine (obE e9).trans ?_ | with_reducible refine (obE e10).trans ?_ | with_reducible refine (if_pos (by simp (disch := omega) only [zL0, zL1, zL2, zL3, zL5, zL6, zL7, zL8, zL9, zL15, zL16, zL20, zL30, zL50, zL99, zL100, zL120, zL200, zI_add, zI_sub, zI_mul, zI_div, zI_le, zI_lt, zI_eq, -eq_self]; omega)).trans ?_ | with_reducible refine (if_neg (by simp (disch := omega) only [zL0, zL1, zL2, zL3, zL5, zL6, zL7, zL8, zL9, zL15, zL16, zL20, zL30, zL50, zL99, zL100, zL120, zL200, zI_add, zI_sub, zI_mul, zI_div, zI_le, zI_lt, zI_eq, -eq_self]; omega)).trans ?_ | fail)
end LWB
