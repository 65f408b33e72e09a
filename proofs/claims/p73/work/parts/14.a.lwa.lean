/-! what the law looks at: the hash of all, readings, pieces -/
theorem tb58 {Z : Nat → Int} (hR : Rg Z) : 0 ≤ Z 58 ∧ Z 58 ≤ 1 := by rcases hR.ja with h | h <;> omega
section LWA
variable {Z : Nat → Int} {md rd rw rp wa le : Nat → Int32}
theorem lk_1 (hmd : ∀ j : Nat, j < 48 → md j = zI (Z j)) (h : Int64) : fL_looks_L193 md 2000 h 0 = some (zit (fun i h => 31 * h + (zI (Z i)).toInt64) 0 48 h) := by
  have key := loopG (S := Int64) (L := fun n i h => fL_looks_L193 md n h (zI (i : Int))) (g := fun i h => 31 * h + (zI (Z i)).toInt64) (N := 48) (P := fun _ _ => True) (out := id) (by
      intro n h hp
      try dsimp only
      rw [fL_looks_L193]
      exact ite_t (by decide)) (by
      intro n i h hi hp
      try dsimp only
      have e : fX9_masterAt md (zI (i : Int) / 16) (zI (i : Int) - zI (i : Int) / 16 * 16) = some (.inr (zI (Z i))) := by
        rw [zL16, zI_div (by omega), zI_mul, zI_sub, show (i : Int) / 16 = ((i / 16 : Nat) : Int) by omega, show (i : Int) - ((i / 16 : Nat) : Int) * 16 = ((i % 16 : Nat) : Int) by omega, r_masterAt hmd (by omega) (by omega)]
        unfold mZ
        rw [show 16 * (i / 16) + i % 16 = i by omega]
      rw [fL_looks_L193, ite_n (show ¬ (48 : Int32) ≤ zI (i : Int) by rw [zL48, zI_le (by omega)]; omega), e, Option.bind_some, zL1, zI_add]
      rfl) (fun _ _ _ _ => trivial)
  exact (key 48 0 2000 h rfl (by omega) trivial).1
theorem lk_2 (hrd : rdO Z rd) (hR : Rg Z) {N : Nat} (hN : Z 59 = N) (h : Int64) : fL_looks_L227 rd (zI (Z 59)) 2000 h 0 = some (zit (fun i h => 31 * h + (zI (dZ Z (i / 16) (i % 16))).toInt64) 0 (16 * N) h) := by
  have hco := hR.co
  have key := loopG (S := Int64) (L := fun n i h => fL_looks_L227 rd (zI (Z 59)) n h (zI (i : Int))) (g := fun i h => 31 * h + (zI (dZ Z (i / 16) (i % 16))).toInt64) (N := 16 * N) (P := fun _ _ => True) (out := id) (by
      intro n h hp
      try dsimp only
      rw [fL_looks_L227, show fX9_pieces (zI (Z 59)) = some (zI (Z 59)) from rfl, Option.bind_some, zL16, zI_mul]
      exact ite_t (by rw [zI_le (by omega)]; omega)) (by
      intro n i h hi hp
      try dsimp only
      have e : fX9_diameterAt rd (zI (Z 59)) (zI (i : Int) / 16) (zI (i : Int) - zI (i : Int) / 16 * 16) = some (.inr (zI (dZ Z (i / 16) (i % 16)))) := by
        rw [zL16, zI_div (by omega), zI_mul, zI_sub, show (i : Int) / 16 = ((i / 16 : Nat) : Int) by omega, show (i : Int) - ((i / 16 : Nat) : Int) * 16 = ((i % 16 : Nat) : Int) by omega, r_diameterAt hrd hR (by omega) (by omega)]
      rw [fL_looks_L227, show fX9_pieces (zI (Z 59)) = some (zI (Z 59)) from rfl, Option.bind_some, ite_n (show ¬ (16 : Int32) * zI (Z 59) ≤ zI (i : Int) by rw [zL16, zI_mul, zI_le (by omega)]; omega), e, Option.bind_some, zL1, zI_add]
      rfl) (fun _ _ _ _ => trivial)
  exact (key (16 * N) 0 2000 h (by omega) (by omega) trivial).1
theorem lk_3 (hrw : rwO Z rw) (hrp : rpO Z rp) (hR : Rg Z) {N : Nat} (hN : Z 59 = N) (h : Int64) : fL_looks_L266 rw rp (zI (Z 59)) 2000 h 0 = some (zit (fun i h => 31 * (31 * h + (zI (Z (66 + 18 * i))).toInt64) + (zI (Z (67 + 18 * i))).toInt64) 0 N h) := by
  have hco := hR.co
  have key := loopG (S := Int64) (L := fun n i h => fL_looks_L266 rw rp (zI (Z 59)) n h (zI (i : Int))) (g := fun i h => 31 * (31 * h + (zI (Z (66 + 18 * i))).toInt64) + (zI (Z (67 + 18 * i))).toInt64) (N := N) (P := fun _ _ => True) (out := id) (by
      intro n h hp
      try dsimp only
      rw [fL_looks_L266, show fX9_pieces (zI (Z 59)) = some (zI (Z 59)) from rfl, Option.bind_some]
      exact ite_t (by rw [zI_le (by omega)]; omega)) (by
      intro n i h hi hp
      try dsimp only
      rw [fL_looks_L266, show fX9_pieces (zI (Z 59)) = some (zI (Z 59)) from rfl, Option.bind_some, ite_n (show ¬ zI (Z 59) ≤ zI (i : Int) by rw [zI_le (by omega)]; omega), r_woodOf hrw hR (by omega), Option.bind_some]
      try dsimp only
      rw [r_passesOn hrp hR (by omega), Option.bind_some, zL1, zI_add]
      rfl) (fun _ _ _ _ => trivial)
  exact (key N 0 2000 h (by omega) (by omega) trivial).1

theorem lk_spec (hR : Rg Z) : ∃ h : Int64, ∀ md rd rw rp : Nat → Int32, CA Z md rd rw rp → fL_looks md (zI (Z 48)) (zI (Z 49)) (zI (Z 50)) (zI (Z 52)) (zI (Z 53)) (zI (Z 54)) (zI (Z 55)) rd rw rp (zI (Z 59)) (zI (Z 60)) (zI (Z 61)) (zI (Z 62)) (zI (Z 63)) (zI (Z 64)) (zI (Z 65)) (zI (Z 56)) (zI (Z 57)) (zI (Z 58)) = some h := by
  have hco := hR.co
  have hmo := hR.mo
  have hja := tb58 hR
  obtain ⟨N, hN⟩ : ∃ N : Nat, Z 59 = N := ⟨(Z 59).toNat, by omega⟩
  have e1 := r_isJammed hR
  have e2 := r_hasMounted hR
  by_cases h1 : Z 58 = 0
  all_goals by_cases h2 : Z 60 = -1
  · rw [if_pos h2] at e2
    refine ⟨zit (fun i h => 31 * (31 * h + (zI (Z (66 + 18 * i))).toInt64) + (zI (Z (67 + 18 * i))).toInt64) 0 N (zit (fun i h => 31 * h + (zI (dZ Z (i / 16) (i % 16))).toInt64) 0 (16 * N) (zit (fun i h => 31 * h + (zI (Z i)).toInt64) 0 48 (31 * (31 * (31 * (31 * (31 * (31 * (31 * (31 * (31 * (31 * (31 * (31 * (31 * (31 * (31 * (9703 + (zI (Z 48)).toInt64) + (zI (Z 49)).toInt64) + (zI (Z 50)).toInt64) + (zI (Z 52)).toInt64) + (zI (Z 53)).toInt64) + (zI (Z 54)).toInt64) + (zI (Z 55)).toInt64) + (zI (Z 56)).toInt64) + (zI (Z 57)).toInt64) + (zI (Z 61)).toInt64) + (zI (Z 62)).toInt64) + (zI (Z 64)).toInt64) + (zI (Z 63)).toInt64) + (zI (Z 65)).toInt64) + (0 : Int32).toInt64) + (0 : Int32).toInt64))), fun md rd rw rp hc => ?_⟩
    obtain ⟨hc1, hc2, hc3, hc4⟩ := hc
    unfold fL_looks
    repeat (first | with_reducible exact rfl | with_reducible refine (obE (show fX9_chosenMaster (zI (Z 48)) = some (zI (Z 48)) from rfl)).trans ?_ | with_reducible refine (obE (show fX9_radius (zI (Z 49)) = some (zI (Z 49)) from rfl)).trans ?_ | with_reducible refine (obE (show fX9_wear (zI (Z 50)) = some (zI (Z 50)) from rfl)).trans ?_ | with_reducible refine (obE (show fX9_offset (zI (Z 52)) = some (zI (Z 52)) from rfl)).trans ?_ | with_reducible refine (obE (show fX9_sharpness (zI (Z 53)) = some (zI (Z 53)) from rfl)).trans ?_ | with_reducible refine (obE (show fX9_depth (zI (Z 54)) = some (zI (Z 54)) from rfl)).trans ?_ | with_reducible refine (obE (show fX9_speed (zI (Z 55)) = some (zI (Z 55)) from rfl)).trans ?_ | with_reducible refine (obE (show fX9_tolerance (zI (Z 56)) = some (zI (Z 56)) from rfl)).trans ?_ | with_reducible refine (obE (show fX9_chips (zI (Z 57)) = some (zI (Z 57)) from rfl)).trans ?_ | with_reducible refine (obE (show fX9_passes (zI (Z 61)) = some (zI (Z 61)) from rfl)).trans ?_ | with_reducible refine (obE (show fX9_woodTaken (zI (Z 62)) = some (zI (Z 62)) from rfl)).trans ?_ | with_reducible refine (obE (show fX9_jams (zI (Z 64)) = some (zI (Z 64)) from rfl)).trans ?_ | with_reducible refine (obE (show fX9_sharpenings (zI (Z 63)) = some (zI (Z 63)) from rfl)).trans ?_ | with_reducible refine (obE (show fX9_burnt (zI (Z 65)) = some (zI (Z 65)) from rfl)).trans ?_ | with_reducible refine (obE (show fX9_pieces (zI (Z 59)) = some (zI (Z 59)) from rfl)).trans ?_ | with_reducible refine (obE e1).trans ?_ | with_reducible refine (obE e2).trans ?_ | with_reducible refine (obE (lk_1 hc1 _)).trans ?_ | with_reducible refine (obE (lk_2 hc2 hR hN _)).trans ?_ | with_reducible refine (obE (lk_3 hc3 hc4 hR hN _)).trans ?_ | with_reducible refine (if_pos (by simp (disch := omega) only [zL0, zL1, zL2, zL3, zL5, zL6, zL7, zL8, zL9, zL15, zL16, zL20, zL30, zL50, zL99, zL100, zL120, zL200, zI_add, zI_sub, zI_mul, zI_div, zI_le, zI_lt, zI_eq, -eq_self]; omega)).trans ?_ | with_reducible refine (if_neg (by simp (disch := omega) only [zL0, zL1, zL2, zL3, zL5, zL6, zL7, zL8, zL9, zL15, zL16, zL20, zL30, zL50, zL99, zL100, zL120, zL200, zI_add, zI_sub, zI_mul, zI_div, zI_le, zI_lt, zI_eq, -eq_self]; omega)).trans ?_ | fail)
  · rw [if_neg h2] at e2
    have e3 := r_mounted hR h2
    refine ⟨zit (fun i h => 31 * (31 * h + (zI (Z (66 + 18 * i))).toInt64) + (zI (Z (67 + 18 * i))).toInt64) 0 N (zit (fun i h => 31 * h + (zI (dZ Z (i / 16) (i % 16))).toInt64) 0 (16 * N) (zit (fun i h => 31 * h + (zI (Z i)).toInt64) 0 48 (31 * (31 * (31 * (31 * (31 * (31 * (31 * (31 * (31 * (31 * (31 * (31 * (31 * (31 * (31 * (9703 + (zI (Z 48)).toInt64) + (zI (Z 49)).toInt64) + (zI (Z 50)).toInt64) + (zI (Z 52)).toInt64) + (zI (Z 53)).toInt64) + (zI (Z 54)).toInt64) + (zI (Z 55)).toInt64) + (zI (Z 56)).toInt64) + (zI (Z 57)).toInt64) + (zI (Z 61)).toInt64) + (zI (Z 62)).toInt64) + (zI (Z 64)).toInt64) + (zI (Z 63)).toInt64) + (zI (Z 65)).toInt64) + (0 : Int32).toInt64) + ((zI (Z 60)) + 1 : Int32).toInt64))), fun md rd rw rp hc => ?_⟩
    obtain ⟨hc1, hc2, hc3, hc4⟩ := hc
    unfold fL_looks
    repeat (first | with_reducible exact rfl | with_reducible refine (obE (show fX9_chosenMaster (zI (Z 48)) = some (zI (Z 48)) from rfl)).trans ?_ | with_reducible refine (obE (show fX9_radius (zI (Z 49)) = some (zI (Z 49)) from rfl)).trans ?_ | with_reducible refine (obE (show fX9_wear (zI (Z 50)) = some (zI (Z 50)) from rfl)).trans ?_ | with_reducible refine (obE (show fX9_offset (zI (Z 52)) = some (zI (Z 52)) from rfl)).trans ?_ | with_reducible refine (obE (show fX9_sharpness (zI (Z 53)) = some (zI (Z 53)) from rfl)).trans ?_ | with_reducible refine (obE (show fX9_depth (zI (Z 54)) = some (zI (Z 54)) from rfl)).trans ?_ | with_reducible refine (obE (show fX9_speed (zI (Z 55)) = some (zI (Z 55)) from rfl)).trans ?_ | with_reducible refine (obE (show fX9_tolerance (zI (Z 56)) = some (zI (Z 56)) from rfl)).trans ?_ | with_reducible refine (obE (show fX9_chips (zI (Z 57)) = some (zI (Z 57)) from rfl)).trans ?_ | with_reducible refine (obE (show fX9_passes (zI (Z 61)) = some (zI (Z 61)) from rfl)).trans ?_ | with_reducible refine (obE (show fX9_woodTaken (zI (Z 62)) = some (zI (Z 62)) from rfl)).trans ?_ | with_reducible refine (obE (show fX9_jams (zI (Z 64)) = some (zI (Z 64)) from rfl)).trans ?_ | with_reducible refine (obE (show fX9_sharpenings (zI (Z 63)) = some (zI (Z 63)) from rfl)).trans ?_ | with_reducible refine (obE (show fX9_burnt (zI (Z 65)) = some (zI (Z 65)) from rfl)).trans ?_ | with_reducible refine (obE (show fX9_pieces (zI (Z 59)) = some (zI (Z 59)) from rfl)).trans ?_ | with_reducible refine (obE e1).trans ?_ | with_reducible refine (obE e2).trans ?_ | with_reducible refine (obE e3).trans ?_ | with_reducible refine (obE (lk_1 hc1 _)).trans ?_ | with_reducible refine (obE (lk_2 hc2 hR hN _)).trans ?_ | with_reducible refine (obE (lk_3 hc3 hc4 hR hN _)).trans ?_ | with_reducible refine (if_pos (by simp (disch := omega) only [zL0, zL1, zL2, zL3, zL5, zL6, zL7, zL8, zL9, zL15, zL16, zL20, zL30, zL50, zL99, zL100, zL120, zL200, zI_add, zI_sub, zI_mul, zI_div, zI_le, zI_lt, zI_eq, -eq_self]; omega)).trans ?_ | with_reducible refine (if_neg (by simp (disch := omega) only [zL0, zL1, zL2, zL3, zL5, zL6, zL7, zL8, zL9, zL15, zL16, zL20, zL30, zL50, zL99, zL100, zL120, zL200, zI_add, zI_sub, zI_mul, zI_div, zI_le, zI_lt, zI_eq, -eq_self]; omega)).trans ?_ | fail)
  · rw [if_pos h2] at e2
    refine ⟨zit (fun i h => 31 * (31 * h + (zI (Z (66 + 18 * i))).toInt64) + (zI (Z (67 + 18 * i))).toInt64) 0 N (zit (fun i h => 31 * h + (zI (dZ Z (i / 16) (i % 16))).toInt64) 0 (16 * N) (zit (fun i h => 31 * h + (zI (Z i)).toInt64) 0 48 (31 * (31 * (31 * (31 * (31 * (31 * (31 * (31 * (31 * (31 * (31 * (31 * (31 * (31 * (31 * (9703 + (zI (Z 48)).toInt64) + (zI (Z 49)).toInt64) + (zI (Z 50)).toInt64) + (zI (Z 52)).toInt64) + (zI (Z 53)).toInt64) + (zI (Z 54)).toInt64) + (zI (Z 55)).toInt64) + (zI (Z 56)).toInt64) + (zI (Z 57)).toInt64) + (zI (Z 61)).toInt64) + (zI (Z 62)).toInt64) + (zI (Z 64)).toInt64) + (zI (Z 63)).toInt64) + (zI (Z 65)).toInt64) + (1 : Int32).toInt64) + (0 : Int32).toInt64))), fun md rd rw rp hc => ?_⟩
    obtain ⟨hc1, hc2, hc3, hc4⟩ := hc
    unfold fL_looks
    repeat (first | with_reducible exact rfl | with_reducible refine (obE (show fX9_chosenMaster (zI (Z 48)) = some (zI (Z 48)) from rfl)).trans ?_ | with_reducible refine (obE (show fX9_radius (zI (Z 49)) = some (zI (Z 49)) from rfl)).trans ?_ | with_reducible refine (obE (show fX9_wear (zI (Z 50)) = some (zI (Z 50)) from rfl)).trans ?_ | with_reducible refine (obE (show fX9_offset (zI (Z 52)) = some (zI (Z 52)) from rfl)).trans ?_ | with_reducible refine (obE (show fX9_sharpness (zI (Z 53)) = some (zI (Z 53)) from rfl)).trans ?_ | with_reducible refine (obE (show fX9_depth (zI (Z 54)) = some (zI (Z 54)) from rfl)).trans ?_ | with_reducible refine (obE (show fX9_speed (zI (Z 55)) = some (zI (Z 55)) from rfl)).trans ?_ | with_reducible refine (obE (show fX9_tolerance (zI (Z 56)) = some (zI (Z 56)) from rfl)).trans ?_ | with_reducible refine (obE (show fX9_chips (zI (Z 57)) = some (zI (Z 57)) from rfl)).trans ?_ | with_reducible refine (obE (show fX9_passes (zI (Z 61)) = some (zI (Z 61)) from rfl)).trans ?_ | with_reducible refine (obE (show fX9_woodTaken (zI (Z 62)) = some (zI (Z 62)) from rfl)).trans ?_ | with_reducible refine (obE (show fX9_jams (zI (Z 64)) = some (zI (Z 64)) from rfl)).trans ?_ | with_reducible refine (obE (show fX9_sharpenings (zI (Z 63)) = some (zI (Z 63)) from rfl)).trans ?_ | with_reducible refine (obE (show fX9_burnt (zI (Z 65)) = some (zI (Z 65)) from rfl)).trans ?_ | with_reducible refine (obE (show fX9_pieces (zI (Z 59)) = some (zI (Z 59)) from rfl)).trans ?_ | with_reducible refine (obE e1).trans ?_ | with_reducible refine (obE e2).trans ?_ | with_reducible refine (obE (lk_1 hc1 _)).trans ?_ | with_reducible refine (obE (lk_2 hc2 hR hN _)).trans ?_ | with_reducible refine (obE (lk_3 hc3 hc4 hR hN _)).trans ?_ | with_reducible refine (if_pos (by simp (disch := omega) only [zL0, zL1, zL2, zL3, zL5, zL6, zL7, zL8, zL9, zL15, zL16, zL20, zL30, zL50, zL99, zL100, zL120, zL200, zI_add, zI_sub, zI_mul, zI_div, zI_le, zI_lt, zI_eq, -eq_self]; omega)).trans ?_ | with_reducible refine (if_neg (by simp (disch := omega) only [zL0, zL1, zL2, zL3, zL5, zL6, zL7, zL8, zL9, zL15, zL16, zL20, zL30, zL50, zL99, zL100, zL120, zL200, zI_add, zI_sub, zI_mul, zI_div, zI_le, zI_lt, zI_eq, -eq_self]; omega)).trans ?_ | fail)
  · rw [if_neg h2] at e2
    have e3 := r_mounted hR h2
    refine ⟨zit (fun i h => 31 * (31 * h + (zI (Z (66 + 18 * i))).toInt64) + (zI (Z (67 + 18 * i))).toInt64) 0 N (zit (fun i h => 31 * h + (zI (dZ Z (i / 16) (i % 16))).toInt64) 0 (16 * N) (zit (fun i h => 31 * h + (zI (Z i)).toInt64) 0 48 (31 * (31 * (31 * (31 * (31 * (31 * (31 * (31 * (31 * (31 * (31 * (31 * (31 * (31 * (31 * (9703 + (zI (Z 48)).toInt64) + (zI (Z 49)).toInt64) + (zI (Z 50)).toInt64) + (zI (Z 52)).toInt64) + (zI (Z 53)).toInt64) + (zI (Z 54)).toInt64) + (zI (Z 55)).toInt64) + (zI (Z 56)).toInt64) + (zI (Z 57)).toInt64) + (zI (Z 61)).toInt64) + (zI (Z 62)).toInt64) + (zI (Z 64)).toInt64) + (zI (Z 63)).toInt64) + (zI (Z 65)).toInt64) + (1 : Int32).toInt64) + ((zI (Z 60)) + 1 : Int32).toInt64))), fun md rd rw rp hc => ?_⟩
    obtain ⟨hc1, hc2, hc3, hc4⟩ := hc
    unfold fL_looks
    repeat (first | with_reducible exact rfl | with_reducible refine (obE (show fX9_chosenMaster (zI (Z 48)) = some (zI (Z 48)) from rfl)).trans ?_ | with_reducible refine (obE (show fX9_radius (zI (Z 49)) = some (zI (Z 49)) from rfl)).trans ?_ | with_reducible refine (obE (show fX9_wear (zI (Z 50)) = some (zI (Z 50)) from rfl)).trans ?_ | with_reducible refine (obE (show fX9_offset (zI (Z 52)) = some (zI (Z 52)) from rfl)).trans ?_ | with_reducible refine (obE (show fX9_sharpness (zI (Z 53)) = some (zI (Z 53)) from rfl)).trans ?_ | with_reducible refine (obE (show fX9_depth (zI (Z 54)) = some (zI (Z 54)) from rfl)).trans ?_ | with_reducible refine (obE (show fX9_speed (zI (Z 55)) = some (zI (Z 55)) from rfl)).trans ?_ | with_reducible refine (obE (show fX9_tolerance (zI (Z 56)) = some (zI (Z 56)) from rfl)).trans ?_ | with_reducible refine (obE (show fX9_chips (zI (Z 57)) = some (zI (Z 57)) from rfl)).trans ?_ | with_reducible refine (obE (show fX9_passes (zI (Z 61)) = some (zI (Z 61)) from rfl)).trans ?_ | with_reducible refine (obE (show fX9_woodTaken (zI (Z 62)) = some (zI (Z 62)) from rfl)).trans ?_ | with_reducible refine (obE (show fX9_jams (zI (Z 64)) = some (zI (Z 64)) from rfl)).trans ?_ | with_reducible refine (obE (show fX9_sharpenings (zI (Z 63)) = some (zI (Z 63)) from rfl)).trans ?_ | with_reducible refine (obE (show fX9_burnt (zI (Z 65)) = some (zI (Z 65)) from rfl)).trans ?_ | with_reducible refine (obE (show fX9_pieces (zI (Z 59)) = some (zI (Z 59)) from rfl)).trans ?_ | with_reducible refine (obE e1).trans ?_ | with_reducible refine (obE e2).trans ?_ | with_reducible refine (obE e3).trans ?_ | with_reducible refine (obE (lk_1 hc1 _)).trans ?_ | with_reducible refine (obE (lk_2 hc2 hR hN _)).trans ?_ | with_reducible refine (obE (lk_3 hc3 hc4 hR hN _)).trans ?_ | with_reducible refine (if_pos (by simp (disch := omega) only [zL0, zL1, zL2, zL3, zL5, zL6, zL7, zL8, zL9, zL15, zL16, zL20, zL30, zL50, zL99, zL100, zL120, zL200, zI_add, zI_sub, zI_mul, zI_div, zI_le, zI_lt, zI_eq, -eq_self]; omega)).trans ?_ | with_reducible refine (if_neg (by simp (disch := omega) only [zL0, zL1, zL2, zL3, zL5, zL6, zL7, zL8, zL9, zL15, zL16, zL20, zL30, zL50, zL99, zL100, zL120, zL200, zI_add, zI_sub, zI_mul, zI_div, zI_le, zI_lt, zI_eq, -eq_self]; omega)).trans ?_ | fail)
theorem l_sumOf (hrd : rdO Z rd) (hR : Rg Z) {q : Nat} (hq : (q : Int) < Z 59) : fL_sumOf rd (zI (Z 59)) (zI q) = some (zI (sdZ Z q)) := by
  have h5 := idx5 hR hq
  have key : fL_sumOf_L4 rd (zI (Z 59)) (zI q) 2000 0 0 = some (zI (sdZ Z q)) := acc16 (fun n v i => fL_sumOf_L4 rd (zI (Z 59)) (zI q) n v i) (fun i v => v + dZ Z q i) (by
      intro n v
      try dsimp only
      rw [fL_sumOf_L4]
      exact ite_t (by decide)) (by
      intro n i v hi hv
      try dsimp only
      rw [fL_sumOf_L4, ite_n (show ¬ (16 : Int32) ≤ zI (i : Int) by rw [zL16, zI_le (by omega)]; omega), r_diameterAt hrd hR hq hi, Option.bind_some]
      try dsimp only
      rw [zL1, zI_add, zI_add]) (by
      intro i v hi hv
      try dsimp only
      have := dZ_b hR h5 hi
      omega)
  unfold fL_sumOf
  rw [key, Option.bind_some]
theorem ar_L (hmd : ∀ j : Nat, j < 48 → md j = zI (Z j)) (hR : Rg Z) : ∀ (k i n : Nat) (v : Int) (wa : Nat → Int32), i + k = 16 → k < n → ∃ wa2 : Nat → Int32, fL_areReadings_L103 md (zI (Z 48)) (zI (Z 49)) (zI (Z 50)) (zI (Z 52)) n (zI v) (zI (i : Int)) wa = some (zI (zit (fun j v => if rdZ Z j ≤ mZ Z (Z 48).toNat j then v else v + 1) i k v), wa2) := by
  intro k
  induction k with
  | zero =>
    intro i n v wa e hn
    obtain ⟨m, rfl⟩ : ∃ m, n = m + 1 := ⟨n - 1, by omega⟩
    have e' : i = 16 := by omega
    subst e'
    refine ⟨wa, ?_⟩
    rw [fL_areReadings_L103]
    exact ite_t (by decide)
  | succ k ih =>
    intro i n v wa e hn
    obtain ⟨m, rfl⟩ : ∃ m, n = m + 1 := ⟨n - 1, by omega⟩
    have hi : i < 16 := by omega
    have hc := chN hR
    have hra := hR.ra
    have hwe := hR.we
    have hof := hR.of
    have hrb := rdZ_b hR (k := i)
    have hmb := mZ_b hR hc.2 hi
    have hge := rd_ge (Z := Z) hi
    have h0 : Z 49 = 0 → rdZ Z i = mZ Z (Z 48).toNat i := fun h => rd_0 hR h hi
    have htg : tgZ Z i = max 1 (rdZ Z i - Z 50 + Z 52) := rfl
    have htb := tgZ_b hR i
    have e1 := r_readingByLooking hmd hR hi
    have e3 := r_masterAt hmd hc.2 hi
    rw [hc.1] at e3
    obtain ⟨wa2, e6⟩ := r_readingByQueue hmd hR hi wa
    have e8 := r_targetAt hmd hR hi
    rw [fL_areReadings_L103]
    by_cases c1 : rdZ Z i ≤ mZ Z (Z 48).toNat i
    · obtain ⟨wa3, ih2⟩ := ih (i + 1) m v wa2 (by omega) (by omega)
      have hz : zit (fun j v => if rdZ Z j ≤ mZ Z (Z 48).toNat j then v else v + 1) i (k + 1) v = zit (fun j v => if rdZ Z j ≤ mZ Z (Z 48).toNat j then v else v + 1) (i + 1) k v := by
        show zit (fun j v => if rdZ Z j ≤ mZ Z (Z 48).toNat j then v else v + 1) (i + 1) k (if rdZ Z i ≤ mZ Z (Z 48).toNat i then v else v + 1) = _
        rw [if_pos c1]
      refine ⟨wa3, ?_⟩
      rw [hz]
      by_cases c2 : 0 < Z 49
      all_goals by_cases c3 : 1 ≤ rdZ Z i - Z 50 + Z 52
      all_goals (repeat (first | with_reducible refine (obE e1).trans ?_ | with_reducible refine (obE (show fX9_chosenMaster (zI (Z 48)) = some (zI (Z 48)) from rfl)).trans ?_ | with_reducible refine (obE e3).trans ?_ | with_reducible refine (obE (show fX9_wear (zI (Z 50)) = some (zI (Z 50)) from rfl)).trans ?_ | with_reducible refine (obE (show fX9_offset (zI (Z 52)) = some (zI (Z 52)) from rfl)).trans ?_ | with_reducible refine (obE (show fX9_radius (zI (Z 49)) = some (zI (Z 49)) from rfl)).trans ?_ | with_reducible refine (obE e6).trans ?_ | with_reducible refine (obE e8).trans ?_ | with_reducible refine (if_pos (by simp (disch := omega) only [zL0, zL1, zL2, zL3, zL5, zL6, zL7, zL8, zL9, zL15, zL16, zL20, zL30, zL50, zL99, zL100, zL120, zL200, zI_add, zI_sub, zI_mul, zI_div, zI_le, zI_lt, zI_eq, -eq_self]; omega)).trans ?_ | with_reducible refine (if_neg (by simp (disch := omega) only [zL0, zL1, zL2, zL3, zL5, zL6, zL7, zL8, zL9, zL15, zL16, zL20, zL30, zL50, zL99, zL100, zL120, zL200, zI_add, zI_sub, zI_mul, zI_div, zI_le, zI_lt, zI_eq, -eq_self]; omega)).trans ?_ | fail)
                 rw [show ((i + 1 : Nat) : Int) = (i : Int) + 1 by omega] at ih2
                 rw [zL0, zL1, zI_add, zI_add, Int.add_zero, ih2])
    · obtain ⟨wa3, ih2⟩ := ih (i + 1) m (v + 1) wa2 (by omega) (by omega)
      have hz : zit (fun j v => if rdZ Z j ≤ mZ Z (Z 48).toNat j then v else v + 1) i (k + 1) v = zit (fun j v => if rdZ Z j ≤ mZ Z (Z 48).toNat j then v else v + 1) (i + 1) k (v + 1) := by
        show zit (fun j v => if rdZ Z j ≤ mZ Z (Z 48).toNat j then v else v + 1) (i + 1) k (if rdZ Z i ≤ mZ Z (Z 48).toNat i then v else v + 1) = _
        rw [if_neg c1]
      refine ⟨wa3, ?_⟩
      rw [hz]
      have c2 : 0 < Z 49 := by
        rcases (show Z 49 = 0 ∨ 0 < Z 49 by omega) with h | h
        · have := h0 h
          omega
        · exact h
      by_cases c3 : 1 ≤ rdZ Z i - Z 50 + Z 52
      all_goals (repeat (first | with_reducible refine (obE e1).trans ?_ | with_reducible refine (obE (show fX9_chosenMaster (zI (Z 48)) = some (zI (Z 48)) from rfl)).trans ?_ | with_reducible refine (obE e3).trans ?_ | with_reducible refine (obE (show fX9_wear (zI (Z 50)) = some (zI (Z 50)) from rfl)).trans ?_ | with_reducible refine (obE (show fX9_offset (zI (Z 52)) = some (zI (Z 52)) from rfl)).trans ?_ | with_reducible refine (obE (show fX9_radius (zI (Z 49)) = some (zI (Z 49)) from rfl)).trans ?_ | with_reducible refine (obE e6).trans ?_ | with_reducible refine (obE e8).trans ?_ | with_reducible refine (if_pos (by simp (disch := omega) only [zL0, zL1, zL2, zL3, zL5, zL6, zL7, zL8, zL9, zL15, zL16, zL20, zL30, zL50, zL99, zL100, zL120, zL200, zI_add, zI_sub, zI_mul, zI_div, zI_le, zI_lt, zI_eq, -eq_self]; omega)).trans ?_ | with_reducible refine (if_neg (by simp (disch := omega) only [zL0, zL1, zL2, zL3, zL5, zL6, zL7, zL8, zL9, zL15, zL16, zL20, zL30, zL50, zL99, zL100, zL120, zL200, zI_add, zI_sub, zI_mul, zI_div, zI_le, zI_lt, zI_eq, -eq_self]; omega)).trans ?_ | fail)
                 rw [show ((i + 1 : Nat) : Int) = (i : Int) + 1 by omega] at ih2
                 rw [zL1, zI_add, zI_add, ih2])

end LWA
