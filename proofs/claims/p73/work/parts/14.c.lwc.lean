/-! a cut, tried and taken back -/
theorem t_chosenMaster (x : Int32) : fX9_chosenMaster x = some x := rfl
theorem t_radius (x : Int32) : fX9_radius x = some x := rfl
theorem t_wear (x : Int32) : fX9_wear x = some x := rfl
theorem t_offset (x : Int32) : fX9_offset x = some x := rfl
theorem t_sharpness (x : Int32) : fX9_sharpness x = some x := rfl
theorem t_depth (x : Int32) : fX9_depth x = some x := rfl
theorem t_speed (x : Int32) : fX9_speed x = some x := rfl
theorem t_tolerance (x : Int32) : fX9_tolerance x = some x := rfl
theorem t_chips (x : Int32) : fX9_chips x = some x := rfl
theorem t_passes (x : Int32) : fX9_passes x = some x := rfl
theorem t_woodTaken (x : Int32) : fX9_woodTaken x = some x := rfl
theorem t_jams (x : Int32) : fX9_jams x = some x := rfl
theorem t_sharpenings (x : Int32) : fX9_sharpenings x = some x := rfl
theorem t_burnt (x : Int32) : fX9_burnt x = some x := rfl
theorem t_pieces (x : Int32) : fX9_pieces x = some x := rfl
theorem t_savedStates (x : Int32) : fX9_savedStates x = some x := rfl
section LWC
variable {Z Y : Nat → Int} {md rd rw rp rd2 rd3 n7 n12 : Nat → Int32} {hs : List LTH} {ho hcn : Int32} {hsv : Nat → Option LTH}
theorem u_undo (hR : Rg Z) (h : Hq (lpk md (zI (Z 48)) (zI (Z 49)) (zI (Z 50)) (zI (Z 52)) (zI (Z 51)) (zI (Z 53)) (zI (Z 54)) (zI (Z 55)) rd rw rp (zI (Z 59)) (zI (Z 60)) (zI (Z 61)) (zI (Z 62)) (zI (Z 63)) (zI (Z 64)) (zI (Z 65)) (zI (Z 56)) (zI (Z 57)) (zI (Z 58)) :: hs) ho hcn hsv) : ∃ hcn2 : Int32, fX9_undo ho hcn hsv = some (.inr (md, zI (Z 48), zI (Z 49), zI (Z 50), zI (Z 52), zI (Z 51), zI (Z 53), zI (Z 54), zI (Z 55), rd, rw, rp, zI (Z 59), zI (Z 60), zI (Z 61), zI (Z 62), zI (Z 63), zI (Z 64), zI (Z 65), zI (Z 56), zI (Z 57), zI (Z 58), hcn2)) ∧ Hq hs ho hcn2 hsv := hq_undo h (ja01 hR)
theorem r_dia (hrd : rdO Y rd2) (hR : Rg Z) {q k : Nat} (hq : (q : Int) < Z 59) (hk : k < 16) : fX9_diameterAt rd2 (zI (Z 59)) (zI q) (zI k) = some (.inr (zI (dZ Y q k))) := by
  have h5 := idx5 hR hq
  have h1 := cPiY hR (a := q) (by omega) (by omega)
  have h2 := cStY (a := k) (by omega) (by omega)
  have e1 := zcX7_at hrd h5 hk
  simp only [fX9_diameterAt, h1, h2, e1, true_or, or_true, Option.bind_some, Option.map_some, eq_self, ↓reduceIte]
theorem ic_29 (hmd : ∀ j : Nat, j < 48 → md j = zI (Z j)) (hrd : rdO Z rd) (hR : Rg Z) {q : Nat} (hq : (q : Int) < Z 59) : ∃ n7 n12 : Nat → Int32, fL_isCut_L29 md (zI (Z 48)) (zI (Z 49)) (zI (Z 50)) (zI (Z 52)) rd (zI (Z 59)) (zI q) 2000 0 (fun _ => 0) (fun _ => 0) = some (n7, n12) ∧ ∀ k : Nat, k < 16 → n7 k = zI (dZ Z q k) ∧ n12 k = zI (tgZ Z k) := by
  have key := loopG (S := (Nat → Int32) × (Nat → Int32)) (L := fun n i s => fL_isCut_L29 md (zI (Z 48)) (zI (Z 49)) (zI (Z 50)) (zI (Z 52)) rd (zI (Z 59)) (zI q) n (zI (i : Int)) s.1 s.2) (g := fun i s => (upd s.1 i (zI (dZ Z q i)), upd s.2 i (zI (tgZ Z i)))) (N := 16) (P := fun i s => ∀ k : Nat, k < i → s.1 k = zI (dZ Z q k) ∧ s.2 k = zI (tgZ Z k)) (out := id) (by
      intro n s hp
      try dsimp only
      rw [fL_isCut_L29]
      exact ite_t (by decide)) (by
      intro n i s hi hp
      try dsimp only
      have hcl : (zI (i : Int)).toNatClampNeg = i := by rw [zI_cl (by omega)]; rfl
      have hin : ¬ (zI (i : Int) < 0 ∨ 16 ≤ i) := by rw [zL0, zI_lt (by omega)]; omega
      have e1 := r_diameterAt hrd hR hq hi
      have e2 := r_targetAt hmd hR hi
      rw [fL_isCut_L29]
      simp only [hcl]
      repeat (first | with_reducible refine (obE e1).trans ?_ | with_reducible refine (obE e2).trans ?_ | with_reducible refine (if_pos hin).trans ?_ | with_reducible refine (if_pos (by simp (disch := omega) only [zL0, zL1, zL2, zL3, zL5, zL6, zL7, zL8, zL9, zL15, zL16, zL20, zL30, zL50, zL99, zL100, zL120, zL200, zI_add, zI_sub, zI_mul, zI_div, zI_le, zI_lt, zI_eq, -eq_self]; omega)).trans ?_ | with_reducible refine (if_neg (by simp (disch := omega) only [zL0, zL1, zL2, zL3, zL5, zL6, zL7, zL8, zL9, zL15, zL16, zL20, zL30, zL50, zL99, zL100, zL120, zL200, zI_add, zI_sub, zI_mul, zI_div, zI_le, zI_lt, zI_eq, -eq_self]; omega)).trans ?_ | fail)
      rw [zL1, zI_add]
      rfl) (by
      intro i s hi hp k hk
      try dsimp only
      by_cases e : k = i
      · subst e
        rw [pk_us, pk_us]
        exact ⟨rfl, rfl⟩
      · rw [pk_un e, pk_un e]
        exact hp k (by omega))
  obtain ⟨k1, k2⟩ := key 16 0 2000 (fun _ => 0, fun _ => 0) rfl (by omega) (fun k hk => absurd hk (by omega))
  exact ⟨_, _, k1, k2⟩
theorem ic_396 (hrd : rdO Y rd3) (hR : Rg Z) {q : Nat} (hq : (q : Int) < Z 59) {v : Int} (hv : 1 ≤ v ∧ v ≤ 3) (hn : ∀ k : Nat, k < 16 → n7 k = zI (dZ Z q k) ∧ n12 k = zI (tgZ Z k)) (hd : ∀ k : Nat, k < 16 → dZ Y q k = dZ Z q k - min v (abZ Z q k)) : fL_isCut_L396 rd3 (zI (Z 59)) n7 n12 (zI v) (zI q) 2000 0 = some () := by
  have h5 := idx5 hR hq
  have key := loopG (S := Unit) (L := fun n i _ => fL_isCut_L396 rd3 (zI (Z 59)) n7 n12 (zI v) (zI q) n (zI (i : Int))) (g := fun _ s => s) (N := 16) (P := fun _ _ => True) (out := id) (by
      intro n s hp
      try dsimp only
      rw [fL_isCut_L396]
      exact ite_t (by decide)) (by
      intro n i s hi hp
      try dsimp only
      have hcl : (zI (i : Int)).toNatClampNeg = i := by rw [zI_cl (by omega)]; rfl
      have hin : ¬ (zI (i : Int) < 0 ∨ 16 ≤ i) := by rw [zL0, zI_lt (by omega)]; omega
      have e1 := r_dia hrd hR hq hi
      have h1 := hd i hi
      have h2 := dZ_b hR h5 hi
      have h3 := tgZ_b hR i
      have h4 := abZ_b hR h5 hi
      have h6 : abZ Z q i = max 0 (dZ Z q i - tgZ Z i) := rfl
      rw [fL_isCut_L396]
      simp only [hcl, (hn i hi).1, (hn i hi).2]
      by_cases c1 : tgZ Z i ≤ dZ Y q i
      all_goals (repeat (first | with_reducible refine (obE e1).trans ?_ | with_reducible refine (if_pos hin).trans ?_ | with_reducible refine (if_pos (by simp (disch := omega) only [zL0, zL1, zL2, zL3, zL5, zL6, zL7, zL8, zL9, zL15, zL16, zL20, zL30, zL50, zL99, zL100, zL120, zL200, zI_add, zI_sub, zI_mul, zI_div, zI_le, zI_lt, zI_eq, -eq_self]; omega)).trans ?_ | with_reducible refine (if_neg (by simp (disch := omega) only [zL0, zL1, zL2, zL3, zL5, zL6, zL7, zL8, zL9, zL15, zL16, zL20, zL30, zL50, zL99, zL100, zL120, zL200, zI_add, zI_sub, zI_mul, zI_div, zI_le, zI_lt, zI_eq, -eq_self]; omega)).trans ?_ | fail)
                 rw [zL1, zI_add]
                 rfl)) (fun _ _ _ _ => trivial)
  exact (key 16 0 2000 () rfl (by omega) trivial).1
theorem ic_246 (hrd : rdO Y rd2) (hRY : Rg Y) (hR : Rg Z) {q : Nat} (hq : (q : Int) < Z 59) {c : Int} (hc : 0 ≤ c ∧ c ≤ 9) {e : Int32} (hn : ∀ k : Nat, k < 16 → n7 k = zI (dZ Z q k) ∧ n12 k = zI (tgZ Z k)) (hd : ∀ k : Nat, k < 16 → dZ Y q k ≤ dZ Z q k ∧ dZ Z q k - dZ Y q k ≤ c ∧ (tgZ Z k ≤ dZ Y q k ∨ dZ Y q k = dZ Z q k) ∧ (¬ e = 0 → Y 58 = 0 → dZ Y q k ≤ tgZ Z k)) : fL_isCut_L246 rd2 (zI (Z 59)) (zI (Y 58)) n7 n12 (zI q) (zI c) e 2000 0 = some () := by
  have h5 := idx5 hR hq
  have h58 := tb58 hRY
  have e2 := r_isJammed hRY
  have key := loopG (S := Unit) (L := fun n i _ => fL_isCut_L246 rd2 (zI (Z 59)) (zI (Y 58)) n7 n12 (zI q) (zI c) e n (zI (i : Int))) (g := fun _ s => s) (N := 16) (P := fun _ _ => True) (out := id) (by
      intro n s hp
      try dsimp only
      rw [fL_isCut_L246]
      exact ite_t (by decide)) (by
      intro n i s hi hp
      try dsimp only
      have hcl : (zI (i : Int)).toNatClampNeg = i := by rw [zI_cl (by omega)]; rfl
      have hin : ¬ (zI (i : Int) < 0 ∨ 16 ≤ i) := by rw [zL0, zI_lt (by omega)]; omega
      have e1 := r_dia hrd hR hq hi
      obtain ⟨g1, g2, g3, g4⟩ := hd i hi
      have h2 := dZ_b hR h5 hi
      have h2' := dZ_b hRY h5 hi
      have h3 := tgZ_b hR i
      rw [fL_isCut_L246]
      simp only [hcl, (hn i hi).1, (hn i hi).2]
      by_cases c0 : e = 0
      · by_cases c1 : tgZ Z i ≤ dZ Y q i
        all_goals (repeat (first | with_reducible refine (obE e1).trans ?_ | with_reducible refine (obE e2).trans ?_ | with_reducible refine (if_pos hin).trans ?_ | with_reducible refine (if_pos c0).trans ?_ | with_reducible refine (if_pos (by simp (disch := omega) only [zL0, zL1, zL2, zL3, zL5, zL6, zL7, zL8, zL9, zL15, zL16, zL20, zL30, zL50, zL99, zL100, zL120, zL200, zI_add, zI_sub, zI_mul, zI_div, zI_le, zI_lt, zI_eq, -eq_self]; omega)).trans ?_ | with_reducible refine (if_neg (by simp (disch := omega) only [zL0, zL1, zL2, zL3, zL5, zL6, zL7, zL8, zL9, zL15, zL16, zL20, zL30, zL50, zL99, zL100, zL120, zL200, zI_add, zI_sub, zI_mul, zI_div, zI_le, zI_lt, zI_eq, -eq_self]; omega)).trans ?_ | fail)
                   rw [zL1, zI_add]
                   rfl)
      · by_cases c2 : Y 58 = 0
        · have g5 := g4 c0 c2
          by_cases c1 : tgZ Z i ≤ dZ Y q i
          all_goals (repeat (first | with_reducible refine (obE e1).trans ?_ | with_reducible refine (obE e2).trans ?_ | with_reducible refine (if_pos hin).trans ?_ | with_reducible refine (if_neg c0).trans ?_ | with_reducible refine (if_pos (by simp (disch := omega) only [zL0, zL1, zL2, zL3, zL5, zL6, zL7, zL8, zL9, zL15, zL16, zL20, zL30, zL50, zL99, zL100, zL120, zL200, zI_add, zI_sub, zI_mul, zI_div, zI_le, zI_lt, zI_eq, -eq_self]; omega)).trans ?_ | with_reducible refine (if_neg (by simp (disch := omega) only [zL0, zL1, zL2, zL3, zL5, zL6, zL7, zL8, zL9, zL15, zL16, zL20, zL30, zL50, zL99, zL100, zL120, zL200, zI_add, zI_sub, zI_mul, zI_div, zI_le, zI_lt, zI_eq, -eq_self]; omega)).trans ?_ | fail)
                     rw [zL1, zI_add]
                     rfl)
        · by_cases c1 : tgZ Z i ≤ dZ Y q i
          all_goals (repeat (first | with_reducible refine (obE e1).trans ?_ | with_reducible refine (obE e2).trans ?_ | with_reducible refine (if_pos hin).trans ?_ | with_reducible refine (if_neg c0).trans ?_ | with_reducible refine (if_pos (by simp (disch := omega) only [zL0, zL1, zL2, zL3, zL5, zL6, zL7, zL8, zL9, zL15, zL16, zL20, zL30, zL50, zL99, zL100, zL120, zL200, zI_add, zI_sub, zI_mul, zI_div, zI_le, zI_lt, zI_eq, -eq_self]; omega)).trans ?_ | with_reducible refine (if_neg (by simp (disch := omega) only [zL0, zL1, zL2, zL3, zL5, zL6, zL7, zL8, zL9, zL15, zL16, zL20, zL30, zL50, zL99, zL100, zL120, zL200, zI_add, zI_sub, zI_mul, zI_div, zI_le, zI_lt, zI_eq, -eq_self]; omega)).trans ?_ | fail)
                     rw [zL1, zI_add]
                     rfl)) (fun _ _ _ _ => trivial)
  exact (key 16 0 2000 () rfl (by omega) trivial).1
theorem dpas {q k : Nat} (hk : k < 16) : dZ (pasZ Z q) q k = dZ (cutZ Z q).2 q k := by
  unfold dZ
  rw [pasZ_o (by omega)]
theorem l_isCut (hR : Rg Z) (hca : CA Z md rd rw rp) (hq : Hq hs ho hcn hsv) (h60 : Z 60 ≠ -1) {v : Int} (hv : 1 ≤ v ∧ v ≤ 3) (le : Nat → Int32) : ∃ (ho2 hcn2 : Int32) (hsv2 : Nat → Option LTH) (le2 : Nat → Int32) (hs2 : List LTH), fL_isCut md (zI (Z 48)) (zI (Z 49)) (zI (Z 50)) (zI (Z 52)) (zI (Z 51)) (zI (Z 53)) (zI (Z 54)) (zI (Z 55)) rd rw rp (zI (Z 59)) (zI (Z 60)) (zI (Z 61)) (zI (Z 62)) (zI (Z 63)) (zI (Z 64)) (zI (Z 65)) (zI (Z 56)) (zI (Z 57)) (zI (Z 58)) ho hcn hsv le (zI v) = some (1, md, zI (Z 48), zI (Z 49), zI (Z 50), zI (Z 52), zI (Z 51), zI (Z 53), zI (Z 54), zI (Z 55), rd, rw, rp, zI (Z 59), zI (Z 60), zI (Z 61), zI (Z 62), zI (Z 63), zI (Z 64), zI (Z 65), zI (Z 56), zI (Z 57), zI (Z 58), ho2, hcn2, hsv2, le2) ∧ (∀ x ∈ hs2, x ∈ hs) ∧ Hq hs2 ho2 hcn2 hsv2 := by
  obtain ⟨q, hm, h5, hqn⟩ := moN hR h60
  have hsh := hR.sh
  have hch := hR.chi
  have hwe := hR.we
  have h58 := tb58 hR
  have hco := hR.co
  have sb := sdZ_b hR h5
  have e1 := r_mounted hR h60
  have e2 : fL_sumOf rd (zI (Z 59)) (zI (Z 60)) = some (zI (sdZ Z q)) := by rw [hm]; exact l_sumOf hca.2.1 hR hqn
  obtain ⟨n7, n12, e3, hn⟩ := ic_29 hca.1 hca.2.1 hR hqn
  rw [← hm] at e3
  have e4 := r_isJammed hR
  have hRI := rubZ_I hR hv h5
  obtain ⟨r1, r2, -, r4⟩ := hRI
  have hYR : Rg (zup (rubZ v q Z).2 62 (Z 62 + (rubZ v q Z).1)) := Rg.sc r1.1 (by omega) (by omega)
  have hY59 : zup (rubZ v q Z).2 62 (Z 62 + (rubZ v q Z).1) 59 = Z 59 := by rw [zup_n (by omega), r1.2.2 _ (by omega)]
  have r5 : sdZ (zup (rubZ v q Z).2 62 (Z 62 + (rubZ v q Z).1)) q = sdZ Z q - (rubZ v q Z).1 := by rw [sd_sc (by omega), r2]
  have r6 : ∀ k : Nat, k < 16 → dZ (zup (rubZ v q Z).2 62 (Z 62 + (rubZ v q Z).1)) q k = dZ Z q k - min v (abZ Z q k) := fun k hk => by rw [dZ_sc (by omega)]; exact r4 k hk
  have r7 := r1.2.1
  have sb2 := sdZ_b hYR h5
  clear r1 r2 r4
  by_cases c0 : Z 58 = 0 ∧ 0 < Z 53
  · obtain ⟨j0, j1⟩ := c0
    have hv9 : rdy Z := ⟨h60, j0, by omega⟩
    obtain ⟨hP, s1, s2, s3, -, s4⟩ := cutZ_I hR h5 j0
    have hRY := pasZ_R hR h5
    have hcu := cuZ_b hR
    have cb := cutZ_b hR h5
    have y57 : pasZ Z q 57 = Z 57 + (cutZ Z q).1 := by rw [pasZ_o (by omega)]; exact s2
    have y58 : (pasZ Z q 58 = 0 ∧ pasZ Z q 64 = Z 64) ∨ (pasZ Z q 58 = 1 ∧ pasZ Z q 64 = Z 64 + 1) := by rw [pasZ_o (by omega), pasZ_o (by omega)]; exact s3
    have y59 : pasZ Z q 59 = Z 59 := pasZ_f hR h5 (by omega)
    have ysd : sdZ (pasZ Z q) q = sdZ Z q - (cutZ Z q).1 := by
      rw [← s1]
      unfold sdZ
      exact zit_congr (N := 16) (fun _ _ => True) (fun _ _ _ _ => trivial) (fun i s hi _ => by rw [dpas hi]) 16 0 0 rfl trivial
    have y50 : Z 50 ≤ pasZ Z q 50 ∧ pasZ Z q 50 ≤ Z 50 + 1 ∧ pasZ Z q 50 ≤ 30 := by
      rw [pasZ_50]
      split <;> omega
    have sb3 := sdZ_b hRY h5
    have hchY := hRY.chi
    have h58Y := tb58 hRY
    have hdd : ∀ k : Nat, k < 16 → dZ (pasZ Z q) q k ≤ dZ Z q k ∧ dZ Z q k - dZ (pasZ Z q) q k ≤ cuZ Z ∧ (tgZ Z k ≤ dZ (pasZ Z q) q k ∨ dZ (pasZ Z q) q k = dZ Z q k) ∧ (dvZ (moZ Z q) (cuZ Z) = 1 → pasZ Z q 58 = 0 → dZ (pasZ Z q) q k ≤ tgZ Z k) := by
      intro k hk
      have h4 := abZ_b hR h5 hk
      have h6 : abZ Z q k = max 0 (dZ Z q k - tgZ Z k) := rfl
      have y58' : pasZ Z q 58 = (cutZ Z q).2 58 := pasZ_o (by omega)
      rw [dpas hk]
      refine ⟨?_, ?_, ?_, fun hl h0 => ?_⟩
      · rcases s4 k hk with h | h <;> omega
      · rcases s4 k hk with h | h <;> omega
      · rcases s4 k hk with h | h <;> omega
      · have h7 := dv_1 (by omega) hl
        have h8 : abZ Z q k ≤ moZ Z q := (zmax_le (f := abZ Z q) (b := moZ Z q) (moZ_b hR h5).1).mp (Int.le_refl _) k hk
        rcases s4 k hk with h | h <;> omega
    have hmo := moZ_b hR h5
    have hdf := dvF hmo (c := cuZ Z) (by omega)
    have hd3 : 0 ≤ dvZ (moZ Z q) (cuZ Z) ∧ dvZ (moZ Z q) (cuZ Z) ≤ 119 := ⟨hdf.1, hdf.2.1⟩
    clear hdf hP s1 s2 s3 s4
    have e5 := r_ifPassed hca.1 hca.2.1 hR hm h5 hv9
    have e6 := r_cutDepth hR
    have e7 : fX9_passesOn rp (zI (Z 59)) (zI (Z 60)) = some (.inr (zI (Z (67 + 18 * q)))) := by rw [hm]; exact r_passesOn hca.2.2.2 hR hqn
    obtain ⟨le1, e8⟩ := r_passesBySteps hca.1 hca.2.1 hR hm h5 (by omega) le
    obtain ⟨rd2, rp2, ho2, hcn2, hsv2, e9, hca2, hq2⟩ := m_pass hR hca hq hm h5 hv9
    have hq2 : Hq (lpk md (zI (Z 48)) (zI (Z 49)) (zI (Z 50)) (zI (Z 52)) (zI (Z 51)) (zI (Z 53)) (zI (Z 54)) (zI (Z 55)) rd rw rp (zI (Z 59)) (zI (Z 60)) (zI (Z 61)) (zI (Z 62)) (zI (Z 63)) (zI (Z 64)) (zI (Z 65)) (zI (Z 56)) (zI (Z 57)) (zI (Z 58)) :: hs.take 5) ho2 hcn2 hsv2 := hq2
    obtain ⟨hcn9, e10, hq9⟩ := u_undo hR hq2
    have e11 : fL_sumOf rd2 (zI (Z 59)) (zI (Z 60)) = some (zI (sdZ (pasZ Z q) q)) := by
      have := l_sumOf hca2.2.1 hRY (q := q) (by rw [y59]; exact hqn)
      rw [y59] at this
      rw [hm]; exact this
    have e12 := r_isJammed hRY
    have e13 : fX9_passesOn rp2 (zI (Z 59)) (zI (Z 60)) = some (.inr (zI (pasZ Z q (67 + 18 * q)))) := by
      have := r_passesOn hca2.2.2.2 hRY (q := q) (by rw [y59]; exact hqn)
      rw [y59] at this
      rw [hm]; exact this
    have p1 : zI (pasZ Z q 62) = zI (Z 62) + zI (cutZ Z q).1 := by rw [pasZ_62, zI_add]
    have p2 : zI (pasZ Z q (67 + 18 * q)) = zI (Z (67 + 18 * q)) + 1 := by rw [pasZ_67, zL1, zI_add]
    obtain ⟨rd3, ho3, hcn3, hsv3, e20, hca3, hq3⟩ := m_sand hR hca hq9 hm h5 hv
    have hq3 : Hq (lpk md (zI (Z 48)) (zI (Z 49)) (zI (Z 50)) (zI (Z 52)) (zI (Z 51)) (zI (Z 53)) (zI (Z 54)) (zI (Z 55)) rd rw rp (zI (Z 59)) (zI (Z 60)) (zI (Z 61)) (zI (Z 62)) (zI (Z 63)) (zI (Z 64)) (zI (Z 65)) (zI (Z 56)) (zI (Z 57)) (zI (Z 58)) :: (hs.take 5).take 5) ho3 hcn3 hsv3 := hq3
    obtain ⟨hcn4, e21, hq4⟩ := u_undo hR hq3
    have e22 : fL_sumOf rd3 (zI (Z 59)) (zI (Z 60)) = some (zI (sdZ (zup (rubZ v q Z).2 62 (Z 62 + (rubZ v q Z).1)) q)) := by
      have := l_sumOf hca3.2.1 hYR (q := q) (by rw [hY59]; exact hqn)
      rw [hY59] at this
      rw [hm]; exact this
    have e23 : fL_isCut_L396 rd3 (zI (Z 59)) n7 n12 (zI v) (zI (Z 60)) 2000 0 = some () := by rw [hm]; exact ic_396 hca3.2.1 hR hqn hv hn r6
    refine ⟨ho3, hcn4, hsv3, le1, (hs.take 5).take 5, ?_, fun x hx => List.mem_of_mem_take (List.mem_of_mem_take hx), hq4⟩
    unfold fL_isCut
    by_cases c1 : dvZ (moZ Z q) (cuZ Z) = 1
    · have e14 : fL_isCut_L246 rd2 (zI (Z 59)) (zI (pasZ Z q 58)) n7 n12 (zI (Z 60)) (zI (cuZ Z)) 1 2000 0 = some () := by rw [hm]; exact ic_246 hca2.2.1 hRY hR hqn ⟨hcu.1, hcu.2.1⟩ hn (fun k hk => ⟨(hdd k hk).1, (hdd k hk).2.1, (hdd k hk).2.2.1, fun _ h => (hdd k hk).2.2.2 c1 h⟩)
      clear hdd
      rcases y58 with ⟨y8, y4⟩ | ⟨y8, y4⟩
      · have p3 : zI (pasZ Z q 64) = zI (Z 64) + 0 := by rw [y4, zL0, zI_add, Int.add_zero]
        repeat (first | with_reducible exact rfl | with_reducible refine (obE (t_sharpness _)).trans ?_ | with_reducible refine (obE (t_chips _)).trans ?_ | with_reducible refine (obE (t_woodTaken _)).trans ?_ | with_reducible refine (obE (t_jams _)).trans ?_ | with_reducible refine (obE (t_wear _)).trans ?_ | with_reducible refine (obE e1).trans ?_ | with_reducible refine (obE e2).trans ?_ | with_reducible refine (obE e3).trans ?_ | with_reducible refine (obE e4).trans ?_ | with_reducible refine (obE e20).trans ?_ | with_reducible refine (obE e21).trans ?_ | with_reducible refine (obE e22).trans ?_ | with_reducible refine (obE e23).trans ?_ | with_reducible refine (obE e5).trans ?_ | with_reducible refine (obE e6).trans ?_ | with_reducible refine (obE e7).trans ?_ | with_reducible refine (obE e8).trans ?_ | with_reducible refine (obE e9).trans ?_ | with_reducible refine (obE e10).trans ?_ | with_reducible refine (obE e11).trans ?_ | with_reducible refine (obE e12).trans ?_ | with_reducible refine (obE e13).trans ?_ | with_reducible refine (obE e14).trans ?_ | with_reducible refine (if_pos p1).trans ?_ | with_reducible refine (if_pos p2).trans ?_ | with_reducible refine (if_pos p3).trans ?_ | with_reducible refine (if_pos (by simp (disch := omega) only [zL0, zL1, zL2, zL3, zL5, zL6, zL7, zL8, zL9, zL15, zL16, zL20, zL30, zL50, zL99, zL100, zL120, zL200, zI_add, zI_sub, zI_mul, zI_div, zI_le, zI_lt, zI_eq, -eq_self]; omega)).trans ?_ | with_reducible refine (if_neg (by simp (disch := omega) only [zL0, zL1, zL2, zL3, zL5, zL6, zL7, zL8, zL9, zL15, zL16, zL20, zL30, zL50, zL99, zL100, zL120, zL200, zI_add, zI_sub, zI_mul, zI_div, zI_le, zI_lt, zI_eq, -eq_self]; omega)).trans ?_ | fail)
      · have p3 : zI (pasZ Z q 64) = zI (Z 64) + 1 := by rw [y4, zL1, zI_add]
        repeat (first | with_reducible exact rfl | with_reducible refine (obE (t_sharpness _)).trans ?_ | with_reducible refine (obE (t_chips _)).trans ?_ | with_reducible refine (obE (t_woodTaken _)).trans ?_ | with_reducible refine (obE (t_jams _)).trans ?_ | with_reducible refine (obE (t_wear _)).trans ?_ | with_reducible refine (obE e1).trans ?_ | with_reducible refine (obE e2).trans ?_ | with_reducible refine (obE e3).trans ?_ | with_reducible refine (obE e4).trans ?_ | with_reducible refine (obE e20).trans ?_ | with_reducible refine (obE e21).trans ?_ | with_reducible refine (obE e22).trans ?_ | with_reducible refine (obE e23).trans ?_ | with_reducible refine (obE e5).trans ?_ | with_reducible refine (obE e6).trans ?_ | with_reducible refine (obE e7).trans ?_ | with_reducible refine (obE e8).trans ?_ | with_reducible refine (obE e9).trans ?_ | with_reducible refine (obE e10).trans ?_ | with_reducible refine (obE e11).trans ?_ | with_reducible refine (obE e12).trans ?_ | with_reducible refine (obE e13).trans ?_ | with_reducible refine (obE e14).trans ?_ | with_reducible refine (if_pos p1).trans ?_ | with_reducible refine (if_pos p2).trans ?_ | with_reducible refine (if_pos p3).trans ?_ | with_reducible refine (if_pos (by simp (disch := omega) only [zL0, zL1, zL2, zL3, zL5, zL6, zL7, zL8, zL9, zL15, zL16, zL20, zL30, zL50, zL99, zL100, zL120, zL200, zI_add, zI_sub, zI_mul, zI_div, zI_le, zI_lt, zI_eq, -eq_self]; omega)).trans ?_ | with_reducible refine (if_neg (by simp (disch := omega) only [zL0, zL1, zL2, zL3, zL5, zL6, zL7, zL8, zL9, zL15, zL16, zL20, zL30, zL50, zL99, zL100, zL120, zL200, zI_add, zI_sub, zI_mul, zI_div, zI_le, zI_lt, zI_eq, -eq_self]; omega)).trans ?_ | fail)
    · have e14 : fL_isCut_L246 rd2 (zI (Z 59)) (zI (pasZ Z q 58)) n7 n12 (zI (Z 60)) (zI (cuZ Z)) 0 2000 0 = some () := by rw [hm]; exact ic_246 hca2.2.1 hRY hR hqn ⟨hcu.1, hcu.2.1⟩ hn (fun k hk => ⟨(hdd k hk).1, (hdd k hk).2.1, (hdd k hk).2.2.1, fun h => absurd rfl h⟩)
      clear hdd
      rcases y58 with ⟨y8, y4⟩ | ⟨y8, y4⟩
      · have p3 : zI (pasZ Z q 64) = zI (Z 64) + 0 := by rw [y4, zL0, zI_add, Int.add_zero]
        repeat (first | with_reducible exact rfl | with_reducible refine (obE (t_sharpness _)).trans ?_ | with_reducible refine (obE (t_chips _)).trans ?_ | with_reducible refine (obE (t_woodTaken _)).trans ?_ | with_reducible refine (obE (t_jams _)).trans ?_ | with_reducible refine (obE (t_wear _)).trans ?_ | with_reducible refine (obE e1).trans ?_ | with_reducible refine (obE e2).trans ?_ | with_reducible refine (obE e3).trans ?_ | with_reducible refine (obE e4).trans ?_ | with_reducible refine (obE e20).trans ?_ | with_reducible refine (obE e21).trans ?_ | with_reducible refine (obE e22).trans ?_ | with_reducible refine (obE e23).trans ?_ | with_reducible refine (obE e5).trans ?_ | with_reducible refine (obE e6).trans ?_ | with_reducible refine (obE e7).trans ?_ | with_reducible refine (obE e8).trans ?_ | with_reducible refine (obE e9).trans ?_ | with_reducible refine (obE e10).trans ?_ | with_reducible refine (obE e11).trans ?_ | with_reducible refine (obE e12).trans ?_ | with_reducible refine (obE e13).trans ?_ | with_reducible refine (obE e14).trans ?_ | with_reducible refine (if_pos p1).trans ?_ | with_reducible refine (if_pos p2).trans ?_ | with_reducible refine (if_pos p3).trans ?_ | with_reducible refine (if_pos (by simp (disch := omega) only [zL0, zL1, zL2, zL3, zL5, zL6, zL7, zL8, zL9, zL15, zL16, zL20, zL30, zL50, zL99, zL100, zL120, zL200, zI_add, zI_sub, zI_mul, zI_div, zI_le, zI_lt, zI_eq, -eq_self]; omega)).trans ?_ | with_reducible refine (if_neg (by simp (disch := omega) only [zL0, zL1, zL2, zL3, zL5, zL6, zL7, zL8, zL9, zL15, zL16, zL20, zL30, zL50, zL99, zL100, zL120, zL200, zI_add, zI_sub, zI_mul, zI_div, zI_le, zI_lt, zI_eq, -eq_self]; omega)).trans ?_ | fail)
      · have p3 : zI (pasZ Z q 64) = zI (Z 64) + 1 := by rw [y4, zL1, zI_add]
        repeat (first | with_reducible exact rfl | with_reducible refine (obE (t_sharpness _)).trans ?_ | with_reducible refine (obE (t_chips _)).trans ?_ | with_reducible refine (obE (t_woodTaken _)).trans ?_ | with_reducible refine (obE (t_jams _)).trans ?_ | with_reducible refine (obE (t_wear _)).trans ?_ | with_reducible refine (obE e1).trans ?_ | with_reducible refine (obE e2).trans ?_ | with_reducible refine (obE e3).trans ?_ | with_reducible refine (obE e4).trans ?_ | with_reducible refine (obE e20).trans ?_ | with_reducible refine (obE e21).trans ?_ | with_reducible refine (obE e22).trans ?_ | with_reducible refine (obE e23).trans ?_ | with_reducible refine (obE e5).trans ?_ | with_reducible refine (obE e6).trans ?_ | with_reducible refine (obE e7).trans ?_ | with_reducible refine (obE e8).trans ?_ | with_reducible refine (obE e9).trans ?_ | with_reducible refine (obE e10).trans ?_ | with_reducible refine (obE e11).trans ?_ | with_reducible refine (obE e12).trans ?_ | with_reducible refine (obE e13).trans ?_ | with_reducible refine (obE e14).trans ?_ | with_reducible refine (if_pos p1).trans ?_ | with_reducible refine (if_pos p2).trans ?_ | with_reducible refine (if_pos p3).trans ?_ | with_reducible refine (if_pos (by simp (disch := omega) only [zL0, zL1, zL2, zL3, zL5, zL6, zL7, zL8, zL9, zL15, zL16, zL20, zL30, zL50, zL99, zL100, zL120, zL200, zI_add, zI_sub, zI_mul, zI_div, zI_le, zI_lt, zI_eq, -eq_self]; omega)).trans ?_ | with_reducible refine (if_neg (by simp (disch := omega) only [zL0, zL1, zL2, zL3, zL5, zL6, zL7, zL8, zL9, zL15, zL16, zL20, zL30, zL50, zL99, zL100, zL120, zL200, zI_add, zI_sub, zI_mul, zI_div, zI_le, zI_lt, zI_eq, -eq_self]; omega)).trans ?_ | fail)
  · obtain ⟨rd3, ho3, hcn3, hsv3, e20, hca3, hq3⟩ := m_sand hR hca hq hm h5 hv
    have hq3 : Hq (lpk md (zI (Z 48)) (zI (Z 49)) (zI (Z 50)) (zI (Z 52)) (zI (Z 51)) (zI (Z 53)) (zI (Z 54)) (zI (Z 55)) rd rw rp (zI (Z 59)) (zI (Z 60)) (zI (Z 61)) (zI (Z 62)) (zI (Z 63)) (zI (Z 64)) (zI (Z 65)) (zI (Z 56)) (zI (Z 57)) (zI (Z 58)) :: hs.take 5) ho3 hcn3 hsv3 := hq3
    obtain ⟨hcn4, e21, hq4⟩ := u_undo hR hq3
    have e22 : fL_sumOf rd3 (zI (Z 59)) (zI (Z 60)) = some (zI (sdZ (zup (rubZ v q Z).2 62 (Z 62 + (rubZ v q Z).1)) q)) := by
      have := l_sumOf hca3.2.1 hYR (q := q) (by rw [hY59]; exact hqn)
      rw [hY59] at this
      rw [hm]; exact this
    have e23 : fL_isCut_L396 rd3 (zI (Z 59)) n7 n12 (zI v) (zI (Z 60)) 2000 0 = some () := by rw [hm]; exact ic_396 hca3.2.1 hR hqn hv hn r6
    refine ⟨ho3, hcn4, hsv3, le, hs.take 5, ?_, fun x hx => List.mem_of_mem_take hx, hq4⟩
    unfold fL_isCut
    by_cases j0 : Z 58 = 0
    all_goals repeat (first | with_reducible exact rfl | with_reducible refine (obE (t_sharpness _)).trans ?_ | with_reducible refine (obE (t_chips _)).trans ?_ | with_reducible refine (obE (t_woodTaken _)).trans ?_ | with_reducible refine (obE (t_jams _)).trans ?_ | with_reducible refine (obE (t_wear _)).trans ?_ | with_reducible refine (obE e1).trans ?_ | with_reducible refine (obE e2).trans ?_ | with_reducible refine (obE e3).trans ?_ | with_reducible refine (obE e4).trans ?_ | with_reducible refine (obE e20).trans ?_ | with_reducible refine (obE e21).trans ?_ | with_reducible refine (obE e22).trans ?_ | with_reducible refine (obE e23).trans ?_ | with_reducible refine (if_pos (by simp (disch := omega) only [zL0, zL1, zL2, zL3, zL5, zL6, zL7, zL8, zL9, zL15, zL16, zL20, zL30, zL50, zL99, zL100, zL120, zL200, zI_add, zI_sub, zI_mul, zI_div, zI_le, zI_lt, zI_eq, -eq_self]; omega)).trans ?_ | with_reducible refine (if_neg (by simp (disch := omega) only [zL0, zL1, zL2, zL3, zL5, zL6, zL7, zL8, zL9, zL15, zL16, zL20, zL30, zL50, zL99, zL100, zL120, zL200, zI_add, zI_sub, zI_mul, zI_div, zI_le, zI_lt, zI_eq, -eq_self]; omega)).trans ?_ | fail)

end LWC
