/-! a turn of the law -/
section TRN
variable {Z : Nat → Int} {md rd rw rp : Nat → Int32} {hs : List LTH} {ho hcn : Int32} {hsv : Nat → Option LTH}
theorem l_first (hR : Rg Z) (hca : CA Z md rd rw rp) (wa le : Nat → Int32) : ∃ wa2 le2 : Nat → Int32, flawS md (zI (Z 48)) (zI (Z 49)) (zI (Z 50)) (zI (Z 52)) (zI (Z 53)) (zI (Z 54)) (zI (Z 55)) rd rw (zI (Z 59)) (zI (Z 60)) (zI (Z 56)) (zI (Z 57)) wa le = some (wa2, le2) := by
  obtain ⟨wa2, e1⟩ := l_areReadings hca.1 hR wa
  obtain ⟨le2, e2⟩ := l_arePieces hca hR le
  refine ⟨wa2, le2, ?_⟩
  unfold flawS
  repeat (first | with_reducible exact rfl | with_reducible refine (obE e1).trans ?_ | with_reducible refine (obE e2).trans ?_ | with_reducible refine (if_pos (by simp (disch := omega) only [zL0, zL1, zL2, zL3, zL5, zL6, zL7, zL8, zL9, zL15, zL16, zL20, zL30, zL50, zL99, zL100, zL120, zL200, zI_add, zI_sub, zI_mul, zI_div, zI_le, zI_lt, zI_eq, -eq_self]; omega)).trans ?_ | with_reducible refine (if_neg (by simp (disch := omega) only [zL0, zL1, zL2, zL3, zL5, zL6, zL7, zL8, zL9, zL15, zL16, zL20, zL30, zL50, zL99, zL100, zL120, zL200, zI_add, zI_sub, zI_mul, zI_div, zI_le, zI_lt, zI_eq, -eq_self]; omega)).trans ?_ | fail)
theorem l_turn (hR : Rg Z) (hca : CA Z md rd rw rp) (hq : Hq hs ho hcn hsv) (i3 x y : Int32) (wa le : Nat → Int32) : ∃ (Y : Nat → Int) (md9 rd9 rw9 rp9 : Nat → Int32) (ho9 hcn9 : Int32) (hsv9 : Nat → Option LTH) (wa9 le9 : Nat → Int32) (hs9 : List LTH), flawT md (zI (Z 48)) (zI (Z 49)) (zI (Z 50)) (zI (Z 52)) (zI (Z 51)) (zI (Z 53)) (zI (Z 54)) (zI (Z 55)) rd rw rp (zI (Z 59)) (zI (Z 60)) (zI (Z 61)) (zI (Z 62)) (zI (Z 63)) (zI (Z 64)) (zI (Z 65)) (zI (Z 56)) (zI (Z 57)) (zI (Z 58)) ho hcn hsv wa le i3 x y = some (md9, zI (Y 48), zI (Y 49), zI (Y 50), zI (Y 52), zI (Y 51), zI (Y 53), zI (Y 54), zI (Y 55), rd9, rw9, rp9, zI (Y 59), zI (Y 60), zI (Y 61), zI (Y 62), zI (Y 63), zI (Y 64), zI (Y 65), zI (Y 56), zI (Y 57), zI (Y 58), ho9, hcn9, hsv9, wa9, le9) ∧ Rg Y ∧ CA Y md9 rd9 rw9 rp9 ∧ Hq hs9 ho9 hcn9 hsv9 := by
  obtain ⟨hh, hlk⟩ := lk_spec hR
  have e1 := hlk md rd rw rp hca
  obtain ⟨r, Y, hRY, hr, hact⟩ := l_act hR x y
  obtain ⟨md2, rd2, rw2, rp2, ho2, hcn2, hsv2, e2, hca2, hq2⟩ := hact md rd rw rp hs ho hcn hsv hca hq
  obtain ⟨hc1, hl1⟩ := hq.len
  obtain ⟨hc2, hl2⟩ := hq2.len
  rw [nI_zI] at hc1 hc2
  have e3 : fX9_savedStates hcn = some (zI (hs.length : Int)) := by rw [t_savedStates, hc1]
  have e4 : fX9_savedStates hcn2 = some (zI (((lpk md (zI (Z 48)) (zI (Z 49)) (zI (Z 50)) (zI (Z 52)) (zI (Z 51)) (zI (Z 53)) (zI (Z 54)) (zI (Z 55)) rd rw rp (zI (Z 59)) (zI (Z 60)) (zI (Z 61)) (zI (Z 62)) (zI (Z 63)) (zI (Z 64)) (zI (Z 65)) (zI (Z 56)) (zI (Z 57)) (zI (Z 58)) :: hs.take 5).length : Nat) : Int)) := by rw [t_savedStates, hc2]
  have hlen : ((lpk md (zI (Z 48)) (zI (Z 49)) (zI (Z 50)) (zI (Z 52)) (zI (Z 51)) (zI (Z 53)) (zI (Z 54)) (zI (Z 55)) rd rw rp (zI (Z 59)) (zI (Z 60)) (zI (Z 61)) (zI (Z 62)) (zI (Z 63)) (zI (Z 64)) (zI (Z 65)) (zI (Z 56)) (zI (Z 57)) (zI (Z 58)) :: hs.take 5).length) = min 5 hs.length + 1 := by rw [List.length_cons, List.length_take]
  rw [hlen] at e4
  clear hc1 hc2 hl2
  obtain ⟨hh2, hlk2⟩ := lk_spec hRY
  have e5 := hlk2 md2 rd2 rw2 rp2 hca2
  obtain ⟨f, hf, u1⟩ := up_ok (x >>> (5 &&& 31)) (N := 3) (n := 3) (by decide) (by omega)
  obtain ⟨t, ht, u2⟩ := up_ok (y >>> (5 &&& 31)) (N := 3) (n := 3) (by decide) (by omega)
  obtain ⟨b, hb, u3⟩ := up_ok (y >>> (9 &&& 31)) (N := 3) (n := 3) (by decide) (by omega)
  have key : ∀ (md4 rd4 rw4 rp4 : Nat → Int32) (hs4 : List LTH) (ho4 hcn4 : Int32) (hsv4 : Nat → Option LTH), CA Y md4 rd4 rw4 rp4 → Hq hs4 ho4 hcn4 hsv4 → ∃ (wa2 le2 : Nat → Int32), fL_areReadings md4 (zI (Y 48)) (zI (Y 49)) (zI (Y 50)) (zI (Y 52)) (zI (Y 53)) (zI (Y 54)) (zI (Y 57)) wa = some (1, wa2) ∧ fL_arePieces md4 (zI (Y 48)) (zI (Y 49)) (zI (Y 50)) (zI (Y 52)) (zI (Y 53)) (zI (Y 54)) (zI (Y 55)) rd4 rw4 (zI (Y 59)) (zI (Y 60)) (zI (Y 56)) le = some (1, le2) ∧ ∃ (ho5 hcn5 : Int32) (hsv5 : Nat → Option LTH) (le5 : Nat → Int32) (hs5 : List LTH), fL_isAhead md4 (zI (Y 48)) (zI (Y 49)) (zI (Y 50)) (zI (Y 52)) (zI (Y 51)) (zI (Y 53)) (zI (Y 54)) (zI (Y 55)) rd4 rw4 rp4 (zI (Y 59)) (zI (Y 60)) (zI (Y 61)) (zI (Y 62)) (zI (Y 63)) (zI (Y 64)) (zI (Y 65)) (zI (Y 56)) (zI (Y 57)) (zI (Y 58)) ho4 hcn4 hsv4 le2 (zI f) (zI t) (1 + zI b) = some (1, md4, zI (Y 48), zI (Y 49), zI (Y 50), zI (Y 52), zI (Y 51), zI (Y 53), zI (Y 54), zI (Y 55), rd4, rw4, rp4, zI (Y 59), zI (Y 60), zI (Y 61), zI (Y 62), zI (Y 63), zI (Y 64), zI (Y 65), zI (Y 56), zI (Y 57), zI (Y 58), ho5, hcn5, hsv5, le5) ∧ Hq hs5 ho5 hcn5 hsv5 := by
    intro md4 rd4 rw4 rp4 hs4 ho4 hcn4 hsv4 hca4 hq4
    obtain ⟨wa2, k1⟩ := l_areReadings hca4.1 hRY wa
    obtain ⟨le2, k2⟩ := l_arePieces hca4 hRY le
    obtain ⟨ho5, hcn5, hsv5, le5, hs5, k3, -, k4⟩ := l_isAhead hRY hca4 hq4 hf ht (v := 1 + (b : Int)) (by omega) le2
    exact ⟨wa2, le2, k1, k2, ho5, hcn5, hsv5, le5, hs5, (congrArg (fL_isAhead md4 (zI (Y 48)) (zI (Y 49)) (zI (Y 50)) (zI (Y 52)) (zI (Y 51)) (zI (Y 53)) (zI (Y 54)) (zI (Y 55)) rd4 rw4 rp4 (zI (Y 59)) (zI (Y 60)) (zI (Y 61)) (zI (Y 62)) (zI (Y 63)) (zI (Y 64)) (zI (Y 65)) (zI (Y 56)) (zI (Y 57)) (zI (Y 58)) ho4 hcn4 hsv4 le2 (zI (f : Int)) (zI (t : Int))) (show (1 : Int32) + zI (b : Int) = zI (1 + (b : Int)) by rw [zL1, zI_add])).trans k3, k4⟩
  by_cases c1 : ((x >>> (8 &&& 31)) &&& 3) = 0
  · obtain ⟨hcn3, e6, hq3⟩ := u_undo hR hq2
    obtain ⟨md4, rd4, rw4, rp4, ho4, hcn4, hsv4, e7, hca4, hq4⟩ := hact md rd rw rp (hs.take 5) ho2 hcn3 hsv2 hca hq3
    have e8 := hlk2 md4 rd4 rw4 rp4 hca4
    obtain ⟨wa2, le2, k1, k2, ho5, hcn5, hsv5, le5, hs5, k3, k4⟩ := key md4 rd4 rw4 rp4 _ ho4 hcn4 hsv4 hca4 hq4
    by_cases c2 : i3 - i3 / 3 * 3 = 1
    · refine ⟨Y, md4, rd4, rw4, rp4, ho5, hcn5, hsv5, wa2, le5, hs5, ?_, hRY, hca4, k4⟩
      unfold flawT
      by_cases c3 : 6 ≤ hs.length
      all_goals repeat (first | with_reducible exact rfl | with_reducible refine (obE e1).trans ?_ | with_reducible refine (obE e2).trans ?_ | with_reducible refine (obE e3).trans ?_ | with_reducible refine (obE e4).trans ?_ | with_reducible refine (obE e5).trans ?_ | with_reducible refine (obE u1).trans ?_ | with_reducible refine (obE u2).trans ?_ | with_reducible refine (obE u3).trans ?_ | with_reducible refine (obE k1).trans ?_ | with_reducible refine (obE k2).trans ?_ | with_reducible refine (obE e6).trans ?_ | with_reducible refine (obE e7).trans ?_ | with_reducible refine (obE e8).trans ?_ | with_reducible refine (obE k3).trans ?_ | with_reducible refine (if_pos lgs).trans ?_ | with_reducible refine (if_pos c1).trans ?_ | with_reducible refine (if_pos c2).trans ?_ | with_reducible refine (if_pos (by simp (disch := omega) only [zL0, zL1, zL2, zL3, zL5, zL6, zL7, zL8, zL9, zL15, zL16, zL20, zL30, zL50, zL99, zL100, zL120, zL200, zI_add, zI_sub, zI_mul, zI_div, zI_le, zI_lt, zI_eq, -eq_self]; omega)).trans ?_ | with_reducible refine (if_neg (by simp (disch := omega) only [zL0, zL1, zL2, zL3, zL5, zL6, zL7, zL8, zL9, zL15, zL16, zL20, zL30, zL50, zL99, zL100, zL120, zL200, zI_add, zI_sub, zI_mul, zI_div, zI_le, zI_lt, zI_eq, -eq_self]; omega)).trans ?_ | fail)
    · refine ⟨Y, md4, rd4, rw4, rp4, ho4, hcn4, hsv4, wa2, le2, _, ?_, hRY, hca4, hq4⟩
      unfold flawT
      by_cases c3 : 6 ≤ hs.length
      all_goals repeat (first | with_reducible exact rfl | with_reducible refine (obE e1).trans ?_ | with_reducible refine (obE e2).trans ?_ | with_reducible refine (obE e3).trans ?_ | with_reducible refine (obE e4).trans ?_ | with_reducible refine (obE e5).trans ?_ | with_reducible refine (obE u1).trans ?_ | with_reducible refine (obE u2).trans ?_ | with_reducible refine (obE u3).trans ?_ | with_reducible refine (obE k1).trans ?_ | with_reducible refine (obE k2).trans ?_ | with_reducible refine (obE e6).trans ?_ | with_reducible refine (obE e7).trans ?_ | with_reducible refine (obE e8).trans ?_ | with_reducible refine (if_pos lgs).trans ?_ | with_reducible refine (if_pos c1).trans ?_ | with_reducible refine (if_neg c2).trans ?_ | with_reducible refine (if_pos (by simp (disch := omega) only [zL0, zL1, zL2, zL3, zL5, zL6, zL7, zL8, zL9, zL15, zL16, zL20, zL30, zL50, zL99, zL100, zL120, zL200, zI_add, zI_sub, zI_mul, zI_div, zI_le, zI_lt, zI_eq, -eq_self]; omega)).trans ?_ | with_reducible refine (if_neg (by simp (disch := omega) only [zL0, zL1, zL2, zL3, zL5, zL6, zL7, zL8, zL9, zL15, zL16, zL20, zL30, zL50, zL99, zL100, zL120, zL200, zI_add, zI_sub, zI_mul, zI_div, zI_le, zI_lt, zI_eq, -eq_self]; omega)).trans ?_ | fail)
  · obtain ⟨wa2, le2, k1, k2, ho5, hcn5, hsv5, le5, hs5, k3, k4⟩ := key md2 rd2 rw2 rp2 _ ho2 hcn2 hsv2 hca2 hq2
    by_cases c2 : i3 - i3 / 3 * 3 = 1
    · refine ⟨Y, md2, rd2, rw2, rp2, ho5, hcn5, hsv5, wa2, le5, hs5, ?_, hRY, hca2, k4⟩
      unfold flawT
      by_cases c3 : 6 ≤ hs.length
      all_goals repeat (first | with_reducible exact rfl | with_reducible refine (obE e1).trans ?_ | with_reducible refine (obE e2).trans ?_ | with_reducible refine (obE e3).trans ?_ | with_reducible refine (obE e4).trans ?_ | with_reducible refine (obE e5).trans ?_ | with_reducible refine (obE u1).trans ?_ | with_reducible refine (obE u2).trans ?_ | with_reducible refine (obE u3).trans ?_ | with_reducible refine (obE k1).trans ?_ | with_reducible refine (obE k2).trans ?_ | with_reducible refine (obE k3).trans ?_ | with_reducible refine (if_pos lgs).trans ?_ | with_reducible refine (if_pos c2).trans ?_ | with_reducible refine (if_neg c1).trans ?_ | with_reducible refine (if_pos (by simp (disch := omega) only [zL0, zL1, zL2, zL3, zL5, zL6, zL7, zL8, zL9, zL15, zL16, zL20, zL30, zL50, zL99, zL100, zL120, zL200, zI_add, zI_sub, zI_mul, zI_div, zI_le, zI_lt, zI_eq, -eq_self]; omega)).trans ?_ | with_reducible refine (if_neg (by simp (disch := omega) only [zL0, zL1, zL2, zL3, zL5, zL6, zL7, zL8, zL9, zL15, zL16, zL20, zL30, zL50, zL99, zL100, zL120, zL200, zI_add, zI_sub, zI_mul, zI_div, zI_le, zI_lt, zI_eq, -eq_self]; omega)).trans ?_ | fail)
    · refine ⟨Y, md2, rd2, rw2, rp2, ho2, hcn2, hsv2, wa2, le2, _, ?_, hRY, hca2, hq2⟩
      unfold flawT
      by_cases c3 : 6 ≤ hs.length
      all_goals repeat (first | with_reducible exact rfl | with_reducible refine (obE e1).trans ?_ | with_reducible refine (obE e2).trans ?_ | with_reducible refine (obE e3).trans ?_ | with_reducible refine (obE e4).trans ?_ | with_reducible refine (obE e5).trans ?_ | with_reducible refine (obE u1).trans ?_ | with_reducible refine (obE u2).trans ?_ | with_reducible refine (obE u3).trans ?_ | with_reducible refine (obE k1).trans ?_ | with_reducible refine (obE k2).trans ?_ | with_reducible refine (if_pos lgs).trans ?_ | with_reducible refine (if_neg c1).trans ?_ | with_reducible refine (if_neg c2).trans ?_ | with_reducible refine (if_pos (by simp (disch := omega) only [zL0, zL1, zL2, zL3, zL5, zL6, zL7, zL8, zL9, zL15, zL16, zL20, zL30, zL50, zL99, zL100, zL120, zL200, zI_add, zI_sub, zI_mul, zI_div, zI_le, zI_lt, zI_eq, -eq_self]; omega)).trans ?_ | with_reducible refine (if_neg (by simp (disch := omega) only [zL0, zL1, zL2, zL3, zL5, zL6, zL7, zL8, zL9, zL15, zL16, zL20, zL30, zL50, zL99, zL100, zL120, zL200, zI_add, zI_sub, zI_mul, zI_div, zI_le, zI_lt, zI_eq, -eq_self]; omega)).trans ?_ | fail)
end TRN
