theorem zL4 : (4 : Int32) = zI 4 := by decide
theorem zL12 : (12 : Int32) = zI 12 := by decide
theorem up_ok (i : Int32) {N : Int32} {n : Nat} (e : N = zI (n : Int)) (hn : 1 ≤ n ∧ n ≤ 1000) : ∃ u : Nat, u < n ∧ fL_up i N = some (zI (u : Int)) := by
  obtain ⟨j, hj, e2⟩ := pk_andE i (m := 2147483647) 31 (by decide)
  refine ⟨j % n, Nat.mod_lt _ (by omega), ?_⟩
  unfold fL_up
  have h0 : ¬ N = 0 := by rw [e, zL0, zI_eq (by omega)]; omega
  rw [if_pos h0, e2, e, ← nI_zI, ← nI_zI, pk_rem (by omega) (by omega) (by omega)]
section LWE
variable {Z : Nat → Int}
theorem l_sets (hR : Rg Z) (y : Int32) : ∃ (r : Int) (Y : Nat → Int), Rg Y ∧ (0 ≤ r ∧ r ≤ 2000) ∧ (∀ j : Nat, (j < 48 ∨ j = 59 ∨ j = 60 ∨ j = 61 ∨ j = 62 ∨ j = 64 ∨ j = 65 ∨ 66 ≤ j) → Y j = Z j) ∧ ∀ (md rd rw rp : Nat → Int32) (hs : List LTH) (ho hcn : Int32) (hsv : Nat → Option LTH), CA Z md rd rw rp → Hq hs ho hcn hsv → ∃ (ho2 hcn2 : Int32) (hsv2 : Nat → Option LTH), fL_sets md (zI (Z 48)) (zI (Z 49)) (zI (Z 50)) (zI (Z 52)) (zI (Z 51)) (zI (Z 53)) (zI (Z 54)) (zI (Z 55)) rd rw rp (zI (Z 59)) (zI (Z 60)) (zI (Z 61)) (zI (Z 62)) (zI (Z 63)) (zI (Z 64)) (zI (Z 65)) (zI (Z 56)) (zI (Z 57)) (zI (Z 58)) ho hcn hsv y = some (zI r, zI (Y 48), zI (Y 49), zI (Y 50), zI (Y 52), zI (Y 51), zI (Y 53), zI (Y 54), zI (Y 55), zI (Y 63), zI (Y 56), zI (Y 57), zI (Y 58), ho2, hcn2, hsv2) ∧ Hq ((lpk md (zI (Z 48)) (zI (Z 49)) (zI (Z 50)) (zI (Z 52)) (zI (Z 51)) (zI (Z 53)) (zI (Z 54)) (zI (Z 55)) rd rw rp (zI (Z 59)) (zI (Z 60)) (zI (Z 61)) (zI (Z 62)) (zI (Z 63)) (zI (Z 64)) (zI (Z 65)) (zI (Z 56)) (zI (Z 57)) (zI (Z 58)) :: hs).take 6) ho2 hcn2 hsv2 := by
  have h48 := hR.ch
  have h49 := hR.ra
  have h50 := hR.we
  have h52 := hR.of
  have h53 := hR.sh
  have h54 := hR.de
  have h55 := hR.sp
  have h56 := hR.to
  have h57 := hR.chi
  have h58 := tb58 hR
  obtain ⟨u, hu, e0⟩ := up_ok y (N := 8) (n := 8) (by decide) (by omega)
  rcases (show u = 0 ∨ u = 1 ∨ u = 2 ∨ u = 3 ∨ u = 4 ∨ u = 5 ∨ u = 6 ∨ u = 7 by omega) with rfl | rfl | rfl | rfl | rfl | rfl | rfl | rfl
  · obtain ⟨w, hw, e1⟩ := up_ok (y >>> (3 &&& 31)) (N := 4) (n := 4) (by decide) (by omega)
    refine ⟨Z 50, zup (zup (zup Z 50 0) 49 (w : Int)) 51 0, Rg.sc (Rg.sc (Rg.sc hR (by omega) (by omega)) (by omega) (by simp (disch := omega) only [zup_n]; omega)) (by omega) (by simp (disch := omega) only [zup_n]; omega), by omega, fun j hj => by simp (disch := omega) only [zup_n], fun md rd rw rp hs ho hcn hsv hca hq => ?_⟩
    obtain ⟨ho2, hcn2, hsv2, e2, hq2⟩ := m_fitFollower hR hca hq (v := (w : Int)) (by omega)
    refine ⟨ho2, hcn2, hsv2, ?_, hq2⟩
    unfold fL_sets
    repeat (first | with_reducible refine (obE e0).trans ?_ | with_reducible refine (obE e1).trans ?_ | with_reducible refine (obE e2).trans ?_ | with_reducible refine (if_pos (by simp (disch := omega) only [zL0, zL1, zL2, zL3, zL4, zL5, zL6, zL7, zL8, zL9, zL12, zL15, zL18, zL16, zL20, zL30, zL50, zL99, zL100, zL120, zL200, zI_add, zI_sub, zI_mul, zI_div, zI_le, zI_lt, zI_eq, -eq_self]; omega)).trans ?_ | with_reducible refine (if_neg (by simp (disch := omega) only [zL0, zL1, zL2, zL3, zL4, zL5, zL6, zL7, zL8, zL9, zL12, zL15, zL18, zL16, zL20, zL30, zL50, zL99, zL100, zL120, zL200, zI_add, zI_sub, zI_mul, zI_div, zI_le, zI_lt, zI_eq, -eq_self]; omega)).trans ?_ | fail)
    first | exact rfl | (simp (disch := omega) only [zup_s, zup_n]; done) | (simp (disch := omega) only [zup_s, zup_n]; exact rfl)
  · obtain ⟨w, hw, e1⟩ := up_ok (y >>> (3 &&& 31)) (N := 6) (n := 6) (by decide) (by omega)
    refine ⟨Z 52, zup Z 52 (w : Int), Rg.sc hR (by omega) (by omega), by omega, fun j hj => by simp (disch := omega) only [zup_n], fun md rd rw rp hs ho hcn hsv hca hq => ?_⟩
    obtain ⟨ho2, hcn2, hsv2, e2, hq2⟩ := m_changeOffset hR hca hq (v := (w : Int)) (by omega)
    refine ⟨ho2, hcn2, hsv2, ?_, hq2⟩
    unfold fL_sets
    repeat (first | with_reducible refine (obE e0).trans ?_ | with_reducible refine (obE e1).trans ?_ | with_reducible refine (obE e2).trans ?_ | with_reducible refine (if_pos (by simp (disch := omega) only [zL0, zL1, zL2, zL3, zL4, zL5, zL6, zL7, zL8, zL9, zL12, zL15, zL18, zL16, zL20, zL30, zL50, zL99, zL100, zL120, zL200, zI_add, zI_sub, zI_mul, zI_div, zI_le, zI_lt, zI_eq, -eq_self]; omega)).trans ?_ | with_reducible refine (if_neg (by simp (disch := omega) only [zL0, zL1, zL2, zL3, zL4, zL5, zL6, zL7, zL8, zL9, zL12, zL15, zL18, zL16, zL20, zL30, zL50, zL99, zL100, zL120, zL200, zI_add, zI_sub, zI_mul, zI_div, zI_le, zI_lt, zI_eq, -eq_self]; omega)).trans ?_ | fail)
    first | exact rfl | (simp (disch := omega) only [zup_s, zup_n]; done) | (simp (disch := omega) only [zup_s, zup_n]; exact rfl)
  · have hw : True := trivial
    refine ⟨Z 53, zup (zup Z 53 100) 63 (Z 63 + 1), Rg.sc (Rg.sc hR (by omega) (by omega)) (by omega) (by omega), by omega, fun j hj => by simp (disch := omega) only [zup_n], fun md rd rw rp hs ho hcn hsv hca hq => ?_⟩
    obtain ⟨ho2, hcn2, hsv2, e2, hq2⟩ := m_sharpen hR hca hq
    refine ⟨ho2, hcn2, hsv2, ?_, hq2⟩
    unfold fL_sets
    repeat (first | with_reducible refine (obE e0).trans ?_ | with_reducible refine (obE e2).trans ?_ | with_reducible refine (if_pos (by simp (disch := omega) only [zL0, zL1, zL2, zL3, zL4, zL5, zL6, zL7, zL8, zL9, zL12, zL15, zL18, zL16, zL20, zL30, zL50, zL99, zL100, zL120, zL200, zI_add, zI_sub, zI_mul, zI_div, zI_le, zI_lt, zI_eq, -eq_self]; omega)).trans ?_ | with_reducible refine (if_neg (by simp (disch := omega) only [zL0, zL1, zL2, zL3, zL4, zL5, zL6, zL7, zL8, zL9, zL12, zL15, zL18, zL16, zL20, zL30, zL50, zL99, zL100, zL120, zL200, zI_add, zI_sub, zI_mul, zI_div, zI_le, zI_lt, zI_eq, -eq_self]; omega)).trans ?_ | fail)
    first | exact rfl | (simp (disch := omega) only [zup_s, zup_n]; done) | (simp (disch := omega) only [zup_s, zup_n]; exact rfl)
  · obtain ⟨w, hw, e1⟩ := up_ok (y >>> (3 &&& 31)) (N := 9) (n := 9) (by decide) (by omega)
    refine ⟨Z 54, zup Z 54 (1 + (w : Int)), Rg.sc hR (by omega) (by omega), by omega, fun j hj => by simp (disch := omega) only [zup_n], fun md rd rw rp hs ho hcn hsv hca hq => ?_⟩
    obtain ⟨ho2, hcn2, hsv2, e2, hq2⟩ := m_changeDepth hR hca hq (v := 1 + (w : Int)) (by omega)
    have e3 := (congrArg (fX9_changeDepth md (zI (Z 48)) (zI (Z 49)) (zI (Z 50)) (zI (Z 52)) (zI (Z 51)) (zI (Z 53)) (zI (Z 54)) (zI (Z 55)) rd rw rp (zI (Z 59)) (zI (Z 60)) (zI (Z 61)) (zI (Z 62)) (zI (Z 63)) (zI (Z 64)) (zI (Z 65)) (zI (Z 56)) (zI (Z 57)) (zI (Z 58)) ho hcn hsv) (show (1 : Int32) + zI (w : Int) = zI (1 + (w : Int)) by rw [zL1, zI_add])).trans e2
    refine ⟨ho2, hcn2, hsv2, ?_, hq2⟩
    unfold fL_sets
    repeat (first | with_reducible refine (obE e0).trans ?_ | with_reducible refine (obE e1).trans ?_ | with_reducible refine (obE e3).trans ?_ | with_reducible refine (if_pos (by simp (disch := omega) only [zL0, zL1, zL2, zL3, zL4, zL5, zL6, zL7, zL8, zL9, zL12, zL15, zL18, zL16, zL20, zL30, zL50, zL99, zL100, zL120, zL200, zI_add, zI_sub, zI_mul, zI_div, zI_le, zI_lt, zI_eq, -eq_self]; omega)).trans ?_ | with_reducible refine (if_neg (by simp (disch := omega) only [zL0, zL1, zL2, zL3, zL4, zL5, zL6, zL7, zL8, zL9, zL12, zL15, zL18, zL16, zL20, zL30, zL50, zL99, zL100, zL120, zL200, zI_add, zI_sub, zI_mul, zI_div, zI_le, zI_lt, zI_eq, -eq_self]; omega)).trans ?_ | fail)
    first | exact rfl | (simp (disch := omega) only [zup_s, zup_n]; done) | (simp (disch := omega) only [zup_s, zup_n]; exact rfl)
  · obtain ⟨w, hw, e1⟩ := up_ok (y >>> (3 &&& 31)) (N := 5) (n := 5) (by decide) (by omega)
    refine ⟨Z 55, zup Z 55 (1 + (w : Int)), Rg.sc hR (by omega) (by omega), by omega, fun j hj => by simp (disch := omega) only [zup_n], fun md rd rw rp hs ho hcn hsv hca hq => ?_⟩
    obtain ⟨ho2, hcn2, hsv2, e2, hq2⟩ := m_changeSpeed hR hca hq (v := 1 + (w : Int)) (by omega)
    have e3 := (congrArg (fX9_changeSpeed md (zI (Z 48)) (zI (Z 49)) (zI (Z 50)) (zI (Z 52)) (zI (Z 51)) (zI (Z 53)) (zI (Z 54)) (zI (Z 55)) rd rw rp (zI (Z 59)) (zI (Z 60)) (zI (Z 61)) (zI (Z 62)) (zI (Z 63)) (zI (Z 64)) (zI (Z 65)) (zI (Z 56)) (zI (Z 57)) (zI (Z 58)) ho hcn hsv) (show (1 : Int32) + zI (w : Int) = zI (1 + (w : Int)) by rw [zL1, zI_add])).trans e2
    refine ⟨ho2, hcn2, hsv2, ?_, hq2⟩
    unfold fL_sets
    repeat (first | with_reducible refine (obE e0).trans ?_ | with_reducible refine (obE e1).trans ?_ | with_reducible refine (obE e3).trans ?_ | with_reducible refine (if_pos (by simp (disch := omega) only [zL0, zL1, zL2, zL3, zL4, zL5, zL6, zL7, zL8, zL9, zL12, zL15, zL18, zL16, zL20, zL30, zL50, zL99, zL100, zL120, zL200, zI_add, zI_sub, zI_mul, zI_div, zI_le, zI_lt, zI_eq, -eq_self]; omega)).trans ?_ | with_reducible refine (if_neg (by simp (disch := omega) only [zL0, zL1, zL2, zL3, zL4, zL5, zL6, zL7, zL8, zL9, zL12, zL15, zL18, zL16, zL20, zL30, zL50, zL99, zL100, zL120, zL200, zI_add, zI_sub, zI_mul, zI_div, zI_le, zI_lt, zI_eq, -eq_self]; omega)).trans ?_ | fail)
    first | exact rfl | (simp (disch := omega) only [zup_s, zup_n]; done) | (simp (disch := omega) only [zup_s, zup_n]; exact rfl)
  · obtain ⟨w, hw, e1⟩ := up_ok (y >>> (3 &&& 31)) (N := 21) (n := 21) (by decide) (by omega)
    refine ⟨Z 56, zup Z 56 (w : Int), Rg.sc hR (by omega) (by omega), by omega, fun j hj => by simp (disch := omega) only [zup_n], fun md rd rw rp hs ho hcn hsv hca hq => ?_⟩
    obtain ⟨ho2, hcn2, hsv2, e2, hq2⟩ := m_changeTolerance hR hca hq (v := (w : Int)) (by omega)
    refine ⟨ho2, hcn2, hsv2, ?_, hq2⟩
    unfold fL_sets
    repeat (first | with_reducible refine (obE e0).trans ?_ | with_reducible refine (obE e1).trans ?_ | with_reducible refine (obE e2).trans ?_ | with_reducible refine (if_pos (by simp (disch := omega) only [zL0, zL1, zL2, zL3, zL4, zL5, zL6, zL7, zL8, zL9, zL12, zL15, zL18, zL16, zL20, zL30, zL50, zL99, zL100, zL120, zL200, zI_add, zI_sub, zI_mul, zI_div, zI_le, zI_lt, zI_eq, -eq_self]; omega)).trans ?_ | with_reducible refine (if_neg (by simp (disch := omega) only [zL0, zL1, zL2, zL3, zL4, zL5, zL6, zL7, zL8, zL9, zL12, zL15, zL18, zL16, zL20, zL30, zL50, zL99, zL100, zL120, zL200, zI_add, zI_sub, zI_mul, zI_div, zI_le, zI_lt, zI_eq, -eq_self]; omega)).trans ?_ | fail)
    first | exact rfl | (simp (disch := omega) only [zup_s, zup_n]; done) | (simp (disch := omega) only [zup_s, zup_n]; exact rfl)
  · obtain ⟨w, hw, e1⟩ := up_ok (y >>> (3 &&& 31)) (N := 3) (n := 3) (by decide) (by omega)
    refine ⟨Z 48, zup Z 48 (w : Int), Rg.sc hR (by omega) (by omega), by omega, fun j hj => by simp (disch := omega) only [zup_n], fun md rd rw rp hs ho hcn hsv hca hq => ?_⟩
    obtain ⟨ho2, hcn2, hsv2, e2, hq2⟩ := m_chooseMaster hR hca hq (c := w) hw
    refine ⟨ho2, hcn2, hsv2, ?_, hq2⟩
    unfold fL_sets
    repeat (first | with_reducible refine (obE e0).trans ?_ | with_reducible refine (obE e1).trans ?_ | with_reducible refine (obE e2).trans ?_ | with_reducible refine (if_pos (by simp (disch := omega) only [zL0, zL1, zL2, zL3, zL4, zL5, zL6, zL7, zL8, zL9, zL12, zL15, zL18, zL16, zL20, zL30, zL50, zL99, zL100, zL120, zL200, zI_add, zI_sub, zI_mul, zI_div, zI_le, zI_lt, zI_eq, -eq_self]; omega)).trans ?_ | with_reducible refine (if_neg (by simp (disch := omega) only [zL0, zL1, zL2, zL3, zL4, zL5, zL6, zL7, zL8, zL9, zL12, zL15, zL18, zL16, zL20, zL30, zL50, zL99, zL100, zL120, zL200, zI_add, zI_sub, zI_mul, zI_div, zI_le, zI_lt, zI_eq, -eq_self]; omega)).trans ?_ | fail)
    first | exact rfl | (simp (disch := omega) only [zup_s, zup_n]; done) | (simp (disch := omega) only [zup_s, zup_n]; exact rfl)
  · have hw : True := trivial
    refine ⟨Z 57, zup (zup Z 57 0) 58 0, Rg.sc (Rg.sc hR (by omega) (by omega)) (by omega) (by omega), by omega, fun j hj => by simp (disch := omega) only [zup_n], fun md rd rw rp hs ho hcn hsv hca hq => ?_⟩
    obtain ⟨ho2, hcn2, hsv2, e2, hq2⟩ := m_sweep hR hca hq
    refine ⟨ho2, hcn2, hsv2, ?_, hq2⟩
    unfold fL_sets
    repeat (first | with_reducible refine (obE e0).trans ?_ | with_reducible refine (obE e2).trans ?_ | with_reducible refine (if_pos (by simp (disch := omega) only [zL0, zL1, zL2, zL3, zL4, zL5, zL6, zL7, zL8, zL9, zL12, zL15, zL18, zL16, zL20, zL30, zL50, zL99, zL100, zL120, zL200, zI_add, zI_sub, zI_mul, zI_div, zI_le, zI_lt, zI_eq, -eq_self]; omega)).trans ?_ | with_reducible refine (if_neg (by simp (disch := omega) only [zL0, zL1, zL2, zL3, zL4, zL5, zL6, zL7, zL8, zL9, zL12, zL15, zL18, zL16, zL20, zL30, zL50, zL99, zL100, zL120, zL200, zI_add, zI_sub, zI_mul, zI_div, zI_le, zI_lt, zI_eq, -eq_self]; omega)).trans ?_ | fail)
    first | exact rfl | (simp (disch := omega) only [zup_s, zup_n]; done) | (simp (disch := omega) only [zup_s, zup_n]; exact rfl)
def ActR (Z : Nat → Int) (x y : Int32) (r : Int) (Y : Nat → Int) : Prop := ∀ (md rd rw rp : Nat → Int32) (hs : List LTH) (ho hcn : Int32) (hsv : Nat → Option LTH), CA Z md rd rw rp → Hq hs ho hcn hsv → ∃ (md2 rd2 rw2 rp2 : Nat → Int32) (ho2 hcn2 : Int32) (hsv2 : Nat → Option LTH), fL_act md (zI (Z 48)) (zI (Z 49)) (zI (Z 50)) (zI (Z 52)) (zI (Z 51)) (zI (Z 53)) (zI (Z 54)) (zI (Z 55)) rd rw rp (zI (Z 59)) (zI (Z 60)) (zI (Z 61)) (zI (Z 62)) (zI (Z 63)) (zI (Z 64)) (zI (Z 65)) (zI (Z 56)) (zI (Z 57)) (zI (Z 58)) ho hcn hsv x y = some (zI r, md2, zI (Y 48), zI (Y 49), zI (Y 50), zI (Y 52), zI (Y 51), zI (Y 53), zI (Y 54), zI (Y 55), rd2, rw2, rp2, zI (Y 59), zI (Y 60), zI (Y 61), zI (Y 62), zI (Y 63), zI (Y 64), zI (Y 65), zI (Y 56), zI (Y 57), zI (Y 58), ho2, hcn2, hsv2) ∧ CA Y md2 rd2 rw2 rp2 ∧ Hq (lpk md (zI (Z 48)) (zI (Z 49)) (zI (Z 50)) (zI (Z 52)) (zI (Z 51)) (zI (Z 53)) (zI (Z 54)) (zI (Z 55)) rd rw rp (zI (Z 59)) (zI (Z 60)) (zI (Z 61)) (zI (Z 62)) (zI (Z 63)) (zI (Z 64)) (zI (Z 65)) (zI (Z 56)) (zI (Z 57)) (zI (Z 58)) :: hs.take 5) ho2 hcn2 hsv2
theorem l_act (hR : Rg Z) (x y : Int32) : ∃ (r : Int) (Y : Nat → Int), Rg Y ∧ (0 ≤ r ∧ r ≤ 2000) ∧ ActR Z x y r Y := by
  have h48 := hR.ch
  have h53 := hR.sh
  have h57 := hR.chi
  have h58 := tb58 hR
  have h59 := hR.co
  have h60 := hR.mo
  have eM := r_hasMounted hR
  have eJ := r_isJammed hR
  obtain ⟨n, hn⟩ : ∃ n : Nat, Z 59 = n := ⟨(Z 59).toNat, by omega⟩
  obtain ⟨w, hw, e0⟩ := up_ok x (N := 20) (n := 20) (by decide) (by omega)
  by_cases c0 : n = 0
  · obtain ⟨p, hp, up⟩ := up_ok y (N := 3) (n := 3) (by decide) (by omega)
    obtain ⟨b, hb, ub⟩ := up_ok (y >>> (2 &&& 31)) (N := 101) (n := 101) (by decide) (by omega)
    refine ⟨Z 59, adZ Z n (p : Int) (20 + (b : Int)), adZ_R hR hn (by omega) (by omega) (by omega), by omega, fun md rd rw rp hs ho hcn hsv hca hq => ?_⟩
    obtain ⟨rd2, rw2, rp2, ho2, hcn2, hsv2, e2, hca2, hq2⟩ := m_addBlank hR hca hq (w := p) (e := 20 + (b : Int)) hn (by omega) hp (by omega)
    have e3 := (congrArg (fX9_addBlank md (zI (Z 48)) (zI (Z 49)) (zI (Z 50)) (zI (Z 52)) (zI (Z 51)) (zI (Z 53)) (zI (Z 54)) (zI (Z 55)) rd rw rp (zI (Z 59)) (zI (Z 60)) (zI (Z 61)) (zI (Z 62)) (zI (Z 63)) (zI (Z 64)) (zI (Z 65)) (zI (Z 56)) (zI (Z 57)) (zI (Z 58)) ho hcn hsv (zI (p : Int))) (show (20 : Int32) + zI (b : Int) = zI (20 + (b : Int)) by rw [zL20, zI_add])).trans e2
    refine ⟨md, rd2, rw2, rp2, ho2, hcn2, hsv2, ?_, hca2, hq2⟩
    unfold fL_act
    repeat (first | with_reducible refine (obE (t_pieces _)).trans ?_ | with_reducible refine (obE e0).trans ?_ | with_reducible refine (obE eM).trans ?_ | with_reducible refine (obE eJ).trans ?_ | with_reducible refine (obE (t_sharpness _)).trans ?_ | with_reducible refine (obE up).trans ?_ | with_reducible refine (obE ub).trans ?_ | with_reducible refine (obE e3).trans ?_ | with_reducible refine (if_pos (by simp (disch := omega) only [zL0, zL1, zL2, zL3, zL4, zL5, zL6, zL7, zL8, zL9, zL12, zL15, zL18, zL16, zL20, zL30, zL50, zL99, zL100, zL120, zL200, zI_add, zI_sub, zI_mul, zI_div, zI_le, zI_lt, zI_eq, -eq_self]; omega)).trans ?_ | with_reducible refine (if_neg (by simp (disch := omega) only [zL0, zL1, zL2, zL3, zL4, zL5, zL6, zL7, zL8, zL9, zL12, zL15, zL18, zL16, zL20, zL30, zL50, zL99, zL100, zL120, zL200, zI_add, zI_sub, zI_mul, zI_div, zI_le, zI_lt, zI_eq, -eq_self]; omega)).trans ?_ | fail)
    first | exact rfl | (simp (disch := omega) only [adZ_59, adZ_o]; done) | (simp (disch := omega) only [adZ_59, adZ_o]; exact rfl)
  · by_cases c1 : w = 0 ∧ n < 5
    · obtain ⟨c1, c2⟩ := c1
      obtain ⟨p, hp, up⟩ := up_ok y (N := 3) (n := 3) (by decide) (by omega)
      obtain ⟨b, hb, ub⟩ := up_ok (y >>> (2 &&& 31)) (N := 101) (n := 101) (by decide) (by omega)
      refine ⟨Z 59, adZ Z n (p : Int) (20 + (b : Int)), adZ_R hR hn (by omega) (by omega) (by omega), by omega, fun md rd rw rp hs ho hcn hsv hca hq => ?_⟩
      obtain ⟨rd2, rw2, rp2, ho2, hcn2, hsv2, e2, hca2, hq2⟩ := m_addBlank hR hca hq (w := p) (e := 20 + (b : Int)) hn (by omega) hp (by omega)
      have e3 := (congrArg (fX9_addBlank md (zI (Z 48)) (zI (Z 49)) (zI (Z 50)) (zI (Z 52)) (zI (Z 51)) (zI (Z 53)) (zI (Z 54)) (zI (Z 55)) rd rw rp (zI (Z 59)) (zI (Z 60)) (zI (Z 61)) (zI (Z 62)) (zI (Z 63)) (zI (Z 64)) (zI (Z 65)) (zI (Z 56)) (zI (Z 57)) (zI (Z 58)) ho hcn hsv (zI (p : Int))) (show (20 : Int32) + zI (b : Int) = zI (20 + (b : Int)) by rw [zL20, zI_add])).trans e2
      refine ⟨md, rd2, rw2, rp2, ho2, hcn2, hsv2, ?_, hca2, hq2⟩
      unfold fL_act
      repeat (first | with_reducible refine (obE (t_pieces _)).trans ?_ | with_reducible refine (obE e0).trans ?_ | with_reducible refine (obE eM).trans ?_ | with_reducible refine (obE eJ).trans ?_ | with_reducible refine (obE (t_sharpness _)).trans ?_ | with_reducible refine (obE up).trans ?_ | with_reducible refine (obE ub).trans ?_ | with_reducible refine (obE e3).trans ?_ | with_reducible refine (if_pos (by simp (disch := omega) only [zL0, zL1, zL2, zL3, zL4, zL5, zL6, zL7, zL8, zL9, zL12, zL15, zL18, zL16, zL20, zL30, zL50, zL99, zL100, zL120, zL200, zI_add, zI_sub, zI_mul, zI_div, zI_le, zI_lt, zI_eq, -eq_self]; omega)).trans ?_ | with_reducible refine (if_neg (by simp (disch := omega) only [zL0, zL1, zL2, zL3, zL4, zL5, zL6, zL7, zL8, zL9, zL12, zL15, zL18, zL16, zL20, zL30, zL50, zL99, zL100, zL120, zL200, zI_add, zI_sub, zI_mul, zI_div, zI_le, zI_lt, zI_eq, -eq_self]; omega)).trans ?_ | fail)
      first | exact rfl | (simp (disch := omega) only [adZ_59, adZ_o]; done) | (simp (disch := omega) only [adZ_59, adZ_o]; exact rfl)
    · by_cases c2 : w < 5
      · by_cases c3 : w = 0
        · obtain ⟨f, hf, uf⟩ := up_ok y (N := 3) (n := 3) (by decide) (by omega)
          obtain ⟨t, ht, ut⟩ := up_ok (y >>> (2 &&& 31)) (N := 3) (n := 3) (by decide) (by omega)
          have hP := (cpZ_P hR hf ht).1
          have hF : ∀ j : Nat, 48 ≤ j → (cpZ f t Z).2 j = Z j := hP.2.2
          refine ⟨(cpZ f t Z).1, (cpZ f t Z).2, hP.1, by have := hP.2.1; omega, fun md rd rw rp hs ho hcn hsv hca hq => ?_⟩
          obtain ⟨md2, ho2, hcn2, hsv2, e2, hca2, hq2⟩ := m_copyMaster hR hca hq hf ht
          refine ⟨md2, rd, rw, rp, ho2, hcn2, hsv2, ?_, hca2, hq2⟩
          unfold fL_act
          repeat (first | with_reducible refine (obE (t_pieces _)).trans ?_ | with_reducible refine (obE e0).trans ?_ | with_reducible refine (obE eM).trans ?_ | with_reducible refine (obE eJ).trans ?_ | with_reducible refine (obE (t_sharpness _)).trans ?_ | with_reducible refine (obE uf).trans ?_ | with_reducible refine (obE ut).trans ?_ | with_reducible refine (obE e2).trans ?_ | with_reducible refine (if_pos (by simp (disch := omega) only [zL0, zL1, zL2, zL3, zL4, zL5, zL6, zL7, zL8, zL9, zL12, zL15, zL18, zL16, zL20, zL30, zL50, zL99, zL100, zL120, zL200, zI_add, zI_sub, zI_mul, zI_div, zI_le, zI_lt, zI_eq, -eq_self]; omega)).trans ?_ | with_reducible refine (if_neg (by simp (disch := omega) only [zL0, zL1, zL2, zL3, zL4, zL5, zL6, zL7, zL8, zL9, zL12, zL15, zL18, zL16, zL20, zL30, zL50, zL99, zL100, zL120, zL200, zI_add, zI_sub, zI_mul, zI_div, zI_le, zI_lt, zI_eq, -eq_self]; omega)).trans ?_ | fail)
          first | exact rfl | (simp (disch := omega) only [hF]; done) | (simp (disch := omega) only [hF]; exact rfl)
        · by_cases c3 : w = 1
          · obtain ⟨c, hc, uc⟩ := up_ok y (N := 3) (n := 3) (by decide) (by omega)
            have hP := mirF_R hR hc
            have hF : ∀ j : Nat, 48 ≤ j → mirF c Z j = Z j := fun j hj => mirF_o hc hj
            refine ⟨mirC c Z, mirF c Z, hP.1, by have := hP.2; omega, fun md rd rw rp hs ho hcn hsv hca hq => ?_⟩
            obtain ⟨md2, ho2, hcn2, hsv2, e2, hca2, hq2⟩ := m_mirrorMaster hR hca hq hc
            refine ⟨md2, rd, rw, rp, ho2, hcn2, hsv2, ?_, hca2, hq2⟩
            unfold fL_act
            repeat (first | with_reducible refine (obE (t_pieces _)).trans ?_ | with_reducible refine (obE e0).trans ?_ | with_reducible refine (obE eM).trans ?_ | with_reducible refine (obE eJ).trans ?_ | with_reducible refine (obE (t_sharpness _)).trans ?_ | with_reducible refine (obE uc).trans ?_ | with_reducible refine (obE e2).trans ?_ | with_reducible refine (if_pos (by simp (disch := omega) only [zL0, zL1, zL2, zL3, zL4, zL5, zL6, zL7, zL8, zL9, zL12, zL15, zL18, zL16, zL20, zL30, zL50, zL99, zL100, zL120, zL200, zI_add, zI_sub, zI_mul, zI_div, zI_le, zI_lt, zI_eq, -eq_self]; omega)).trans ?_ | with_reducible refine (if_neg (by simp (disch := omega) only [zL0, zL1, zL2, zL3, zL4, zL5, zL6, zL7, zL8, zL9, zL12, zL15, zL18, zL16, zL20, zL30, zL50, zL99, zL100, zL120, zL200, zI_add, zI_sub, zI_mul, zI_div, zI_le, zI_lt, zI_eq, -eq_self]; omega)).trans ?_ | fail)
            first | exact rfl | (simp (disch := omega) only [hF]; done) | (simp (disch := omega) only [hF]; exact rfl)
          · obtain ⟨c, hc, uc⟩ := up_ok y (N := 3) (n := 3) (by decide) (by omega)
            obtain ⟨k, hk, uk⟩ := up_ok (y >>> (2 &&& 31)) (N := 16) (n := 16) (by decide) (by omega)
            obtain ⟨b, hb, ub⟩ := up_ok (y >>> (6 &&& 31)) (N := 95) (n := 95) (by decide) (by omega)
            refine ⟨mZ Z c k, zup Z (16 * c + k) (5 + (b : Int)), Rg.ma hR (by omega) (by omega), by have := mZ_b hR hc hk; omega, fun md rd rw rp hs ho hcn hsv hca hq => ?_⟩
            obtain ⟨md2, ho2, hcn2, hsv2, e2, hca2, hq2⟩ := m_carve hR hca hq hc hk (v := 5 + (b : Int)) (by omega)
            have e3 := (congrArg (fX9_carve md (zI (Z 48)) (zI (Z 49)) (zI (Z 50)) (zI (Z 52)) (zI (Z 51)) (zI (Z 53)) (zI (Z 54)) (zI (Z 55)) rd rw rp (zI (Z 59)) (zI (Z 60)) (zI (Z 61)) (zI (Z 62)) (zI (Z 63)) (zI (Z 64)) (zI (Z 65)) (zI (Z 56)) (zI (Z 57)) (zI (Z 58)) ho hcn hsv (zI (c : Int)) (zI (k : Int))) (show (5 : Int32) + zI (b : Int) = zI (5 + (b : Int)) by rw [zL5, zI_add])).trans e2
            refine ⟨md2, rd, rw, rp, ho2, hcn2, hsv2, ?_, hca2, hq2⟩
            unfold fL_act
            repeat (first | with_reducible refine (obE (t_pieces _)).trans ?_ | with_reducible refine (obE e0).trans ?_ | with_reducible refine (obE eM).trans ?_ | with_reducible refine (obE eJ).trans ?_ | with_reducible refine (obE (t_sharpness _)).trans ?_ | with_reducible refine (obE uc).trans ?_ | with_reducible refine (obE uk).trans ?_ | with_reducible refine (obE ub).trans ?_ | with_reducible refine (obE e3).trans ?_ | with_reducible refine (if_pos (by simp (disch := omega) only [zL0, zL1, zL2, zL3, zL4, zL5, zL6, zL7, zL8, zL9, zL12, zL15, zL18, zL16, zL20, zL30, zL50, zL99, zL100, zL120, zL200, zI_add, zI_sub, zI_mul, zI_div, zI_le, zI_lt, zI_eq, -eq_self]; omega)).trans ?_ | with_reducible refine (if_neg (by simp (disch := omega) only [zL0, zL1, zL2, zL3, zL4, zL5, zL6, zL7, zL8, zL9, zL12, zL15, zL18, zL16, zL20, zL30, zL50, zL99, zL100, zL120, zL200, zI_add, zI_sub, zI_mul, zI_div, zI_le, zI_lt, zI_eq, -eq_self]; omega)).trans ?_ | fail)
            first | exact rfl | (simp (disch := omega) only [zup_n]; done) | (simp (disch := omega) only [zup_n]; exact rfl)
      · by_cases c3 : w < 9
        · obtain ⟨r, Y, hRY, hr, hF, hE⟩ := l_sets hR y
          refine ⟨r, Y, hRY, hr, fun md rd rw rp hs ho hcn hsv hca hq => ?_⟩
          obtain ⟨ho2, hcn2, hsv2, e2, hq2⟩ := hE md rd rw rp hs ho hcn hsv hca hq
          refine ⟨md, rd, rw, rp, ho2, hcn2, hsv2, ?_, hca.fr (fun i hi => by rw [hF _ (by omega)]; exact hca.1 i hi) (fun i hi => hF _ (by omega)), hq2⟩
          unfold fL_act
          repeat (first | with_reducible refine (obE (t_pieces _)).trans ?_ | with_reducible refine (obE e0).trans ?_ | with_reducible refine (obE eM).trans ?_ | with_reducible refine (obE eJ).trans ?_ | with_reducible refine (obE (t_sharpness _)).trans ?_ | with_reducible refine (obE e2).trans ?_ | with_reducible refine (if_pos (by simp (disch := omega) only [zL0, zL1, zL2, zL3, zL4, zL5, zL6, zL7, zL8, zL9, zL12, zL15, zL18, zL16, zL20, zL30, zL50, zL99, zL100, zL120, zL200, zI_add, zI_sub, zI_mul, zI_div, zI_le, zI_lt, zI_eq, -eq_self]; omega)).trans ?_ | with_reducible refine (if_neg (by simp (disch := omega) only [zL0, zL1, zL2, zL3, zL4, zL5, zL6, zL7, zL8, zL9, zL12, zL15, zL18, zL16, zL20, zL30, zL50, zL99, zL100, zL120, zL200, zI_add, zI_sub, zI_mul, zI_div, zI_le, zI_lt, zI_eq, -eq_self]; omega)).trans ?_ | fail)
          first | exact rfl | (simp (disch := omega) only [hF]; done) | (simp (disch := omega) only [hF]; exact rfl)
        · by_cases c4 : Z 60 = -1
          · rw [if_pos c4] at eM
            by_cases c5 : ((y >>> (4 &&& 31)) &&& 7) = 0
            · obtain ⟨p, hp, up⟩ := up_ok y (N := (zI (Z 59))) (n := n) (by rw [hn]) (by omega)
              have b60 : buZ Z p n 60 = Z 60 := by rw [buZ_60, if_pos (by omega)]
              refine ⟨(n : Int) - 1, buZ Z p n, buZ_R hR hn hp (by omega), by omega, fun md rd rw rp hs ho hcn hsv hca hq => ?_⟩
              obtain ⟨rd2, rw2, rp2, ho2, hcn2, hsv2, e2, hca2, hq2⟩ := m_burn hR hca hq hn hp c4
              refine ⟨md, rd2, rw2, rp2, ho2, hcn2, hsv2, ?_, hca2, hq2⟩
              unfold fL_act
              repeat (first | with_reducible refine (obE (t_pieces _)).trans ?_ | with_reducible refine (obE e0).trans ?_ | with_reducible refine (obE eM).trans ?_ | with_reducible refine (obE eJ).trans ?_ | with_reducible refine (obE (t_sharpness _)).trans ?_ | with_reducible refine (obE up).trans ?_ | with_reducible refine (obE e2).trans ?_ | with_reducible refine (if_pos c5).trans ?_ | with_reducible refine (if_pos (by simp (disch := omega) only [zL0, zL1, zL2, zL3, zL4, zL5, zL6, zL7, zL8, zL9, zL12, zL15, zL18, zL16, zL20, zL30, zL50, zL99, zL100, zL120, zL200, zI_add, zI_sub, zI_mul, zI_div, zI_le, zI_lt, zI_eq, -eq_self]; omega)).trans ?_ | with_reducible refine (if_neg (by simp (disch := omega) only [zL0, zL1, zL2, zL3, zL4, zL5, zL6, zL7, zL8, zL9, zL12, zL15, zL18, zL16, zL20, zL30, zL50, zL99, zL100, zL120, zL200, zI_add, zI_sub, zI_mul, zI_div, zI_le, zI_lt, zI_eq, -eq_self]; omega)).trans ?_ | fail)
              first | exact rfl | (simp (disch := omega) only [buZ_59, buZ_65, b60, buZ_o]; done) | (simp (disch := omega) only [buZ_59, buZ_65, b60, buZ_o]; exact rfl)
            · obtain ⟨p, hp, up⟩ := up_ok y (N := (zI (Z 59))) (n := n) (by rw [hn]) (by omega)
              have hRY : Rg (zup Z 60 (p : Int)) := Rg.sc hR (by omega) (by omega)
              have e3 := r_mounted hRY (by rw [zup_s]; omega)
              rw [zup_s] at e3
              refine ⟨(p : Int), zup Z 60 (p : Int), hRY, by omega, fun md rd rw rp hs ho hcn hsv hca hq => ?_⟩
              obtain ⟨ho2, hcn2, hsv2, e2, hq2⟩ := m_mount hR hca hq (p := p) (by omega) c4
              refine ⟨md, rd, rw, rp, ho2, hcn2, hsv2, ?_, hca.sc (by omega) _, hq2⟩
              unfold fL_act
              repeat (first | with_reducible refine (obE (t_pieces _)).trans ?_ | with_reducible refine (obE e0).trans ?_ | with_reducible refine (obE eM).trans ?_ | with_reducible refine (obE eJ).trans ?_ | with_reducible refine (obE (t_sharpness _)).trans ?_ | with_reducible refine (obE up).trans ?_ | with_reducible refine (obE e2).trans ?_ | with_reducible refine (obE e3).trans ?_ | with_reducible refine (if_neg c5).trans ?_ | with_reducible refine (if_pos (by simp (disch := omega) only [zL0, zL1, zL2, zL3, zL4, zL5, zL6, zL7, zL8, zL9, zL12, zL15, zL18, zL16, zL20, zL30, zL50, zL99, zL100, zL120, zL200, zI_add, zI_sub, zI_mul, zI_div, zI_le, zI_lt, zI_eq, -eq_self]; omega)).trans ?_ | with_reducible refine (if_neg (by simp (disch := omega) only [zL0, zL1, zL2, zL3, zL4, zL5, zL6, zL7, zL8, zL9, zL12, zL15, zL18, zL16, zL20, zL30, zL50, zL99, zL100, zL120, zL200, zI_add, zI_sub, zI_mul, zI_div, zI_le, zI_lt, zI_eq, -eq_self]; omega)).trans ?_ | fail)
              first | exact rfl | (simp (disch := omega) only [zup_s, zup_n]; done) | (simp (disch := omega) only [zup_s, zup_n]; exact rfl)
          · rw [if_neg c4] at eM
            by_cases c6 : w = 9
            · refine ⟨Z 60, zup Z 60 (-1), Rg.sc hR (by omega) (by omega), by omega, fun md rd rw rp hs ho hcn hsv hca hq => ?_⟩
              obtain ⟨ho2, hcn2, hsv2, e2, hq2⟩ := m_takeOut hR hca hq c4
              refine ⟨md, rd, rw, rp, ho2, hcn2, hsv2, ?_, hca.sc (by omega) _, hq2⟩
              unfold fL_act
              repeat (first | with_reducible refine (obE (t_pieces _)).trans ?_ | with_reducible refine (obE e0).trans ?_ | with_reducible refine (obE eM).trans ?_ | with_reducible refine (obE eJ).trans ?_ | with_reducible refine (obE (t_sharpness _)).trans ?_ | with_reducible refine (obE e2).trans ?_ | with_reducible refine (if_pos (by simp (disch := omega) only [zL0, zL1, zL2, zL3, zL4, zL5, zL6, zL7, zL8, zL9, zL12, zL15, zL18, zL16, zL20, zL30, zL50, zL99, zL100, zL120, zL200, zI_add, zI_sub, zI_mul, zI_div, zI_le, zI_lt, zI_eq, -eq_self]; omega)).trans ?_ | with_reducible refine (if_neg (by simp (disch := omega) only [zL0, zL1, zL2, zL3, zL4, zL5, zL6, zL7, zL8, zL9, zL12, zL15, zL18, zL16, zL20, zL30, zL50, zL99, zL100, zL120, zL200, zI_add, zI_sub, zI_mul, zI_div, zI_le, zI_lt, zI_eq, -eq_self]; omega)).trans ?_ | fail)
              first | exact rfl | (simp (disch := omega) only [zup_s, zup_n]; done) | (simp (disch := omega) only [zup_s, zup_n]; exact rfl)
            · obtain ⟨q, hm, h5, hq9⟩ := moN hR c4
              by_cases c7 : w < 12
              · obtain ⟨b, hb, ub⟩ := up_ok y (N := 3) (n := 3) (by decide) (by omega)
                have hI := (rubZ_I hR (a := 1 + (b : Int)) (by omega) h5).1
                have hF : ∀ j : Nat, (j < 68 + 18 * q ∨ 84 + 18 * q ≤ j) → (rubZ (1 + (b : Int)) q Z).2 j = Z j := hI.2.2
                refine ⟨(rubZ (1 + (b : Int)) q Z).1, zup (rubZ (1 + (b : Int)) q Z).2 62 (Z 62 + (rubZ (1 + (b : Int)) q Z).1), Rg.sc hI.1 (by omega) (by omega), by have := hI.2.1; omega, fun md rd rw rp hs ho hcn hsv hca hq => ?_⟩
                obtain ⟨rd2, ho2, hcn2, hsv2, e2, hca2, hq2⟩ := m_sand hR hca hq hm h5 (v := 1 + (b : Int)) (by omega)
                have e3 := (congrArg (fX9_sand md (zI (Z 48)) (zI (Z 49)) (zI (Z 50)) (zI (Z 52)) (zI (Z 51)) (zI (Z 53)) (zI (Z 54)) (zI (Z 55)) rd rw rp (zI (Z 59)) (zI (Z 60)) (zI (Z 61)) (zI (Z 62)) (zI (Z 63)) (zI (Z 64)) (zI (Z 65)) (zI (Z 56)) (zI (Z 57)) (zI (Z 58)) ho hcn hsv) (show (1 : Int32) + zI (b : Int) = zI (1 + (b : Int)) by rw [zL1, zI_add])).trans e2
                refine ⟨md, rd2, rw, rp, ho2, hcn2, hsv2, ?_, hca2, hq2⟩
                unfold fL_act
                repeat (first | with_reducible refine (obE (t_pieces _)).trans ?_ | with_reducible refine (obE e0).trans ?_ | with_reducible refine (obE eM).trans ?_ | with_reducible refine (obE eJ).trans ?_ | with_reducible refine (obE (t_sharpness _)).trans ?_ | with_reducible refine (obE ub).trans ?_ | with_reducible refine (obE e3).trans ?_ | with_reducible refine (if_pos (by simp (disch := omega) only [zL0, zL1, zL2, zL3, zL4, zL5, zL6, zL7, zL8, zL9, zL12, zL15, zL18, zL16, zL20, zL30, zL50, zL99, zL100, zL120, zL200, zI_add, zI_sub, zI_mul, zI_div, zI_le, zI_lt, zI_eq, -eq_self]; omega)).trans ?_ | with_reducible refine (if_neg (by simp (disch := omega) only [zL0, zL1, zL2, zL3, zL4, zL5, zL6, zL7, zL8, zL9, zL12, zL15, zL18, zL16, zL20, zL30, zL50, zL99, zL100, zL120, zL200, zI_add, zI_sub, zI_mul, zI_div, zI_le, zI_lt, zI_eq, -eq_self]; omega)).trans ?_ | fail)
                first | exact rfl | (simp (disch := omega) only [zup_s, zup_n, hF]; done) | (simp (disch := omega) only [zup_s, zup_n, hF]; exact rfl)
              · by_cases c8 : Z 58 = 0
                · by_cases c9 : Z 53 = 0
                  · refine ⟨Z 53, zup (zup Z 53 100) 63 (Z 63 + 1), Rg.sc (Rg.sc hR (by omega) (by omega)) (by omega) (by omega), by omega, fun md rd rw rp hs ho hcn hsv hca hq => ?_⟩
                    obtain ⟨ho2, hcn2, hsv2, e2, hq2⟩ := m_sharpen hR hca hq
                    refine ⟨md, rd, rw, rp, ho2, hcn2, hsv2, ?_, (hca.sc (by omega) _).sc (by omega) _, hq2⟩
                    unfold fL_act
                    repeat (first | with_reducible refine (obE (t_pieces _)).trans ?_ | with_reducible refine (obE e0).trans ?_ | with_reducible refine (obE eM).trans ?_ | with_reducible refine (obE eJ).trans ?_ | with_reducible refine (obE (t_sharpness _)).trans ?_ | with_reducible refine (obE e2).trans ?_ | with_reducible refine (if_pos (by simp (disch := omega) only [zL0, zL1, zL2, zL3, zL4, zL5, zL6, zL7, zL8, zL9, zL12, zL15, zL18, zL16, zL20, zL30, zL50, zL99, zL100, zL120, zL200, zI_add, zI_sub, zI_mul, zI_div, zI_le, zI_lt, zI_eq, -eq_self]; omega)).trans ?_ | with_reducible refine (if_neg (by simp (disch := omega) only [zL0, zL1, zL2, zL3, zL4, zL5, zL6, zL7, zL8, zL9, zL12, zL15, zL18, zL16, zL20, zL30, zL50, zL99, zL100, zL120, zL200, zI_add, zI_sub, zI_mul, zI_div, zI_le, zI_lt, zI_eq, -eq_self]; omega)).trans ?_ | fail)
                    first | exact rfl | (simp (disch := omega) only [zup_s, zup_n]; done) | (simp (disch := omega) only [zup_s, zup_n]; exact rfl)
                  · by_cases c10 : w < 18
                    · have hv9 : rdy Z := ⟨c4, by omega, by omega⟩
                      have hF : ∀ j : Nat, (j ≠ 50 ∧ j ≠ 51 ∧ j ≠ 53 ∧ j ≠ 61 ∧ j ≠ 62 ∧ j ≠ 57 ∧ j ≠ 58 ∧ j ≠ 64 ∧ (j < 67 + 18 * q ∨ 84 + 18 * q ≤ j)) → pasZ Z q j = Z j := fun j h => pasZ_f hR h5 h
                      refine ⟨(cutZ Z q).1, pasZ Z q, pasZ_R hR h5, by have := cutZ_b hR h5; omega, fun md rd rw rp hs ho hcn hsv hca hq => ?_⟩
                      obtain ⟨rd2, rp2, ho2, hcn2, hsv2, e2, hca2, hq2⟩ := m_pass hR hca hq hm h5 hv9
                      refine ⟨md, rd2, rw, rp2, ho2, hcn2, hsv2, ?_, hca2, hq2⟩
                      unfold fL_act
                      repeat (first | with_reducible refine (obE (t_pieces _)).trans ?_ | with_reducible refine (obE e0).trans ?_ | with_reducible refine (obE eM).trans ?_ | with_reducible refine (obE eJ).trans ?_ | with_reducible refine (obE (t_sharpness _)).trans ?_ | with_reducible refine (obE e2).trans ?_ | with_reducible refine (if_pos (by simp (disch := omega) only [zL0, zL1, zL2, zL3, zL4, zL5, zL6, zL7, zL8, zL9, zL12, zL15, zL18, zL16, zL20, zL30, zL50, zL99, zL100, zL120, zL200, zI_add, zI_sub, zI_mul, zI_div, zI_le, zI_lt, zI_eq, -eq_self]; omega)).trans ?_ | with_reducible refine (if_neg (by simp (disch := omega) only [zL0, zL1, zL2, zL3, zL4, zL5, zL6, zL7, zL8, zL9, zL12, zL15, zL18, zL16, zL20, zL30, zL50, zL99, zL100, zL120, zL200, zI_add, zI_sub, zI_mul, zI_div, zI_le, zI_lt, zI_eq, -eq_self]; omega)).trans ?_ | fail)
                      first | exact rfl | (simp (disch := omega) only [hF]; done) | (simp (disch := omega) only [hF]; exact rfl)
                    · have hv9 : rdy Z := ⟨c4, by omega, by omega⟩
                      obtain ⟨b, hb, ub⟩ := up_ok y (N := 30) (n := 30) (by decide) (by omega)
                      have hP := puZ_F h5 (Z0 := Z) (1 + b) Z hR (fun j _ => rfl)
                      have hF : ∀ j : Nat, (j ≠ 50 ∧ j ≠ 51 ∧ j ≠ 53 ∧ j ≠ 61 ∧ j ≠ 62 ∧ j ≠ 57 ∧ j ≠ 58 ∧ j ≠ 64 ∧ (j < 67 + 18 * q ∨ 84 + 18 * q ≤ j)) → (puZ q (1 + b) Z).2 j = Z j := hP.2
                      refine ⟨(puZ q (1 + b) Z).1, (puZ q (1 + b) Z).2, hP.1, by have := puZ_b q (1 + b) Z; omega, fun md rd rw rp hs ho hcn hsv hca hq => ?_⟩
                      obtain ⟨rd2, rp2, ho2, hcn2, hsv2, e2, hca2, hq2⟩ := m_passUpTo hR hca hq (v := 1 + b) hm h5 hv9 (by omega)
                      have e3 := (congrArg (fX9_passUpTo md (zI (Z 48)) (zI (Z 49)) (zI (Z 50)) (zI (Z 52)) (zI (Z 51)) (zI (Z 53)) (zI (Z 54)) (zI (Z 55)) rd rw rp (zI (Z 59)) (zI (Z 60)) (zI (Z 61)) (zI (Z 62)) (zI (Z 63)) (zI (Z 64)) (zI (Z 65)) (zI (Z 56)) (zI (Z 57)) (zI (Z 58)) ho hcn hsv) (show (1 : Int32) + zI (b : Int) = zI ((1 + b : Nat) : Int) by rw [zL1, zI_add, show (1 : Int) + (b : Int) = ((1 + b : Nat) : Int) by omega])).trans e2
                      refine ⟨md, rd2, rw, rp2, ho2, hcn2, hsv2, ?_, hca2, hq2⟩
                      unfold fL_act
                      repeat (first | with_reducible refine (obE (t_pieces _)).trans ?_ | with_reducible refine (obE e0).trans ?_ | with_reducible refine (obE eM).trans ?_ | with_reducible refine (obE eJ).trans ?_ | with_reducible refine (obE (t_sharpness _)).trans ?_ | with_reducible refine (obE ub).trans ?_ | with_reducible refine (obE e3).trans ?_ | with_reducible refine (if_pos (by simp (disch := omega) only [zL0, zL1, zL2, zL3, zL4, zL5, zL6, zL7, zL8, zL9, zL12, zL15, zL18, zL16, zL20, zL30, zL50, zL99, zL100, zL120, zL200, zI_add, zI_sub, zI_mul, zI_div, zI_le, zI_lt, zI_eq, -eq_self]; omega)).trans ?_ | with_reducible refine (if_neg (by simp (disch := omega) only [zL0, zL1, zL2, zL3, zL4, zL5, zL6, zL7, zL8, zL9, zL12, zL15, zL18, zL16, zL20, zL30, zL50, zL99, zL100, zL120, zL200, zI_add, zI_sub, zI_mul, zI_div, zI_le, zI_lt, zI_eq, -eq_self]; omega)).trans ?_ | fail)
                      first | exact rfl | (simp (disch := omega) only [hF]; done) | (simp (disch := omega) only [hF]; exact rfl)
                · refine ⟨Z 57, zup (zup Z 57 0) 58 0, Rg.sc (Rg.sc hR (by omega) (by omega)) (by omega) (by omega), by omega, fun md rd rw rp hs ho hcn hsv hca hq => ?_⟩
                  obtain ⟨ho2, hcn2, hsv2, e2, hq2⟩ := m_sweep hR hca hq
                  refine ⟨md, rd, rw, rp, ho2, hcn2, hsv2, ?_, (hca.sc (by omega) _).sc (by omega) _, hq2⟩
                  unfold fL_act
                  repeat (first | with_reducible refine (obE (t_pieces _)).trans ?_ | with_reducible refine (obE e0).trans ?_ | with_reducible refine (obE eM).trans ?_ | with_reducible refine (obE eJ).trans ?_ | with_reducible refine (obE (t_sharpness _)).trans ?_ | with_reducible refine (obE e2).trans ?_ | with_reducible refine (if_pos (by simp (disch := omega) only [zL0, zL1, zL2, zL3, zL4, zL5, zL6, zL7, zL8, zL9, zL12, zL15, zL18, zL16, zL20, zL30, zL50, zL99, zL100, zL120, zL200, zI_add, zI_sub, zI_mul, zI_div, zI_le, zI_lt, zI_eq, -eq_self]; omega)).trans ?_ | with_reducible refine (if_neg (by simp (disch := omega) only [zL0, zL1, zL2, zL3, zL4, zL5, zL6, zL7, zL8, zL9, zL12, zL15, zL18, zL16, zL20, zL30, zL50, zL99, zL100, zL120, zL200, zI_add, zI_sub, zI_mul, zI_div, zI_le, zI_lt, zI_eq, -eq_self]; omega)).trans ?_ | fail)
                  first | exact rfl | (simp (disch := omega) only [zup_s, zup_n]; done) | (simp (disch := omega) only [zup_s, zup_n]; exact rfl)
end LWE
