section LWD
variable {Z Y : Nat → Int} {md md2 rd rw rp : Nat → Int32} {hs : List LTH} {ho hcn : Int32} {hsv : Nat → Option LTH}
theorem ia_48 (hmd : ∀ j : Nat, j < 48 → md2 j = zI (Y j)) (hR : Rg Y) {f t : Nat} (hf : f < 3) (ht : t < 3) (h : ∀ k : Nat, k < 16 → Y (16 * t + k) = Y (16 * f + k)) : fL_isAhead_L48 md2 (zI f) (zI t) 2000 0 = some () := by
  have key := loopG (S := Unit) (L := fun n i _ => fL_isAhead_L48 md2 (zI f) (zI t) n (zI (i : Int))) (g := fun _ s => s) (N := 16) (P := fun _ _ => True) (out := id) (by
      intro n s hp
      try dsimp only
      rw [fL_isAhead_L48]
      exact ite_t (by decide)) (by
      intro n i s hi hp
      try dsimp only
      have e1 := r_masterAt hmd hf hi
      have e2 := r_masterAt hmd ht hi
      have h1 : mZ Y f i = mZ Y t i := (h i hi).symm
      rw [← h1] at e2
      rw [fL_isAhead_L48]
      have h3 : ¬ (16 : Int32) ≤ zI (i : Int) := by rw [zL16, zI_le (by omega)]; omega
      refine (if_neg h3).trans ?_
      refine (obE e1).trans ?_
      refine (obE e2).trans ?_
      refine (if_pos rfl).trans ?_
      rw [zL1, zI_add]
      rfl) (fun _ _ _ _ => trivial)
  exact (key 16 0 2000 () rfl (by omega) trivial).1
theorem lgs {x : Int64} : lg_cmp x x = 0 := by
  unfold lg_cmp
  rw [if_neg (show ¬ x > x from Int64.lt_irrefl), if_pos rfl]
theorem l_isAhead (hR : Rg Z) (hca : CA Z md rd rw rp) (hq : Hq hs ho hcn hsv) {f t : Nat} (hf : f < 3) (ht : t < 3) {v : Int} (hv : 1 ≤ v ∧ v ≤ 3) (le : Nat → Int32) : ∃ (ho2 hcn2 : Int32) (hsv2 : Nat → Option LTH) (le2 : Nat → Int32) (hs2 : List LTH), fL_isAhead md (zI (Z 48)) (zI (Z 49)) (zI (Z 50)) (zI (Z 52)) (zI (Z 51)) (zI (Z 53)) (zI (Z 54)) (zI (Z 55)) rd rw rp (zI (Z 59)) (zI (Z 60)) (zI (Z 61)) (zI (Z 62)) (zI (Z 63)) (zI (Z 64)) (zI (Z 65)) (zI (Z 56)) (zI (Z 57)) (zI (Z 58)) ho hcn hsv le (zI f) (zI t) (zI v) = some (1, md, zI (Z 48), zI (Z 49), zI (Z 50), zI (Z 52), zI (Z 51), zI (Z 53), zI (Z 54), zI (Z 55), rd, rw, rp, zI (Z 59), zI (Z 60), zI (Z 61), zI (Z 62), zI (Z 63), zI (Z 64), zI (Z 65), zI (Z 56), zI (Z 57), zI (Z 58), ho2, hcn2, hsv2, le2) ∧ (∀ x ∈ hs2, x ∈ hs) ∧ Hq hs2 ho2 hcn2 hsv2 := by
  have hwe := hR.we
  have hco := hR.co
  have hmo := hR.mo
  obtain ⟨hh, hlk⟩ := lk_spec hR
  have e1 := hlk md rd rw rp hca
  have e2 := r_hasMounted hR
  have hpc := (cpZ_P hR hf ht)
  have hcR := hpc.1.1
  have hc1 := hpc.1.2.1
  have hcE := hpc.2
  clear hpc
  have hmR := mirF_R hR hf
  have key : ∀ (ho1 hcn1 : Int32) (hsv1 : Nat → Option LTH) (hs1 : List LTH), Hq hs1 ho1 hcn1 hsv1 → ∃ (mdc : Nat → Int32) (hoA hcnA : Int32) (hsvA : Nat → Option LTH) (hcnB : Int32) (mdm : Nat → Int32) (hoC hcnC : Int32) (hsvC : Nat → Option LTH) (mdn : Nat → Int32) (hoD hcnD : Int32) (hsvD : Nat → Option LTH) (hcnE hcnF : Int32) (hoG hcnG : Int32) (hsvG : Nat → Option LTH) (hcnH : Int32),
      fX9_copyMaster md (zI (Z 48)) (zI (Z 49)) (zI (Z 50)) (zI (Z 52)) (zI (Z 51)) (zI (Z 53)) (zI (Z 54)) (zI (Z 55)) rd rw rp (zI (Z 59)) (zI (Z 60)) (zI (Z 61)) (zI (Z 62)) (zI (Z 63)) (zI (Z 64)) (zI (Z 65)) (zI (Z 56)) (zI (Z 57)) (zI (Z 58)) ho1 hcn1 hsv1 (zI f) (zI t) = some (.inr (zI (cpZ f t Z).1, mdc, hoA, hcnA, hsvA)) ∧ fL_isAhead_L48 mdc (zI f) (zI t) 2000 0 = some () ∧
      fX9_undo hoA hcnA hsvA = some (.inr (md, zI (Z 48), zI (Z 49), zI (Z 50), zI (Z 52), zI (Z 51), zI (Z 53), zI (Z 54), zI (Z 55), rd, rw, rp, zI (Z 59), zI (Z 60), zI (Z 61), zI (Z 62), zI (Z 63), zI (Z 64), zI (Z 65), zI (Z 56), zI (Z 57), zI (Z 58), hcnB)) ∧
      fX9_mirrorMaster md (zI (Z 48)) (zI (Z 49)) (zI (Z 50)) (zI (Z 52)) (zI (Z 51)) (zI (Z 53)) (zI (Z 54)) (zI (Z 55)) rd rw rp (zI (Z 59)) (zI (Z 60)) (zI (Z 61)) (zI (Z 62)) (zI (Z 63)) (zI (Z 64)) (zI (Z 65)) (zI (Z 56)) (zI (Z 57)) (zI (Z 58)) hoA hcnB hsvA (zI f) = some (.inr (zI (mirC f Z), mdm, hoC, hcnC, hsvC)) ∧
      fX9_mirrorMaster mdm (zI (Z 48)) (zI (Z 49)) (zI (Z 50)) (zI (Z 52)) (zI (Z 51)) (zI (Z 53)) (zI (Z 54)) (zI (Z 55)) rd rw rp (zI (Z 59)) (zI (Z 60)) (zI (Z 61)) (zI (Z 62)) (zI (Z 63)) (zI (Z 64)) (zI (Z 65)) (zI (Z 56)) (zI (Z 57)) (zI (Z 58)) hoC hcnC hsvC (zI f) = some (.inr (zI (mirC f Z), mdn, hoD, hcnD, hsvD)) ∧
      fL_looks mdn (zI (Z 48)) (zI (Z 49)) (zI (Z 50)) (zI (Z 52)) (zI (Z 53)) (zI (Z 54)) (zI (Z 55)) rd rw rp (zI (Z 59)) (zI (Z 60)) (zI (Z 61)) (zI (Z 62)) (zI (Z 63)) (zI (Z 64)) (zI (Z 65)) (zI (Z 56)) (zI (Z 57)) (zI (Z 58)) = some hh ∧
      fX9_undo hoD hcnD hsvD = some (.inr (mdm, zI (Z 48), zI (Z 49), zI (Z 50), zI (Z 52), zI (Z 51), zI (Z 53), zI (Z 54), zI (Z 55), rd, rw, rp, zI (Z 59), zI (Z 60), zI (Z 61), zI (Z 62), zI (Z 63), zI (Z 64), zI (Z 65), zI (Z 56), zI (Z 57), zI (Z 58), hcnE)) ∧
      fX9_undo hoD hcnE hsvD = some (.inr (md, zI (Z 48), zI (Z 49), zI (Z 50), zI (Z 52), zI (Z 51), zI (Z 53), zI (Z 54), zI (Z 55), rd, rw, rp, zI (Z 59), zI (Z 60), zI (Z 61), zI (Z 62), zI (Z 63), zI (Z 64), zI (Z 65), zI (Z 56), zI (Z 57), zI (Z 58), hcnF)) ∧
      fX9_fitFollower md (zI (Z 48)) (zI (Z 49)) (zI (Z 50)) (zI (Z 52)) (zI (Z 51)) (zI (Z 53)) (zI (Z 54)) (zI (Z 55)) rd rw rp (zI (Z 59)) (zI (Z 60)) (zI (Z 61)) (zI (Z 62)) (zI (Z 63)) (zI (Z 64)) (zI (Z 65)) (zI (Z 56)) (zI (Z 57)) (zI (Z 58)) hoD hcnF hsvD (zI v) = some (.inr (zI (Z 50), zI v, zI 0, zI 0, hoG, hcnG, hsvG)) ∧
      fX9_undo hoG hcnG hsvG = some (.inr (md, zI (Z 48), zI (Z 49), zI (Z 50), zI (Z 52), zI (Z 51), zI (Z 53), zI (Z 54), zI (Z 55), rd, rw, rp, zI (Z 59), zI (Z 60), zI (Z 61), zI (Z 62), zI (Z 63), zI (Z 64), zI (Z 65), zI (Z 56), zI (Z 57), zI (Z 58), hcnH)) ∧ Hq ((((hs1.take 5).take 5).take 4).take 5) hoG hcnH hsvG := by
    intro ho1 hcn1 hsv1 hs1 hq1
    obtain ⟨mdc, hoA, hcnA, hsvA, k1, k2, k3⟩ := m_copyMaster hR hca hq1 hf ht
    have k4 := ia_48 k2.1 hcR hf ht hcE
    have k3 : Hq (lpk md (zI (Z 48)) (zI (Z 49)) (zI (Z 50)) (zI (Z 52)) (zI (Z 51)) (zI (Z 53)) (zI (Z 54)) (zI (Z 55)) rd rw rp (zI (Z 59)) (zI (Z 60)) (zI (Z 61)) (zI (Z 62)) (zI (Z 63)) (zI (Z 64)) (zI (Z 65)) (zI (Z 56)) (zI (Z 57)) (zI (Z 58)) :: hs1.take 5) hoA hcnA hsvA := k3
    obtain ⟨hcnB, k5, k6⟩ := u_undo hR k3
    obtain ⟨mdm, hoC, hcnC, hsvC, k7, k8, k9⟩ := m_mirrorMaster hR hca k6 hf
    have k9 : Hq (lpk md (zI (Z 48)) (zI (Z 49)) (zI (Z 50)) (zI (Z 52)) (zI (Z 51)) (zI (Z 53)) (zI (Z 54)) (zI (Z 55)) rd rw rp (zI (Z 59)) (zI (Z 60)) (zI (Z 61)) (zI (Z 62)) (zI (Z 63)) (zI (Z 64)) (zI (Z 65)) (zI (Z 56)) (zI (Z 57)) (zI (Z 58)) :: (hs1.take 5).take 5) hoC hcnC hsvC := k9
    obtain ⟨mdn, hoD, hcnD, hsvD, l1, l2, l3⟩ := m_mirrorMaster hmR.1 k8 k9 hf
    rw [mirF_2] at l2
    rw [mirC_2] at l1
    have l4 := hlk mdn rd rw rp l2
    have l3 : Hq (lpk mdm (zI (mirF f Z 48)) (zI (mirF f Z 49)) (zI (mirF f Z 50)) (zI (mirF f Z 52)) (zI (mirF f Z 51)) (zI (mirF f Z 53)) (zI (mirF f Z 54)) (zI (mirF f Z 55)) rd rw rp (zI (mirF f Z 59)) (zI (mirF f Z 60)) (zI (mirF f Z 61)) (zI (mirF f Z 62)) (zI (mirF f Z 63)) (zI (mirF f Z 64)) (zI (mirF f Z 65)) (zI (mirF f Z 56)) (zI (mirF f Z 57)) (zI (mirF f Z 58)) :: lpk md (zI (Z 48)) (zI (Z 49)) (zI (Z 50)) (zI (Z 52)) (zI (Z 51)) (zI (Z 53)) (zI (Z 54)) (zI (Z 55)) rd rw rp (zI (Z 59)) (zI (Z 60)) (zI (Z 61)) (zI (Z 62)) (zI (Z 63)) (zI (Z 64)) (zI (Z 65)) (zI (Z 56)) (zI (Z 57)) (zI (Z 58)) :: ((hs1.take 5).take 5).take 4) hoD hcnD hsvD := l3
    obtain ⟨hcnE, l5, l6⟩ := u_undo hmR.1 l3
    obtain ⟨hcnF, l7, l8⟩ := u_undo hR l6
    obtain ⟨hoG, hcnG, hsvG, m1, m2⟩ := m_fitFollower hR hca l8 (v := v) (by omega)
    have m2 : Hq (lpk md (zI (Z 48)) (zI (Z 49)) (zI (Z 50)) (zI (Z 52)) (zI (Z 51)) (zI (Z 53)) (zI (Z 54)) (zI (Z 55)) rd rw rp (zI (Z 59)) (zI (Z 60)) (zI (Z 61)) (zI (Z 62)) (zI (Z 63)) (zI (Z 64)) (zI (Z 65)) (zI (Z 56)) (zI (Z 57)) (zI (Z 58)) :: (((hs1.take 5).take 5).take 4).take 5) hoG hcnG hsvG := m2
    obtain ⟨hcnH, m3, m4⟩ := u_undo hR m2
    have h49 : ∀ j : Nat, 48 ≤ j → mirF f Z j = Z j := fun j hj => mirF_o hf hj
    simp (disch := omega) only [h49] at l1 l5
    exact ⟨mdc, hoA, hcnA, hsvA, hcnB, mdm, hoC, hcnC, hsvC, mdn, hoD, hcnD, hsvD, hcnE, hcnF, hoG, hcnG, hsvG, hcnH, k1, k4, k5, k7, l1, l4, l5, l7, m1, m3, m4⟩
  by_cases c0 : Z 60 = -1
  · rw [if_pos c0] at e2
    obtain ⟨mdc, hoA, hcnA, hsvA, hcnB, mdm, hoC, hcnC, hsvC, mdn, hoD, hcnD, hsvD, hcnE, hcnF, hoG, hcnG, hsvG, hcnH, k1, k2, k3, k4, k5, k6, k7, k8, k9, k10, k11⟩ := key ho hcn hsv hs hq
    refine ⟨hoG, hcnH, hsvG, le, _, ?_, fun x hx => List.mem_of_mem_take (List.mem_of_mem_take (List.mem_of_mem_take (List.mem_of_mem_take hx))), k11⟩
    unfold fL_isAhead
    repeat (first | with_reducible exact rfl | with_reducible refine (obE e1).trans ?_ | with_reducible refine (obE e2).trans ?_ | with_reducible refine (obE (t_wear _)).trans ?_ | with_reducible refine (obE (t_radius _)).trans ?_ | with_reducible refine (obE k1).trans ?_ | with_reducible refine (obE k2).trans ?_ | with_reducible refine (obE k3).trans ?_ | with_reducible refine (obE k4).trans ?_ | with_reducible refine (obE k5).trans ?_ | with_reducible refine (obE k6).trans ?_ | with_reducible refine (obE k7).trans ?_ | with_reducible refine (obE k8).trans ?_ | with_reducible refine (obE k9).trans ?_ | with_reducible refine (obE k10).trans ?_ | with_reducible refine (if_pos lgs).trans ?_ | with_reducible refine (if_pos (by simp (disch := omega) only [zL0, zL1, zL2, zL3, zL5, zL6, zL7, zL8, zL9, zL15, zL16, zL20, zL30, zL50, zL99, zL100, zL120, zL200, zI_add, zI_sub, zI_mul, zI_div, zI_le, zI_lt, zI_eq, -eq_self]; omega)).trans ?_ | with_reducible refine (if_neg (by simp (disch := omega) only [zL0, zL1, zL2, zL3, zL5, zL6, zL7, zL8, zL9, zL15, zL16, zL20, zL30, zL50, zL99, zL100, zL120, zL200, zI_add, zI_sub, zI_mul, zI_div, zI_le, zI_lt, zI_eq, -eq_self]; omega)).trans ?_ | fail)
  · rw [if_neg c0] at e2
    obtain ⟨ho0, hcn0, hsv0, le2, hs0, e3, hsub, hq0⟩ := l_isCut hR hca hq c0 hv le
    obtain ⟨mdc, hoA, hcnA, hsvA, hcnB, mdm, hoC, hcnC, hsvC, mdn, hoD, hcnD, hsvD, hcnE, hcnF, hoG, hcnG, hsvG, hcnH, k1, k2, k3, k4, k5, k6, k7, k8, k9, k10, k11⟩ := key ho0 hcn0 hsv0 hs0 hq0
    refine ⟨hoG, hcnH, hsvG, le2, _, ?_, fun x hx => hsub x (List.mem_of_mem_take (List.mem_of_mem_take (List.mem_of_mem_take (List.mem_of_mem_take hx)))), k11⟩
    unfold fL_isAhead
    repeat (first | with_reducible exact rfl | with_reducible refine (obE e1).trans ?_ | with_reducible refine (obE e2).trans ?_ | with_reducible refine (obE (t_wear _)).trans ?_ | with_reducible refine (obE (t_radius _)).trans ?_ | with_reducible refine (obE k1).trans ?_ | with_reducible refine (obE k2).trans ?_ | with_reducible refine (obE k3).trans ?_ | with_reducible refine (obE k4).trans ?_ | with_reducible refine (obE k5).trans ?_ | with_reducible refine (obE k6).trans ?_ | with_reducible refine (obE k7).trans ?_ | with_reducible refine (obE k8).trans ?_ | with_reducible refine (obE k9).trans ?_ | with_reducible refine (obE k10).trans ?_ | with_reducible refine (obE e3).trans ?_ | with_reducible refine (if_pos lgs).trans ?_ | with_reducible refine (if_pos (by simp (disch := omega) only [zL0, zL1, zL2, zL3, zL5, zL6, zL7, zL8, zL9, zL15, zL16, zL20, zL30, zL50, zL99, zL100, zL120, zL200, zI_add, zI_sub, zI_mul, zI_div, zI_le, zI_lt, zI_eq, -eq_self]; omega)).trans ?_ | with_reducible refine (if_neg (by simp (disch := omega) only [zL0, zL1, zL2, zL3, zL5, zL6, zL7, zL8, zL9, zL15, zL16, zL20, zL30, zL50, zL99, zL100, zL120, zL200, zI_add, zI_sub, zI_mul, zI_div, zI_le, zI_lt, zI_eq, -eq_self]; omega)).trans ?_ | fail)
end LWD
