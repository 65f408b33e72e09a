section MUB
variable {md : Nat → Int32} {mch : Int32} {fra : Int32} {fwe : Int32} {fof : Int32} {fsi : Int32} {csh : Int32} {cde : Int32} {csp : Int32} {rd : Nat → Int32} {rw : Nat → Int32} {rp : Nat → Int32} {rco : Int32} {rmo : Int32} {apa : Int32} {awo : Int32} {ash : Int32} {aja : Int32} {abu : Int32} {ltol : Int32} {lchi : Int32} {ljam : Int32} {ho : Int32} {hcn : Int32} {hsv : Nat → Option LTH} {hsl : Nat → Option LTH} {cav : Nat → Nat → Nat} {cal : Nat → Nat → Nat} {ou : Nat → Int64} {od : Nat → UInt64} {xs : Nat → Int32} {xsv : Int32} {xth : Int32} {xk0 : Int32} {xk1 : Int32} {xtx : Nat → Int32} {xle : Int32} {xat : Int32} {xdi : Int32} {xma : Int32} {xto : Int32} {xha : Int64} {wa : Nat → Int32} {le : Nat → Int32} {tc : Nat → Int32} {tt : Nat → Int32} {tle : Int32} {tpl : Int32} {tdi : Int32} {tti : Int32} {tst : Int32}
theorem mX10_lay0 {xs : Nat → Int32} {q w : Nat} (hq : q < 5) (hw : w < 18) {W : Int} (e : W = w) (v : Int32) : fX10_lay xs (zI 0) (zI q) (zI W) v = some (upd xs (66 + 18 * q + w) v) := by
  unfold fX10_lay
  simp only [zL0, zL1, zL2, zL3, zL5, zL6, zL7, zL8, zL9, zL10, zL15, zL16, zL18, zL20, zL30, zL31, zL33, zL48, zL49, zL50, zL51, zL52, zL53, zL54, zL55, zL56, zL57, zL58, zL59, zL60, zL61, zL62, zL63, zL64, zL65, zL66, zL80, zL99, zL100, zL120, zL126, zL156, zL200, zL1000, zL1404, zL1560, zLm, zI_neg, zI_add, zI_sub, zI_mul]
  rw [ite_t (ixB (by omega)), zI_cl (by omega), show (0 + 66 + 18 * (q : Int) + W).toNat = 66 + 18 * q + w by omega]
/-! a blank is added -/
def adZ (Z : Nat → Int) (n : Nat) (w e : Int) : Nat → Int := fun i => if i = 66 + 18 * n then w else if i = 67 + 18 * n then 0 else if 68 + 18 * n ≤ i ∧ i < 84 + 18 * n then e else if i = 59 then (n : Int) + 1 else Z i
theorem adZ_o {Z : Nat → Int} {n : Nat} {w e : Int} {i : Nat} (h : i ≠ 59 ∧ (i < 66 + 18 * n ∨ 84 + 18 * n ≤ i)) : adZ Z n w e i = Z i := by
  unfold adZ
  rw [if_neg (by omega), if_neg (by omega), if_neg (by omega), if_neg (by omega)]
theorem adZ_59 {Z : Nat → Int} {n : Nat} {w e : Int} : adZ Z n w e 59 = (n : Int) + 1 := by
  unfold adZ
  rw [if_neg (by omega), if_neg (by omega), if_neg (by omega), if_pos rfl]
theorem adZ_w {Z : Nat → Int} {n : Nat} {w e : Int} : adZ Z n w e (66 + 18 * n) = w := by
  unfold adZ
  rw [if_pos rfl]
theorem adZ_d {Z : Nat → Int} {n : Nat} {w e : Int} : adZ Z n w e (67 + 18 * n) = 0 := by
  unfold adZ
  rw [if_neg (by omega), if_pos rfl]
theorem adZ_k {Z : Nat → Int} {n : Nat} {w e : Int} {k : Nat} (hk : k < 16) : adZ Z n w e (68 + 18 * n + k) = e := by
  unfold adZ
  rw [if_neg (by omega), if_neg (by omega), if_pos (by omega)]
theorem adZ_R {Z : Nat → Int} (hR : Rg Z) {n : Nat} (hn : Z 59 = n) (h5 : n < 5) {w e : Int} (hw : 0 ≤ w ∧ w ≤ 2) (he : 20 ≤ e ∧ e ≤ 120) : Rg (adZ Z n w e) := by
  refine ⟨fun i hi => by rw [adZ_o (by omega)]; exact hR.md hi, ?_, ?_, ?_, ?_, ?_, ?_, ?_, ?_, ?_, ?_, ?_, ?_, fun q hq => ?_, fun q k hq hk => ?_⟩
  · rw [adZ_o (by omega)]; exact hR.ch
  · rw [adZ_o (by omega)]; exact hR.ra
  · rw [adZ_o (by omega)]; exact hR.we
  · rw [adZ_o (by omega)]; exact hR.of
  · rw [adZ_o (by omega)]; exact hR.sh
  · rw [adZ_o (by omega)]; exact hR.de
  · rw [adZ_o (by omega)]; exact hR.sp
  · rw [adZ_o (by omega)]; exact hR.to
  · rw [adZ_o (by omega)]; exact hR.chi
  · rw [adZ_o (by omega)]; exact hR.ja
  · rw [adZ_59]; omega
  · rw [adZ_59, adZ_o (by omega)]; have := hR.mo; omega
  · by_cases h : q = n
    · subst h; rw [adZ_w]; exact hw
    · rw [adZ_o (by omega)]; exact hR.wo hq
  · rw [adZ_59]
    by_cases h : q = n
    · subst h; rw [adZ_k hk]; omega
    · rw [adZ_o (by omega)]
      have := hR.di hq hk
      refine ⟨this.1, this.2.1, fun h9 => this.2.2 (by omega)⟩
theorem zcX7_addL {rd : Nat → Int32} {n : Nat} (hn : n < 5) (v : Int32) : fX7_add_L26 v (zI n) 2000 0 rd = some (fun j => if 16 * n ≤ j ∧ j < 16 * n + 16 then v else rd j) := by
  have key := loopG (S := Nat → Int32) (L := fun m i s => fX7_add_L26 v (zI n) m (zI i) s) (g := fun i s => upd s (16 * n + i) v) (N := 16) (P := fun i s => s = fun j => if 16 * n ≤ j ∧ j < 16 * n + i then v else rd j) (out := id) (by
      intro m s _
      try dsimp only
      rw [fX7_add_L26]
      exact ite_t (by decide)) (by
      intro m i s hi _
      try dsimp only
      rw [fX7_add_L26, zL16, zi_le (by omega), if_neg (by omega), zI_mul, zI_add, show ((n : Int) * 16 + i) = ((16 * n + i : Nat) : Int) by omega, zcX8_put (by omega) (by omega), Option.bind_some, zL1, zI_add]
      rfl) (by
      intro i s hi e
      subst e
      funext j
      unfold upd
      try dsimp only
      by_cases h : j = 16 * n + i
      · rw [if_pos h, if_pos (by omega)]
      · rw [if_neg h]
        by_cases h2 : 16 * n ≤ j ∧ j < 16 * n + i
        · rw [if_pos h2, if_pos (by omega)]
        · rw [if_neg h2, if_neg (by omega)])
  obtain ⟨e1, e2⟩ := key 16 0 2000 rd rfl (by omega) (by funext j; rw [if_neg (by omega)])
  try dsimp only at e1 e2
  rw [e2] at e1
  exact e1
theorem mX10_addL {xs : Nat → Int32} {n : Nat} (hn : n < 5) (v : Int32) : fX10_addBlank_L84 v (zI n) 2000 0 xs = some (fun j => if 68 + 18 * n ≤ j ∧ j < 84 + 18 * n then v else xs j) := by
  have key := loopG (S := Nat → Int32) (L := fun m i s => fX10_addBlank_L84 v (zI n) m (zI i) s) (g := fun i s => upd s (66 + 18 * n + (2 + i)) v) (N := 16) (P := fun i s => s = fun j => if 68 + 18 * n ≤ j ∧ j < 68 + 18 * n + i then v else xs j) (out := id) (by
      intro m s _
      try dsimp only
      rw [fX10_addBlank_L84]
      exact ite_t (by decide)) (by
      intro m i s hi _
      try dsimp only
      rw [fX10_addBlank_L84]
      simp only [zL0, zL1, zL2, zL3, zL5, zL6, zL7, zL8, zL9, zL10, zL15, zL16, zL18, zL20, zL30, zL31, zL33, zL48, zL49, zL50, zL51, zL52, zL53, zL54, zL55, zL56, zL57, zL58, zL59, zL60, zL61, zL62, zL63, zL64, zL65, zL66, zL80, zL99, zL100, zL120, zL126, zL156, zL200, zL1000, zL1404, zL1560, zLm, zI_neg, zI_add, zI_sub, zI_mul]
      rw [zi_le (by omega), if_neg (by omega), mX10_lay0 (w := 2 + i) hn (by omega) (by omega), Option.bind_some]
      rfl) (by
      intro i s hi e
      subst e
      funext j
      unfold upd
      try dsimp only
      by_cases h : j = 66 + 18 * n + (2 + i)
      · rw [if_pos h, if_pos (by omega)]
      · rw [if_neg h]
        by_cases h2 : 68 + 18 * n ≤ j ∧ j < 68 + 18 * n + i
        · rw [if_pos h2, if_pos (by omega)]
        · rw [if_neg h2, if_neg (by omega)])
  obtain ⟨e1, e2⟩ := key 16 0 2000 xs rfl (by omega) (by funext j; rw [if_neg (by omega)])
  try dsimp only at e1 e2
  rw [e2] at e1
  refine e1.trans ?_
  refine congrArg some ?_
  funext j
  try dsimp only [id]
  by_cases h : 68 + 18 * n ≤ j ∧ j < 84 + 18 * n
  · rw [if_pos h, if_pos (by omega)]
  · rw [if_neg h, if_neg (by omega)]
theorem st_11 (hC : Core (md, mch, fra, fwe, fof, fsi, csh, cde, csp, rd, rw, rp, rco, rmo, apa, awo, ash, aja, abu, ltol, lchi, ljam) ho hcn hsv hsl xs xsv xk0 xk1) (s1 : Int32) (s2 : Int32) : ∃ (rd_0 : Nat → Int32) (rw_0 : Nat → Int32) (rp_0 : Nat → Int32) (rco_0 : Int32) (ho_0 : Int32) (hcn_0 : Int32) (hsv_0 : Nat → Option LTH) (ou_0 : Nat → Int64) (xth_0 : Int32) (xs_0 : Nat → Int32) (xsv_0 : Int32), flaw_11 md mch fra fwe fof fsi csh cde csp rd rw rp rco rmo apa awo ash aja abu ltol lchi ljam ho hcn hsv ou xs xsv s1 s2 = some (rd_0, rw_0, rp_0, rco_0, ho_0, hcn_0, hsv_0, ou_0, xth_0, xs_0, xsv_0) ∧ Core (md, mch, fra, fwe, fof, fsi, csh, cde, csp, rd_0, rw_0, rp_0, rco_0, rmo, apa, awo, ash, aja, abu, ltol, lchi, ljam) ho_0 hcn_0 hsv_0 hsl xs_0 xsv_0 xk0 xk1 := by
  obtain ⟨⟨Z, hR, hc, hx⟩, hH, hs0, hs1⟩ := hC
  obtain ⟨ho2, hcn2, hsv2, ys, yv, e1, e2, hx2, hH2, hfr⟩ := save_ok hc hR hx hH
  obtain ⟨hmd, hrd, hrw, hrp, rfl, rfl, rfl, rfl, rfl, rfl, rfl, rfl, rfl, rfl, rfl, rfl, rfl, rfl, rfl, rfl, rfl, rfl⟩ := hc
  have e59 : xs (59 : Int32).toNatClampNeg = zI (Z 59) := by rw [zL59]; exact hx.g 59 (by omega) (by omega)
  have f59 : ys (59 : Int32).toNatClampNeg = zI (Z 59) := by rw [zL59]; exact hx2.g 59 (by omega) (by omega)
  have i59 : (59 : Int32).toNatClampNeg = 59 := by decide
  have x59 : xs 59 = zI (Z 59) := hx.z (by omega)
  have y59 : ys 59 = zI (Z 59) := hx2.z (by omega)
  have h1 := hR.mo
  have h2 := hR.co
  have r0 : fX9_checkState 0 = some (.inl 2) := rfl
  have r1 : fX9_checkState 1 = some (.inr ()) := rfl
  obtain ⟨w, hb, rfl⟩ := zI_surj s1
  obtain ⟨e, hb2, rfl⟩ := zI_surj s2
  obtain ⟨n, hn⟩ : ∃ n : Nat, Z 59 = n := ⟨(Z 59).toNat, by omega⟩
  by_cases hv : (0 : Int) ≤ w ∧ w ≤ 2
  · have c0 : fX9_checkIndex (zI w) 3 = some (.inr ()) := by rw [zL3]; exact cIdxY (by omega) (by omega)
    have m0 := mInY zL0 zL2 (by omega) hv
    by_cases hv2 : (20 : Int) ≤ e ∧ e ≤ 120
    · have c1 := rRaY zL20 zL120 (by omega) hv2
      have m1 := mInY zL20 zL120 (by omega) hv2
      by_cases h5 : n = 5
      · have e3 : (5 : Int32) ≤ zI (Z 59) := by rw [hn, h5]; decide
        have e4 : zI (Z 59) = 5 := by rw [hn, h5]; exact zL5.symm
        refine ⟨_, _, _, _, _, _, _, ou, 3, _, _, ?_, ⟨Z, hR, ⟨hmd, hrd, hrw, hrp, rfl, rfl, rfl, rfl, rfl, rfl, rfl, rfl, rfl, rfl, rfl, rfl, rfl, rfl, rfl, rfl, rfl, rfl⟩, hx⟩, hH, hs0, hs1⟩
        simp only [flaw_11, fL_addBlank, fX9_addBlank, c0, c1, if_pos e3, r0, fX10_addBlank, m0, m1, e59, if_pos e4, nn10, nn20, nn21, e01, true_or, or_true, Option.bind_some, Option.map_some, fX10_thrown, hd0, hd1, hd2, hd3, e10, e20, e30, eq_self, ↓reduceIte, lgu]
      · have hn5 : n < 5 := by omega
        have e3 : ¬ (5 : Int32) ≤ zI (Z 59) := by rw [zL5, zI_le (by omega)]; omega
        have e4 : ¬ zI (Z 59) = 5 := by rw [zL5, zI_eq (by omega)]; omega
        have p1 : fX8_put 5 rw (zI (Z 59)) (zI w) = some (upd rw n (zI w)) := by rw [hn]; exact zcX8_put (by omega) hn5 _
        have p2 : fX8_put 5 rp (zI (Z 59)) 0 = some (upd rp n 0) := by rw [hn]; exact zcX8_put (by omega) hn5 _
        have p3 : fX7_add_L26 (zI e) (zI (Z 59)) 2000 0 rd = some (fun j => if 16 * n ≤ j ∧ j < 16 * n + 16 then zI e else rd j) := by rw [hn]; exact zcX7_addL hn5 _
        have q1 : fX10_lay ys 0 (zI (Z 59)) 0 (zI w) = some (upd ys (66 + 18 * n + 0) (zI w)) := by
          rw [hn, zL0]; exact mX10_lay0 (w := 0) hn5 (by omega) rfl _
        have q2 : fX10_lay (upd ys (66 + 18 * n + 0) (zI w)) 0 (zI (Z 59)) 1 0 = some (upd (upd ys (66 + 18 * n + 0) (zI w)) (66 + 18 * n + 1) (zI 0)) := by
          rw [hn, zL0, zL1]; exact mX10_lay0 (w := 1) hn5 (by omega) rfl _
        have q3 : fX10_addBlank_L84 (zI e) (zI (Z 59)) 2000 0 (upd (upd ys (66 + 18 * n + 0) (zI w)) (66 + 18 * n + 1) (zI 0)) = some (fun j => if 68 + 18 * n ≤ j ∧ j < 84 + 18 * n then zI e else upd (upd ys (66 + 18 * n + 0) (zI w)) (66 + 18 * n + 1) (zI 0) j) := by
          rw [hn]; exact mX10_addL hn5 _
        have q4 : (if 68 + 18 * n ≤ 59 ∧ 59 < 84 + 18 * n then zI e else upd (upd ys (66 + 18 * n + 0) (zI w)) (66 + 18 * n + 1) (zI 0) 59) = zI (Z 59) := by
          rw [if_neg (by omega), pk_un (by omega), pk_un (by omega)]
          exact hx2.z (by omega)
        have hz : ∀ i, i < 156 → (upd (fun j => if 68 + 18 * n ≤ j ∧ j < 84 + 18 * n then zI e else upd (upd ys (66 + 18 * n + 0) (zI w)) (66 + 18 * n + 1) (zI 0) j) 59 (zI (Z 59) + 1)) i = zI (adZ Z n w e i) := by
          intro i hi
          by_cases h59 : i = 59
          · subst h59; rw [pk_us, adZ_59, hn, zL1, zI_add]
          · rw [pk_un h59]
            try dsimp only
            by_cases h : 68 + 18 * n ≤ i ∧ i < 84 + 18 * n
            · rw [if_pos h, show i = 68 + 18 * n + (i - (68 + 18 * n)) by omega, adZ_k (by omega)]
            · rw [if_neg h]
              by_cases h67 : i = 67 + 18 * n
              · subst h67; rw [show 66 + 18 * n + 1 = 67 + 18 * n by omega, pk_us, adZ_d]
              · rw [pk_un (by omega)]
                by_cases h66 : i = 66 + 18 * n
                · subst h66; rw [show 66 + 18 * n + 0 = 66 + 18 * n by omega, pk_us, adZ_w]
                · rw [pk_un (by omega), adZ_o (by omega)]
                  exact hx2.z hi
        have hx3 : MoS (adZ Z n w e) 0 (upd (fun j => if 68 + 18 * n ≤ j ∧ j < 84 + 18 * n then zI e else upd (upd ys (66 + 18 * n + 0) (zI w)) (66 + 18 * n + 1) (zI 0) j) 59 (zI (Z 59) + 1)) := ⟨Or.inl rfl, fun i hi => by rw [show (0 : Int).toNat + i = i by omega]; exact hz i hi⟩
        have hA1 : ∀ i : Nat, i < 48 → md i = zI (adZ Z n w e i) := fun i hi => by rw [adZ_o (by omega)]; exact hmd i hi
        have hA2 : rdO (adZ Z n w e) (fun j => if 16 * n ≤ j ∧ j < 16 * n + 16 then zI e else rd j) := by
          intro q k hq hk
          unfold dZ
          try dsimp only
          by_cases h : q = n
          · subst h; rw [if_pos (by omega), adZ_k hk]
          · rw [if_neg (by omega), adZ_o (by omega)]; exact hrd q k hq hk
        have hA3 : rwO (adZ Z n w e) (upd rw n (zI w)) := by
          intro q hq
          by_cases h : q = n
          · subst h; rw [pk_us, adZ_w]
          · rw [pk_un h, adZ_o (by omega)]; exact hrw q hq
        have hA4 : rpO (adZ Z n w e) (upd rp n 0) := by
          intro q hq
          by_cases h : q = n
          · subst h; rw [pk_us, adZ_d, zL0]
          · rw [pk_un h, adZ_o (by omega)]; exact hrp q hq
        refine ⟨fun j => if 16 * n ≤ j ∧ j < 16 * n + 16 then zI e else rd j, upd rw n (zI w), upd rp n 0, zI (Z 59) + 1, ho2, hcn2, hsv2, vp_updL ou (0 : Int32).toNatClampNeg (zI (Z 59)).toInt64, 0, upd (fun j => if 68 + 18 * n ≤ j ∧ j < 84 + 18 * n then zI e else upd (upd ys (66 + 18 * n + 0) (zI w)) (66 + 18 * n + 1) (zI 0) j) 59 (zI (Z 59) + 1), yv, ?_, core_up (Y := adZ Z n w e) (adZ_R hR hn hn5 hv hv2) ⟨hA1, hA2, hA3, hA4, by rw [adZ_o (by omega)], by rw [adZ_o (by omega)], by rw [adZ_o (by omega)], by rw [adZ_o (by omega)], by rw [adZ_o (by omega)], by rw [adZ_o (by omega)], by rw [adZ_o (by omega)], by rw [adZ_o (by omega)], by rw [adZ_59, hn, zL1, zI_add], by rw [adZ_o (by omega)], by rw [adZ_o (by omega)], by rw [adZ_o (by omega)], by rw [adZ_o (by omega)], by rw [adZ_o (by omega)], by rw [adZ_o (by omega)], by rw [adZ_o (by omega)], by rw [adZ_o (by omega)], by rw [adZ_o (by omega)]⟩ hx3 hH2 hfr (fun i i1 i2 => by rw [pk_un (by omega)]; (try dsimp only); rw [if_neg (by omega), pk_un (by omega), pk_un (by omega)]) hs0 hs1⟩
        simp only [flaw_11, fL_addBlank, fX9_addBlank, c0, c1, if_neg e3, r1, e1, fX7_add, p1, p2, p3, fX10_addBlank, m0, m1, i59, x59, if_neg e4, e2, y59, q1, q2, q3, q4, nn10, nn20, nn21, e01, true_or, or_true, Option.bind_some, Option.map_some, fX10_thrown, hd0, hd1, hd2, hd3, e10, e20, e30, eq_self, ↓reduceIte, lgu]
    · have c1 := rRaN zL20 zL120 (by omega) hv2
      have m1 := mInN zL20 zL120 (by omega) hv2
      refine ⟨_, _, _, _, _, _, _, ou, 2, _, _, ?_, ⟨Z, hR, ⟨hmd, hrd, hrw, hrp, rfl, rfl, rfl, rfl, rfl, rfl, rfl, rfl, rfl, rfl, rfl, rfl, rfl, rfl, rfl, rfl, rfl, rfl⟩, hx⟩, hH, hs0, hs1⟩
      simp only [flaw_11, fL_addBlank, fX9_addBlank, c0, c1, fX10_addBlank, m0, m1, nn10, nn20, nn21, e01, true_or, or_true, Option.bind_some, Option.map_some, fX10_thrown, hd0, hd1, hd2, hd3, e10, e20, e30, eq_self, ↓reduceIte, lgu]
  · have c0 : fX9_checkIndex (zI w) 3 = some (.inl 0) := by rw [zL3]; exact cIdxN (by omega) (by omega)
    have m0 := mInN zL0 zL2 (by omega) hv
    refine ⟨_, _, _, _, _, _, _, ou, 1, _, _, ?_, ⟨Z, hR, ⟨hmd, hrd, hrw, hrp, rfl, rfl, rfl, rfl, rfl, rfl, rfl, rfl, rfl, rfl, rfl, rfl, rfl, rfl, rfl, rfl, rfl, rfl⟩, hx⟩, hH, hs0, hs1⟩
    simp only [flaw_11, fL_addBlank, fX9_addBlank, c0, fX10_addBlank, m0, nn10, nn20, nn21, e01, true_or, or_true, Option.bind_some, Option.map_some, fX10_thrown, hd0, hd1, hd2, hd3, e10, e20, e30, eq_self, ↓reduceIte, lgu]
/-! a piece is burnt -/
def buZ (Z : Nat → Int) (p n : Nat) : Nat → Int := fun i => if 66 + 18 * p ≤ i ∧ i + 18 < 66 + 18 * n then Z (i + 18) else if i = 59 then (n : Int) - 1 else if i = 60 then (if Z 60 ≤ p then Z 60 else Z 60 - 1) else if i = 65 then Z 65 + 1 else Z i
theorem buZ_o {Z : Nat → Int} {p n : Nat} {i : Nat} (h : i ≠ 59 ∧ i ≠ 60 ∧ i ≠ 65 ∧ (i < 66 + 18 * p ∨ 66 + 18 * n ≤ i + 18)) : buZ Z p n i = Z i := by
  unfold buZ
  rw [if_neg (by omega), if_neg (by omega), if_neg (by omega), if_neg (by omega)]
theorem buZ_59 {Z : Nat → Int} {p n : Nat} : buZ Z p n 59 = (n : Int) - 1 := by
  unfold buZ
  rw [if_neg (by omega), if_pos rfl]
theorem buZ_60 {Z : Nat → Int} {p n : Nat} : buZ Z p n 60 = (if Z 60 ≤ p then Z 60 else Z 60 - 1) := by
  unfold buZ
  rw [if_neg (by omega), if_neg (by omega), if_pos rfl]
theorem buZ_65 {Z : Nat → Int} {p n : Nat} : buZ Z p n 65 = Z 65 + 1 := by
  unfold buZ
  rw [if_neg (by omega), if_neg (by omega), if_neg (by omega), if_pos rfl]
theorem buZ_s {Z : Nat → Int} {p n : Nat} {i : Nat} (h : 66 + 18 * p ≤ i ∧ i + 18 < 66 + 18 * n) : buZ Z p n i = Z (i + 18) := by
  unfold buZ
  rw [if_pos h]
theorem buZ_R {Z : Nat → Int} (hR : Rg Z) {p n : Nat} (hn : Z 59 = n) (hp : p < n) (h60 : Z 60 ≠ p) : Rg (buZ Z p n) := by
  have hco := hR.co
  have hmo := hR.mo
  refine ⟨fun i hi => by rw [buZ_o (by omega)]; exact hR.md hi, ?_, ?_, ?_, ?_, ?_, ?_, ?_, ?_, ?_, ?_, ?_, ?_, fun q hq => ?_, fun q k hq hk => ?_⟩
  · rw [buZ_o (by omega)]; exact hR.ch
  · rw [buZ_o (by omega)]; exact hR.ra
  · rw [buZ_o (by omega)]; exact hR.we
  · rw [buZ_o (by omega)]; exact hR.of
  · rw [buZ_o (by omega)]; exact hR.sh
  · rw [buZ_o (by omega)]; exact hR.de
  · rw [buZ_o (by omega)]; exact hR.sp
  · rw [buZ_o (by omega)]; exact hR.to
  · rw [buZ_o (by omega)]; exact hR.chi
  · rw [buZ_o (by omega)]; exact hR.ja
  · rw [buZ_59]; omega
  · rw [buZ_59, buZ_60]
    split <;> omega
  · by_cases h : p ≤ q ∧ q + 1 < n
    · rw [buZ_s (by omega), show 66 + 18 * q + 18 = 66 + 18 * (q + 1) by omega]; exact hR.wo (by omega)
    · rw [buZ_o (by omega)]; exact hR.wo hq
  · rw [buZ_59]
    by_cases h : p ≤ q ∧ q + 1 < n
    · rw [buZ_s (by omega), show 68 + 18 * q + k + 18 = 68 + 18 * (q + 1) + k by omega]
      have := hR.di (q := q + 1) (by omega) hk
      exact ⟨this.1, this.2.1, fun h9 => this.2.2 (by omega)⟩
    · rw [buZ_o (by omega)]
      have := hR.di hq hk
      exact ⟨this.1, this.2.1, fun h9 => this.2.2 (by omega)⟩
theorem zcX8_atn {rf : Nat → Int32} {ln : Nat} (hl : ln < 2147483648) {k : Nat} (hk : k < ln) {K : Int32} (e : K = zI (k : Int)) : fX8_at ln rf K = some (rf k) := by subst e; exact zcX8_at hl hk
theorem zcX8_putn {rf : Nat → Int32} {ln : Nat} (hl : ln < 2147483648) {k : Nat} (hk : k < ln) (v : Int32) {K : Int32} (e : K = zI (k : Int)) : fX8_put ln rf K v = some (upd rf k v) := by subst e; exact zcX8_put hl hk v
def mvR (v : Nat) (rd : Nat → Int32) (m : Nat) : Nat → Int32 := fun j => if 16 * v ≤ j + 16 ∧ j + 16 < 16 * v + m then rd (j + 16) else rd j
theorem zcX7_mvL {rd : Nat → Int32} {v : Nat} (hv : 1 ≤ v ∧ v < 5) : fX7_moveUp_L38 (zI v) 2000 0 rd = some (mvR v rd 16) := by
  have key := loopG (S := Nat → Int32) (L := fun m i s => fX7_moveUp_L38 (zI v) m (zI i) s) (g := fun i s => upd s (16 * (v - 1) + i) (s (16 * v + i))) (N := 16) (P := fun i s => s = mvR v rd i) (out := id) (by
      intro m s _
      try dsimp only
      rw [fX7_moveUp_L38]
      exact ite_t (by decide)) (by
      intro m i s hi _
      try dsimp only
      rw [fX7_moveUp_L38, zL16, zi_le (by omega), if_neg (by omega)]
      unfold fX7_at
      rw [zcX8_atn (k := 16 * v + i) (by omega) (by omega) (by simp only [zL0, zL1, zL2, zL3, zL5, zL6, zL7, zL8, zL9, zL10, zL15, zL16, zL18, zL20, zL30, zL31, zL33, zL48, zL49, zL50, zL51, zL52, zL53, zL54, zL55, zL56, zL57, zL58, zL59, zL60, zL61, zL62, zL63, zL64, zL65, zL66, zL80, zL99, zL100, zL120, zL126, zL156, zL200, zL1000, zL1404, zL1560, zLm, zI_neg, zI_add, zI_sub, zI_mul]; congr 1; omega), Option.bind_some, Option.bind_some, zcX8_putn (k := 16 * (v - 1) + i) (by omega) (by omega) _ (by simp only [zL0, zL1, zL2, zL3, zL5, zL6, zL7, zL8, zL9, zL10, zL15, zL16, zL18, zL20, zL30, zL31, zL33, zL48, zL49, zL50, zL51, zL52, zL53, zL54, zL55, zL56, zL57, zL58, zL59, zL60, zL61, zL62, zL63, zL64, zL65, zL66, zL80, zL99, zL100, zL120, zL126, zL156, zL200, zL1000, zL1404, zL1560, zLm, zI_neg, zI_add, zI_sub, zI_mul]; congr 1; omega), Option.bind_some, zL1, zI_add]
      rfl) (by
      intro i s hi e
      subst e
      funext j
      unfold upd mvR
      try dsimp only
      by_cases h : j = 16 * (v - 1) + i
      · rw [if_pos h, if_neg (by omega), if_pos (by omega)]
        exact congrArg rd (by omega)
      · rw [if_neg h]
        by_cases h2 : 16 * v ≤ j + 16 ∧ j + 16 < 16 * v + i
        · rw [if_pos h2, if_pos (by omega)]
        · rw [if_neg h2, if_neg (by omega)])
  obtain ⟨e1, e2⟩ := key 16 0 2000 rd rfl (by omega) (by funext j; unfold mvR; rw [if_neg (by omega)])
  try dsimp only at e1 e2
  rw [e2] at e1
  exact e1
def drR (p : Nat) (rd : Nat → Int32) (v : Nat) : Nat → Int32 := fun j => if 16 * p ≤ j ∧ j + 16 < 16 * v then rd (j + 16) else rd j
def dr1 (p : Nat) (rw : Nat → Int32) (v : Nat) : Nat → Int32 := fun j => if p ≤ j ∧ j + 1 < v then rw (j + 1) else rw j
theorem zcX7_dropL {rd rw rp : Nat → Int32} {p n : Nat} (hp : p < n) (hn : n ≤ 5) : fX7_drop_L4 (zI n) 2000 (zI ((p : Int) + 1)) rd rw rp = some (drR p rd n, dr1 p rw n, dr1 p rp n) := by
  have key := loopG (S := (Nat → Int32) × (Nat → Int32) × (Nat → Int32)) (L := fun m v s => fX7_drop_L4 (zI n) m (zI v) s.1 s.2.1 s.2.2) (g := fun v s => (mvR v s.1 16, upd s.2.1 (v - 1) (s.2.1 v), upd s.2.2 (v - 1) (s.2.2 v))) (N := n) (P := fun v s => p + 1 ≤ v ∧ s = (drR p rd v, dr1 p rw v, dr1 p rp v)) (out := id) (by
      intro m s _
      try dsimp only
      rw [fX7_drop_L4, zi_le (by omega), if_pos (by omega)]
      rfl) (by
      rintro m v s hv ⟨hp1, _⟩
      try dsimp only
      have e1 : zI (v : Int) - 1 = zI ((v - 1 : Nat) : Int) := by rw [zL1, zI_sub]; congr 1; omega
      rw [fX7_drop_L4, zi_le (by omega), if_neg (by omega)]
      unfold fX7_moveUp
      rw [zcX8_at (by omega) (by omega), Option.bind_some, e1, zcX8_put (by omega) (by omega), Option.bind_some, zcX8_at (by omega) (by omega), Option.bind_some, zcX8_put (by omega) (by omega), Option.bind_some, zcX7_mvL (by omega), Option.bind_some, Option.bind_some, zL1, zI_add]
      rfl) (by
      rintro v s hv ⟨hp1, e⟩
      subst e
      have h1 : ∀ f : Nat → Int32, upd (dr1 p f v) (v - 1) (dr1 p f v v) = dr1 p f (v + 1) := by
        intro f
        funext j
        unfold upd dr1
        try dsimp only
        by_cases h : j = v - 1
        · rw [if_pos h, if_neg (by omega), if_pos (by omega)]
          exact congrArg f (by omega)
        · rw [if_neg h]
          by_cases h2 : p ≤ j ∧ j + 1 < v
          · rw [if_pos h2, if_pos (by omega)]
          · rw [if_neg h2, if_neg (by omega)]
      have h2 : mvR v (drR p rd v) 16 = drR p rd (v + 1) := by
        funext j
        unfold mvR drR
        try dsimp only
        by_cases h : 16 * v ≤ j + 16 ∧ j + 16 < 16 * v + 16
        · rw [if_pos h, if_neg (by omega), if_pos (by omega)]
        · rw [if_neg h]
          by_cases h2 : 16 * p ≤ j ∧ j + 16 < 16 * v
          · rw [if_pos h2, if_pos (by omega)]
          · rw [if_neg h2, if_neg (by omega)]
      try dsimp only
      rw [h1, h1, h2]
      exact ⟨by omega, rfl⟩)
  obtain ⟨e1, e2⟩ := key (n - (p + 1)) (p + 1) 2000 (rd, rw, rp) (by omega) (by omega) ⟨by omega, by
    have h1 : ∀ f : Nat → Int32, f = dr1 p f (p + 1) := fun f => by funext j; unfold dr1; rw [if_neg (by omega)]
    have h2 : rd = drR p rd (p + 1) := by funext j; unfold drR; rw [if_neg (by omega)]
    rw [← h1, ← h1, ← h2]⟩
  try dsimp only at e1 e2
  rw [e2.2] at e1
  rw [show ((p : Int) + 1) = ((p + 1 : Nat) : Int) by omega]
  exact e1
def buX (xs : Nat → Int32) (p v : Nat) : Nat → Int32 := fun j => if 66 + 18 * p ≤ j ∧ j < 66 + v then xs (j + 18) else xs j
theorem mX10_burnL {xs : Nat → Int32} {p n : Nat} (hp : p < n) (hn : n ≤ 5) (h59 : xs 59 = zI ((n : Int) - 1)) : fX10_burn_L59 2000 (zI (18 * (p : Int))) xs = some (buX xs p (18 * (n - 1))) := by
  have i59 : (zI 59).toNatClampNeg = 59 := by rw [zI_cl (by omega)]; rfl
  have key := loopG (S := Nat → Int32) (L := fun m v s => fX10_burn_L59 m (zI v) s) (g := fun v s => upd s (66 + v) (s (66 + v + 18))) (N := 18 * (n - 1)) (P := fun v s => 18 * p ≤ v ∧ s = buX xs p v) (out := id) (by
      rintro m s ⟨hv, e⟩
      subst e
      try dsimp only
      rw [fX10_burn_L59]
      simp only [zL0, zL1, zL2, zL3, zL5, zL6, zL7, zL8, zL9, zL10, zL15, zL16, zL18, zL20, zL30, zL31, zL33, zL48, zL49, zL50, zL51, zL52, zL53, zL54, zL55, zL56, zL57, zL58, zL59, zL60, zL61, zL62, zL63, zL64, zL65, zL66, zL80, zL99, zL100, zL120, zL126, zL156, zL200, zL1000, zL1404, zL1560, zLm, zI_neg]
      rw [i59, show buX xs p (18 * (n - 1)) 59 = zI ((n : Int) - 1) by unfold buX; rw [if_neg (by omega)]; exact h59, zI_mul, zi_le (by omega), if_pos (by omega)]
      rfl) (by
      rintro m v s hv ⟨hv2, e⟩
      subst e
      try dsimp only
      have k1 : ¬ (zI (66 + (v : Int) + 18) < zI 0 ∨ 1560 ≤ (zI (66 + (v : Int) + 18)).toNatClampNeg) := ixB (by omega)
      have k2 : ¬ (zI (66 + (v : Int)) < zI 0 ∨ 1560 ≤ (zI (66 + (v : Int))).toNatClampNeg) := ixB (by omega)
      have j1 : (zI (66 + (v : Int) + 18)).toNatClampNeg = 66 + v + 18 := by rw [zI_cl (by omega)]; omega
      have j2 : (zI (66 + (v : Int))).toNatClampNeg = 66 + v := by rw [zI_cl (by omega)]; omega
      rw [fX10_burn_L59]
      simp only [zL0, zL1, zL2, zL3, zL5, zL6, zL7, zL8, zL9, zL10, zL15, zL16, zL18, zL20, zL30, zL31, zL33, zL48, zL49, zL50, zL51, zL52, zL53, zL54, zL55, zL56, zL57, zL58, zL59, zL60, zL61, zL62, zL63, zL64, zL65, zL66, zL80, zL99, zL100, zL120, zL126, zL156, zL200, zL1000, zL1404, zL1560, zLm, zI_neg, zI_add, zI_sub, zI_mul]
      rw [i59, show buX xs p v 59 = zI ((n : Int) - 1) by unfold buX; rw [if_neg (by omega)]; exact h59, zI_mul, zi_le (by omega), if_neg (by omega), if_pos k1, if_pos k2, j1, j2]
      rfl) (by
      rintro v s hv ⟨hv2, e⟩
      subst e
      refine ⟨by omega, ?_⟩
      funext j
      unfold upd buX
      try dsimp only
      by_cases h : j = 66 + v
      · rw [if_pos h, if_neg (by omega), if_pos (by omega)]
        exact congrArg xs (by omega)
      · rw [if_neg h]
        by_cases h2 : 66 + 18 * p ≤ j ∧ j < 66 + v
        · rw [if_pos h2, if_pos (by omega)]
        · rw [if_neg h2, if_neg (by omega)])
  obtain ⟨e1, e2⟩ := key (18 * (n - 1) - 18 * p) (18 * p) 2000 xs (by omega) (by omega) ⟨by omega, by funext j; unfold buX; rw [if_neg (by omega)]⟩
  try dsimp only at e1 e2
  rw [e2.2] at e1
  rw [show (18 * (p : Int)) = ((18 * p : Nat) : Int) by omega]
  exact e1
theorem st_12 (hC : Core (md, mch, fra, fwe, fof, fsi, csh, cde, csp, rd, rw, rp, rco, rmo, apa, awo, ash, aja, abu, ltol, lchi, ljam) ho hcn hsv hsl xs xsv xk0 xk1) (s1 : Int32) : ∃ (rd_0 : Nat → Int32) (rw_0 : Nat → Int32) (rp_0 : Nat → Int32) (rco_0 : Int32) (rmo_0 : Int32) (abu_0 : Int32) (ho_0 : Int32) (hcn_0 : Int32) (hsv_0 : Nat → Option LTH) (ou_0 : Nat → Int64) (xth_0 : Int32) (xs_0 : Nat → Int32) (xsv_0 : Int32), flaw_12 md mch fra fwe fof fsi csh cde csp rd rw rp rco rmo apa awo ash aja abu ltol lchi ljam ho hcn hsv ou xs xsv s1 = some (rd_0, rw_0, rp_0, rco_0, rmo_0, abu_0, ho_0, hcn_0, hsv_0, ou_0, xth_0, xs_0, xsv_0) ∧ Core (md, mch, fra, fwe, fof, fsi, csh, cde, csp, rd_0, rw_0, rp_0, rco_0, rmo_0, apa, awo, ash, aja, abu_0, ltol, lchi, ljam) ho_0 hcn_0 hsv_0 hsl xs_0 xsv_0 xk0 xk1 := by
  obtain ⟨⟨Z, hR, hc, hx⟩, hH, hs0, hs1⟩ := hC
  obtain ⟨ho2, hcn2, hsv2, ys, yv, e1, e2, hx2, hH2, hfr⟩ := save_ok hc hR hx hH
  obtain ⟨hmd, hrd, hrw, hrp, rfl, rfl, rfl, rfl, rfl, rfl, rfl, rfl, rfl, rfl, rfl, rfl, rfl, rfl, rfl, rfl, rfl, rfl⟩ := hc
  have e60 : xs (60 : Int32).toNatClampNeg = zI (Z 60) := by rw [zL60]; exact hx.g 60 (by omega) (by omega)
  have i59 : (59 : Int32).toNatClampNeg = 59 := by decide
  have i60 : (60 : Int32).toNatClampNeg = 60 := by decide
  have x60 : xs 60 = zI (Z 60) := hx.z (by omega)
  have i65 : (65 : Int32).toNatClampNeg = 65 := by decide
  have h1 := hR.mo
  have h2 := hR.co
  have r0 : fX9_checkState 0 = some (.inl 2) := rfl
  have r1 : fX9_checkState 1 = some (.inr ()) := rfl
  obtain ⟨a, hb, rfl⟩ := zI_surj s1
  obtain ⟨n, hn⟩ : ∃ n : Nat, Z 59 = n := ⟨(Z 59).toNat, by omega⟩
  by_cases hv : 0 ≤ a ∧ a < Z 59
  · by_cases hm : a = Z 60
    · have e3 : zI a = zI (Z 60) := by rw [hm]
      refine ⟨_, _, _, _, _, _, _, _, _, ou, 2, _, _, ?_, ⟨Z, hR, ⟨hmd, hrd, hrw, hrp, rfl, rfl, rfl, rfl, rfl, rfl, rfl, rfl, rfl, rfl, rfl, rfl, rfl, rfl, rfl, rfl, rfl, rfl⟩, hx⟩, hH, hs0, hs1⟩
      simp only [flaw_12, fL_burn, fX9_burn, cPiY hR hb hv, if_pos e3, r0, fX10_burn, mPiY hx hR hb hv, e60, if_pos e3.symm, nn10, nn20, nn21, e01, true_or, or_true, Option.bind_some, Option.map_some, fX10_thrown, hd0, hd1, hd2, hd3, e10, e20, e30, eq_self, ↓reduceIte, lgu]
    · have e3 : ¬ zI a = zI (Z 60) := by rw [zI_eq (by omega)]; exact hm
      have e3' : ¬ zI (Z 60) = zI a := fun h => e3 h.symm
      obtain ⟨p, rfl⟩ : ∃ q : Nat, a = q := ⟨a.toNat, by omega⟩
      have hp : p < n := by omega
      have hm2 : Z 60 ≠ p := fun h => hm h.symm
      have d1 : fX7_drop rd rw rp (zI (Z 59)) (zI (Z 60)) (zI p) = some (drR p rd n, dr1 p rw n, dr1 p rp n, zI ((n : Int) - 1), zI (buZ Z p n 60)) := by
        unfold fX7_drop
        rw [hn]
        simp only [zL0, zL1, zL2, zL3, zL5, zL6, zL7, zL8, zL9, zL10, zL15, zL16, zL18, zL20, zL30, zL31, zL33, zL48, zL49, zL50, zL51, zL52, zL53, zL54, zL55, zL56, zL57, zL58, zL59, zL60, zL61, zL62, zL63, zL64, zL65, zL66, zL80, zL99, zL100, zL120, zL126, zL156, zL200, zL1000, zL1404, zL1560, zLm, zI_neg, zI_add, zI_sub, zI_mul]
        rw [zcX7_dropL hp (by omega), Option.bind_some, buZ_60]
        try dsimp only
        rw [zi_le (by omega)]
        split <;> rfl
      have w1 : ys 59 - 1 = zI ((n : Int) - 1) := by rw [hx2.z (by omega), hn, zL1, zI_sub]
      have w2 : fX10_burn_L59 2000 (18 * zI (p : Int)) (upd ys 59 (zI ((n : Int) - 1))) = some (buX (upd ys 59 (zI ((n : Int) - 1))) p (18 * (n - 1))) := by
        rw [zL18, zI_mul]
        exact mX10_burnL hp (by omega) pk_us
      have w3 : buX (upd ys 59 (zI ((n : Int) - 1))) p (18 * (n - 1)) 60 = zI (Z 60) := by unfold buX; rw [if_neg (by omega), pk_un (by omega)]; exact hx2.z (by omega)
      have w5 : ∀ v : Int32, upd (buX (upd ys 59 (zI ((n : Int) - 1))) p (18 * (n - 1))) 60 v 65 = zI (Z 65) := fun v => by rw [pk_un (by omega)]; unfold buX; rw [if_neg (by omega), pk_un (by omega)]; exact hx2.z (by omega)
      have w6 : ∀ v u : Int32, upd (upd (buX (upd ys 59 (zI ((n : Int) - 1))) p (18 * (n - 1))) 60 v) 65 u 59 = zI ((n : Int) - 1) := fun v u => by rw [pk_un (by omega), pk_un (by omega)]; unfold buX; rw [if_neg (by omega), pk_us]
      have w7 : zI (Z 65) + 1 = zI (Z 65 + 1) := by rw [zL1, zI_add]
      have hz : ∀ i, i < 156 → (upd (upd (buX (upd ys 59 (zI ((n : Int) - 1))) p (18 * (n - 1))) 60 (zI (buZ Z p n 60))) 65 (zI (Z 65 + 1))) i = zI (buZ Z p n i) := by
        intro i hi
        by_cases h65 : i = 65
        · subst h65; rw [pk_us, buZ_65]
        · rw [pk_un h65]
          by_cases h60 : i = 60
          · subst h60; rw [pk_us]
          · rw [pk_un h60]
            unfold buX
            by_cases h : 66 + 18 * p ≤ i ∧ i < 66 + 18 * (n - 1)
            · rw [if_pos h, pk_un (by omega), buZ_s (by omega)]; exact hx2.z (by omega)
            · rw [if_neg h]
              by_cases h59 : i = 59
              · subst h59; rw [pk_us, buZ_59]
              · rw [pk_un h59, buZ_o (by omega)]; exact hx2.z hi
      have hx3 : MoS (buZ Z p n) 0 (upd (upd (buX (upd ys 59 (zI ((n : Int) - 1))) p (18 * (n - 1))) 60 (zI (buZ Z p n 60))) 65 (zI (Z 65 + 1))) := ⟨Or.inl rfl, fun i hi => by rw [show (0 : Int).toNat + i = i by omega]; exact hz i hi⟩
      have hB1 : ∀ i : Nat, i < 48 → md i = zI (buZ Z p n i) := fun i hi => by rw [buZ_o (by omega)]; exact hmd i hi
      have hB2 : rdO (buZ Z p n) (drR p rd n) := by
        intro q k hq hk
        unfold dZ drR
        by_cases h : p ≤ q ∧ q + 1 < n
        · rw [if_pos (by omega), buZ_s (by omega), show 68 + 18 * q + k + 18 = 68 + 18 * (q + 1) + k by omega, show 16 * q + k + 16 = 16 * (q + 1) + k by omega]
          exact hrd (q + 1) k (by omega) hk
        · rw [if_neg (by omega), buZ_o (by omega)]; exact hrd q k hq hk
      have hB3 : rwO (buZ Z p n) (dr1 p rw n) := by
        intro q hq
        unfold dr1
        by_cases h : p ≤ q ∧ q + 1 < n
        · rw [if_pos h, buZ_s (by omega), show 66 + 18 * q + 18 = 66 + 18 * (q + 1) by omega]; exact hrw (q + 1) (by omega)
        · rw [if_neg h, buZ_o (by omega)]; exact hrw q hq
      have hB4 : rpO (buZ Z p n) (dr1 p rp n) := by
        intro q hq
        unfold dr1
        by_cases h : p ≤ q ∧ q + 1 < n
        · rw [if_pos h, buZ_s (by omega), show 67 + 18 * q + 18 = 67 + 18 * (q + 1) by omega]; exact hrp (q + 1) (by omega)
        · rw [if_neg h, buZ_o (by omega)]; exact hrp q hq
      refine ⟨drR p rd n, dr1 p rw n, dr1 p rp n, zI ((n : Int) - 1), zI (buZ Z p n 60), zI (Z 65) + 1, ho2, hcn2, hsv2, vp_updL ou (0 : Int32).toNatClampNeg (zI ((n : Int) - 1)).toInt64, 0, upd (upd (buX (upd ys 59 (zI ((n : Int) - 1))) p (18 * (n - 1))) 60 (zI (buZ Z p n 60))) 65 (zI (Z 65 + 1)), yv, ?_, core_up (Y := buZ Z p n) (buZ_R hR hn hp hm2) ⟨hB1, hB2, hB3, hB4, by rw [buZ_o (by omega)], by rw [buZ_o (by omega)], by rw [buZ_o (by omega)], by rw [buZ_o (by omega)], by rw [buZ_o (by omega)], by rw [buZ_o (by omega)], by rw [buZ_o (by omega)], by rw [buZ_o (by omega)], by rw [buZ_59], rfl, by rw [buZ_o (by omega)], by rw [buZ_o (by omega)], by rw [buZ_o (by omega)], by rw [buZ_o (by omega)], by rw [buZ_65, zL1, zI_add], by rw [buZ_o (by omega)], by rw [buZ_o (by omega)], by rw [buZ_o (by omega)]⟩ hx3 hH2 hfr (fun i i1 i2 => by rw [pk_un (by omega), pk_un (by omega)]; unfold buX; rw [if_neg (by omega), pk_un (by omega)]) hs0 hs1⟩
      by_cases h6 : Z 60 ≤ p
      · have e4 : zI (Z 60) ≤ zI (p : Int) := by rw [zI_le (by omega)]; exact h6
        have e5 : zI (buZ Z p n 60) = zI (Z 60) := by rw [buZ_60, if_pos h6]
        have e6 : zI (Z 60) - 0 = zI (Z 60) := by rw [zL0, zI_sub, Int.sub_zero]
        rw [e5] at d1
        rw [e5]
        simp only [flaw_12, fL_burn, fX9_burn, cPiY hR hb hv, if_neg e3, r1, e1, d1, fX10_burn, mPiY hx hR hb hv, i60, x60, if_neg e3', e2, i59, i65, w1, w2, w3, if_pos e4, e6, w5, w6, w7, nn10, nn20, nn21, e01, true_or, or_true, Option.bind_some, Option.map_some, fX10_thrown, hd0, hd1, hd2, hd3, e10, e20, e30, eq_self, ↓reduceIte, lgu]
      · have e4 : ¬ zI (Z 60) ≤ zI (p : Int) := by rw [zI_le (by omega)]; exact h6
        have e5 : zI (buZ Z p n 60) = zI (Z 60 - 1) := by rw [buZ_60, if_neg h6]
        have e6 : zI (Z 60) - 1 = zI (Z 60 - 1) := by rw [zL1, zI_sub]
        rw [e5] at d1
        rw [e5]
        simp only [flaw_12, fL_burn, fX9_burn, cPiY hR hb hv, if_neg e3, r1, e1, d1, fX10_burn, mPiY hx hR hb hv, i60, x60, if_neg e3', e2, i59, i65, w1, w2, w3, if_neg e4, e6, w5, w6, w7, nn10, nn20, nn21, e01, true_or, or_true, Option.bind_some, Option.map_some, fX10_thrown, hd0, hd1, hd2, hd3, e10, e20, e30, eq_self, ↓reduceIte, lgu]
  · refine ⟨_, _, _, _, _, _, _, _, _, ou, 1, _, _, ?_, ⟨Z, hR, ⟨hmd, hrd, hrw, hrp, rfl, rfl, rfl, rfl, rfl, rfl, rfl, rfl, rfl, rfl, rfl, rfl, rfl, rfl, rfl, rfl, rfl, rfl⟩, hx⟩, hH, hs0, hs1⟩
    simp only [flaw_12, fL_burn, fX9_burn, cPiN hR hb hv, fX10_burn, mPiN hx hR hb hv, nn10, nn20, nn21, e01, true_or, or_true, Option.bind_some, Option.map_some, fX10_thrown, hd0, hd1, hd2, hd3, e10, e20, e30, eq_self, ↓reduceIte, lgu]
end MUB
