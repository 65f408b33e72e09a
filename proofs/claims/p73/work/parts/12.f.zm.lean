section MUB
variable {md : Nat → Int32} {mch : Int32} {fra : Int32} {fwe : Int32} {fof : Int32} {fsi : Int32} {csh : Int32} {cde : Int32} {csp : Int32} {rd : Nat → Int32} {rw : Nat → Int32} {rp : Nat → Int32} {rco : Int32} {rmo : Int32} {apa : Int32} {awo : Int32} {ash : Int32} {aja : Int32} {abu : Int32} {ltol : Int32} {lchi : Int32} {ljam : Int32} {ho : Int32} {hcn : Int32} {hsv : Nat → Option LTH} {hsl : Nat → Option LTH} {cav : Nat → Nat → Nat} {cal : Nat → Nat → Nat} {ou : Nat → Int64} {od : Nat → UInt64} {xs : Nat → Int32} {xsv : Int32} {xth : Int32} {xk0 : Int32} {xk1 : Int32} {xtx : Nat → Int32} {xle : Int32} {xat : Int32} {xdi : Int32} {xma : Int32} {xto : Int32} {xha : Int64} {wa : Nat → Int32} {le : Nat → Int32} {tc : Nat → Int32} {tt : Nat → Int32} {tle : Int32} {tpl : Int32} {tdi : Int32} {tti : Int32} {tst : Int32}
/-! a blank is added -/
def adZ (Z : Nat → Int) (n : Nat) (w e : Int) : Nat → Int := fun i => if i = 66 + 18 * n then w else if i = 67 + 18 * n then 0 else if 68 + 18 * n ≤ i ∧ i < 84 + 18 * n then e else if i = 59 then (n : Int) + 1 else Z i
theorem adZ_o {Z : Nat → Int} {n : Nat} {w e : Int} {i : Nat} (h : i ≠ 59 ∧ (i < 66 + 18 * n ∨ 84 + 18 * n ≤ i)) : adZ Z n w e i = Z i := by
  unfold adZ
  rw [if_neg (by omega), if_neg (by omega), if_neg (by omega), if_neg (by omega)]
theorem adZ_59 {Z : Nat → Int} {n : Nat} {w e : Int} : adZ Z n w e 59 = (n : Int) + 1 := by
  unfold adZ
  rw [if_neg (by omega), if_neg (by omega), if_neg (by omega), if_pos rfl]
theorem adZ_w {Z : Nat → Int} {n : Nat} {w e : Int} : adZ Z n w e (66 + 18 * n) = w := by
  unfold adZ
  rw [if_pos rfl]
theorem adZ_d {Z : Nat → Int} {n : Nat} {w e : Int} : adZ Z n w e (67 + 18 * n) = 0 := by
  unfold adZ
  rw [if_neg (by omega), if_pos rfl]
theorem adZ_k {Z : Nat → Int} {n : Nat} {w e : Int} {k : Nat} (hk : k < 16) : adZ Z n w e (68 + 18 * n + k) = e := by
  unfold adZ
  rw [if_neg (by omega), if_neg (by omega), if_pos (by omega)]
theorem adZ_R {Z : Nat → Int} (hR : Rg Z) {n : Nat} (hn : Z 59 = n) (h5 : n < 5) {w e : Int} (hw : 0 ≤ w ∧ w ≤ 2) (he : 20 ≤ e ∧ e ≤ 120) : Rg (adZ Z n w e) := by
  refine ⟨fun i hi => by rw [adZ_o (by omega)]; exact hR.md hi, ?_, ?_, ?_, ?_, ?_, ?_, ?_, ?_, ?_, ?_, ?_, ?_, fun q hq => ?_, fun q k hq hk => ?_⟩
  · rw [adZ_o (by omega)]; exact hR.ch
  · rw [adZ_o (by omega)]; exact hR.ra
  · rw [adZ_o (by omega)]; exact hR.we
  · rw [adZ_o (by omega)]; exact hR.of
  · rw [adZ_o (by omega)]; exact hR.sh
  · rw [adZ_o (by omega)]; exact hR.de
  · rw [adZ_o (by omega)]; exact hR.sp
  · rw [adZ_o (by omega)]; exact hR.to
  · rw [adZ_o (by omega)]; exact hR.chi
  · rw [adZ_o (by omega)]; exact hR.ja
  · rw [adZ_59]; omega
  · rw [adZ_59, adZ_o (by omega)]; have := hR.mo; omega
  · by_cases h : q = n
    · subst h; rw [adZ_w]; exact hw
    · rw [adZ_o (by omega)]; exact hR.wo hq
  · rw [adZ_59]
    by_cases h : q = n
    · subst h; rw [adZ_k hk]; omega
    · rw [adZ_o (by omega)]
      have := hR.di hq hk
      refine ⟨this.1, this.2.1, fun h9 => this.2.2 (by omega)⟩
theorem zcX7_addL {rd : Nat → Int32} {n : Nat} (hn : n < 5) (v : Int32) : fX7_add_L26 v (zI n) 2000 0 rd = some (fun j => if 16 * n ≤ j ∧ j < 16 * n + 16 then v else rd j) := by
  have key := loopG (S := Nat → Int32) (L := fun m i s => fX7_add_L26 v (zI n) m (zI i) s) (g := fun i s => upd s (16 * n + i) v) (N := 16) (P := fun i s => s = fun j => if 16 * n ≤ j ∧ j < 16 * n + i then v else rd j) (out := id) (by
      intro m s _
      try dsimp only
      rw [fX7_add_L26]
      exact ite_t (by decide)) (by
      intro m i s hi _
      try dsimp only
      rw [fX7_add_L26, zL16, zi_le (by omega), if_neg (by omega), zI_mul, zI_add, show ((n : Int) * 16 + i) = ((16 * n + i : Nat) : Int) by omega, zcX8_put (by omega) (by omega), Option.bind_some, zL1, zI_add]
      rfl) (by
      intro i s hi e
      subst e
      funext j
      unfold upd
      try dsimp only
      by_cases h : j = 16 * n + i
      · rw [if_pos h, if_pos (by omega)]
      · rw [if_neg h]
        by_cases h2 : 16 * n ≤ j ∧ j < 16 * n + i
        · rw [if_pos h2, if_pos (by omega)]
        · rw [if_neg h2, if_neg (by omega)])
  obtain ⟨e1, e2⟩ := key 16 0 2000 rd rfl (by omega) (by funext j; rw [if_neg (by omega)])
  try dsimp only at e1 e2
  rw [e2] at e1
  exact e1
/-! a piece is burnt -/
def buZ (Z : Nat → Int) (p n : Nat) : Nat → Int := fun i => if 66 + 18 * p ≤ i ∧ i + 18 < 66 + 18 * n then Z (i + 18) else if i = 59 then (n : Int) - 1 else if i = 60 then (if Z 60 ≤ p then Z 60 else Z 60 - 1) else if i = 65 then Z 65 + 1 else Z i
theorem buZ_o {Z : Nat → Int} {p n : Nat} {i : Nat} (h : i ≠ 59 ∧ i ≠ 60 ∧ i ≠ 65 ∧ (i < 66 + 18 * p ∨ 66 + 18 * n ≤ i + 18)) : buZ Z p n i = Z i := by
  unfold buZ
  rw [if_neg (by omega), if_neg (by omega), if_neg (by omega), if_neg (by omega)]
theorem buZ_59 {Z : Nat → Int} {p n : Nat} : buZ Z p n 59 = (n : Int) - 1 := by
  unfold buZ
  rw [if_neg (by omega), if_pos rfl]
theorem buZ_60 {Z : Nat → Int} {p n : Nat} : buZ Z p n 60 = (if Z 60 ≤ p then Z 60 else Z 60 - 1) := by
  unfold buZ
  rw [if_neg (by omega), if_neg (by omega), if_pos rfl]
theorem buZ_65 {Z : Nat → Int} {p n : Nat} : buZ Z p n 65 = Z 65 + 1 := by
  unfold buZ
  rw [if_neg (by omega), if_neg (by omega), if_neg (by omega), if_pos rfl]
theorem buZ_s {Z : Nat → Int} {p n : Nat} {i : Nat} (h : 66 + 18 * p ≤ i ∧ i + 18 < 66 + 18 * n) : buZ Z p n i = Z (i + 18) := by
  unfold buZ
  rw [if_pos h]
theorem buZ_R {Z : Nat → Int} (hR : Rg Z) {p n : Nat} (hn : Z 59 = n) (hp : p < n) (h60 : Z 60 ≠ p) : Rg (buZ Z p n) := by
  have hco := hR.co
  have hmo := hR.mo
  refine ⟨fun i hi => by rw [buZ_o (by omega)]; exact hR.md hi, ?_, ?_, ?_, ?_, ?_, ?_, ?_, ?_, ?_, ?_, ?_, ?_, fun q hq => ?_, fun q k hq hk => ?_⟩
  · rw [buZ_o (by omega)]; exact hR.ch
  · rw [buZ_o (by omega)]; exact hR.ra
  · rw [buZ_o (by omega)]; exact hR.we
  · rw [buZ_o (by omega)]; exact hR.of
  · rw [buZ_o (by omega)]; exact hR.sh
  · rw [buZ_o (by omega)]; exact hR.de
  · rw [buZ_o (by omega)]; exact hR.sp
  · rw [buZ_o (by omega)]; exact hR.to
  · rw [buZ_o (by omega)]; exact hR.chi
  · rw [buZ_o (by omega)]; exact hR.ja
  · rw [buZ_59]; omega
  · rw [buZ_59, buZ_60]
    split <;> omega
  · by_cases h : p ≤ q ∧ q + 1 < n
    · rw [buZ_s (by omega), show 66 + 18 * q + 18 = 66 + 18 * (q + 1) by omega]; exact hR.wo (by omega)
    · rw [buZ_o (by omega)]; exact hR.wo hq
  · rw [buZ_59]
    by_cases h : p ≤ q ∧ q + 1 < n
    · rw [buZ_s (by omega), show 68 + 18 * q + k + 18 = 68 + 18 * (q + 1) + k by omega]
      have := hR.di (q := q + 1) (by omega) hk
      exact ⟨this.1, this.2.1, fun h9 => this.2.2 (by omega)⟩
    · rw [buZ_o (by omega)]
      have := hR.di hq hk
      exact ⟨this.1, this.2.1, fun h9 => this.2.2 (by omega)⟩
theorem zcX8_atn {rf : Nat → Int32} {ln : Nat} (hl : ln < 2147483648) {k : Nat} (hk : k < ln) {K : Int32} (e : K = zI (k : Int)) : fX8_at ln rf K = some (rf k) := by subst e; exact zcX8_at hl hk
theorem zcX8_putn {rf : Nat → Int32} {ln : Nat} (hl : ln < 2147483648) {k : Nat} (hk : k < ln) (v : Int32) {K : Int32} (e : K = zI (k : Int)) : fX8_put ln rf K v = some (upd rf k v) := by subst e; exact zcX8_put hl hk v
def mvR (v : Nat) (rd : Nat → Int32) (m : Nat) : Nat → Int32 := fun j => if 16 * v ≤ j + 16 ∧ j + 16 < 16 * v + m then rd (j + 16) else rd j
theorem zcX7_mvL {rd : Nat → Int32} {v : Nat} (hv : 1 ≤ v ∧ v < 5) : fX7_moveUp_L38 (zI v) 2000 0 rd = some (mvR v rd 16) := by
  have key := loopG (S := Nat → Int32) (L := fun m i s => fX7_moveUp_L38 (zI v) m (zI i) s) (g := fun i s => upd s (16 * (v - 1) + i) (s (16 * v + i))) (N := 16) (P := fun i s => s = mvR v rd i) (out := id) (by
      intro m s _
      try dsimp only
      rw [fX7_moveUp_L38]
      exact ite_t (by decide)) (by
      intro m i s hi _
      try dsimp only
      rw [fX7_moveUp_L38, zL16, zi_le (by omega), if_neg (by omega)]
      unfold fX7_at
      rw [zcX8_atn (k := 16 * v + i) (by omega) (by omega) (by simp only [zL0, zL1, zL2, zL3, zL5, zL6, zL7, zL8, zL9, zL10, zL15, zL16, zL18, zL20, zL30, zL31, zL33, zL48, zL49, zL50, zL51, zL52, zL53, zL54, zL55, zL56, zL57, zL58, zL59, zL60, zL61, zL62, zL63, zL64, zL65, zL66, zL80, zL99, zL100, zL120, zL126, zL156, zL200, zL1000, zL1404, zL1560, zLm, zI_neg, zI_add, zI_sub, zI_mul]; congr 1; omega), Option.bind_some, Option.bind_some, zcX8_putn (k := 16 * (v - 1) + i) (by omega) (by omega) _ (by simp only [zL0, zL1, zL2, zL3, zL5, zL6, zL7, zL8, zL9, zL10, zL15, zL16, zL18, zL20, zL30, zL31, zL33, zL48, zL49, zL50, zL51, zL52, zL53, zL54, zL55, zL56, zL57, zL58, zL59, zL60, zL61, zL62, zL63, zL64, zL65, zL66, zL80, zL99, zL100, zL120, zL126, zL156, zL200, zL1000, zL1404, zL1560, zLm, zI_neg, zI_add, zI_sub, zI_mul]; congr 1; omega), Option.bind_some, zL1, zI_add]
      rfl) (by
      intro i s hi e
      subst e
      funext j
      unfold upd mvR
      try dsimp only
      by_cases h : j = 16 * (v - 1) + i
      · rw [if_pos h, if_neg (by omega), if_pos (by omega)]
        exact congrArg rd (by omega)
      · rw [if_neg h]
        by_cases h2 : 16 * v ≤ j + 16 ∧ j + 16 < 16 * v + i
        · rw [if_pos h2, if_pos (by omega)]
        · rw [if_neg h2, if_neg (by omega)])
  obtain ⟨e1, e2⟩ := key 16 0 2000 rd rfl (by omega) (by funext j; unfold mvR; rw [if_neg (by omega)])
  try dsimp only at e1 e2
  rw [e2] at e1
  exact e1
def drR (p : Nat) (rd : Nat → Int32) (v : Nat) : Nat → Int32 := fun j => if 16 * p ≤ j ∧ j + 16 < 16 * v then rd (j + 16) else rd j
def dr1 (p : Nat) (rw : Nat → Int32) (v : Nat) : Nat → Int32 := fun j => if p ≤ j ∧ j + 1 < v then rw (j + 1) else rw j
theorem zcX7_dropL {rd rw rp : Nat → Int32} {p n : Nat} (hp : p < n) (hn : n ≤ 5) : fX7_drop_L4 (zI n) 2000 (zI ((p : Int) + 1)) rd rw rp = some (drR p rd n, dr1 p rw n, dr1 p rp n) := by
  have key := loopG (S := (Nat → Int32) × (Nat → Int32) × (Nat → Int32)) (L := fun m v s => fX7_drop_L4 (zI n) m (zI v) s.1 s.2.1 s.2.2) (g := fun v s => (mvR v s.1 16, upd s.2.1 (v - 1) (s.2.1 v), upd s.2.2 (v - 1) (s.2.2 v))) (N := n) (P := fun v s => p + 1 ≤ v ∧ s = (drR p rd v, dr1 p rw v, dr1 p rp v)) (out := id) (by
      intro m s _
      try dsimp only
      rw [fX7_drop_L4, zi_le (by omega), if_pos (by omega)]
      rfl) (by
      rintro m v s hv ⟨hp1, _⟩
      try dsimp only
      have e1 : zI (v : Int) - 1 = zI ((v - 1 : Nat) : Int) := by rw [zL1, zI_sub]; congr 1; omega
      rw [fX7_drop_L4, zi_le (by omega), if_neg (by omega)]
      unfold fX7_moveUp
      rw [zcX8_at (by omega) (by omega), Option.bind_some, e1, zcX8_put (by omega) (by omega), Option.bind_some, zcX8_at (by omega) (by omega), Option.bind_some, zcX8_put (by omega) (by omega), Option.bind_some, zcX7_mvL (by omega), Option.bind_some, Option.bind_some, zL1, zI_add]
      rfl) (by
      rintro v s hv ⟨hp1, e⟩
      subst e
      have h1 : ∀ f : Nat → Int32, upd (dr1 p f v) (v - 1) (dr1 p f v v) = dr1 p f (v + 1) := by
        intro f
        funext j
        unfold upd dr1
        try dsimp only
        by_cases h : j = v - 1
        · rw [if_pos h, if_neg (by omega), if_pos (by omega)]
          exact congrArg f (by omega)
        · rw [if_neg h]
          by_cases h2 : p ≤ j ∧ j + 1 < v
          · rw [if_pos h2, if_pos (by omega)]
          · rw [if_neg h2, if_neg (by omega)]
      have h2 : mvR v (drR p rd v) 16 = drR p rd (v + 1) := by
        funext j
        unfold mvR drR
        try dsimp only
        by_cases h : 16 * v ≤ j + 16 ∧ j + 16 < 16 * v + 16
        · rw [if_pos h, if_neg (by omega), if_pos (by omega)]
        · rw [if_neg h]
          by_cases h2 : 16 * p ≤ j ∧ j + 16 < 16 * v
          · rw [if_pos h2, if_pos (by omega)]
          · rw [if_neg h2, if_neg (by omega)]
      try dsimp only
      rw [h1, h1, h2]
      exact ⟨by omega, rfl⟩)
  obtain ⟨e1, e2⟩ := key (n - (p + 1)) (p + 1) 2000 (rd, rw, rp) (by omega) (by omega) ⟨by omega, by
    have h1 : ∀ f : Nat → Int32, f = dr1 p f (p + 1) := fun f => by funext j; unfold dr1; rw [if_neg (by omega)]
    have h2 : rd = drR p rd (p + 1) := by funext j; unfold drR; rw [if_neg (by omega)]
    rw [← h1, ← h1, ← h2]⟩
  try dsimp only at e1 e2
  rw [e2.2] at e1
  rw [show ((p : Int) + 1) = ((p + 1 : Nat) : Int) by omega]
  exact e1
end MUB
