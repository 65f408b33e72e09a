/-! the ambient, out of what the tables and the start say -/
theorem arC {ty : FieldType} {args : Array Value} {s : State} (h : (Cond.arrayClass ty).before args s = true) : ∃ cA : ClassId, ArrOfT s cA ty ∧ s.vm.findClass ("[" ++ ty.toString) = some cA := by
  obtain ⟨cA, kA, comp, hf, hk, hkind⟩ := Cond.arrayClass_spec h
  exact ⟨cA, fun n z => ⟨fun k h => (by cases h), kA, hk, comp, hkind⟩, hf⟩
theorem arO {C : String} {args : Array Value} {s : State} (h : (Cond.arrayOver (.object C)).before args s = true) : ∃ cA : ClassId, ArrOfT s cA (.object C) ∧ va_RA s cA (.object C) := by
  obtain ⟨comp, cA, kA, h1, -, h3, h4, h5⟩ := Cond.arrayOver_spec h
  exact ⟨cA, fun n z => ⟨fun k h => (by cases h), kA, h3, comp, h4⟩, kA, comp, h3, h4, h1, h5⟩
theorem kn_start {s : State} {b : Nat} (hts : ∀ w ∈ lw_tbl, w.before #[Value.ref b] s = true) : ∃ G1 : va_G, ∀ (k : Nat) (q : vw_C), vwCl[k]? = some q → u_Kn s q.1 q.2.1 q.2.2 (G1.1 k) (G1.2 k) := by
  obtain ⟨c0, i0, k0⟩ := u_known (C := RX0) (T := TX0) (N := 5) (n := 5) hts wx_0 (hts (.instantiable RX0 5) (by decide +kernel))
  obtain ⟨c1, i1, k1⟩ := u_known (C := RX1) (T := TX1) (N := 3) (n := 3) hts wx_1 (hts (.instantiable RX1 3) (by decide +kernel))
  obtain ⟨c2, i2, k2⟩ := u_known (C := RX2) (T := TX2) (N := 4) (n := 4) hts wx_2 (hts (.instantiable RX2 4) (by decide +kernel))
  obtain ⟨c3, i3, k3⟩ := u_known (C := RX3) (T := TX3) (N := 4) (n := 4) hts wx_3 (hts (.instantiable RX3 4) (by decide +kernel))
  obtain ⟨c4, i4, k4⟩ := u_known (C := RX4) (T := TX4) (N := 8) (n := 8) hts wx_4 (hts (.instantiable RX4 8) (by decide +kernel))
  obtain ⟨c5, i5, k5⟩ := u_known (C := RX5) (T := TX5) (N := 7) (n := 7) hts wx_5 (hts (.instantiable RX5 7) (by decide +kernel))
  obtain ⟨c6, i6, k6⟩ := u_known (C := RX6) (T := TX6) (N := 2) (n := 2) hts wx_6 (hts (.instantiable RX6 2) (by decide +kernel))
  obtain ⟨c7, i7, k7⟩ := u_known (C := RX7) (T := TX7) (N := 5) (n := 5) hts wx_7 (hts (.instantiable RX7 5) (by decide +kernel))
  obtain ⟨c8, i8, k8⟩ := u_known (C := RX8) (T := TX8) (N := 1) (n := 1) hts wx_8 (hts (.instantiable RX8 1) (by decide +kernel))
  obtain ⟨c9, i9, k9⟩ := u_known (C := RX9) (T := TX9) (N := 5) (n := 5) hts wx_9 (hts (.instantiable RX9 5) (by decide +kernel))
  refine ⟨(fun k => match k with | 0 => c0 | 1 => c1 | 2 => c2 | 3 => c3 | 4 => c4 | 5 => c5 | 6 => c6 | 7 => c7 | 8 => c8 | _ => c9, fun k => match k with | 0 => i0 | 1 => i1 | 2 => i2 | 3 => i3 | 4 => i4 | 5 => i5 | 6 => i6 | 7 => i7 | 8 => i8 | _ => i9), ?_⟩
  intro k q hq
  match k, hq with
  | 0, hq => cases hq; exact k0
  | 1, hq => cases hq; exact k1
  | 2, hq => cases hq; exact k2
  | 3, hq => cases hq; exact k3
  | 4, hq => cases hq; exact k4
  | 5, hq => cases hq; exact k5
  | 6, hq => cases hq; exact k6
  | 7, hq => cases hq; exact k7
  | 8, hq => cases hq; exact k8
  | 9, hq => cases hq; exact k9
  | k + 10, hq => simp [vwCl] at hq
theorem sa_start {s : State} {b : Nat} (hts : ∀ w ∈ lw_tbl, w.before #[Value.ref b] s = true) (hgv : (Jvm.Cond.and given_1 narrow_1).before #[Value.ref b] s = true) : ∃ tH : Nat, ∀ G : GG, G.2.2.2.2.1 = tH → Sa G (fun q : Nat => s.heap.size ≤ q) s s.heap := by
  have hs := flat_of_before _ hgv
  have hA : ∀ a : Nat, a < s.heap.size → ¬ (fun q : Nat => s.heap.size ≤ q) a := fun a h => Nat.not_le.mpr h
  have f0 : (Cond.eq (.elem (.static "LatheCopies$Rack" "HARDNESSES" "[I") (.int (Int32.ofNat 0))) (.int 1)).before #[Value.ref b] s = true := hs _ (by decide +kernel)
  have f1 : (Cond.eq (.elem (.static "LatheCopies$Rack" "HARDNESSES" "[I") (.int (Int32.ofNat 1))) (.int 2)).before #[Value.ref b] s = true := hs _ (by decide +kernel)
  have f2 : (Cond.eq (.elem (.static "LatheCopies$Rack" "HARDNESSES" "[I") (.int (Int32.ofNat 2))) (.int 4)).before #[Value.ref b] s = true := hs _ (by decide +kernel)
  have f3 : (Cond.eq (.length (.static "LatheCopies$Rack" "HARDNESSES" "[I")) (.int (Int32.ofNat 3))).before #[Value.ref b] s = true := hs _ (by decide +kernel)
  obtain ⟨tH, hH, hTH⟩ := va_Tof (args := #[Value.ref b]) (s := s) (tm := .static "LatheCopies$Rack" "HARDNESSES" "[I") (ty := .int) (N := 3) (f := fun j => .int ([1, 2, 4].getD j 0)) (A := fun q : Nat => s.heap.size ≤ q) (by decide) (hs _ (by decide +kernel)) (va_eqt f3) (fun j hj => by
    rcases (show j = 0 ∨ j = 1 ∨ j = 2 by omega) with rfl | rfl | rfl
    · exact va_eqt f0
    · exact va_eqt f1
    · exact va_eqt f2) hA
  have z2 := va_Zref (hts (.laysStatic "LatheCopies$Rack" "HARDNESSES" "[I") (by decide +kernel)) (hts (.initialized "LatheCopies$Rack") (by decide +kernel)) hH hA
  refine ⟨tH, fun G h2 => ?_⟩
  unfold Sa
  rw [h2]
  exact ⟨z2, hTH⟩
theorem amb {s : State} {b : Nat} (hts : ∀ w ∈ lw_tbl, w.before #[Value.ref b] s = true) (hgv : (Jvm.Cond.and given_1 narrow_1).before #[Value.ref b] s = true) : ∃ G : GG, Am G s ∧ Sa G (fun q : Nat => s.heap.size ≤ q) s s.heap := by
  have hs := flat_of_before _ hgv
  obtain ⟨G1, hG1⟩ := kn_start hts
  obtain ⟨tH, hSa⟩ := sa_start hts hgv
  obtain ⟨cI, aI, fI⟩ := arC (hts (.arrayClass .int) (by decide +kernel))
  have hO := hts (.arrayOver (.object "LatheCopies$Lathe")) (by decide +kernel)
  obtain ⟨cO, aO, rO⟩ := arO hO
  refine ⟨(G1, cI, cO, 0, tH, cI, cI), ⟨fun w hw => word_at (State.WarmedH.refl s) (good_of_word (wd_good w hw)) (hts w (wd_tbl w hw)), fun q hq => va_Nw.of rfl (hts _ (nf_tbl q hq)), fun x hx => absurd hx List.not_mem_nil, fun x hx => absurd hx List.not_mem_nil, fun q hq => va_Nw.of rfl (hts _ (nm_tbl q hq)), fun x hx => absurd hx List.not_mem_nil, va_AO.of hO, hG1, fun k q hq => ?_⟩, hSa _ rfl⟩
  match k, hq with
  | 0, hq => cases hq; exact ⟨aI, fI⟩
  | 1, hq => cases hq; exact ⟨aO, rO⟩
  | k + 2, hq => simp at hq
/-! the start of both -/
def Z0 : Nat → Int := fun i => if i = 60 then -1 else if i = 56 then 2 else if i = 55 then 2 else if i = 54 then 3 else if i = 53 then 100 else if i = 49 then 1 else if i < 48 then 30 else 0
theorem Z0_o {i : Nat} (h : 66 ≤ i) : Z0 i = 0 := by
  unfold Z0
  rw [if_neg (by omega), if_neg (by omega), if_neg (by omega), if_neg (by omega), if_neg (by omega), if_neg (by omega), if_neg (by omega)]
theorem Z0_m {i : Nat} (h : i < 48) : Z0 i = 30 := by
  unfold Z0
  rw [if_neg (by omega), if_neg (by omega), if_neg (by omega), if_neg (by omega), if_neg (by omega), if_neg (by omega), if_pos h]
theorem Z0_R : Rg Z0 :=
  ⟨fun j hj => by rw [Z0_m hj]; omega, by decide, by decide, by decide, by decide, by decide, by decide, by decide, by decide, by decide, by decide, by decide, by decide, fun q hq => by rw [Z0_o (by omega)]; omega, fun q k hq hk => by
    rw [Z0_o (by omega), show Z0 59 = 0 by decide]
    omega⟩
theorem i9 : ∃ md0 : Nat → Int32, fX9_init = some md0 ∧ ∀ j : Nat, j < 48 → md0 j = zI (Z0 j) := by
  have key := loopG (S := Nat → Int32) (L := fun n i s => fX6_init_L14 n (zI (i : Int)) s) (g := fun i s => upd s i 30) (N := 48) (P := fun i s => ∀ j : Nat, j < i → s j = zI 30) (out := id) (by
      intro n s _
      try dsimp only
      rw [fX6_init_L14]
      exact ite_t (by decide)) (by
      intro n i s hi _
      try dsimp only
      rw [fX6_init_L14, ite_n (show ¬ ((48 : Int32) ≤ zI (i : Int)) by rw [zL48, zI_le (by omega)]; omega), ite_t (show ¬ (zI (i : Int) < 0 ∨ 48 ≤ (zI (i : Int)).toNatClampNeg) from zI_ix (n := 48) (by omega)), zI_cl (by omega), Int.toNat_natCast, zL1, zI_add]
      rfl) (by
      intro i s hi hP j hj
      by_cases h9 : j = i
      · subst h9; rw [pk_us]; exact zL30
      · rw [pk_un h9]; exact hP j (by omega))
  have k0 := key 48 0 2000 (fun _ => 0) rfl (by omega) (fun j hj => absurd hj (Nat.not_lt_zero _))
  have k9 : ∃ md0 : Nat → Int32, fX6_init_L14 2000 0 (fun _ => 0) = some md0 ∧ ∀ j : Nat, j < 48 → md0 j = zI 30 := ⟨_, k0.1, k0.2⟩
  obtain ⟨md0, k1, k2⟩ := k9
  refine ⟨md0, ?_, fun j hj => by rw [k2 j hj, Z0_m hj]⟩
  unfold fX9_init fX4_init fX6_init
  rw [k1]
  rfl
def LInv (G : GG) (A : Nat → Prop) (a0 aL0 aL1 aL2 aL3 aL4 aL5 aL6 aL7 aL8 aL9 aL10 aL11 aL12 aH0 aHS aHL aT0 aT1 aT2 aT3 aT4 aW0 aW1 aE0 aE1 : Nat) (H : Heap) : Prop := ∃ (Z : Nat → Int) (hs : List LTH) (md : Nat → Int32) (rd : Nat → Int32) (rw : Nat → Int32) (rp : Nat → Int32) (ho : Int32) (hcn : Int32) (hsv : Nat → Option LTH) (hsl : Nat → Option LTH) (cav : Nat → Nat → Nat) (cal : Nat → Nat → Nat) (tc : Nat → Int32) (tt : Nat → Int32) (tle : Int32) (tpl : Int32) (tdi : Int32) (tti : Int32) (tst : Int32) (wa : Nat → Int32) (le : Nat → Int32), Rg Z ∧ CA Z md rd rw rp ∧ Hq hs ho hcn hsv ∧ va_P G.1 vwCl (WX G a0 aL0 aL1 aL2 aL3 aL4 aL5 aL6 aL7 aL8 aL9 aL10 aL11 aL12 aH0 aHS aHL aT0 aT1 aT2 aT3 aT4 aW0 aW1 aE0 aE1 md (zI (Z 48)) (zI (Z 49)) (zI (Z 50)) (zI (Z 52)) (zI (Z 51)) (zI (Z 53)) (zI (Z 54)) (zI (Z 55)) rd rw rp (zI (Z 59)) (zI (Z 60)) (zI (Z 61)) (zI (Z 62)) (zI (Z 63)) (zI (Z 64)) (zI (Z 65)) (zI (Z 56)) (zI (Z 57)) (zI (Z 58)) ho hcn hsv hsl cav cal tc tt tle tpl tdi tti tst wa le) H ∧ va_D A (WX G a0 aL0 aL1 aL2 aL3 aL4 aL5 aL6 aL7 aL8 aL9 aL10 aL11 aL12 aH0 aHS aHL aT0 aT1 aT2 aT3 aT4 aW0 aW1 aE0 aE1 md (zI (Z 48)) (zI (Z 49)) (zI (Z 50)) (zI (Z 52)) (zI (Z 51)) (zI (Z 53)) (zI (Z 54)) (zI (Z 55)) rd rw rp (zI (Z 59)) (zI (Z 60)) (zI (Z 61)) (zI (Z 62)) (zI (Z 63)) (zI (Z 64)) (zI (Z 65)) (zI (Z 56)) (zI (Z 57)) (zI (Z 58)) ho hcn hsv hsl cav cal tc tt tle tpl tdi tti tst wa le)
/-! the law's loop -/
section LOOP
variable {p : Program} {l : Launch} {e : Env} {s : State} {m : MethodId} {args : Array Value} {below : List Frame} {meth : Method} {c : Code} {H : Heap} {locs : List Loc} {cells slots : Nat} {Q : State → Prop} {G : GG} {ls : Array Slot} {A : Nat → Prop} {b0 L : Nat} {xc : Nat → Int32} {a0 aL0 aL1 aL2 aL3 aL4 aL5 aL6 aL7 aL8 aL9 aL10 aL11 aL12 aH0 aHS aHL aT0 aT1 aT2 aT3 aT4 aW0 aW1 aE0 aE1 : Nat}
theorem nI_p (a b : Nat) {B : Int32} (e : B = zI (b : Int)) : nI a + B = nI (a + b) := by
  rw [e, nI_zI, nI_zI, zI_add]
  rfl
theorem nI_m (a : Nat) : 2 * nI a = nI (2 * a) := by
  rw [zL2, nI_zI, nI_zI, zI_mul]
  rfl
theorem law_loop (hx : p.tables.exec = Jvm.exec) (hb : c.code = cL_law) (hml : c.maxLocals = 12) (hown : s.vm.findClass RL = some m.cls) (hA : Am G s) (hZ : Sa G A s s.heap) (hA0 : ∀ q : Nat, s.heap.size ≤ q → A q) (hX : va_X b0 L xc s s.heap) (hbl : b0 < s.heap.size) (hbA : ¬ A b0) (hL : L ≤ 260) (hA9 : ∀ q : Nat, A q → s.heap.size ≤ q) (hend : ∀ (H : Heap) (ls : Array Slot), W p l e R9 s m args below meth c H [] 746531 6861875 Q (F0 m 251 ls [.int 1])) : ∀ (k i cells slots : Nat) (H : Heap) (locs : List Loc) (ls : Array Slot), i + k = 50 → cells ≤ 60 + 106 * i → slots ≤ 3000 + 1376 * i → LInv G A a0 aL0 aL1 aL2 aL3 aL4 aL5 aL6 aL7 aL8 aL9 aL10 aL11 aL12 aH0 aHS aHL aT0 aT1 aT2 aT3 aT4 aW0 aW1 aE0 aE1 H → va_S A s.heap H locs → lv_has ls 12 [(0, .ref b0), (1, .ref a0), (2, .int 1), (3, .int (nI i))] → W p l e R9 s m args below meth c H locs cells slots Q (F0 m 30 ls []) := by
  intro k
  induction k with
  | zero =>
    intro i cells slots H locs ls e h1 h2 hI hS hl
    have hi : i = 50 := by omega
    subst hi
    refine lv_iload_n hx hb dL_law_30 rfl (lv_at hl 3 rfl) ?_
    refine lv_bipush (v := 50) hx hb dL_law_31 (by decide) ?_
    refine lv_icmp_ge (tgt := 250) hx hb dL_law_33 (by decide) (fun _ => ?_) (fun c9 => absurd (by decide) c9)
    refine lv_iload_n hx hb dL_law_250 rfl (lv_at hl 2 rfl) ?_
    refine va_forget (fun q hq => hA9 _ (hS.2.2 q hq)) ?_
    refine W.widen (k := 746531) (n := 6861875) (by omega) (by omega) ?_
    exact hend H ls
  | succ k ih =>
    intro i cells slots H locs ls e h1 h2 hI hS hl
    obtain ⟨Z, hs, md, rd, rw, rp, ho, hcn, hsv, hsl, cav, cal, tc, tt, tle, tpl, tdi, tti, tst, wa, le, hR, hca, hq, hP, hD⟩ := hI
    refine lv_iload_n hx hb dL_law_30 rfl (lv_at hl 3 rfl) ?_
    refine lv_bipush (v := 50) hx hb dL_law_31 (by decide) ?_
    refine lv_icmp_ge (tgt := 250) hx hb dL_law_33 (by decide) (fun c9 => ?_) (fun _ => ?_)
    · rw [nI_zI, zL50, zI_le (by omega)] at c9
      omega
    refine lv_iload_n hx hb dL_law_36 rfl (lv_at hl 2 rfl) ?_
    refine lv_if_eq (tgt := 250) hx hb dL_law_37 (by decide) (fun c9 => absurd c9 (by decide)) (fun _ => ?_)
    obtain ⟨Y, md9, rd9, rw9, rp9, ho9, hcn9, hsv9, wa9, le9, hs9, e1, hRY, hca9, hq9⟩ := l_turn hR hca hq (nI i) (cellV L xc (2 * nI i)) (cellV L xc (2 * nI i + 1)) wa le
    refine lw_lawT hx hb hml hown hA hZ hA0 hX hbl hbA hP hD hS hl (by omega) (by omega) ?_ ?_ (by omega) rfl rfl e1 (fun cav cal H locs ls hP hD hS hl => ?_)
    · rw [nI_m, nI_zI, zL0, zI_lt (by omega)]; omega
    · rw [nI_m, nI_p _ 1 zL1, nI_zI, zL0, zI_lt (by omega)]; omega
    rw [nI_p i 1 zL1] at hl
    exact ih (i + 1) (cells + 106) (slots + 1376) H locs ls (by omega) (by omega) (by omega) ⟨Y, hs9, md9, rd9, rw9, rp9, ho9, hcn9, hsv9, hsl, cav, cal, tc, tt, tle, tpl, tdi, tti, tst, wa9, le9, hRY, hca9, hq9, hP, hD⟩ hS hl
end LOOP
/-! THE CLAIM OUT OF ONE WALK OF THE LAW'S BODY. Your part is whole_start (and what it stands on); all else here is the same for every law, but numbers. -/
def R_law : String := "LatheCopiesLaw"
def lw_P (b : Addr) (xs : List Int32) (args : Array Value) (s : State) : Prop := args = #[.ref b] ∧ s.IntsAt b xs ∧ xs.length ≤ 260 ∧ (Jvm.Cond.and given_1 narrow_1).before args s = true
/-- what a walk over the start with the record d0 says of its end, said of the start itself -/
theorem lw_closed {s t : State} {o : Outcome} {d0 : Drawn} {L : List Loc} {k n : Nat} (hd0 : s.drawn.sameBut d0 lw_cs) (hv : ∃ v, o = .returned v) (hW : (s.setDrawn d0).WarmedH t.vm) (hs : (s.setDrawn d0).sameButNew ({ t with vm := s.vm } : State) L k n) : State.butDraws s t lw_cs (fun t1 => Framed s o t1 L k n) := by
  have h2 : t.drawn = d0 := congrArg State.drawn hs.1
  refine ⟨⟨hv, hW, State.sameButNew.setDrawn hs s.drawn⟩, ?_, by decide⟩
  rw [h2]
  exact hd0
def lw_Q (_ : Array Value) (s : State) (o : Outcome) (t : State) : Prop := o = .returned (some (.int 1)) ∧ State.butDraws s t lw_cs (fun t1 => Framed s o t1 [] 746531 6861875)
def lw_Z (below : List Frame) (a : Array Value) (s : State) : State → Prop := fun t => ∃ o, t.status = .running ∧ Ended t below o ∧ lw_Q a s o t
/-- the law's own end, with 1 on the stack, nothing written that was there before, its room as the claim has it; d0: the record of draws at this point (at the entry s.drawn: begin with 'refine W.base ?_' and 'have hd0 := Drawn.sameBut.refl s.drawn lw_cs') -/
theorem lw_ret {p : Program} {l : Launch} {e : Env} {s : State} {m : MethodId} {below : List Frame} {meth : Method} {c : Code} {b : Nat} {d0 : Drawn} (hd0 : s.drawn.sameBut d0 lw_cs) (hx : p.tables.exec = Jvm.exec) (hb : c.code = code) (hr : meth.sig.returnType = ret) (hlocks : meth.locks = false) {pc : Nat} {H : Heap} {ls : Array Slot} (hdg : decode code pc = .ok (.ireturn, 1)) : W p l e room_1 (s.setDrawn d0) m #[Value.ref b] below meth c H [] 746531 6861875 (lw_Z below #[Value.ref b] s) (F0 m pc ls [.int 1]) := by
  intro T hT X
  obtain ⟨fs, hret, hrun, hended, hW, hframe⟩ := X.leave (v := some (.int 1)) (hlocks := hlocks) (fun h => by rw [hr] at h; cases h)
  have hmeth' : T.vm.method? m = some meth := X.method'
  refine ⟨T.setFrames fs, ?_, .returned (some (.int 1)), hrun, hended, rfl, lw_closed hd0 ⟨_, rfl⟩ hW hframe⟩
  jvm_step X.here [X.here.top, hx, hb, hdg, hmeth', hr, ret, narrow_b1]
  (try refine ⟨rfl, ?_⟩); (try refine ⟨rfl, ?_⟩)
  first | (intro acts; rw [hret _ acts rfl rfl rfl]) | rw [hret _ _ rfl rfl rfl]
  exact Steps.refl _
/-- what holds at the law's entry: the machine, the code, the tables' words (any of lw_tbl by 'hts w (by decide +kernel)'), the script of L ints xs at the cell b, what the Statement gives of the start (any of its parts by flat_of_before) -/
def lw_At (p : Program) (s : State) (m : MethodId) (meth : Method) (c : Code) (b L : Nat) (xs : Nat → Int32) : Prop :=
  p.tables.exec = Jvm.exec ∧ c.code = code ∧ meth.sig.returnType = ret ∧ c.maxLocals = 12 ∧ s.vm.findClass R_law = some m.cls ∧ (∀ w ∈ lw_tbl, w.before #[Value.ref b] s = true) ∧ va_X b L xs s s.heap ∧ b < s.heap.size ∧ meth.locks = false ∧ (Jvm.Cond.and given_1 narrow_1).before #[Value.ref b] s = true
set_option maxHeartbeats 8000000 in
set_option maxRecDepth 100000 in
/-- THE LAW, from its entry -/
theorem whole_start {p : Program} {e : Env} {s : State} {m : MethodId} {below : List Frame} {meth : Method} {c : Code} (l : Launch) (hflags : l.flags = flags0) {b L : Nat} {xs : Nat → Int32} (hL : L ≤ 260) (C0 : lw_At p s m meth c b L xs) : W p l e room_1 s m #[Value.ref b] below meth c s.heap [] 0 0 (lw_Z below #[Value.ref b] s) (entryFrame m ([Value.ref b] : List Value).toArray 12) := by
  obtain ⟨hx, hb, hr, hml, hown, hts, hX, hbl, hlocks, hgv⟩ := id C0
  obtain ⟨G, hA, hZ⟩ := amb hts hgv
  have hA0 : ∀ q : Nat, s.heap.size ≤ q → (fun q : Nat => s.heap.size ≤ q) q := fun _ h => h
  have hbA : ¬ (fun q : Nat => s.heap.size ≤ q) b := Nat.not_le.mpr hbl
  replace hown : s.vm.findClass RL = some m.cls := hown
  replace hb : c.code = cL_law := hb
  obtain ⟨md0, f9, h9⟩ := i9
  have hS : va_S (fun q : Nat => s.heap.size ≤ q) s.heap s.heap [] := va_S.rf
  have hP : va_P G.1 vwCl [] s.heap := fun k q h => by simp at h
  have hD : va_D (fun q : Nat => s.heap.size ≤ q) [] := ⟨fun i j p q h => by simp at h, fun k q h => by simp at h⟩
  have hl := lv_entry ([.ref b]) (n := 12) (Nat.le_of_ble_eq_true rfl)
  rw [lg_entry_eq]
  generalize (lg_sl ([.ref b]) ++ List.replicate (12 - (lg_sl ([.ref b])).length) Slot.unset).toArray = ls at hl ⊢
  have hl : lv_has ls 12 [(0, .ref b)] := hl
  refine va_new (ci := 9) (fs := [.null, .null, .null, .null, .null]) (C := RX9) (T := TX9) (N := 5) hx hb hA.hts wdx_9 tyX9 tyX9_ok hown (hA.hts _ wd_659) (hA.hts _ wd_660) (hA.hts _ wd_270) hA.K hP hD hS hA0 rfl (fun j hj => by rcases (show j = 0 ∨ j = 1 ∨ j = 2 ∨ j = 3 ∨ j = 4 by omega) with rfl | rfl | rfl | rfl | rfl <;> rfl) (Nat.le_of_ble_eq_true rfl) (Nat.le_of_ble_eq_true rfl) dL_law_0 (fun q0 H hP hD hS => ?_)
  have hP : va_P G.1 vwCl [(q0, .inr (9, [.null, .null, .null, .null, .null]))] H := hP
  have hD : va_D (fun q : Nat => s.heap.size ≤ q) [(q0, .inr (9, [.null, .null, .null, .null, .null]))] := hD
  refine lv_dup hx hb dL_law_3 rfl ?_
  refine wr_iP (n := 0) (As := []) (wr := []) (w2 := fun g9 => [(q0, .inr (9, [.ref (g9 1), .ref (g9 14), .ref (g9 17), .ref (g9 22), .ref (g9 24)])), ((g9 1), .inr (4, [.ref (g9 2), .ref (g9 4), .ref (g9 5), .ref (g9 6), .ref (g9 13), .int 2, .int 0, .int 0])), ((g9 2), .inr (6, [.ref (g9 3), .int 0])), ((g9 3), .inl (G.2.1, 48, .inl md0)), ((g9 4), .inr (2, [.int 1, .int 0, .int 0, .int 0])), ((g9 5), .inr (1, [.int 100, .int 3, .int 2])), ((g9 6), .inr (7, [.ref (g9 7), .ref (g9 9), .ref (g9 11), .int 0, .int ((-1))])), ((g9 7), .inr (8, [.ref (g9 8)])), ((g9 8), .inl (G.2.1, 80, .inl ((fun _ => 0)))), ((g9 9), .inr (8, [.ref (g9 10)])), ((g9 10), .inl (G.2.1, 5, .inl ((fun _ => 0)))), ((g9 11), .inr (8, [.ref (g9 12)])), ((g9 12), .inl (G.2.1, 5, .inl ((fun _ => 0)))), ((g9 13), .inr (0, [.int 0, .int 0, .int 0, .int 0, .int 0])), ((g9 14), .inr (3, [.ref (g9 15), .ref (g9 16), .int 0, .int 0])), ((g9 15), .inl (G.2.2.1, 6, .inr (.inr (.inr (.inr ((fun _ => none))))))), ((g9 16), .inl (G.2.2.1, 2, .inr (.inr (.inr (.inr ((fun _ => none))))))), ((g9 17), .inr (5, [.ref (g9 18), .ref (g9 20), .int 0, .int 0, .int 0, .int 0, .int 0])), ((g9 18), .inr (8, [.ref (g9 19)])), ((g9 19), .inl (G.2.1, 60, .inl ((fun _ => 0)))), ((g9 20), .inr (8, [.ref (g9 21)])), ((g9 21), .inl (G.2.1, 16, .inl ((fun _ => 0)))), ((g9 22), .inr (8, [.ref (g9 23)])), ((g9 23), .inl (G.2.1, 16, .inl ((fun _ => 0)))), ((g9 24), .inr (8, [.ref (g9 25)])), ((g9 25), .inl (G.2.1, 16, .inl ((fun _ => 0))))]) hx hb hml hown hA (kX9_init l G q0 md0 f9) wd_263 wd_270 wd_661 wd_662 rfl (C := RX9) (by decide +kernel) ⟨(Nat.le_of_ble_eq_true rfl), (Nat.le_of_ble_eq_true rfl)⟩ hZ hP hD hS hA0 (List.Perm.refl _) (fun _ => List.Perm.refl _) rfl hl.1 (Nat.le_of_ble_eq_true rfl) ⟨(Nat.le_of_ble_eq_true rfl), (Nat.le_of_ble_eq_true rfl)⟩ dL_law_4 (fun g9 H locs hP hD hS => ?_)
  refine W.eq (g2 := F0 m 7 ls [.ref q0]) rfl ?_
  have hP : va_P G.1 vwCl [(q0, .inr (9, [.ref (g9 1), .ref (g9 14), .ref (g9 17), .ref (g9 22), .ref (g9 24)])), ((g9 1), .inr (4, [.ref (g9 2), .ref (g9 4), .ref (g9 5), .ref (g9 6), .ref (g9 13), .int 2, .int 0, .int 0])), ((g9 2), .inr (6, [.ref (g9 3), .int 0])), ((g9 3), .inl (G.2.1, 48, .inl md0)), ((g9 4), .inr (2, [.int 1, .int 0, .int 0, .int 0])), ((g9 5), .inr (1, [.int 100, .int 3, .int 2])), ((g9 6), .inr (7, [.ref (g9 7), .ref (g9 9), .ref (g9 11), .int 0, .int ((-1))])), ((g9 7), .inr (8, [.ref (g9 8)])), ((g9 8), .inl (G.2.1, 80, .inl ((fun _ => 0)))), ((g9 9), .inr (8, [.ref (g9 10)])), ((g9 10), .inl (G.2.1, 5, .inl ((fun _ => 0)))), ((g9 11), .inr (8, [.ref (g9 12)])), ((g9 12), .inl (G.2.1, 5, .inl ((fun _ => 0)))), ((g9 13), .inr (0, [.int 0, .int 0, .int 0, .int 0, .int 0])), ((g9 14), .inr (3, [.ref (g9 15), .ref (g9 16), .int 0, .int 0])), ((g9 15), .inl (G.2.2.1, 6, .inr (.inr (.inr (.inr ((fun _ => none))))))), ((g9 16), .inl (G.2.2.1, 2, .inr (.inr (.inr (.inr ((fun _ => none))))))), ((g9 17), .inr (5, [.ref (g9 18), .ref (g9 20), .int 0, .int 0, .int 0, .int 0, .int 0])), ((g9 18), .inr (8, [.ref (g9 19)])), ((g9 19), .inl (G.2.1, 60, .inl ((fun _ => 0)))), ((g9 20), .inr (8, [.ref (g9 21)])), ((g9 21), .inl (G.2.1, 16, .inl ((fun _ => 0)))), ((g9 22), .inr (8, [.ref (g9 23)])), ((g9 23), .inl (G.2.1, 16, .inl ((fun _ => 0)))), ((g9 24), .inr (8, [.ref (g9 25)])), ((g9 25), .inl (G.2.1, 16, .inl ((fun _ => 0))))] H := hP
  have hD : va_D (fun q : Nat => s.heap.size ≤ q) [(q0, .inr (9, [.ref (g9 1), .ref (g9 14), .ref (g9 17), .ref (g9 22), .ref (g9 24)])), ((g9 1), .inr (4, [.ref (g9 2), .ref (g9 4), .ref (g9 5), .ref (g9 6), .ref (g9 13), .int 2, .int 0, .int 0])), ((g9 2), .inr (6, [.ref (g9 3), .int 0])), ((g9 3), .inl (G.2.1, 48, .inl md0)), ((g9 4), .inr (2, [.int 1, .int 0, .int 0, .int 0])), ((g9 5), .inr (1, [.int 100, .int 3, .int 2])), ((g9 6), .inr (7, [.ref (g9 7), .ref (g9 9), .ref (g9 11), .int 0, .int ((-1))])), ((g9 7), .inr (8, [.ref (g9 8)])), ((g9 8), .inl (G.2.1, 80, .inl ((fun _ => 0)))), ((g9 9), .inr (8, [.ref (g9 10)])), ((g9 10), .inl (G.2.1, 5, .inl ((fun _ => 0)))), ((g9 11), .inr (8, [.ref (g9 12)])), ((g9 12), .inl (G.2.1, 5, .inl ((fun _ => 0)))), ((g9 13), .inr (0, [.int 0, .int 0, .int 0, .int 0, .int 0])), ((g9 14), .inr (3, [.ref (g9 15), .ref (g9 16), .int 0, .int 0])), ((g9 15), .inl (G.2.2.1, 6, .inr (.inr (.inr (.inr ((fun _ => none))))))), ((g9 16), .inl (G.2.2.1, 2, .inr (.inr (.inr (.inr ((fun _ => none))))))), ((g9 17), .inr (5, [.ref (g9 18), .ref (g9 20), .int 0, .int 0, .int 0, .int 0, .int 0])), ((g9 18), .inr (8, [.ref (g9 19)])), ((g9 19), .inl (G.2.1, 60, .inl ((fun _ => 0)))), ((g9 20), .inr (8, [.ref (g9 21)])), ((g9 21), .inl (G.2.1, 16, .inl ((fun _ => 0)))), ((g9 22), .inr (8, [.ref (g9 23)])), ((g9 23), .inl (G.2.1, 16, .inl ((fun _ => 0)))), ((g9 24), .inr (8, [.ref (g9 25)])), ((g9 25), .inl (G.2.1, 16, .inl ((fun _ => 0))))] := hD
  refine lv_astore_n (lv' := [(1, .ref q0), (0, .ref b)]) hx hb dL_law_7 rfl hl (by decide) rfl (fun ls hl => ?_)
  have hPW : va_P G.1 vwCl (WX G q0 (g9 1) (g9 2) (g9 3) (g9 4) (g9 5) (g9 6) (g9 7) (g9 8) (g9 9) (g9 10) (g9 11) (g9 12) (g9 13) (g9 14) (g9 15) (g9 16) (g9 17) (g9 18) (g9 19) (g9 20) (g9 21) (g9 22) (g9 23) (g9 24) (g9 25) md0 0 1 0 0 0 100 3 2 (fun _ => 0) (fun _ => 0) (fun _ => 0) 0 (-1) 0 0 0 0 0 2 0 0 0 0 (fun _ => none) (fun _ => none) (fun _ _ => 0) (fun _ _ => 0) (fun _ => 0) (fun _ => 0) 0 0 0 0 0 (fun _ => 0) (fun _ => 0)) H := hP
  have hDW : va_D (fun q : Nat => s.heap.size ≤ q) (WX G q0 (g9 1) (g9 2) (g9 3) (g9 4) (g9 5) (g9 6) (g9 7) (g9 8) (g9 9) (g9 10) (g9 11) (g9 12) (g9 13) (g9 14) (g9 15) (g9 16) (g9 17) (g9 18) (g9 19) (g9 20) (g9 21) (g9 22) (g9 23) (g9 24) (g9 25) md0 0 1 0 0 0 100 3 2 (fun _ => 0) (fun _ => 0) (fun _ => 0) 0 (-1) 0 0 0 0 0 2 0 0 0 0 (fun _ => none) (fun _ => none) (fun _ _ => 0) (fun _ _ => 0) (fun _ => 0) (fun _ => 0) 0 0 0 0 0 (fun _ => 0) (fun _ => 0)) := hD
  have z48 : zI (Z0 48) = 0 := by decide
  have z49 : zI (Z0 49) = 1 := by decide
  have z50 : zI (Z0 50) = 0 := by decide
  have z52 : zI (Z0 52) = 0 := by decide
  have z51 : zI (Z0 51) = 0 := by decide
  have z53 : zI (Z0 53) = 100 := by decide
  have z54 : zI (Z0 54) = 3 := by decide
  have z55 : zI (Z0 55) = 2 := by decide
  have z59 : zI (Z0 59) = 0 := by decide
  have z60 : zI (Z0 60) = (-1) := by decide
  have z61 : zI (Z0 61) = 0 := by decide
  have z62 : zI (Z0 62) = 0 := by decide
  have z63 : zI (Z0 63) = 0 := by decide
  have z64 : zI (Z0 64) = 0 := by decide
  have z65 : zI (Z0 65) = 0 := by decide
  have z56 : zI (Z0 56) = 2 := by decide
  have z57 : zI (Z0 57) = 0 := by decide
  have z58 : zI (Z0 58) = 0 := by decide
  have hca : CA Z0 md0 (fun _ => 0) (fun _ => 0) (fun _ => 0) := ⟨h9, fun q k hq hk => by unfold dZ; rw [Z0_o (by omega)]; exact zL0, fun q hq => by rw [Z0_o (by omega)]; exact zL0, fun q hq => by rw [Z0_o (by omega)]; exact zL0⟩
  have hq0 : Hq [] 0 0 (fun _ => none) := ⟨0, 0, by decide, by omega, by decide, by omega, rfl, fun i hi => absurd hi (by omega)⟩
  obtain ⟨wa2, le2, e1⟩ := l_first Z0_R hca (fun _ => 0) (fun _ => 0)
  have hPW : va_P G.1 vwCl (WX G q0 (g9 1) (g9 2) (g9 3) (g9 4) (g9 5) (g9 6) (g9 7) (g9 8) (g9 9) (g9 10) (g9 11) (g9 12) (g9 13) (g9 14) (g9 15) (g9 16) (g9 17) (g9 18) (g9 19) (g9 20) (g9 21) (g9 22) (g9 23) (g9 24) (g9 25) md0 (zI (Z0 48)) (zI (Z0 49)) (zI (Z0 50)) (zI (Z0 52)) (zI (Z0 51)) (zI (Z0 53)) (zI (Z0 54)) (zI (Z0 55)) (fun _ => 0) (fun _ => 0) (fun _ => 0) (zI (Z0 59)) (zI (Z0 60)) (zI (Z0 61)) (zI (Z0 62)) (zI (Z0 63)) (zI (Z0 64)) (zI (Z0 65)) (zI (Z0 56)) (zI (Z0 57)) (zI (Z0 58)) 0 0 (fun _ => none) (fun _ => none) (fun _ _ => 0) (fun _ _ => 0) (fun _ => 0) (fun _ => 0) 0 0 0 0 0 (fun _ => 0) (fun _ => 0)) H := by rw [z48, z49, z50, z51, z52, z53, z54, z55, z56, z57, z58, z59, z60, z61, z62, z63, z64, z65]; exact hPW
  have hDW : va_D (fun q : Nat => s.heap.size ≤ q) (WX G q0 (g9 1) (g9 2) (g9 3) (g9 4) (g9 5) (g9 6) (g9 7) (g9 8) (g9 9) (g9 10) (g9 11) (g9 12) (g9 13) (g9 14) (g9 15) (g9 16) (g9 17) (g9 18) (g9 19) (g9 20) (g9 21) (g9 22) (g9 23) (g9 24) (g9 25) md0 (zI (Z0 48)) (zI (Z0 49)) (zI (Z0 50)) (zI (Z0 52)) (zI (Z0 51)) (zI (Z0 53)) (zI (Z0 54)) (zI (Z0 55)) (fun _ => 0) (fun _ => 0) (fun _ => 0) (zI (Z0 59)) (zI (Z0 60)) (zI (Z0 61)) (zI (Z0 62)) (zI (Z0 63)) (zI (Z0 64)) (zI (Z0 65)) (zI (Z0 56)) (zI (Z0 57)) (zI (Z0 58)) 0 0 (fun _ => none) (fun _ => none) (fun _ _ => 0) (fun _ _ => 0) (fun _ => 0) (fun _ => 0) 0 0 0 0 0 (fun _ => 0) (fun _ => 0)) := by rw [z48, z49, z50, z51, z52, z53, z54, z55, z56, z57, z58, z59, z60, z61, z62, z63, z64, z65]; exact hDW
  have hend : ∀ (H : Heap) (ls : Array Slot), W p l e R9 s m #[Value.ref b] below meth c H [] 746531 6861875 (lw_Z below #[Value.ref b] s) (F0 m 251 ls [.int 1]) := fun H ls => lw_ret (d0 := s.drawn) (Drawn.sameBut.refl s.drawn lw_cs) hx hb hr hlocks dL_law_251
  refine lw_lawS hx hb hml hown hA hZ hA0 hX hbl hbA hPW hDW hS (lv_sub hl [1, 0] rfl) (Nat.le_of_ble_eq_true rfl) (Nat.le_of_ble_eq_true rfl) e1 (fun cav cal H locs ls hP hD hS hl => ?_)
  refine W.widen (k := 60) (n := 3000) (Nat.le_of_ble_eq_true rfl) (Nat.le_of_ble_eq_true rfl) ?_
  exact law_loop hx hb hml hown hA hZ hA0 hX hbl hbA hL (fun q h => h) hend 50 0 60 3000 H locs ls rfl (Nat.le_of_ble_eq_true rfl) (Nat.le_of_ble_eq_true rfl) ⟨Z0, [], md0, (fun _ => 0), (fun _ => 0), (fun _ => 0), 0, 0, (fun _ => none), (fun _ => none), cav, cal, (fun _ => 0), (fun _ => 0), 0, 0, 0, 0, 0, wa2, le2, Z0_R, hca, hq0, hP, hD⟩ hS (by rw [show nI 0 = 0 from rfl]; exact hl)
