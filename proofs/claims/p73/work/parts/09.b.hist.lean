/-! the lathe as one value, its copies -/
abbrev LTH : Type := Nat → Nat → Int32
def LW (G : GG) (ad : Nat → Nat) (σ : LTH) : va_W := [((ad 0), .inr (4, [.ref (ad 1), .ref (ad 3), .ref (ad 4), .ref (ad 5), .ref (ad 12), .int (σ 19 0), .int (σ 20 0), .int (σ 21 0)])), ((ad 1), .inr (6, [.ref (ad 2), .int (σ 1 0)])), ((ad 2), .inl (G.2.1, 48, .inl (σ 0))), ((ad 3), .inr (2, [.int (σ 2 0), .int (σ 3 0), .int (σ 4 0), .int (σ 5 0)])), ((ad 4), .inr (1, [.int (σ 6 0), .int (σ 7 0), .int (σ 8 0)])), ((ad 5), .inr (7, [.ref (ad 6), .ref (ad 8), .ref (ad 10), .int (σ 12 0), .int (σ 13 0)])), ((ad 6), .inr (8, [.ref (ad 7)])), ((ad 7), .inl (G.2.1, 80, .inl (σ 9))), ((ad 8), .inr (8, [.ref (ad 9)])), ((ad 9), .inl (G.2.1, 5, .inl (σ 10))), ((ad 10), .inr (8, [.ref (ad 11)])), ((ad 11), .inl (G.2.1, 5, .inl (σ 11))), ((ad 12), .inr (0, [.int (σ 14 0), .int (σ 15 0), .int (σ 16 0), .int (σ 17 0), .int (σ 18 0)]))]
def lpk (md : Nat → Int32) (mch : Int32) (fra : Int32) (fwe : Int32) (fof : Int32) (fsi : Int32) (csh : Int32) (cde : Int32) (csp : Int32) (rd : Nat → Int32) (rw : Nat → Int32) (rp : Nat → Int32) (rco : Int32) (rmo : Int32) (apa : Int32) (awo : Int32) (ash : Int32) (aja : Int32) (abu : Int32) (ltol : Int32) (lchi : Int32) (ljam : Int32) : LTH := fun c j => match c with
  | 0 => md j
  | 1 => mch
  | 2 => fra
  | 3 => fwe
  | 4 => fof
  | 5 => fsi
  | 6 => csh
  | 7 => cde
  | 8 => csp
  | 9 => rd j
  | 10 => rw j
  | 11 => rp j
  | 12 => rco
  | 13 => rmo
  | 14 => apa
  | 15 => awo
  | 16 => ash
  | 17 => aja
  | 18 => abu
  | 19 => ltol
  | 20 => lchi
  | 21 => ljam
  | _ => 0
theorem Wr.mono {l : Launch} {G : GG} {y : MethodName} {cc : ByteArray} {n : Nat} {ret : Option FieldType} {fr lo mc ms : Nat} {As : List Value} {w : va_W} {X Y : Type} {w' : X → va_W} {w2 : Y → va_W} {v : Option Value} (h : Wr l G y cc n ret fr lo mc ms As w w' v) (φ : X → Y) (hp : ∀ x H, va_P G.1 vwCl (w' x) H → va_P G.1 vwCl (w2 (φ x)) H) (hd : ∀ x A, va_D A (w' x) → va_D A (w2 (φ x))) : Wr l G y cc n ret fr lo mc ms As w w2 v := by
  intro sz p e h1 h2 h3 s m args below h4 h5 h6 h7
  obtain ⟨k, o, a1, a2, a3, ⟨⟨x, b1, b2, b3⟩, b4⟩, a5⟩ := h sz p e h1 h2 h3 s m args below h4 h5 h6 h7
  exact ⟨k, o, a1, a2, a3, ⟨⟨φ x, b1, hp x _ b2, hd x _ b3⟩, b4⟩, a5⟩
theorem va_P.rep {D : va_G} {cl : List vw_C} {ws : va_W} {H : Heap} (h : va_P D cl ws H) (k : Nat) {a n : Nat} {c : ClassId} {f g : Nat → Int32} (hk : ws[k]? = some (a, .inl (c, n, .inl f))) (hfg : ∀ j, j < n → f j = g j) : va_P D cl (ws.set k (a, .inl (c, n, .inl g))) H := by
  intro i q hq
  by_cases hi : i = k
  · subst hi
    rw [List.getElem?_set_self (List.getElem?_eq_some_iff.mp hk).1] at hq
    cases hq
    have h1 := h i _ hk
    show H[a]? = some (vp_cell c (n, .inl g))
    rw [show H[a]? = some (vp_cell c (n, .inl f)) from h1, vp_cell_i, vp_cell_i]
    unfold arrV
    congr 2
    apply Array.ext
    · simp
    · intro j h1 h2
      simp only [Array.getElem_ofFn]
      rw [hfg j (by simpa using h1)]
  · rw [List.getElem?_set_ne (Ne.symm hi)] at hq
    exact h i q hq
theorem kTO (l : Launch) (G : GG) (ad bd : Nat → Nat) (σ τ : LTH) (hj : τ 21 0 = 0 ∨ τ 21 0 = 1) : Wr l G yX4_takeOver cX4_takeOver 2 none 3 64 0 0 [.ref (ad 0), .ref (bd 0)] (LW G ad σ ++ LW G bd τ) (X := Unit) (fun _ => LW G ad τ ++ LW G bd τ) none := by
  have h := kX4_takeOver l G (ad 0) (ad 1) (ad 2) (ad 3) (ad 4) (ad 5) (ad 6) (ad 7) (ad 8) (ad 9) (ad 10) (ad 11) (ad 12) (bd 0) (bd 1) (bd 2) (bd 3) (bd 4) (bd 5) (bd 6) (bd 7) (bd 8) (bd 9) (bd 10) (bd 11) (bd 12) (σ 0) (σ 1 0) (σ 2 0) (σ 3 0) (σ 4 0) (σ 5 0) (σ 6 0) (σ 7 0) (σ 8 0) (σ 9) (σ 10) (σ 11) (σ 12 0) (σ 13 0) (σ 14 0) (σ 15 0) (σ 16 0) (σ 17 0) (σ 18 0) (σ 19 0) (σ 20 0) (σ 21 0) (τ 0) (τ 1 0) (τ 2 0) (τ 3 0) (τ 4 0) (τ 5 0) (τ 6 0) (τ 7 0) (τ 8 0) (τ 9) (τ 10) (τ 11) (τ 12 0) (τ 13 0) (τ 14 0) (τ 15 0) (τ 16 0) (τ 17 0) (τ 18 0) (τ 19 0) (τ 20 0) (τ 21 0) _ _ _ _ _ _ _ _ _ _ _ _ _ _ _ _ _ _ _ _ _ _  (to4 (σ 0) (σ 9) (σ 10) (σ 11) (τ 0) (τ 1 0) (τ 2 0) (τ 3 0) (τ 4 0) (τ 5 0) (τ 6 0) (τ 7 0) (τ 8 0) (τ 9) (τ 10) (τ 11) (τ 12 0) (τ 13 0) (τ 14 0) (τ 15 0) (τ 16 0) (τ 17 0) (τ 18 0) (τ 19 0) (τ 20 0) (τ 21 0) hj)
  refine Wr.mono h id (fun _ H hP => ?_) (fun _ A hD => ?_)
  · exact (((hP.rep 2 (g := τ 0) rfl (fun j hj => mixN_in hj)).rep 7 (g := τ 9) rfl (fun j hj => mixN_in hj)).rep 9 (g := τ 10) rfl (fun j hj => mixN_in hj)).rep 11 (g := τ 11) rfl (fun j hj => mixN_in hj)
  · exact (((hD.set (p := 2) (e := .inl (G.2.1, 48, .inl (τ 0))) rfl).set (p := 7) (e := .inl (G.2.1, 80, .inl (τ 9))) rfl).set (p := 9) (e := .inl (G.2.1, 5, .inl (τ 10))) rfl).set (p := 11) (e := .inl (G.2.1, 5, .inl (τ 11))) rfl
def CW (G : GG) (ad : Nat → Nat) : Option LTH → va_W
  | none => []
  | some σ => LW G ad σ
def hT (G : GG) (n : Nat) (cs : Nat → Option LTH) (ca : Nat → Nat → Nat) : va_W := (List.range n).flatMap (fun i => CW G (ca i) (cs i))
def hTx (G : GG) (n k : Nat) (cs : Nat → Option LTH) (ca : Nat → Nat → Nat) : va_W := (List.range n).flatMap (fun i => if i = k then [] else CW G (ca i) (cs i))
def hRow (cs : Nat → Option LTH) (ca : Nat → Nat → Nat) : Nat → Option Nat := fun i => (cs i).map (fun _ => ca i 0)
theorem hT_s (G : GG) (n : Nat) (cs : Nat → Option LTH) (ca : Nat → Nat → Nat) : hT G (n + 1) cs ca = hT G n cs ca ++ CW G (ca n) (cs n) := by
  simp [hT, List.range_succ, List.flatMap_append]
theorem hTx_s (G : GG) (n k : Nat) (cs : Nat → Option LTH) (ca : Nat → Nat → Nat) : hTx G (n + 1) k cs ca = hTx G n k cs ca ++ (if n = k then [] else CW G (ca n) (cs n)) := by
  simp [hTx, List.range_succ, List.flatMap_append]
theorem hTx_big (G : GG) (k : Nat) (cs : Nat → Option LTH) (ca : Nat → Nat → Nat) : ∀ n, n ≤ k → hTx G n k cs ca = hT G n cs ca := by
  intro n
  induction n with
  | zero => intro _; rfl
  | succ n ih => intro h; rw [hTx_s, hT_s, ih (by omega), if_neg (by omega)]
theorem hT_split (G : GG) {k : Nat} (cs : Nat → Option LTH) (ca : Nat → Nat → Nat) : ∀ n, k < n → (hT G n cs ca).Perm (CW G (ca k) (cs k) ++ hTx G n k cs ca) := by
  intro n
  induction n with
  | zero => intro h; omega
  | succ n ih =>
    intro h
    rw [hT_s, hTx_s]
    by_cases hk : n = k
    · subst hk
      rw [if_pos rfl, hTx_big G n cs ca n (Nat.le_refl _), List.append_nil]
      exact List.perm_append_comm
    · rw [if_neg hk, ← List.append_assoc]
      exact (ih (by omega)).append_right _
theorem hTx_congr (G : GG) {k : Nat} {cs cs' : Nat → Option LTH} {ca ca' : Nat → Nat → Nat} (h1 : ∀ i, i ≠ k → cs' i = cs i) (h2 : ∀ i, i ≠ k → ca' i = ca i) : ∀ n, hTx G n k cs' ca' = hTx G n k cs ca := by
  intro n
  induction n with
  | zero => rfl
  | succ n ih =>
    rw [hTx_s, hTx_s, ih]
    by_cases hk : n = k
    · rw [if_pos hk, if_pos hk]
    · rw [if_neg hk, if_neg hk, h1 n hk, h2 n hk]
theorem p3 {α : Type} (a b c : List α) : (a ++ (b ++ c)).Perm (c ++ (b ++ a)) :=
  List.perm_append_comm.trans ((List.perm_append_comm.append_right a).trans (by rw [List.append_assoc]))
theorem p3' {α : Type} (a b c : List α) : (a ++ (b ++ c)).Perm (b ++ (a ++ c)) := by
  rw [← List.append_assoc, ← List.append_assoc]
  exact List.perm_append_comm.append_right c
theorem hRow_none {cs : Nat → Option LTH} {ca : Nat → Nat → Nat} {k : Nat} (h : cs k = none) : hRow cs ca k = none := by simp [hRow, h]
theorem hRow_some {cs : Nat → Option LTH} {ca : Nat → Nat → Nat} {k : Nat} {σ : LTH} (h : cs k = some σ) : hRow cs ca k = some (ca k 0) := by simp [hRow, h]
theorem x6_init : ∃ md, fX6_init = some md ∧ ∀ j, j < 48 → md j = 30 := by
  refine ⟨mixN 48 (fun _ => 30) (fun _ => 0), ?_, fun j hj => mixN_in hj⟩
  unfold fX6_init
  have h := lup0 (fun n (s : Int32 × (Nat → Int32)) => fX6_init_L14 n s.1 s.2) (fun k => (nI k, mixN k (fun _ => 30) (fun _ => 0))) 48 2000 (mixN 48 (fun _ => 30) (fun _ => 0)) (by omega)
    (fun n k hk => by
      show fX6_init_L14 (n + 1) (nI k) (mixN k (fun _ => 30) (fun _ => 0)) = fX6_init_L14 n (nI (k + 1)) (mixN (k + 1) (fun _ => 30) (fun _ => 0))
      rw [fX6_init_L14, if_neg (show ¬ (48 : Int32) ≤ _ from nI_ge (b := 48) hk (by decide)), if_pos (nI_in hk (by decide)), nI_1, nI_clamp (by omega), ← mixN_s])
    (fun n => by
      show fX6_init_L14 (n + 1) (nI 48) _ = _
      rw [fX6_init_L14, if_pos (show (48 : Int32) ≤ nI 48 by decide)])
  simp only [mixN_0] at h
  rw [show fX6_init_L14 2000 0 (fun _ => 0) = _ from h]
  rfl
theorem x4_init : ∃ md, fX4_init = some md ∧ ∀ j, j < 48 → md j = 30 := by
  obtain ⟨md, h1, h2⟩ := x6_init
  refine ⟨md, ?_, h2⟩
  unfold fX4_init
  rw [h1]
  rfl
section HI
set_option maxHeartbeats 4000000 in
set_option maxRecDepth 100000 in
/-- store: the place holds what now is; a lathe is made for it once -/
theorem kX3_store (l : Launch) (G : GG) (aS : Nat) (bd : Nat → Nat) (n k : Nat) (cs : Nat → Option LTH) (ca : Nat → Nat → Nat) (τ : LTH) (hk : k < n) (hn : n ≤ 100) (hj : τ 21 0 = 0 ∨ τ 21 0 = 1) :
    Wr l G yX3_store cX3_store 4 none 4 86 13 168 [.ref aS, .int (nI k), .ref (bd 0)] ((aS, .inl (G.2.2.1, n, .inr (.inr (.inr (.inr (hRow cs ca)))))) :: (LW G bd τ ++ hT G n cs ca)) (X := Nat → Nat → Nat)
      (fun ca' => (aS, .inl (G.2.2.1, n, .inr (.inr (.inr (.inr (hRow (va_up cs k (some τ)) ca')))))) :: (LW G bd τ ++ hT G n (va_up cs k (some τ)) ca')) none := by
  refine wr_of (by decide) (Nat.le_of_ble_eq_true rfl) ?_
  intro p e s m args below meth c ls A hx hb hr hml hown hlk hA hZ hP hD hS hA0 hin hl
  replace hown : s.vm.findClass RX3 = some m.cls := hown
  replace hl : lv_has ls 4 [(0, .ref aS), (1, .int (nI k)), (2, .ref (bd 0))] := hl
  have hkn : vp_in (nI k) n := vp_in_nI hk (by omega)
  refine lv_iload_n hx hb dX3_store_0 rfl (lv_at hl 1 rfl) ?_
  refine lv_if_lt (tgt := 10) hx hb dX3_store_1 (by decide) (fun c1 => absurd c1 (nI_pos (by omega))) (fun _ => ?_)
  refine lv_iload_n hx hb dX3_store_4 rfl (lv_at hl 1 rfl) ?_
  refine lv_aload_n hx hb dX3_store_5 rfl (lv_at hl 0 rfl) ?_
  refine va_alen hx hb hA.K hP 0 1 rfl rfl (v := nI n) rfl dX3_store_6 ?_
  refine lv_icmp_lt (tgt := 11) hx hb dX3_store_7 (by decide) (fun _ => ?_) (fun c1 => absurd (nI_lt hk (by omega)) c1)
  refine lv_aload_n hx hb dX3_store_11 rfl (lv_at hl 0 rfl) ?_
  refine lv_iload_n hx hb dX3_store_12 rfl (lv_at hl 1 rfl) ?_
  refine va_aldq hx hb hA.K hP 0 1 rfl rfl hkn dX3_store_13 ?_
  rw [nI_clamp (by omega)]
  have e2 : ∀ i, i ≠ k → va_up cs k (some τ) i = cs i := fun i hi => by simp [va_up, hi]
  have e1 : va_up cs k (some τ) k = some τ := by simp [va_up]
  cases hcs : cs k with
  | some σ =>
    rw [hRow_some hcs]
    refine W.eq (g2 := F0 m 14 ls [.ref (ca k 0)]) rfl ?_
    refine lv_astore_n (lv' := [(3, .ref (ca k 0)), (0, .ref aS), (1, .int (nI k)), (2, .ref (bd 0))]) hx hb dX3_store_14 rfl hl (by decide) rfl (fun ls hl => ?_)
    refine lv_aload_n hx hb dX3_store_15 rfl (lv_at hl 0 rfl) ?_
    refine lv_ifnonnull (tgt := 31) hx hb dX3_store_16 (by decide) ?_
    refine lv_aload_n hx hb dX3_store_31 rfl (lv_at hl 0 rfl) ?_
    refine lv_aload_n hx hb dX3_store_32 rfl (lv_at hl 3 rfl) ?_
    have hrow : hRow (va_up cs k (some τ)) ca = hRow cs ca := by
      funext i
      by_cases hi : i = k
      · subst hi; rw [hRow_some hcs, hRow_some e1]
      · simp [hRow, e2 i hi]
    have s1 := hT_split G cs ca n hk
    rw [hcs] at s1
    have s2 := hT_split G (va_up cs k (some τ)) ca n hk
    rw [e1, hTx_congr G e2 (fun _ _ => rfl) n] at s2
    refine wr_vP (n := 1) (As := [.ref (bd 0)]) (q0 := 0) (ci := 4) (wr := (aS, .inl (G.2.2.1, n, .inr (.inr (.inr (.inr (hRow cs ca)))))) :: hTx G n k cs ca) (wc := LW G (ca k) σ ++ LW G bd τ) (w2 := fun _ => (aS, .inl (G.2.2.1, n, .inr (.inr (.inr (.inr (hRow cs ca)))))) :: (LW G bd τ ++ hT G n (va_up cs k (some τ)) ca)) hx hb hml hown hA (kTO l G (ca k) bd σ τ hj) (gV wd_134 wd_135 wd_136 (by decide +kernel) wd_130) (by decide +kernel) ⟨Nat.le_of_ble_eq_true rfl, Nat.le_of_ble_eq_true rfl⟩ hZ hP hD hS hA0 rfl rfl
      (List.Perm.cons _ ((s1.append_left (LW G bd τ)).trans (p3 _ _ _))) (fun _ => List.Perm.cons _ ((p3 _ _ _).trans ((s2.symm).append_left (LW G bd τ)))) rfl hl.1 (Nat.le_of_ble_eq_true rfl) ⟨Nat.le_of_ble_eq_true rfl, Nat.le_of_ble_eq_true rfl⟩ dX3_store_33 (fun _ H locs hP hD hS => ?_)
    refine W.eq (g2 := F0 m 36 ls []) rfl ?_
    refine W.widen (k := 13) (n := 168) (Nat.le_of_ble_eq_true rfl) (Nat.le_of_ble_eq_true rfl) ?_
    exact wr_vret (w' := fun ca' => (aS, .inl (G.2.2.1, n, .inr (.inr (.inr (.inr (hRow (va_up cs k (some τ)) ca')))))) :: (LW G bd τ ++ hT G n (va_up cs k (some τ)) ca')) ca hx hb hr hlk (by rw [hrow]; exact hP) (by rw [hrow]; exact hD) hS dX3_store_36
  | none =>
    obtain ⟨md0, hmd, -⟩ := x4_init
    rw [hRow_none hcs]
    refine W.eq (g2 := F0 m 14 ls [.null]) rfl ?_
    refine lv_astore_nN (lv' := [(3, .null), (0, .ref aS), (1, .int (nI k)), (2, .ref (bd 0))]) hx hb dX3_store_14 rfl hl (by decide) rfl (fun ls hl => ?_)
    refine lv_aload_nN hx hb dX3_store_15 rfl (lv_at hl 0 rfl) ?_
    refine lv_ifnonnullN hx hb dX3_store_16 ?_
    refine va_new (ci := 4) (fs := [.null, .null, .null, .null, .null, .int 0, .int 0, .int 0]) (C := RX4) (T := TX4) (N := 8) hx hb hA.hts wdx_4 tyX4 tyX4_ok hown (hA.hts _ wd_41) (hA.hts _ (by decide +kernel)) (hA.hts _ (by decide +kernel)) hA.K hP hD hS hA0 rfl (fun j hj => by rcases (show j = 0 ∨ j = 1 ∨ j = 2 ∨ j = 3 ∨ j = 4 ∨ j = 5 ∨ j = 6 ∨ j = 7 by omega) with rfl | rfl | rfl | rfl | rfl | rfl | rfl | rfl <;> rfl) (Nat.le_of_ble_eq_true rfl) (Nat.le_of_ble_eq_true rfl) dX3_store_19 (fun q H hP hD hS => ?_)
    refine lv_dup hx hb dX3_store_22 rfl ?_
    refine wr_inP (n := 0) (As := []) (wr := (aS, .inl (G.2.2.1, n, .inr (.inr (.inr (.inr (hRow cs ca)))))) :: (LW G bd τ ++ hT G n cs ca)) (w2 := fun x => (aS, .inl (G.2.2.1, n, .inr (.inr (.inr (.inr (hRow cs ca)))))) :: (LW G (fun i => match i with | 0 => q | i + 1 => x (i + 1)) (lpk md0 0 1 0 0 0 100 3 2 (fun _ => 0) (fun _ => 0) (fun _ => 0) 0 (-1) 0 0 0 0 0 2 0 0) ++ (LW G bd τ ++ hT G n cs ca))) hx hb hml hown hA (kX4_init l G q md0 hmd) wd_92 (by decide +kernel) nm_7 wd_133 rfl (C := RX4) (by decide +kernel) ⟨Nat.le_of_ble_eq_true rfl, Nat.le_of_ble_eq_true rfl⟩ hZ hP hD hS hA0 (List.Perm.refl _)
      (fun x => List.Perm.cons _ List.perm_append_comm) rfl hl.1 (Nat.le_of_ble_eq_true rfl) ⟨Nat.le_of_ble_eq_true rfl, Nat.le_of_ble_eq_true rfl⟩ dX3_store_23 (fun x H locs hP hD hS => ?_)
    refine W.eq (g2 := F0 m 26 ls [.ref q]) rfl ?_
    generalize hqa : (fun i => match i with | 0 => q | i + 1 => x (i + 1) : Nat → Nat) = qa at hP hD
    have hq0 : q = qa 0 := by rw [← hqa]
    generalize (lpk md0 0 1 0 0 0 100 3 2 (fun _ => 0) (fun _ => 0) (fun _ => 0) 0 (-1) 0 0 0 0 0 2 0 0) = σ at hP hD
    rw [hq0]
    refine lv_astore_n (lv' := [(3, .ref (qa 0)), (0, .ref aS), (1, .int (nI k)), (2, .ref (bd 0))]) hx hb dX3_store_26 rfl hl (by decide) rfl (fun ls hl => ?_)
    refine lv_aload_n hx hb dX3_store_27 rfl (lv_at hl 1 rfl) ?_
    refine lv_iload_n hx hb dX3_store_28 rfl (lv_at hl 2 rfl) ?_
    refine lv_aload_n hx hb dX3_store_29 rfl (lv_at hl 0 rfl) ?_
    refine va_astq hx hb hA.K hP hD hS 0 1 1 4 rfl rfl rfl rfl hkn dX3_store_30 (fun H locs hP hD hS => ?_)
    rw [nI_clamp (by omega)] at hP hD
    have hP : va_P G.1 vwCl ((aS, .inl (G.2.2.1, n, .inr (.inr (.inr (.inr (va_up (hRow cs ca) k (some (qa 0)))))))) :: (LW G qa σ ++ (LW G bd τ ++ hT G n cs ca))) H := hP
    have hD : va_D A ((aS, .inl (G.2.2.1, n, .inr (.inr (.inr (.inr (va_up (hRow cs ca) k (some (qa 0)))))))) :: (LW G qa σ ++ (LW G bd τ ++ hT G n cs ca))) := hD
    refine lv_aload_n hx hb dX3_store_31 rfl (lv_at hl 0 rfl) ?_
    refine lv_aload_n hx hb dX3_store_32 rfl (lv_at hl 3 rfl) ?_
    have e3 : ∀ i, i ≠ k → va_up ca k qa i = ca i := fun i hi => by simp [va_up, hi]
    have e4 : va_up ca k qa k = qa := by simp [va_up]
    have hrow : hRow (va_up cs k (some τ)) (va_up ca k qa) = va_up (hRow cs ca) k (some (qa 0)) := by
      funext i
      by_cases hi : i = k
      · subst hi; rw [hRow_some e1, e4]; simp [va_up]
      · simp [hRow, va_up, hi]
    have s1 := hT_split G cs ca n hk
    rw [hcs] at s1
    have s2 := hT_split G (va_up cs k (some τ)) (va_up ca k qa) n hk
    rw [e1, e4, hTx_congr G e2 e3 n] at s2
    refine wr_vP (n := 1) (As := [.ref (bd 0)]) (q0 := 0) (ci := 4) (wr := (aS, .inl (G.2.2.1, n, .inr (.inr (.inr (.inr (va_up (hRow cs ca) k (some (qa 0)))))))) :: hTx G n k cs ca) (wc := LW G qa σ ++ LW G bd τ) (w2 := fun _ => (aS, .inl (G.2.2.1, n, .inr (.inr (.inr (.inr (va_up (hRow cs ca) k (some (qa 0)))))))) :: (LW G bd τ ++ hT G n (va_up cs k (some τ)) (va_up ca k qa))) hx hb hml hown hA (kTO l G qa bd σ τ hj) (gV wd_134 wd_135 wd_136 (by decide +kernel) wd_130) (by decide +kernel) ⟨Nat.le_of_ble_eq_true rfl, Nat.le_of_ble_eq_true rfl⟩ hZ hP hD hS hA0 rfl rfl
      (List.Perm.cons _ (((s1.append_left (LW G bd τ)).append_left (LW G qa σ)).trans (by rw [← List.append_assoc]; exact List.perm_append_comm))) (fun _ => List.Perm.cons _ ((p3 _ _ _).trans ((s2.symm).append_left (LW G bd τ)))) rfl hl.1 (Nat.le_of_ble_eq_true rfl) ⟨Nat.le_of_ble_eq_true rfl, Nat.le_of_ble_eq_true rfl⟩ dX3_store_33 (fun _ H locs hP hD hS => ?_)
    refine W.eq (g2 := F0 m 36 ls []) rfl ?_
    refine W.widen (k := 13) (n := 168) (Nat.le_of_ble_eq_true rfl) (Nat.le_of_ble_eq_true rfl) ?_
    exact wr_vret (w' := fun ca' => (aS, .inl (G.2.2.1, n, .inr (.inr (.inr (.inr (hRow (va_up cs k (some τ)) ca')))))) :: (LW G bd τ ++ hT G n (va_up cs k (some τ)) ca')) (va_up ca k qa) hx hb hr hlk (by rw [hrow]; exact hP) (by rw [hrow]; exact hD) hS dX3_store_36
set_option maxHeartbeats 4000000 in
set_option maxRecDepth 100000 in
/-- fetch: what now is becomes what the place holds -/
theorem kX3_fetch (l : Launch) (G : GG) (aS : Nat) (bd : Nat → Nat) (n k : Nat) (cs : Nat → Option LTH) (ca : Nat → Nat → Nat) (τ σ : LTH) (hk : k < n) (hn : n ≤ 100) (hcs : cs k = some σ) (hj : σ 21 0 = 0 ∨ σ 21 0 = 1) :
    Wr l G yX3_fetch cX3_fetch 4 none 4 86 0 0 [.ref aS, .int (nI k), .ref (bd 0)] ((aS, .inl (G.2.2.1, n, .inr (.inr (.inr (.inr (hRow cs ca)))))) :: (LW G bd τ ++ hT G n cs ca)) (X := Unit)
      (fun _ => (aS, .inl (G.2.2.1, n, .inr (.inr (.inr (.inr (hRow cs ca)))))) :: (LW G bd σ ++ hT G n cs ca)) none := by
  refine wr_of (by decide) (Nat.le_of_ble_eq_true rfl) ?_
  intro p e s m args below meth c ls A hx hb hr hml hown hlk hA hZ hP hD hS hA0 hin hl
  replace hown : s.vm.findClass RX3 = some m.cls := hown
  replace hl : lv_has ls 4 [(0, .ref aS), (1, .int (nI k)), (2, .ref (bd 0))] := hl
  have hkn : vp_in (nI k) n := vp_in_nI hk (by omega)
  refine lv_iload_n hx hb dX3_fetch_0 rfl (lv_at hl 1 rfl) ?_
  refine lv_if_lt (tgt := 16) hx hb dX3_fetch_1 (by decide) (fun c1 => absurd c1 (nI_pos (by omega))) (fun _ => ?_)
  refine lv_iload_n hx hb dX3_fetch_4 rfl (lv_at hl 1 rfl) ?_
  refine lv_aload_n hx hb dX3_fetch_5 rfl (lv_at hl 0 rfl) ?_
  refine va_alen hx hb hA.K hP 0 1 rfl rfl (v := nI n) rfl dX3_fetch_6 ?_
  refine lv_icmp_ge (tgt := 16) hx hb dX3_fetch_7 (by decide) (fun c1 => absurd c1 (nI_ge hk (by omega))) (fun _ => ?_)
  refine lv_aload_n hx hb dX3_fetch_10 rfl (lv_at hl 0 rfl) ?_
  refine lv_iload_n hx hb dX3_fetch_11 rfl (lv_at hl 1 rfl) ?_
  refine va_aldq hx hb hA.K hP 0 1 rfl rfl hkn dX3_fetch_12 ?_
  rw [nI_clamp (by omega), hRow_some hcs]
  refine lv_goto (tgt := 17) hx hb dX3_fetch_13 (by decide) ?_
  refine W.eq (g2 := F0 m 17 ls [.ref (ca k 0)]) rfl ?_
  refine lv_astore_n (lv' := [(3, .ref (ca k 0)), (0, .ref aS), (1, .int (nI k)), (2, .ref (bd 0))]) hx hb dX3_fetch_17 rfl hl (by decide) rfl (fun ls hl => ?_)
  refine lv_aload_n hx hb dX3_fetch_18 rfl (lv_at hl 0 rfl) ?_
  refine lv_ifnull hx hb dX3_fetch_19 ?_
  refine lv_aload_n hx hb dX3_fetch_22 rfl (lv_at hl 3 rfl) ?_
  refine lv_aload_n hx hb dX3_fetch_23 rfl (lv_at hl 0 rfl) ?_
  have s1 := hT_split G cs ca n hk
  rw [hcs] at s1
  refine wr_vP (n := 1) (As := [.ref (ca k 0)]) (q0 := 0) (ci := 4) (wr := (aS, .inl (G.2.2.1, n, .inr (.inr (.inr (.inr (hRow cs ca)))))) :: hTx G n k cs ca) (wc := LW G bd τ ++ LW G (ca k) σ) (w2 := fun _ => (aS, .inl (G.2.2.1, n, .inr (.inr (.inr (.inr (hRow cs ca)))))) :: (LW G bd σ ++ hT G n cs ca)) hx hb hml hown hA (kTO l G bd (ca k) τ σ hj) (gV wd_134 wd_135 wd_136 (by decide +kernel) wd_130) (by decide +kernel) ⟨Nat.le_of_ble_eq_true rfl, Nat.le_of_ble_eq_true rfl⟩ hZ hP hD hS hA0 rfl rfl
    (List.Perm.cons _ (((s1.append_left (LW G bd τ))).trans (by rw [← List.append_assoc]; exact List.perm_append_comm))) (fun _ => List.Perm.cons _ ((List.perm_append_comm.trans (by rw [List.append_assoc]; exact List.Perm.refl _)).trans ((s1.symm).append_left (LW G bd σ)))) rfl hl.1 (Nat.le_of_ble_eq_true rfl) ⟨Nat.le_of_ble_eq_true rfl, Nat.le_of_ble_eq_true rfl⟩ dX3_fetch_24 (fun _ H locs hP hD hS => ?_)
  refine W.eq (g2 := F0 m 27 ls []) rfl ?_
  exact wr_vret (w' := fun _ : Unit => (aS, .inl (G.2.2.1, n, .inr (.inr (.inr (.inr (hRow cs ca)))))) :: (LW G bd σ ++ hT G n cs ca)) () hx hb hr hlk hP hD hS dX3_fetch_27
end HI
