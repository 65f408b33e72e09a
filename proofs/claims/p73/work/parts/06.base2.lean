/-! worlds as sets: permutations, tails -/
theorem va_P_iff {D : va_G} {cl : List vw_C} {ws : va_W} {H : Heap} : va_P D cl ws H ↔ ∀ q ∈ ws, va_at D cl q H :=
  ⟨fun h q hq => by obtain ⟨k, hk⟩ := List.getElem?_of_mem hq; exact h k q hk, fun h k q hk => h q (List.mem_of_getElem? hk)⟩
theorem va_D_iff {A : Nat → Prop} {ws : va_W} : va_D A ws ↔ (ws.map Prod.fst).Nodup ∧ ∀ q ∈ ws, A q.1 := by
  constructor
  · rintro ⟨h1, h2⟩
    refine ⟨?_, fun q hq => by obtain ⟨k, hk⟩ := List.getElem?_of_mem hq; exact h2 k q hk⟩
    rw [List.Nodup, List.pairwise_iff_getElem]
    intro i j hi hj hij he
    have hi' : i < ws.length := by simpa using hi
    have hj' : j < ws.length := by simpa using hj
    rw [List.getElem_map, List.getElem_map] at he
    have := h1 i j ws[i] ws[j] (List.getElem?_eq_getElem hi') (List.getElem?_eq_getElem hj') he
    omega
  · rintro ⟨h1, h2⟩
    refine ⟨fun i j p q hp hq he => ?_, fun k q hk => h2 q (List.mem_of_getElem? hk)⟩
    rw [List.Nodup, List.pairwise_iff_getElem] at h1
    obtain ⟨hi, ei⟩ := List.getElem?_eq_some_iff.mp hp
    obtain ⟨hj, ej⟩ := List.getElem?_eq_some_iff.mp hq
    rcases Nat.lt_trichotomy i j with h | h | h
    · exact absurd (by rw [List.getElem_map, List.getElem_map, ei, ej]; exact he) (h1 i j (by simpa using hi) (by simpa using hj) h)
    · exact h
    · exact absurd (by rw [List.getElem_map, List.getElem_map, ei, ej]; exact he.symm) (h1 j i (by simpa using hj) (by simpa using hi) h)
theorem va_P.perm {D : va_G} {cl : List vw_C} {ws w2 : va_W} {H : Heap} (h : va_P D cl ws H) (hp : ws.Perm w2) : va_P D cl w2 H :=
  va_P_iff.mpr fun q hq => va_P_iff.mp h q (hp.mem_iff.mpr hq)
theorem va_D.perm {A : Nat → Prop} {ws w2 : va_W} (h : va_D A ws) (hp : ws.Perm w2) : va_D A w2 :=
  va_D_iff.mpr ⟨(hp.map Prod.fst).nodup_iff.mp (va_D_iff.mp h).1, fun q hq => (va_D_iff.mp h).2 q (hp.mem_iff.mpr hq)⟩
theorem va_P.left {D : va_G} {cl : List vw_C} {w1 w2 : va_W} {H : Heap} (h : va_P D cl (w1 ++ w2) H) : va_P D cl w1 H := va_P_iff.mpr fun q hq => va_P_iff.mp h q (List.mem_append_left _ hq)
theorem va_P.right {D : va_G} {cl : List vw_C} {w1 w2 : va_W} {H : Heap} (h : va_P D cl (w1 ++ w2) H) : va_P D cl w2 H := va_P_iff.mpr fun q hq => va_P_iff.mp h q (List.mem_append_right _ hq)
theorem va_D.left {A : Nat → Prop} {w1 w2 : va_W} (h : va_D A (w1 ++ w2)) : va_D A w1 := by
  obtain ⟨h1, h2⟩ := va_D_iff.mp h
  rw [List.map_append] at h1
  exact va_D_iff.mpr ⟨(List.nodup_append.mp h1).1, fun q hq => h2 q (List.mem_append_left _ hq)⟩
theorem va_D.right {A : Nat → Prop} {w1 w2 : va_W} (h : va_D A (w1 ++ w2)) : va_D A w2 := by
  obtain ⟨h1, h2⟩ := va_D_iff.mp h
  rw [List.map_append] at h1
  exact va_D_iff.mpr ⟨(List.nodup_append.mp h1).2.1, fun q hq => h2 q (List.mem_append_right _ hq)⟩
theorem va_D.apart {A : Nat → Prop} {w1 w2 : va_W} (h : va_D A (w1 ++ w2)) {p q : Nat × va_E} (hp : p ∈ w1) (hq : q ∈ w2) : p.1 ≠ q.1 := by
  obtain ⟨h1, -⟩ := va_D_iff.mp h
  rw [List.map_append] at h1
  exact (List.nodup_append.mp h1).2.2 p.1 (List.mem_map_of_mem hp) q.1 (List.mem_map_of_mem hq)
theorem va_D.join {A : Nat → Prop} {w1 w2 : va_W} (h1 : va_D A w1) (h2 : va_D A w2) (hx : ∀ p ∈ w1, ∀ q ∈ w2, p.1 ≠ q.1) : va_D A (w1 ++ w2) := by
  obtain ⟨a1, a2⟩ := va_D_iff.mp h1
  obtain ⟨b1, b2⟩ := va_D_iff.mp h2
  refine va_D_iff.mpr ⟨?_, fun q hq => (List.mem_append.mp hq).elim (a2 q) (b2 q)⟩
  rw [List.map_append, List.nodup_append]
  refine ⟨a1, b1, fun x hx1 y hy1 => ?_⟩
  obtain ⟨p, hp, rfl⟩ := List.mem_map.mp hx1
  obtain ⟨q, hq, rfl⟩ := List.mem_map.mp hy1
  exact hx p hp q hq
theorem perm_pos {α : Type} {ws wr : List α} (n : Nat) (is : List Nat) (h : is.map (fun i => ws[i]?) = wr.map some) (hp : is.Perm (List.range n)) (hn : ws.length = n) : wr.Perm ws := by
  subst hn
  have h1 : ((List.range ws.length).map (fun i => ws[i]?)) = ws.map some := by
    apply List.ext_getElem?
    intro i
    rw [List.getElem?_map, List.getElem?_map]
    by_cases hi : i < ws.length
    · rw [List.getElem?_range hi]; simp [List.getElem?_eq_getElem hi]
    · rw [List.getElem?_eq_none (by simpa using hi), List.getElem?_eq_none (by simpa using hi)]; rfl
  have h2 : (wr.map some).Perm (ws.map some) := by rw [← h, ← h1]; exact hp.map _
  have h3 := h2.filterMap id
  simpa [List.filterMap_map] using h3
section RT
variable {p : Program} {l : Launch} {e : Env} {R : Room} {s : State} {m : MethodId} {args : Array Value} {below : List Frame} {meth : Method} {c : Code} {H : Heap} {locs : List Loc} {cells slots : Nat} {Q : State → Prop}
variable {G : GG} {cc bytes : ByteArray} {nL maxL idx n mc ms fr lo pc q0 ci k : Nat} {own C : String} {y : MethodName} {ret : Option FieldType} {As rest fs : List Value} {w : va_W} {v : Option Value} {b : Nat} {ls : Array Slot} {A : Nat → Prop} {T : u_T} {N : Nat}
theorem wr_core {X : Type} {w' w2 : X → va_W} {st0 : List Value} {a : Array Value} {ws wc wr : va_W} (hr : va_Run p l e R s m args below meth c H locs cells slots mc ms (F0 m pc ls st0) rest (Qwr G (va_A wc H.size) w' v a) (va_A wc H.size)) (hP : va_P G.1 vwCl ws H) (hD : va_D A ws) (hS : va_S A s.heap H locs) (hA0 : ∀ q : Nat, s.heap.size ≤ q → A q)
    (hper : ws.Perm (wr ++ wc)) (hp2 : ∀ x, (wr ++ w' x).Perm (w2 x))
    (kk : ∀ (x : X) (H1 : Heap) (locs1 : List Loc), va_P G.1 vwCl (w2 x) H1 → va_D A (w2 x) → va_S A s.heap H1 locs1 → W p l e R s m args below meth c H1 locs1 (cells + mc) (slots + ms) Q (F0 m (pc + 3) ls (v.toList ++ rest))) : W p l e R s m args below meth c H locs cells slots Q (F0 m pc ls st0) := by
  have hP2 := hP.perm hper
  have hD2 := hD.perm hper
  have hF : ∀ q, va_A wc H.size q → A q := by
    rintro q (⟨k, e, h⟩ | h)
    · exact (va_D_iff.mp hD2.right).2 (q, e) (List.mem_of_getElem? h)
    · exact hA0 q (Nat.le_trans hS.1 h)
  intro T hT X
  obtain ⟨v1, st₀, t, T', L, h0, X', hL, e1, e2, ⟨⟨x, hv, hP1, hD1⟩, hFr⟩, st⟩ := hr T hT X
  cases hv
  have hz : H.size ≤ T'.heap.size := by rw [e1, ← h0]; exact hFr.1
  have hk1 : ∀ q : Nat, q < H.size → ¬ va_A wc H.size q → T'.heap[q]? = H[q]? := fun q h1 h2 => by
    rw [e1, hFr.2 q (by rw [h0]; exact h1) h2, h0]
  rw [← e1] at hP1
  have hap : ∀ p ∈ wr, p.1 < H.size ∧ ¬ va_A wc H.size p.1 := by
    intro p hp
    have hl := (va_P_iff.mp hP2.left p hp).lt
    refine ⟨hl, ?_⟩
    rintro (⟨k, e, h⟩ | h)
    · exact hD2.apart hp (List.mem_of_getElem? h) rfl
    · omega
  have jP : va_P G.1 vwCl (wr ++ w' x) T'.heap := va_P.app (va_P_iff.mpr fun q hq => (va_P_iff.mp hP2.left q hq).kept (hk1 q.1 (hap q hq).1 (hap q hq).2)) hP1
  have jD : va_D A (wr ++ w' x) := hD2.left.join (hD1.weaken (fun k q _ h => hF q.1 h)) (fun p hp q hq he => (hap p hp).2 (by rw [he]; exact (va_D_iff.mp hD1).2 q hq))
  obtain ⟨t2, a1, b1⟩ := kk x T'.heap (locs ++ L) (jP.perm (hp2 x)) (jD.perm (hp2 x))
    ⟨Nat.le_trans hS.1 hz, fun q h1 h2 => by rw [hk1 q (Nat.lt_of_lt_of_le h1 hS.1) (fun z => h2 (hF q z))]; exact hS.2.1 q h1 h2, fun q hq => by
      rcases List.mem_append.mp hq with h | h
      · exact hS.2.2 q h
      · exact hF _ (hL q h)⟩ T' rfl X'
  exact ⟨t2, st t2 a1, b1⟩
theorem wr_pre {ws wc wr : va_W} {own2 : String} (hA : Am G s) (hZ : Sa G A s s.heap) (hP : va_P G.1 vwCl ws H) (hD : va_D A ws) (hS : va_S A s.heap H locs) (hA0 : ∀ q : Nat, s.heap.size ≤ q → A q) (hper : ws.Perm (wr ++ wc)) {As : List Value} :
    ∀ U : State, U.heap = H → s.WarmedH U.vm → Pwr G H.size As wc As.toArray U := by
  have hD2 := hD.perm hper
  intro U hU hW
  refine ⟨rfl, hA.moved hW, ?_, by rw [hU]; exact (hP.perm hper).right, hD2.right.weaken (fun _ _ _ _ => trivial), by rw [hU]⟩
  rw [hU]
  refine (hZ.to hS ?_).moved hW.alike
  rintro q (⟨k, e, h⟩ | h)
  · exact (va_D_iff.mp hD2.right).2 (q, e) (List.mem_of_getElem? h)
  · exact hA0 q (Nat.le_trans hS.1 h)
theorem wr_vP {X : Type} {w' w2 : X → va_W} {ws wc wr : va_W} (hx : p.tables.exec = Jvm.exec) (hb : c.code = cc) (hml : c.maxLocals = nL) (hown : s.vm.findClass own = some m.cls) (hA : Am G s) (hM : Wr l G y bytes maxL ret fr lo mc ms (.ref b :: As) wc w' v) (hg : GoodIn Wd (wsV own idx C y [.code y bytes maxL ret])) (hd : Gd y C n) (hR : fr + 1 ≤ R.frames ∧ 8 + (maxL + 11) + lo ≤ R.locals)
    (hZ : Sa G A s s.heap) (hP : va_P G.1 vwCl ws H) (hD : va_D A ws) (hS : va_S A s.heap H locs) (hA0 : ∀ q : Nat, s.heap.size ≤ q → A q) (hc : vwCl[ci]? = some (C, T, N)) (he : wc[q0]? = some (b, .inr (ci, fs)))
    (hper : ws.Perm (wr ++ wc)) (hp2 : ∀ x, (wr ++ w' x).Perm (w2 x))
    (hn : As.length = n) (hls : ls.size = nL) (hcat : (rest.map fun v => v.category).sum ≤ 8) (hcl : cells + mc ≤ R.cells ∧ slots + ms ≤ R.slots) (hdg : decode cc pc = .ok (.invokevirtual idx, 3))
    (kk : ∀ (x : X) (H1 : Heap) (locs1 : List Loc), va_P G.1 vwCl (w2 x) H1 → va_D A (w2 x) → va_S A s.heap H1 locs1 → W p l e R s m args below meth c H1 locs1 (cells + mc) (slots + ms) Q (F0 m (pc + 3) ls (v.toList ++ rest))) : W p l e R s m args below meth c H locs cells slots Q (F0 m pc ls (As.reverse ++ .ref b :: rest)) :=
  wr_core (va_runV (As := As) (rest := rest) ⟨hx, hb, hml, hown, hA.hts⟩ (hM H.size) (cwV n hA.hts hg rfl rfl rfl hd hR) ⟨Pwr.blind, va_recv hA.K (hP.perm hper).right hc he, wr_pre (own2 := own) hA hZ hP hD hS hA0 hper⟩ rfl hn hls rfl (lv_room hcat) hdg hcl) hP hD hS hA0 hper hp2 kk
theorem wr_sP {X : Type} {w' w2 : X → va_W} {ws wc wr : va_W} (hx : p.tables.exec = Jvm.exec) (hb : c.code = cc) (hml : c.maxLocals = nL) (hown : s.vm.findClass own = some m.cls) (hA : Am G s) (hM : Wr l G y bytes maxL ret fr lo mc ms As wc w' v) (hg : GoodIn Wd (wsS own idx y [.code y bytes maxL ret])) (hd : Gd y own n) (hR : fr + 1 ≤ R.frames ∧ 8 + (maxL + 11) + lo ≤ R.locals)
    (hZ : Sa G A s s.heap) (hP : va_P G.1 vwCl ws H) (hD : va_D A ws) (hS : va_S A s.heap H locs) (hA0 : ∀ q : Nat, s.heap.size ≤ q → A q)
    (hper : ws.Perm (wr ++ wc)) (hp2 : ∀ x, (wr ++ w' x).Perm (w2 x))
    (hn : As.length = n) (hls : ls.size = nL) (hcat : (rest.map fun v => v.category).sum ≤ 8) (hcl : cells + mc ≤ R.cells ∧ slots + ms ≤ R.slots) (hdg : decode cc pc = .ok (.invokestatic idx, 3))
    (kk : ∀ (x : X) (H1 : Heap) (locs1 : List Loc), va_P G.1 vwCl (w2 x) H1 → va_D A (w2 x) → va_S A s.heap H1 locs1 → W p l e R s m args below meth c H1 locs1 (cells + mc) (slots + ms) Q (F0 m (pc + 3) ls (v.toList ++ rest))) : W p l e R s m args below meth c H locs cells slots Q (F0 m pc ls (As.reverse ++ rest)) :=
  wr_core (va_runS (As := As) (rest := rest) ⟨hx, hb, hml, hown, hA.hts⟩ (hM H.size) (cwS n hA.hts hg rfl rfl rfl hd hR) ⟨Pwr.blind, wr_pre (own2 := own) hA hZ hP hD hS hA0 hper⟩ rfl hn hls rfl (lv_room hcat) hdg hcl) hP hD hS hA0 hper hp2 kk
/-- a constructor, called by name or as a nest mate's private one -/
theorem wr_iP {X : Type} {w' w2 : X → va_W} {ws wc wr : va_W} (hx : p.tables.exec = Jvm.exec) (hb : c.code = cc) (hml : c.maxLocals = nL) (hown : s.vm.findClass own = some m.cls) (hA : Am G s) (hM : Wr l G y bytes maxL none fr lo mc ms (.ref b :: As) wc w' none) (hg1 : Cond.code y bytes maxL none ∈ Wd) (hg2 : Cond.initialized y.cls ∈ Wd) (hg3 : Cond.methodLink own idx y ∈ Wd) (hg4 : Cond.instanceMethod y ∈ Wd) (hy : y.name = "<init>") (hd : Gd y C n) (hR : fr + 1 ≤ R.frames ∧ 8 + (maxL + 11) + lo ≤ R.locals)
    (hZ : Sa G A s s.heap) (hP : va_P G.1 vwCl ws H) (hD : va_D A ws) (hS : va_S A s.heap H locs) (hA0 : ∀ q : Nat, s.heap.size ≤ q → A q)
    (hper : ws.Perm (wr ++ wc)) (hp2 : ∀ x, (wr ++ w' x).Perm (w2 x))
    (hn : As.length = n) (hls : ls.size = nL) (hcat : (rest.map fun v => v.category).sum ≤ 8) (hcl : cells + mc ≤ R.cells ∧ slots + ms ≤ R.slots) (hdg : decode cc pc = .ok (.invokespecial idx, 3))
    (kk : ∀ (x : X) (H1 : Heap) (locs1 : List Loc), va_P G.1 vwCl (w2 x) H1 → va_D A (w2 x) → va_S A s.heap H1 locs1 → W p l e R s m args below meth c H1 locs1 (cells + mc) (slots + ms) Q (F0 m (pc + 3) ls rest)) : W p l e R s m args below meth c H locs cells slots Q (F0 m pc ls (As.reverse ++ .ref b :: rest)) :=
  wr_core (v := none) (va_runI (As := As) (rest := rest) ⟨hx, hb, hml, hown, hA.hts⟩ (hM H.size) (cwI n hA.hts (fun w hw => by rw [List.mem_singleton.mp hw]; exact ⟨hg1, Or.inl rfl⟩) rfl rfl rfl (hA.hts _ hg2) (hA.hts _ hg3) (hA.hts _ hg4) hy hd.2 hR) ⟨Pwr.blind, wr_pre (own2 := own) hA hZ hP hD hS hA0 hper⟩ rfl hn hls rfl (lv_room hcat) hdg hcl) hP hD hS hA0 hper hp2 kk
theorem wr_inP {X : Type} {w' w2 : X → va_W} {ws wc wr : va_W} (hx : p.tables.exec = Jvm.exec) (hb : c.code = cc) (hml : c.maxLocals = nL) (hown : s.vm.findClass own = some m.cls) (hA : Am G s) (hM : Wr l G y bytes maxL none fr lo mc ms (.ref b :: As) wc w' none) (hg1 : Cond.code y bytes maxL none ∈ Wd) (hg2 : Cond.initialized y.cls ∈ Wd) (hg3 : (own, idx, y) ∈ Nm) (hg4 : Cond.instanceMethod y ∈ Wd) (hy : y.name = "<init>") (hd : Gd y C n) (hR : fr + 1 ≤ R.frames ∧ 8 + (maxL + 11) + lo ≤ R.locals)
    (hZ : Sa G A s s.heap) (hP : va_P G.1 vwCl ws H) (hD : va_D A ws) (hS : va_S A s.heap H locs) (hA0 : ∀ q : Nat, s.heap.size ≤ q → A q)
    (hper : ws.Perm (wr ++ wc)) (hp2 : ∀ x, (wr ++ w' x).Perm (w2 x))
    (hn : As.length = n) (hls : ls.size = nL) (hcat : (rest.map fun v => v.category).sum ≤ 8) (hcl : cells + mc ≤ R.cells ∧ slots + ms ≤ R.slots) (hdg : decode cc pc = .ok (.invokespecial idx, 3))
    (kk : ∀ (x : X) (H1 : Heap) (locs1 : List Loc), va_P G.1 vwCl (w2 x) H1 → va_D A (w2 x) → va_S A s.heap H1 locs1 → W p l e R s m args below meth c H1 locs1 (cells + mc) (slots + ms) Q (F0 m (pc + 3) ls rest)) : W p l e R s m args below meth c H locs cells slots Q (F0 m pc ls (As.reverse ++ .ref b :: rest)) :=
  wr_core (v := none) (va_runIN (host := "LatheCopies") (As := As) (rest := rest) ⟨hx, hb, hml, hown, hA.hts⟩ (hM H.size) ⟨va_cnB n hA.hts (fun w hw => by rw [List.mem_singleton.mp hw]; exact ⟨hg1, Or.inl rfl⟩) rfl rfl rfl (hA.2.2.2.2.1 _ hg3) (hA.hts _ hg2) hd.2 hR, hy, hA.hts _ hg4⟩ ⟨Pwr.blind, wr_pre (own2 := own) hA hZ hP hD hS hA0 hper⟩ rfl hn hls rfl (lv_room hcat) hdg hcl) hP hD hS hA0 hper hp2 kk
theorem lv_ifnullQ {o : Option Nat} {off : Int} {tgt : Nat} (hexec : p.tables.exec = Jvm.exec) (hb : c.code = cc) (hdg : decode cc pc = .ok (.ifnull off, 3)) (ht : (pc : Int) + off = (tgt : Int)) (kt : o.isNone = true → W p l e R s m args below meth c H locs cells slots Q (F0 m tgt ls rest)) (kf : ¬ o.isNone = true → W p l e R s m args below meth c H locs cells slots Q (F0 m (pc + 3) ls rest)) : W p l e R s m args below meth c H locs cells slots Q (F0 m pc ls (va_rf o :: rest)) := by
  cases o with
  | none => exact lv_ifnullN hexec hb hdg ht (kt rfl)
  | some r => exact lv_ifnull (x := r) hexec hb hdg (kf (by simp))
theorem cI_eq {cA : ClassId} (hA : Am G s) {D : va_G} {tys : List (ClassId × FieldType)} (hK : va_K D vwCl (tys ++ [(cA, .int)]) s) : cA = G.2.1 := by
  have h1 := (hA.K.2 0 (G.2.1, .int) rfl).2
  have h2 := (hK.2 tys.length (cA, .int) (by simp)).2
  exact Option.some.inj ((show s.vm.findClass _ = some cA from h2).symm.trans (show s.vm.findClass _ = some G.2.1 from h1))
theorem cL_eq {cA : ClassId} (hA : Am G s) {D : va_G} {tys : List (ClassId × FieldType)} (hK : va_K D vwCl (tys ++ [(cA, .object "LatheCopies$Lathe")]) s) : cA = G.2.2.1 := by
  obtain ⟨k1, c1, -, -, -, h1⟩ := (hA.K.2 1 (G.2.2.1, .object "LatheCopies$Lathe") rfl).2
  obtain ⟨k2, c2, -, -, -, h2⟩ := (hK.2 tys.length (cA, .object "LatheCopies$Lathe") (by simp)).2
  exact Option.some.inj (h2.symm.trans h1)
end RT
theorem omr {α : Type} {o : Option α} {z : α} (h : o.map (Sum.inr (α := Nat)) = some (.inr z)) : o = some z := by
  cases o with
  | none => cases h
  | some r => cases h; rfl
theorem oml {α : Type} {o : Option α} {z : Nat} (h : o.map (Sum.inr (α := Nat)) = some (.inl z)) : False := by
  cases o with
  | none => cases h
  | some r => cases h
