/-! wrappers: methods with a table of handlers that write their world -/
def WrW (l : Launch) (G : GG) (y : MethodName) (cc : ByteArray) (n : Nat) (ret : Option FieldType) (hh : List (Nat × Nat × Nat × Nat)) (fr lo mc ms : Nat) (As : List Value) (w : va_W) {X : Type} (w' : X → va_W) (v : Option Value) : Prop :=
  ∀ sz : Nat, Met l y [.codeWith y cc n ret hh] { frames := fr, cells := mc, slots := ms, locals := lo } (Pwr G sz As w) (Qwr G (va_A w sz) w' v) mc ms (va_A w sz)
theorem wrw_of {l : Launch} {G : GG} {y : MethodName} {cc : ByteArray} {n : Nat} {ret : Option FieldType} {hh : List (Nat × Nat × Nat × Nat)} {fr lo mc ms : Nat} {As : List Value} {w : va_W} {X : Type} {w' : X → va_W} {v : Option Value} (hy : plainName y.cls = true) (hn : (lg_sl As).length ≤ n) (hcw : Cond.codeWith y cc n ret hh ∈ Wd)
    (body : ∀ (p : Program) (e : Env) (s : State) (m : MethodId) (args : Array Value) (below : List Frame) (meth : Method) (c : Code) (ls : Array Slot) (A : Nat → Prop), p.tables.exec = Jvm.exec → c.code = cc → c.exceptionTable.toList = tableOf hh → meth.sig.returnType = ret → c.maxLocals = n → s.vm.findClass y.cls = some m.cls → meth.locks = false → Am G s → Sa G A s s.heap → va_P G.1 vwCl w s.heap → va_D A w → va_S A s.heap s.heap [] → (∀ q : Nat, s.heap.size ≤ q → A q) → meth.name = y.name → lv_has ls n (lv_args 0 As) →
      W p l e { frames := fr, cells := mc, slots := ms, locals := lo } s m args below meth c s.heap [] 0 0 (MQ below (Qwr G A w' v) args s mc ms A) (F0 m 0 ls [])) : WrW l G y cc n ret hh fr lo mc ms As w w' v := by
  intro sz
  refine va_MetW (cc := cc) (maxL := n) (ret := ret) (hh := hh) (ws' := []) hy rfl ?_
  intro p e s m args below meth c s₁ B hml hv
  obtain ⟨rfl, hA, hZ, hP, hD, hsz⟩ := hv
  subst hsz
  have het := vx_table (x := y) B (hA.hts (args := As.toArray) _ hcw)
  rw [lg_entry_eq]
  exact body p e s m _ below meth c _ _ B.exec B.bytes het B.returns hml (findClass_of_methodNamed B.named) B.notSynchronized hA hZ hP (hD.self (sz := s.heap.size)) va_S.rf (fun q h => Or.inr h) (name_of_methodNamed B.named B.method).1 (lv_entry As hn)
theorem gSW {own : String} {idx n : Nat} {y : MethodName} {cc : ByteArray} {ret : Option FieldType} {hh : List (Nat × Nat × Nat × Nat)} (h1 : Cond.methodLink own idx y ∈ Wd) (h2 : Cond.static y ∈ Wd) (h4 : Cond.initialized y.cls ∈ Wd) (h5 : Cond.codeWith y cc n ret hh ∈ Wd) : GoodIn Wd (va_wsS own idx y [.codeWith y cc n ret hh]) := by
  intro w hw
  simp only [va_wsS, List.cons_append, List.nil_append, List.mem_cons, List.not_mem_nil, or_false] at hw
  rcases hw with rfl | rfl | rfl | rfl
  · exact ⟨h1, Or.inl rfl⟩
  · exact ⟨h2, Or.inl rfl⟩
  · exact ⟨h4, Or.inl rfl⟩
  · exact ⟨h5, Or.inl rfl⟩
section RTW
variable {p : Program} {l : Launch} {e : Env} {R : Room} {s : State} {m : MethodId} {args : Array Value} {below : List Frame} {meth : Method} {c : Code} {H : Heap} {locs : List Loc} {cells slots : Nat} {Q : State → Prop}
variable {G : GG} {cc bytes : ByteArray} {nL maxL idx n mc ms fr lo pc q0 ci k : Nat} {own C : String} {y : MethodName} {ret : Option FieldType} {As rest fs : List Value} {w : va_W} {v : Option Value} {b : Nat} {ls : Array Slot} {A : Nat → Prop} {T : u_T} {N : Nat}
theorem wrw_sP {X : Type} {hh : List (Nat × Nat × Nat × Nat)} {w' w2 : X → va_W} {ws wc wr : va_W} (hx : p.tables.exec = Jvm.exec) (hb : c.code = cc) (hml : c.maxLocals = nL) (hown : s.vm.findClass own = some m.cls) (hA : Am G s) (hM : WrW l G y bytes maxL ret hh fr lo mc ms As wc w' v) (hg : GoodIn Wd (va_wsS own idx y [.codeWith y bytes maxL ret hh])) (hd : Gd y own n) (hR : fr + 1 ≤ R.frames ∧ 8 + (maxL + 11) + lo ≤ R.locals)
    (hZ : Sa G A s s.heap) (hP : va_P G.1 vwCl ws H) (hD : va_D A ws) (hS : va_S A s.heap H locs) (hA0 : ∀ q : Nat, s.heap.size ≤ q → A q)
    (hper : ws.Perm (wr ++ wc)) (hp2 : ∀ x, (wr ++ w' x).Perm (w2 x))
    (hn : As.length = n) (hls : ls.size = nL) (hcat : (rest.map fun v => v.category).sum ≤ 8) (hcl : cells + mc ≤ R.cells ∧ slots + ms ≤ R.slots) (hdg : decode cc pc = .ok (.invokestatic idx, 3))
    (kk : ∀ (x : X) (H1 : Heap) (locs1 : List Loc), va_P G.1 vwCl (w2 x) H1 → va_D A (w2 x) → va_S A s.heap H1 locs1 → W p l e R s m args below meth c H1 locs1 (cells + mc) (slots + ms) Q (F0 m (pc + 3) ls (v.toList ++ rest))) : W p l e R s m args below meth c H locs cells slots Q (F0 m pc ls (As.reverse ++ rest)) :=
  wr_core (vx_runSW (As := As) (rest := rest) ⟨hx, hb, hml, hown, hA.hts⟩ (hM H.size) (vx_cwSW n hA.hts hg rfl rfl rfl hd.2 hR) ⟨Pwr.blind, wr_pre (own2 := own) hA hZ hP hD hS hA0 hper⟩ rfl hn hls rfl (lv_room hcat) hdg hcl) hP hD hS hA0 hper hp2 kk
theorem cat_k {a : Array Value} {st0 : List Value} {E name : String} {ws : va_W} (hown : s.vm.findClass own = some m.cls) (hr : vx_Run p l e R s m args below meth c s.heap [] 0 0 1 6 (F0 m pc ls st0) rest (Qno a) (XCk E) nA) (hP : va_P G.1 vwCl ws s.heap)
    (pre : List ExceptionTableEntry) (x : ExceptionTableEntry) (suf : List ExceptionTableEntry) (hsplit : c.exceptionTable.toList = pre ++ x :: suf) (hpass : ∀ z ∈ pre, covers z pc = false ∨ (z.catchType ≠ 0 ∧ ∃ nm : String, (Cond.classLink own z.catchType nm).before args s = true ∧ va_Nc E nm s)) (hcov : covers x pc = true) (h0 : x.catchType ≠ 0)
    (hlink : (Cond.classLink own x.catchType name).before args s = true) (hcast : (Cond.castable E name).before args s = true)
    (kk : ∀ (q : Nat) (H1 : Heap), va_P G.1 vwCl ws H1 → va_S A s.heap H1 [] → W p l e R s m args below meth c H1 [] 1 6 Q (F0 m x.handlerPc ls [.ref q])) :
    W p l e R s m args below meth c s.heap [] 0 0 Q (F0 m pc ls st0) := by
  intro T hT X
  rcases hr T hT X with ⟨v, st₀, t, T', L, h0', X', hL, e1, e2, hq, st⟩ | ⟨q, st₀, t, T', L, E', ce, h0', X', hL, e1, e2, ⟨hE, hz, hk⟩, hce, hcv, hcl, st⟩
  · exact hq.elim
  · subst hE
    have hL0 : L = [] := by
      cases L with
      | nil => rfl
      | cons q L => exact (hL q List.mem_cons_self).elim
    subst hL0
    rw [h0'] at hz hk
    have hP1 : va_P G.1 vwCl ws T'.heap := va_P_iff.mpr fun q hq => (va_P_iff.mp hP q hq).kept (by rw [e1]; exact hk q.1 (va_P_iff.mp hP q hq).lt)
    have hS1 : va_S A s.heap T'.heap [] := ⟨by rw [e1]; exact hz, fun q h _ => by rw [e1]; exact hk q h, fun _ h => nomatch h⟩
    have k : vx_W p l e R s m args below meth c T'.heap [] 1 6 Q (F0 m pc ls rest) q := vx_catch hown pre x suf hsplit hpass hcov h0 hlink hcast (by rw [e1]; exact hce) hcv hcl (kk q T'.heap hP1 hS1)
    obtain ⟨t2, a1, b1⟩ := k T' rfl X'
    exact ⟨t2, st.trans a1, b1⟩
theorem cat_v {E name : String} {ws wc : va_W} (hx : p.tables.exec = Jvm.exec) (hb : c.code = cc) (hml : c.maxLocals = nL) (hown : s.vm.findClass own = some m.cls) (hA : Am G s) (hM : Th l G y bytes maxL ret fr lo (.ref b :: As) wc E) (hg : GoodIn Wd (wsV own idx C y [.code y bytes maxL ret])) (hd : Gd y C n) (hR : fr + 1 ≤ R.frames ∧ 8 + (maxL + 11) + lo ≤ R.locals)
    (hZ : Sa G nA s s.heap) (hPc : va_P G.1 vwCl wc s.heap) (hc : vwCl[ci]? = some (C, T, N)) (he : wc[q0]? = some (b, .inr (ci, fs))) (hn : As.length = n) (hls : ls.size = nL) (hcat : (rest.map fun v => v.category).sum ≤ 8) (hcl : 0 + 1 ≤ R.cells ∧ 0 + 6 ≤ R.slots) (hdg : decode cc pc = .ok (.invokevirtual idx, 3))
    (hP : va_P G.1 vwCl ws s.heap)
    (pre : List ExceptionTableEntry) (x : ExceptionTableEntry) (suf : List ExceptionTableEntry) (hsplit : c.exceptionTable.toList = pre ++ x :: suf) (hpass : ∀ z ∈ pre, covers z pc = false ∨ (z.catchType ≠ 0 ∧ ∃ nm : String, (Cond.classLink own z.catchType nm).before args s = true ∧ va_Nc E nm s)) (hcov : covers x pc = true) (h0 : x.catchType ≠ 0)
    (hlink : (Cond.classLink own x.catchType name).before args s = true) (hcast : (Cond.castable E name).before args s = true)
    (kk : ∀ (q : Nat) (H1 : Heap), va_P G.1 vwCl ws H1 → va_S A s.heap H1 [] → W p l e R s m args below meth c H1 [] 1 6 Q (F0 m x.handlerPc ls [.ref q])) :
    W p l e R s m args below meth c s.heap [] 0 0 Q (F0 m pc ls (As.reverse ++ .ref b :: rest)) :=
  cat_k hown (vx_runV (As := As) (rest := rest) ⟨hx, hb, hml, hown, hA.hts⟩ hM (cwV n hA.hts hg rfl rfl rfl hd hR) ⟨Pro.blind, va_recv hA.K hPc hc he, fun U hU hW => ⟨rfl, hA.moved hW, by rw [hU]; exact hZ.moved hW.alike, by rw [hU]; exact hPc⟩⟩ rfl hn hls rfl (lv_room hcat) hdg hcl) hP pre x suf hsplit hpass hcov h0 hlink hcast kk
theorem law_ld {b0 L : Nat} {xs : Nat → Int32} {i v : Int32} (hx : p.tables.exec = Jvm.exec) (hb : c.code = cc) (hX : va_X b0 L xs s s.heap) (hbl : b0 < s.heap.size) (hbA : ¬ A b0) (hS : va_S A s.heap H locs) (hin : vp_in i L) (hv : xs i.toNatClampNeg = v) (hdg : decode cc pc = .ok (.iaload, 1))
    (kk : W p l e R s m args below meth c H locs cells slots Q (F0 m (pc + 1) ls (.int v :: rest))) : W p l e R s m args below meth c H locs cells slots Q (F0 m pc ls (.int i :: .ref b0 :: rest)) := by
  subst hv
  exact va_sld hx hb hX hbl hbA hS hin hdg kk
end RTW
theorem xc_0 {G : GG} {s : State} {args : Array Value} (hA : Am G s) : (Cond.castable (exn 0) "java/lang/IndexOutOfBoundsException").before args s = true := va_Nw.use rfl (hA.2.2.2.1 ("java/lang/IndexOutOfBoundsException", "java/lang/IndexOutOfBoundsException") (by simp [Xc]))
theorem xc_1 {G : GG} {s : State} {args : Array Value} (hA : Am G s) : (Cond.castable (exn 1) "java/lang/IllegalArgumentException").before args s = true := va_Nw.use rfl (hA.2.2.2.1 ("java/lang/IllegalArgumentException", "java/lang/IllegalArgumentException") (by simp [Xc]))
theorem xc_2 {G : GG} {s : State} {args : Array Value} (hA : Am G s) : (Cond.castable (exn 2) "java/lang/IllegalStateException").before args s = true := va_Nw.use rfl (hA.2.2.2.1 ("java/lang/IllegalStateException", "java/lang/IllegalStateException") (by simp [Xc]))
theorem xn_10 {G : GG} {s : State} (hA : Am G s) : va_Nc (exn 1) "java/lang/IndexOutOfBoundsException" s := hA.2.2.2.2.2.1 ("java/lang/IllegalArgumentException", "java/lang/IndexOutOfBoundsException") (by simp [Xn])
theorem xn_20 {G : GG} {s : State} (hA : Am G s) : va_Nc (exn 2) "java/lang/IndexOutOfBoundsException" s := hA.2.2.2.2.2.1 ("java/lang/IllegalStateException", "java/lang/IndexOutOfBoundsException") (by simp [Xn])
theorem xn_21 {G : GG} {s : State} (hA : Am G s) : va_Nc (exn 2) "java/lang/IllegalArgumentException" s := hA.2.2.2.2.2.1 ("java/lang/IllegalStateException", "java/lang/IllegalArgumentException") (by simp [Xn])
theorem permE {α : Type} {F Fr Fc T : List α} (h : (Fr ++ Fc).Perm F) : (F ++ T).Perm (Fr ++ (Fc ++ T)) :=
  (h.symm.append_right T).trans (by rw [List.append_assoc])
theorem permF {α : Type} {F Fr Fc T : List α} (h : (Fr ++ Fc).Perm F) : (Fr ++ (Fc ++ T)).Perm (F ++ T) := (permE h).symm
theorem pSubT {D : va_G} {cl : List vw_C} {ws wr wc : va_W} {H : Heap} (h : va_P D cl ws H) (hp : ws.Perm (wr ++ wc)) : va_P D cl wc H :=
  va_P_iff.mpr fun q hq => va_P_iff.mp h q (hp.mem_iff.mpr (List.mem_append_right _ hq))
