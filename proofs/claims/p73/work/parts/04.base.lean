def Nf : List (String × Nat × String × String × String) := [("LatheCopies$Lathe", 62, "LatheCopies$Masters", "chosen", "I"), ("LatheCopies", 76, "LatheCopies$Masters", "chosen", "I"), ("LatheCopies$Lathe", 50, "LatheCopies$Follower", "radius", "I"), ("LatheCopies", 228, "LatheCopies$Follower", "radius", "I"), ("LatheCopies$Lathe", 72, "LatheCopies$Follower", "wear", "I"), ("LatheCopies", 84, "LatheCopies$Follower", "wear", "I"), ("LatheCopies$Lathe", 75, "LatheCopies$Follower", "offset", "I"), ("LatheCopies", 92, "LatheCopies$Follower", "offset", "I"), ("LatheCopies", 99, "LatheCopies$Cutter", "sharpness", "I"), ("LatheCopies", 113, "LatheCopies$Cutter", "depth", "I"), ("LatheCopies$Lathe", 99, "LatheCopies$Cutter", "speed", "I"), ("LatheCopies", 116, "LatheCopies$Cutter", "speed", "I"), ("LatheCopies", 234, "LatheCopies$Rack", "woods", "LLatheCopies$Row;"), ("LatheCopies$Lathe", 112, "LatheCopies$Rack", "passesDone", "LLatheCopies$Row;"), ("LatheCopies", 238, "LatheCopies$Rack", "passesDone", "LLatheCopies$Row;"), ("LatheCopies", 137, "LatheCopies$Rack", "count", "I"), ("LatheCopies$Lathe", 93, "LatheCopies$Rack", "mounted", "I"), ("LatheCopies", 152, "LatheCopies$Rack", "mounted", "I"), ("LatheCopies$Lathe", 106, "LatheCopies$Accounts", "passes", "I"), ("LatheCopies", 244, "LatheCopies$Accounts", "passes", "I"), ("LatheCopies$Lathe", 109, "LatheCopies$Accounts", "woodTaken", "I"), ("LatheCopies", 247, "LatheCopies$Accounts", "woodTaken", "I"), ("LatheCopies", 108, "LatheCopies$Accounts", "sharpenings", "I"), ("LatheCopies$Lathe", 138, "LatheCopies$Accounts", "jams", "I"), ("LatheCopies", 250, "LatheCopies$Accounts", "jams", "I"), ("LatheCopies", 158, "LatheCopies$Accounts", "burnt", "I"), ("LatheCopies", 56, "LatheCopies$Lathe", "masters", "LLatheCopies$Masters;"), ("LatheCopies", 80, "LatheCopies$Lathe", "follower", "LLatheCopies$Follower;"), ("LatheCopies", 95, "LatheCopies$Lathe", "cutter", "LLatheCopies$Cutter;"), ("LatheCopies", 133, "LatheCopies$Lathe", "rack", "LLatheCopies$Rack;"), ("LatheCopies", 104, "LatheCopies$Lathe", "accounts", "LLatheCopies$Accounts;"), ("LatheCopies", 119, "LatheCopies$Lathe", "tolerance", "I"), ("LatheCopies", 122, "LatheCopies$Lathe", "chips", "I"), ("LatheCopies", 125, "LatheCopies$Lathe", "jammed", "Z"), ("LatheCopies", 224, "LatheCopies$History", "count", "I")]
theorem nf_0 : ("LatheCopies$Lathe", 62, "LatheCopies$Masters", "chosen", "I") ∈ Nf := List.mem_of_getElem? (i := 0) rfl
theorem nf_1 : ("LatheCopies", 76, "LatheCopies$Masters", "chosen", "I") ∈ Nf := List.mem_of_getElem? (i := 1) rfl
theorem nf_2 : ("LatheCopies$Lathe", 50, "LatheCopies$Follower", "radius", "I") ∈ Nf := List.mem_of_getElem? (i := 2) rfl
theorem nf_3 : ("LatheCopies", 228, "LatheCopies$Follower", "radius", "I") ∈ Nf := List.mem_of_getElem? (i := 3) rfl
theorem nf_4 : ("LatheCopies$Lathe", 72, "LatheCopies$Follower", "wear", "I") ∈ Nf := List.mem_of_getElem? (i := 4) rfl
theorem nf_5 : ("LatheCopies", 84, "LatheCopies$Follower", "wear", "I") ∈ Nf := List.mem_of_getElem? (i := 5) rfl
theorem nf_6 : ("LatheCopies$Lathe", 75, "LatheCopies$Follower", "offset", "I") ∈ Nf := List.mem_of_getElem? (i := 6) rfl
theorem nf_7 : ("LatheCopies", 92, "LatheCopies$Follower", "offset", "I") ∈ Nf := List.mem_of_getElem? (i := 7) rfl
theorem nf_8 : ("LatheCopies", 99, "LatheCopies$Cutter", "sharpness", "I") ∈ Nf := List.mem_of_getElem? (i := 8) rfl
theorem nf_9 : ("LatheCopies", 113, "LatheCopies$Cutter", "depth", "I") ∈ Nf := List.mem_of_getElem? (i := 9) rfl
theorem nf_10 : ("LatheCopies$Lathe", 99, "LatheCopies$Cutter", "speed", "I") ∈ Nf := List.mem_of_getElem? (i := 10) rfl
theorem nf_11 : ("LatheCopies", 116, "LatheCopies$Cutter", "speed", "I") ∈ Nf := List.mem_of_getElem? (i := 11) rfl
theorem nf_12 : ("LatheCopies", 234, "LatheCopies$Rack", "woods", "LLatheCopies$Row;") ∈ Nf := List.mem_of_getElem? (i := 12) rfl
theorem nf_13 : ("LatheCopies$Lathe", 112, "LatheCopies$Rack", "passesDone", "LLatheCopies$Row;") ∈ Nf := List.mem_of_getElem? (i := 13) rfl
theorem nf_14 : ("LatheCopies", 238, "LatheCopies$Rack", "passesDone", "LLatheCopies$Row;") ∈ Nf := List.mem_of_getElem? (i := 14) rfl
theorem nf_15 : ("LatheCopies", 137, "LatheCopies$Rack", "count", "I") ∈ Nf := List.mem_of_getElem? (i := 15) rfl
theorem nf_16 : ("LatheCopies$Lathe", 93, "LatheCopies$Rack", "mounted", "I") ∈ Nf := List.mem_of_getElem? (i := 16) rfl
theorem nf_17 : ("LatheCopies", 152, "LatheCopies$Rack", "mounted", "I") ∈ Nf := List.mem_of_getElem? (i := 17) rfl
theorem nf_18 : ("LatheCopies$Lathe", 106, "LatheCopies$Accounts", "passes", "I") ∈ Nf := List.mem_of_getElem? (i := 18) rfl
theorem nf_19 : ("LatheCopies", 244, "LatheCopies$Accounts", "passes", "I") ∈ Nf := List.mem_of_getElem? (i := 19) rfl
theorem nf_20 : ("LatheCopies$Lathe", 109, "LatheCopies$Accounts", "woodTaken", "I") ∈ Nf := List.mem_of_getElem? (i := 20) rfl
theorem nf_21 : ("LatheCopies", 247, "LatheCopies$Accounts", "woodTaken", "I") ∈ Nf := List.mem_of_getElem? (i := 21) rfl
theorem nf_22 : ("LatheCopies", 108, "LatheCopies$Accounts", "sharpenings", "I") ∈ Nf := List.mem_of_getElem? (i := 22) rfl
theorem nf_23 : ("LatheCopies$Lathe", 138, "LatheCopies$Accounts", "jams", "I") ∈ Nf := List.mem_of_getElem? (i := 23) rfl
theorem nf_24 : ("LatheCopies", 250, "LatheCopies$Accounts", "jams", "I") ∈ Nf := List.mem_of_getElem? (i := 24) rfl
theorem nf_25 : ("LatheCopies", 158, "LatheCopies$Accounts", "burnt", "I") ∈ Nf := List.mem_of_getElem? (i := 25) rfl
theorem nf_26 : ("LatheCopies", 56, "LatheCopies$Lathe", "masters", "LLatheCopies$Masters;") ∈ Nf := List.mem_of_getElem? (i := 26) rfl
theorem nf_27 : ("LatheCopies", 80, "LatheCopies$Lathe", "follower", "LLatheCopies$Follower;") ∈ Nf := List.mem_of_getElem? (i := 27) rfl
theorem nf_28 : ("LatheCopies", 95, "LatheCopies$Lathe", "cutter", "LLatheCopies$Cutter;") ∈ Nf := List.mem_of_getElem? (i := 28) rfl
theorem nf_29 : ("LatheCopies", 133, "LatheCopies$Lathe", "rack", "LLatheCopies$Rack;") ∈ Nf := List.mem_of_getElem? (i := 29) rfl
theorem nf_30 : ("LatheCopies", 104, "LatheCopies$Lathe", "accounts", "LLatheCopies$Accounts;") ∈ Nf := List.mem_of_getElem? (i := 30) rfl
theorem nf_31 : ("LatheCopies", 119, "LatheCopies$Lathe", "tolerance", "I") ∈ Nf := List.mem_of_getElem? (i := 31) rfl
theorem nf_32 : ("LatheCopies", 122, "LatheCopies$Lathe", "chips", "I") ∈ Nf := List.mem_of_getElem? (i := 32) rfl
theorem nf_33 : ("LatheCopies", 125, "LatheCopies$Lathe", "jammed", "Z") ∈ Nf := List.mem_of_getElem? (i := 33) rfl
theorem nf_34 : ("LatheCopies", 224, "LatheCopies$History", "count", "I") ∈ Nf := List.mem_of_getElem? (i := 34) rfl
def Nm : List (String × Nat × MethodName) := [("LatheCopies", 9, ⟨"LatheCopies$Lathe", "<init>", "()V"⟩), ("LatheCopies$Lathe", 20, ⟨"LatheCopies$Follower", "<init>", "()V"⟩), ("LatheCopies$Lathe", 27, ⟨"LatheCopies$Cutter", "<init>", "()V"⟩), ("LatheCopies$Lathe", 34, ⟨"LatheCopies$Rack", "<init>", "()V"⟩), ("LatheCopies$Lathe", 41, ⟨"LatheCopies$Accounts", "<init>", "()V"⟩), ("LatheCopies", 18, ⟨"LatheCopies$History", "<init>", "()V"⟩), ("LatheCopies", 25, ⟨"LatheCopies$MasterText", "<init>", "()V"⟩), ("LatheCopies$History", 38, ⟨"LatheCopies$Lathe", "<init>", "()V"⟩)]
theorem nm_0 : ("LatheCopies", 9, ⟨"LatheCopies$Lathe", "<init>", "()V"⟩) ∈ Nm := List.mem_of_getElem? (i := 0) rfl
theorem nm_1 : ("LatheCopies$Lathe", 20, ⟨"LatheCopies$Follower", "<init>", "()V"⟩) ∈ Nm := List.mem_of_getElem? (i := 1) rfl
theorem nm_2 : ("LatheCopies$Lathe", 27, ⟨"LatheCopies$Cutter", "<init>", "()V"⟩) ∈ Nm := List.mem_of_getElem? (i := 2) rfl
theorem nm_3 : ("LatheCopies$Lathe", 34, ⟨"LatheCopies$Rack", "<init>", "()V"⟩) ∈ Nm := List.mem_of_getElem? (i := 3) rfl
theorem nm_4 : ("LatheCopies$Lathe", 41, ⟨"LatheCopies$Accounts", "<init>", "()V"⟩) ∈ Nm := List.mem_of_getElem? (i := 4) rfl
theorem nm_5 : ("LatheCopies", 18, ⟨"LatheCopies$History", "<init>", "()V"⟩) ∈ Nm := List.mem_of_getElem? (i := 5) rfl
theorem nm_6 : ("LatheCopies", 25, ⟨"LatheCopies$MasterText", "<init>", "()V"⟩) ∈ Nm := List.mem_of_getElem? (i := 6) rfl
theorem nm_7 : ("LatheCopies$History", 38, ⟨"LatheCopies$Lathe", "<init>", "()V"⟩) ∈ Nm := List.mem_of_getElem? (i := 7) rfl
def Xd : List MethodName := []
def Xc : List (String × String) := []
def Xn : List (String × String) := []
theorem wd_good : ∀ w ∈ Wd, goodWord w = true := by
  intro w hw
  unfold Wd at hw
  simp only [List.mem_append] at hw
  rcases hw with hw | hw | hw | hw | hw | hw | hw | hw | hw | hw | hw | hw | hw | hw | hw | hw | hw | hw | hw | hw | hw | hw
  · exact List.all_eq_true.mp wgd_0 w hw
  · exact List.all_eq_true.mp wgd_1 w hw
  · exact List.all_eq_true.mp wgd_2 w hw
  · exact List.all_eq_true.mp wgd_3 w hw
  · exact List.all_eq_true.mp wgd_4 w hw
  · exact List.all_eq_true.mp wgd_5 w hw
  · exact List.all_eq_true.mp wgd_6 w hw
  · exact List.all_eq_true.mp wgd_7 w hw
  · exact List.all_eq_true.mp wgd_8 w hw
  · exact List.all_eq_true.mp wgd_9 w hw
  · exact List.all_eq_true.mp wgd_10 w hw
  · exact List.all_eq_true.mp wgd_11 w hw
  · exact List.all_eq_true.mp (show (u_ws RX0 TX0 5).all goodWord = true by decide +kernel) w hw
  · exact List.all_eq_true.mp (show (u_ws RX1 TX1 3).all goodWord = true by decide +kernel) w hw
  · exact List.all_eq_true.mp (show (u_ws RX2 TX2 4).all goodWord = true by decide +kernel) w hw
  · exact List.all_eq_true.mp (show (u_ws RX3 TX3 4).all goodWord = true by decide +kernel) w hw
  · exact List.all_eq_true.mp (show (u_ws RX4 TX4 8).all goodWord = true by decide +kernel) w hw
  · exact List.all_eq_true.mp (show (u_ws RX5 TX5 7).all goodWord = true by decide +kernel) w hw
  · exact List.all_eq_true.mp (show (u_ws RX6 TX6 2).all goodWord = true by decide +kernel) w hw
  · exact List.all_eq_true.mp (show (u_ws RX7 TX7 5).all goodWord = true by decide +kernel) w hw
  · exact List.all_eq_true.mp (show (u_ws RX8 TX8 1).all goodWord = true by decide +kernel) w hw
  · exact List.all_eq_true.mp (show (u_ws RX9 TX9 5).all goodWord = true by decide +kernel) w hw
/-! the ambient: what the tables say, the same for every method of the class and of the reference -/
abbrev GG : Type := va_G × ClassId × ClassId × Nat × Nat × ClassId × ClassId
def Am (G : GG) (U : State) : Prop :=
  (∀ w ∈ Wd, w.before #[] U = true) ∧ (∀ q ∈ Nf, va_Nw (.fieldLinkNest q.1 q.2.1 q.2.2.1 q.2.2.2.1 q.2.2.2.2 "LatheCopies") U) ∧ (∀ x ∈ Xd, va_Nw (.declares x) U) ∧ (∀ x ∈ Xc, va_Nw (.castable x.1 x.2) U) ∧ (∀ q ∈ Nm, va_Nw (.methodLinkNest q.1 q.2.1 q.2.2 "LatheCopies") U) ∧ (∀ x ∈ Xn, va_Nc x.1 x.2 U) ∧ va_AO "LatheCopies$Lathe" U ∧ va_K G.1 vwCl [(G.2.1, .int), (G.2.2.1, .object "LatheCopies$Lathe")] U
theorem Am.moved {G : GG} {s U : State} (hW : s.WarmedH U.vm) (h : Am G s) : Am G U := by
  obtain ⟨h1, h2, h3, h4, h6, h7, h8, h5⟩ := h
  refine ⟨fun w hw => word_at hW (good_of_word (wd_good w hw)) (h1 w hw), fun q hq => va_Nw.warmF hW (h2 q hq), fun x hx => va_Nw.warmD hW (h3 x hx), fun x hx => va_Nw.warmC hW (h4 x hx), fun q hq => va_Nw.warmM hW (h6 q hq), fun x hx => va_Nc.moved hW.alike (h7 x hx), va_AO.moved hW.alike h8, va_K.moved hW.alike h5⟩
theorem Am.hts {G : GG} {s : State} (h : Am G s) {args : Array Value} : ∀ w ∈ Wd, w.before args s = true :=
  fun w hw => word_at (State.WarmedH.refl s) (good_of_word (wd_good w hw)) (h.1 w hw)
theorem Am.nf {G : GG} {s : State} (h : Am G s) {args : Array Value} (q : String × Nat × String × String × String) (hq : q ∈ Nf) : (Cond.fieldLinkNest q.1 q.2.1 q.2.2.1 q.2.2.2.1 q.2.2.2.2 "LatheCopies").before args s = true :=
  va_Nw.use rfl (h.2.1 q hq)
theorem Am.K {G : GG} {s : State} (h : Am G s) : va_K G.1 vwCl [(G.2.1, .int), (G.2.2.1, .object "LatheCopies$Lathe")] s := h.2.2.2.2.2.2.2
/-- what the statics hold, at cells that A does not name -/
def Sa (G : GG) (A : Nat → Prop) (U : State) (H : Heap) : Prop :=
  va_Z "LatheCopies$Rack" "HARDNESSES" "[I" (.ref G.2.2.2.2.1) A U H ∧ va_T .int G.2.2.2.2.1 3 (fun j => .int ([1, 2, 4].getD j 0)) A U H
theorem Sa.moved {G : GG} {A : Nat → Prop} {u U : State} {H : Heap} (hvm : u.vm.Alike U.vm) (h : Sa G A u H) : Sa G A U H :=
  ⟨va_Z.moved hvm h.1, va_T.moved hvm h.2⟩
theorem Sa.kept {G : GG} {A : Nat → Prop} {U : State} {H H1 : Heap} (h : Sa G A U H) (hq : ∀ a : Nat, a < H.size → ¬ A a → H1[a]? = H[a]?) : Sa G A U H1 :=
  ⟨va_Z.kept h.1 hq, va_T.kept h.2 hq⟩
theorem Sa.narrow {G : GG} {A B : Nat → Prop} {U : State} {H : Heap} (h : Sa G A U H) (hAB : ∀ q, B q → A q) : Sa G B U H :=
  ⟨va_Z.narrow h.1 hAB, va_T.narrow h.2 hAB⟩
abbrev nA : Nat → Prop := fun _ => False
theorem Sa.at {G : GG} {A : Nat → Prop} {s : State} {H : Heap} {locs : List Loc} (h : Sa G A s s.heap) (hS : va_S A s.heap H locs) : Sa G nA s H := (h.kept hS.2.1).narrow (fun _ z => z.elim)
theorem Sa.to {G : GG} {A B : Nat → Prop} {s : State} {H : Heap} {locs : List Loc} (h : Sa G A s s.heap) (hS : va_S A s.heap H locs) (hAB : ∀ q, B q → A q) : Sa G B s H := (h.kept hS.2.1).narrow hAB
/-! contracts: Ro reads, Wr writes its world -/
def Qro (v : Option Value) : Array Value → State → Outcome → State → Prop := fun _ st o t => o = .returned v ∧ t.heap = st.heap
def Pro (G : GG) (As : List Value) (w : va_W) : Array Value → State → Prop := fun a U => a = As.toArray ∧ Am G U ∧ Sa G nA U U.heap ∧ va_P G.1 vwCl w U.heap
def Ro (l : Launch) (G : GG) (y : MethodName) (cc : ByteArray) (n : Nat) (ret : Option FieldType) (fr lo : Nat) (As : List Value) (w : va_W) (v : Option Value) : Prop :=
  Met l y [.code y cc n ret] { frames := fr, cells := 0, slots := 0, locals := lo } (Pro G As w) (Qro v) 0 0 nA
theorem Pro.blind {G : GG} {As : List Value} {w : va_W} : FrameBlind (Pro G As w) := fun _ U _ _ h =>
  ⟨h.1, Am.moved (s := U) (State.WarmedH.refl U) h.2.1, Sa.moved (u := U) (Vm.Alike.refl U.vm) h.2.2.1, h.2.2.2⟩
theorem ro_of {l : Launch} {G : GG} {y : MethodName} {cc : ByteArray} {n : Nat} {ret : Option FieldType} {fr lo : Nat} {As : List Value} {w : va_W} {v : Option Value} (hy : plainName y.cls = true) (hn : (lg_sl As).length ≤ n)
    (body : ∀ (p : Program) (e : Env) (s : State) (m : MethodId) (args : Array Value) (below : List Frame) (meth : Method) (c : Code) (ls : Array Slot), p.tables.exec = Jvm.exec → c.code = cc → meth.sig.returnType = ret → c.maxLocals = n → s.vm.findClass y.cls = some m.cls → meth.locks = false → Am G s → Sa G nA s s.heap → va_P G.1 vwCl w s.heap → lv_has ls n (lv_args 0 As) →
      W p l e { frames := fr, cells := 0, slots := 0, locals := lo } s m args below meth c s.heap [] 0 0 (MQ below (Qro v) args s 0 0 nA) (F0 m 0 ls [])) : Ro l G y cc n ret fr lo As w v := by
  refine Met.ofW (cc := cc) (maxL := n) (ret := ret) hy rfl ?_
  intro p e s m args below meth c s₁ B hml hv
  obtain ⟨rfl, hA, hZ, hP⟩ := hv
  rw [lg_entry_eq]
  exact body p e s m _ below meth c _ B.exec B.bytes B.returns hml (findClass_of_methodNamed B.named) B.notSynchronized hA hZ hP (lv_entry As hn)
def Qwr (G : GG) (A : Nat → Prop) {X : Type} (w' : X → va_W) (v : Option Value) : Array Value → State → Outcome → State → Prop := fun _ st o t => (∃ x : X, o = .returned v ∧ va_P G.1 vwCl (w' x) t.heap ∧ va_D A (w' x)) ∧ va_F A st t
def Pwr (G : GG) (sz : Nat) (As : List Value) (w : va_W) : Array Value → State → Prop := fun a U => a = As.toArray ∧ Am G U ∧ Sa G (va_A w sz) U U.heap ∧ va_P G.1 vwCl w U.heap ∧ va_D (fun _ => True) w ∧ U.heap.size = sz
def Wr (l : Launch) (G : GG) (y : MethodName) (cc : ByteArray) (n : Nat) (ret : Option FieldType) (fr lo mc ms : Nat) (As : List Value) (w : va_W) {X : Type} (w' : X → va_W) (v : Option Value) : Prop :=
  ∀ sz : Nat, Met l y [.code y cc n ret] { frames := fr, cells := mc, slots := ms, locals := lo } (Pwr G sz As w) (Qwr G (va_A w sz) w' v) mc ms (va_A w sz)
theorem Pwr.blind {G : GG} {sz : Nat} {As : List Value} {w : va_W} : FrameBlind (Pwr G sz As w) := fun _ U _ _ h =>
  ⟨h.1, Am.moved (s := U) (State.WarmedH.refl U) h.2.1, Sa.moved (u := U) (Vm.Alike.refl U.vm) h.2.2.1, h.2.2.2.1, h.2.2.2.2.1, h.2.2.2.2.2⟩
theorem wr_of {l : Launch} {G : GG} {y : MethodName} {cc : ByteArray} {n : Nat} {ret : Option FieldType} {fr lo mc ms : Nat} {As : List Value} {w : va_W} {X : Type} {w' : X → va_W} {v : Option Value} (hy : plainName y.cls = true) (hn : (lg_sl As).length ≤ n)
    (body : ∀ (p : Program) (e : Env) (s : State) (m : MethodId) (args : Array Value) (below : List Frame) (meth : Method) (c : Code) (ls : Array Slot) (A : Nat → Prop), p.tables.exec = Jvm.exec → c.code = cc → meth.sig.returnType = ret → c.maxLocals = n → s.vm.findClass y.cls = some m.cls → meth.locks = false → Am G s → Sa G A s s.heap → va_P G.1 vwCl w s.heap → va_D A w → va_S A s.heap s.heap [] → (∀ q : Nat, s.heap.size ≤ q → A q) → meth.name = y.name → lv_has ls n (lv_args 0 As) →
      W p l e { frames := fr, cells := mc, slots := ms, locals := lo } s m args below meth c s.heap [] 0 0 (MQ below (Qwr G A w' v) args s mc ms A) (F0 m 0 ls [])) : Wr l G y cc n ret fr lo mc ms As w w' v := by
  intro sz
  refine Met.ofW (cc := cc) (maxL := n) (ret := ret) hy rfl ?_
  intro p e s m args below meth c s₁ B hml hv
  obtain ⟨rfl, hA, hZ, hP, hD, hsz⟩ := hv
  subst hsz
  rw [lg_entry_eq]
  exact body p e s m _ below meth c _ _ B.exec B.bytes B.returns hml (findClass_of_methodNamed B.named) B.notSynchronized hA hZ hP (hD.self (sz := s.heap.size)) va_S.rf (fun q h => Or.inr h) (name_of_methodNamed B.named B.method).1 (lv_entry As hn)
/-! words of a call -/
theorem gV {own C : String} {idx n : Nat} {y : MethodName} {cc : ByteArray} {ret : Option FieldType} (h1 : Cond.methodLink own idx y ∈ Wd) (h2 : Cond.instanceMethod y ∈ Wd) (h3 : Cond.selects C y y ∈ Wd) (h4 : Cond.initialized C ∈ Wd) (h5 : Cond.code y cc n ret ∈ Wd) : GoodIn Wd (wsV own idx C y [.code y cc n ret]) := by
  intro w hw
  simp only [wsV, List.cons_append, List.nil_append, List.mem_cons, List.not_mem_nil, or_false] at hw
  rcases hw with rfl | rfl | rfl | rfl | rfl
  · exact ⟨h1, Or.inl rfl⟩
  · exact ⟨h2, Or.inl rfl⟩
  · exact ⟨h3, Or.inl rfl⟩
  · exact ⟨h4, Or.inl rfl⟩
  · exact ⟨h5, Or.inl rfl⟩
theorem gS {own : String} {idx n : Nat} {y : MethodName} {cc : ByteArray} {ret : Option FieldType} (h1 : Cond.methodLink own idx y ∈ Wd) (h2 : Cond.static y ∈ Wd) (h4 : Cond.initialized own ∈ Wd) (h5 : Cond.code y cc n ret ∈ Wd) : GoodIn Wd (wsS own idx y [.code y cc n ret]) := by
  intro w hw
  simp only [wsS, List.cons_append, List.nil_append, List.mem_cons, List.not_mem_nil, or_false] at hw
  rcases hw with rfl | rfl | rfl | rfl
  · exact ⟨h1, Or.inl rfl⟩
  · exact ⟨h2, Or.inl rfl⟩
  · exact ⟨h4, Or.inl rfl⟩
  · exact ⟨h5, Or.inl rfl⟩
section RW
variable {p : Program} {l : Launch} {e : Env} {R : Room} {s : State} {m : MethodId} {args : Array Value} {below : List Frame} {meth : Method} {c : Code} {H : Heap} {locs : List Loc} {cells slots : Nat} {Q : State → Prop}
variable {G : GG} {cc bytes : ByteArray} {nL maxL idx n mc ms fr lo pc q0 ci k : Nat} {own C : String} {y : MethodName} {ret : Option FieldType} {As rest fs : List Value} {w : va_W} {v : Option Value} {b : Nat} {ls : Array Slot} {A : Nat → Prop} {T : u_T} {N : Nat}
abbrev Gd (y : MethodName) (C : String) (n : Nat) : Prop := y.cls = C ∧ y.cls ≠ "java/lang/invoke/MethodHandle" ∧ y.cls ≠ "java/lang/invoke/VarHandle" ∧ (parseMethodDescriptor y.desc).map (fun d => d.parameters.length) = some n
/-- behind a call that only read -/
theorem ro_k {st0 : List Value} {a : Array Value} (hr : va_Run p l e R s m args below meth c H locs cells slots 0 0 (F0 m pc ls st0) rest (Qro v a) nA) (k : W p l e R s m args below meth c H locs cells slots Q (F0 m (pc + 3) ls (v.toList ++ rest))) : W p l e R s m args below meth c H locs cells slots Q (F0 m pc ls st0) := by
  intro T hT X
  obtain ⟨v1, st₀, t, T', L, h0, X', hL, e1, e2, ⟨hv, hh⟩, st⟩ := hr T hT X
  cases hv
  have hL0 : L = [] := by
    cases L with
    | nil => rfl
    | cons q L => exact (hL q List.mem_cons_self).elim
  subst hL0
  rw [List.append_nil] at X'
  obtain ⟨t2, a1, b1⟩ := k T' (by rw [e1, hh, h0]) X'
  exact ⟨t2, st t2 a1, b1⟩
theorem ro_v (hx : p.tables.exec = Jvm.exec) (hb : c.code = cc) (hml : c.maxLocals = nL) (hown : s.vm.findClass own = some m.cls) (hA : Am G s) (hM : Ro l G y bytes maxL ret fr lo (.ref b :: As) w v) (hg : GoodIn Wd (wsV own idx C y [.code y bytes maxL ret])) (hd : Gd y C n) (hR : fr + 1 ≤ R.frames ∧ 8 + (maxL + 11) + lo ≤ R.locals)
    (hZ : Sa G nA s H) (hP : va_P G.1 vwCl w H) (hc : vwCl[ci]? = some (C, T, N)) (he : w[q0]? = some (b, .inr (ci, fs))) (hn : As.length = n) (hls : ls.size = nL) (hcat : (rest.map fun v => v.category).sum ≤ 8) (hcl : cells ≤ R.cells ∧ slots ≤ R.slots) (hdg : decode cc pc = .ok (.invokevirtual idx, 3))
    (kk : W p l e R s m args below meth c H locs cells slots Q (F0 m (pc + 3) ls (v.toList ++ rest))) : W p l e R s m args below meth c H locs cells slots Q (F0 m pc ls (As.reverse ++ .ref b :: rest)) :=
  ro_k (va_runV (As := As) (rest := rest) ⟨hx, hb, hml, hown, hA.hts⟩ hM (cwV n hA.hts hg rfl rfl rfl hd hR) ⟨Pro.blind, va_recv hA.K hP hc he, fun U hU hW => ⟨rfl, hA.moved hW, by rw [hU]; exact hZ.moved hW.alike, by rw [hU]; exact hP⟩⟩ rfl hn hls rfl (lv_room hcat) hdg hcl) kk
theorem ro_s (hx : p.tables.exec = Jvm.exec) (hb : c.code = cc) (hml : c.maxLocals = nL) (hown : s.vm.findClass own = some m.cls) (hA : Am G s) (hM : Ro l G y bytes maxL ret fr lo As w v) (hg : GoodIn Wd (wsS own idx y [.code y bytes maxL ret])) (hd : Gd y own n) (hR : fr + 1 ≤ R.frames ∧ 8 + (maxL + 11) + lo ≤ R.locals)
    (hZ : Sa G nA s H) (hP : va_P G.1 vwCl w H) (hn : As.length = n) (hls : ls.size = nL) (hcat : (rest.map fun v => v.category).sum ≤ 8) (hcl : cells ≤ R.cells ∧ slots ≤ R.slots) (hdg : decode cc pc = .ok (.invokestatic idx, 3))
    (kk : W p l e R s m args below meth c H locs cells slots Q (F0 m (pc + 3) ls (v.toList ++ rest))) : W p l e R s m args below meth c H locs cells slots Q (F0 m pc ls (As.reverse ++ rest)) :=
  ro_k (va_runS (As := As) (rest := rest) ⟨hx, hb, hml, hown, hA.hts⟩ hM (cwS n hA.hts hg rfl rfl rfl hd hR) ⟨Pro.blind, fun U hU hW => ⟨rfl, hA.moved hW, by rw [hU]; exact hZ.moved hW.alike, by rw [hU]; exact hP⟩⟩ rfl hn hls rfl (lv_room hcat) hdg hcl) kk
/-- behind a call that wrote: the rest beside what came back, in the caller's order -/
theorem wr_k {X : Type} {w' w2 : X → va_W} {st0 : List Value} {a : Array Value} {ws wc wr : va_W} (hr : va_Run p l e R s m args below meth c H locs cells slots mc ms (F0 m pc ls st0) rest (Qwr G (va_A wc H.size) w' v a) (va_A wc H.size)) (hP : va_P G.1 vwCl ws H) (hD : va_D A ws) (hS : va_S A s.heap H locs) (hA0 : ∀ q : Nat, s.heap.size ≤ q → A q)
    (isC isR isP : List Nat) (hC : isC.map (fun i => ws[i]?) = wc.map some) (hRr : isR.map (fun i => ws[i]?) = wr.map some) (hnd : va_nd isR = true) (hdis : ∀ i ∈ isR, i ∉ isC) (hp2 : ∀ x, isP.map (fun i => (wr ++ w' x)[i]?) = (w2 x).map some) (hnp : va_nd isP = true)
    (kk : ∀ (x : X) (H1 : Heap) (locs1 : List Loc), va_P G.1 vwCl (w2 x) H1 → va_D A (w2 x) → va_S A s.heap H1 locs1 → W p l e R s m args below meth c H1 locs1 (cells + mc) (slots + ms) Q (F0 m (pc + 3) ls (v.toList ++ rest))) : W p l e R s m args below meth c H locs cells slots Q (F0 m pc ls st0) := by
  have hF := va_free (wc := wc) hD hS hA0 isC hC
  intro T hT X
  obtain ⟨v1, st₀, t, T', L, h0, X', hL, e1, e2, ⟨⟨x, hv, hP1, hD1⟩, hFr⟩, st⟩ := hr T hT X
  cases hv
  have hz : H.size ≤ T'.heap.size := by rw [e1, ← h0]; exact hFr.1
  have hk1 : ∀ q : Nat, q < H.size → ¬ va_A wc H.size q → T'.heap[q]? = H[q]? := fun q h1 h2 => by
    rw [e1, hFr.2 q (by rw [h0]; exact h1) h2, h0]
  rw [← e1] at hP1
  obtain ⟨jP, jD⟩ := va_join (wr := wr) (w1 := w' x) hP hD isC isR hC hRr hnd hdis hk1 hF hP1 hD1
  have jP2 : va_P G.1 vwCl (w2 x) T'.heap := by
    refine jP.sub isP ?_
    have h9 := hp2 x
    have h8 : ∀ (is : List Nat) (w8 w9 : va_W), is.map (fun i => w8[i]?) = w9.map some → is.filterMap (fun i => w8[i]?) = w9 := by
      intro is
      induction is with
      | nil => intro w8 w9 h; cases w9 with
        | nil => rfl
        | cons => simp at h
      | cons i is ih => intro w8 w9 h; cases w9 with
        | nil => simp at h
        | cons z w9 =>
          simp only [List.map_cons, List.cons.injEq] at h
          rw [List.filterMap_cons, h.1]
          simp only [ih w8 w9 h.2]
    exact h8 _ _ _ h9
  obtain ⟨t2, a1, b1⟩ := kk x T'.heap (locs ++ L) jP2 (jD.sub isP hnp (hp2 x))
    ⟨Nat.le_trans hS.1 hz, fun q h1 h2 => by rw [hk1 q (Nat.lt_of_lt_of_le h1 hS.1) (fun z => h2 (hF q z))]; exact hS.2.1 q h1 h2, fun q hq => by
      rcases List.mem_append.mp hq with h | h
      · exact hS.2.2 q h
      · exact hF _ (hL q h)⟩ T' rfl X'
  exact ⟨t2, st t2 a1, b1⟩
theorem wr_v {X : Type} {w' w2 : X → va_W} {ws wc wr : va_W} (hx : p.tables.exec = Jvm.exec) (hb : c.code = cc) (hml : c.maxLocals = nL) (hown : s.vm.findClass own = some m.cls) (hA : Am G s) (hM : Wr l G y bytes maxL ret fr lo mc ms (.ref b :: As) wc w' v) (hg : GoodIn Wd (wsV own idx C y [.code y bytes maxL ret])) (hd : Gd y C n) (hR : fr + 1 ≤ R.frames ∧ 8 + (maxL + 11) + lo ≤ R.locals)
    (hZ : Sa G A s s.heap) (hP : va_P G.1 vwCl ws H) (hD : va_D A ws) (hS : va_S A s.heap H locs) (hA0 : ∀ q : Nat, s.heap.size ≤ q → A q) (hc : vwCl[ci]? = some (C, T, N)) (he : wc[q0]? = some (b, .inr (ci, fs)))
    (isC isR isP : List Nat) (hC : isC.map (fun i => ws[i]?) = wc.map some) (hRr : isR.map (fun i => ws[i]?) = wr.map some) (hnc : va_nd isC = true) (hnd : va_nd isR = true) (hdis : ∀ i ∈ isR, i ∉ isC) (hp2 : ∀ x, isP.map (fun i => (wr ++ w' x)[i]?) = (w2 x).map some) (hnp : va_nd isP = true)
    (hn : As.length = n) (hls : ls.size = nL) (hcat : (rest.map fun v => v.category).sum ≤ 8) (hcl : cells + mc ≤ R.cells ∧ slots + ms ≤ R.slots) (hdg : decode cc pc = .ok (.invokevirtual idx, 3))
    (kk : ∀ (x : X) (H1 : Heap) (locs1 : List Loc), va_P G.1 vwCl (w2 x) H1 → va_D A (w2 x) → va_S A s.heap H1 locs1 → W p l e R s m args below meth c H1 locs1 (cells + mc) (slots + ms) Q (F0 m (pc + 3) ls (v.toList ++ rest))) : W p l e R s m args below meth c H locs cells slots Q (F0 m pc ls (As.reverse ++ .ref b :: rest)) := by
  have hDc : va_D A wc := hD.sub isC hnc hC
  have hPc : va_P G.1 vwCl wc H := by
    intro k q hk
    have h1 : (isC.map (fun i => ws[i]?))[k]? = some (some q) := by rw [hC, List.getElem?_map, hk]; rfl
    rw [List.getElem?_map] at h1
    cases hi : isC[k]? with
    | none => rw [hi] at h1; cases h1
    | some i => rw [hi] at h1; exact hP i q (Option.some.inj h1)
  exact wr_k (va_runV (As := As) (rest := rest) ⟨hx, hb, hml, hown, hA.hts⟩ (hM H.size) (cwV n hA.hts hg rfl rfl rfl hd hR) ⟨Pwr.blind, va_recv hA.K hPc hc he, fun U hU hW => ⟨rfl, hA.moved hW, by rw [hU]; exact (hZ.to hS (va_free (wc := wc) hD hS hA0 isC hC)).moved hW.alike, by rw [hU]; exact hPc, hDc.weaken (fun _ _ _ _ => trivial), by rw [hU]⟩⟩ rfl hn hls rfl (lv_room hcat) hdg hcl) hP hD hS hA0 isC isR isP hC hRr hnd hdis hp2 hnp kk
/-! ends -/
theorem ro_iret {x : Int32} (hx : p.tables.exec = Jvm.exec) (hb : c.code = cc) (hr : meth.sig.returnType = some .int) (hlk : meth.locks = false) (hdg : decode cc pc = .ok (.ireturn, 1)) : W p l e R s m args below meth c s.heap [] 0 0 (MQ below (Qro (some (.int x))) args s 0 0 nA) (F0 m pc ls [.int x]) :=
  W.iret hx hb hr (fun t ht _ => ⟨rfl, ht⟩) (fun _ h => nomatch h) hdg hlk
theorem ro_zret {x : Int32} (hx : p.tables.exec = Jvm.exec) (hb : c.code = cc) (hr : meth.sig.returnType = some .boolean) (hlk : meth.locks = false) (hz : x = 0 ∨ x = 1) (hdg : decode cc pc = .ok (.ireturn, 1)) : W p l e R s m args below meth c s.heap [] 0 0 (MQ below (Qro (some (.int x))) args s 0 0 nA) (F0 m pc ls [.int x]) :=
  W.zret hx hb hr (by rcases hz with rfl | rfl <;> rfl) (fun t ht _ => ⟨rfl, ht⟩) (fun _ h => nomatch h) hdg hlk
theorem ro_lret {x : Int64} (hx : p.tables.exec = Jvm.exec) (hb : c.code = cc) (hr : meth.sig.returnType = some .long) (hlk : meth.locks = false) (hdg : decode cc pc = .ok (.lreturn, 1)) : W p l e R s m args below meth c s.heap [] 0 0 (MQ below (Qro (some (.long x))) args s 0 0 nA) (F0 m pc ls [.long x]) :=
  W.lret hx hb hr (fun t ht _ => ⟨rfl, ht⟩) (fun _ h => nomatch h) hdg hlk
theorem ro_dret {x : UInt64} (hx : p.tables.exec = Jvm.exec) (hb : c.code = cc) (hr : meth.sig.returnType = some .double) (hlk : meth.locks = false) (hdg : decode cc pc = .ok (.dreturn, 1)) : W p l e R s m args below meth c s.heap [] 0 0 (MQ below (Qro (some (.double x))) args s 0 0 nA) (F0 m pc ls [.double x]) :=
  W.dret hx hb hr (fun t ht _ => ⟨rfl, ht⟩) (fun _ h => nomatch h) hdg hlk
theorem ro_vret (hx : p.tables.exec = Jvm.exec) (hb : c.code = cc) (hr : meth.sig.returnType = none) (hlk : meth.locks = false) (hdg : decode cc pc = .ok (.return_, 1)) : W p l e R s m args below meth c s.heap [] 0 0 (MQ below (Qro none) args s 0 0 nA) (F0 m pc ls []) :=
  W.vret hx hb hr (fun t ht _ => ⟨rfl, ht⟩) (fun _ h => nomatch h) hdg hlk
theorem wr_iret {X : Type} {w' : X → va_W} {x : Int32} (u : X) (hx : p.tables.exec = Jvm.exec) (hb : c.code = cc) (hr : meth.sig.returnType = some .int) (hlk : meth.locks = false) (hP : va_P G.1 vwCl (w' u) H) (hD : va_D A (w' u)) (hS : va_S A s.heap H locs) (hdg : decode cc pc = .ok (.ireturn, 1)) : W p l e R s m args below meth c H locs mc ms (MQ below (Qwr G A w' (some (.int x))) args s mc ms A) (F0 m pc ls [.int x]) :=
  W.iret hx hb hr (fun t ht _ => ⟨⟨u, rfl, by rw [ht]; exact hP, hD⟩, hS.F ht⟩) hS.2.2 hdg hlk
theorem wr_zret {X : Type} {w' : X → va_W} {x : Int32} (u : X) (hx : p.tables.exec = Jvm.exec) (hb : c.code = cc) (hr : meth.sig.returnType = some .boolean) (hlk : meth.locks = false) (hz : x = 0 ∨ x = 1) (hP : va_P G.1 vwCl (w' u) H) (hD : va_D A (w' u)) (hS : va_S A s.heap H locs) (hdg : decode cc pc = .ok (.ireturn, 1)) : W p l e R s m args below meth c H locs mc ms (MQ below (Qwr G A w' (some (.int x))) args s mc ms A) (F0 m pc ls [.int x]) :=
  W.zret hx hb hr (by rcases hz with rfl | rfl <;> rfl) (fun t ht _ => ⟨⟨u, rfl, by rw [ht]; exact hP, hD⟩, hS.F ht⟩) hS.2.2 hdg hlk
theorem wr_lret {X : Type} {w' : X → va_W} {x : Int64} (u : X) (hx : p.tables.exec = Jvm.exec) (hb : c.code = cc) (hr : meth.sig.returnType = some .long) (hlk : meth.locks = false) (hP : va_P G.1 vwCl (w' u) H) (hD : va_D A (w' u)) (hS : va_S A s.heap H locs) (hdg : decode cc pc = .ok (.lreturn, 1)) : W p l e R s m args below meth c H locs mc ms (MQ below (Qwr G A w' (some (.long x))) args s mc ms A) (F0 m pc ls [.long x]) :=
  W.lret hx hb hr (fun t ht _ => ⟨⟨u, rfl, by rw [ht]; exact hP, hD⟩, hS.F ht⟩) hS.2.2 hdg hlk
theorem wr_dret {X : Type} {w' : X → va_W} {x : UInt64} (u : X) (hx : p.tables.exec = Jvm.exec) (hb : c.code = cc) (hr : meth.sig.returnType = some .double) (hlk : meth.locks = false) (hP : va_P G.1 vwCl (w' u) H) (hD : va_D A (w' u)) (hS : va_S A s.heap H locs) (hdg : decode cc pc = .ok (.dreturn, 1)) : W p l e R s m args below meth c H locs mc ms (MQ below (Qwr G A w' (some (.double x))) args s mc ms A) (F0 m pc ls [.double x]) :=
  W.dret hx hb hr (fun t ht _ => ⟨⟨u, rfl, by rw [ht]; exact hP, hD⟩, hS.F ht⟩) hS.2.2 hdg hlk
theorem wr_vret {X : Type} {w' : X → va_W} (u : X) (hx : p.tables.exec = Jvm.exec) (hb : c.code = cc) (hr : meth.sig.returnType = none) (hlk : meth.locks = false) (hP : va_P G.1 vwCl (w' u) H) (hD : va_D A (w' u)) (hS : va_S A s.heap H locs) (hdg : decode cc pc = .ok (.return_, 1)) : W p l e R s m args below meth c H locs mc ms (MQ below (Qwr G A w' none) args s mc ms A) (F0 m pc ls []) :=
  W.vret hx hb hr (fun t ht _ => ⟨⟨u, rfl, by rw [ht]; exact hP, hD⟩, hS.F ht⟩) hS.2.2 hdg hlk
end RW
/-! pure helpers -/
abbrev mxI (x y : Int32) : Int32 := if x < y then y else x
abbrev mnI (x y : Int32) : Int32 := if y < x then y else x
abbrev abI (x : Int32) : Int32 := if 0 ≤ x then x else 0 - x
theorem ifp {α : Type} {c : Prop} {i : Decidable c} {a b z : α} (hc : c) (h : @ite α c i a b = z) : a = z := (if_pos hc).symm.trans h
theorem ifn {α : Type} {c : Prop} {i : Decidable c} {a b z : α} (hc : ¬ c) (h : @ite α c i a b = z) : b = z := (if_neg hc).symm.trans h
theorem ock {α : Type} {c : Prop} [Decidable c] {a : Option α} {z : α} (h : (if c then a else none) = some z) : c ∧ a = some z := by
  by_cases hc : c
  · rw [if_pos hc] at h; exact ⟨hc, h⟩
  · rw [if_neg hc] at h; cases h
theorem obd {α β : Type} {o : Option α} {k : α → Option β} {z : β} (h : o.bind k = some z) : ∃ r, o = some r ∧ k r = some z := by
  cases o with
  | none => cases h
  | some r => exact ⟨r, rfl, h⟩
theorem vin_g {x : Int32} {n : Nat} (h1 : ¬ x < 0) (h2 : ¬ Int32.ofNat n ≤ x) (hn : n < 2 ^ 31) : vp_in x n := by
  rintro (h | h)
  · exact h1 h
  · apply h2
    rw [Int32.le_iff_toInt_le, show (Int32.ofNat n).toInt = (n : Int) from nI_toInt hn]
    have h3 : ¬ x.toInt < 0 := by rwa [Int32.lt_iff_toInt_lt] at h1
    have h4 : (x.toNatClampNeg : Int) = x.toInt := by
      rw [Int32.toNatClampNeg]; omega
    omega
theorem vin_p {x : Int32} {n : Nat} (h1 : 0 ≤ x) (h2 : ¬ Int32.ofNat n ≤ x) (hn : n < 2 ^ 31) : vp_in x n := by
  refine vin_g ?_ h2 hn
  rw [Int32.lt_iff_toInt_lt]
  rw [Int32.le_iff_toInt_le] at h1
  omega
theorem vin_l {x : Int32} {n : Nat} (h1 : ¬ x < 0) (h2 : x < Int32.ofNat n) (hn : n < 2 ^ 31) : vp_in x n := by
  refine vin_g h1 ?_ hn
  rw [Int32.le_iff_toInt_le]
  rw [Int32.lt_iff_toInt_lt] at h2
  omega
