
section GEN
variable {p : Program} {l : Launch} {e : Env} {R : Room} {s : State} {m : MethodId} {args : Array Value} {below : List Frame} {meth : Method} {c : Code} {H : Heap} {locs : List Loc} {cells slots : Nat} {Q : State → Prop} {G : GG} {cc : ByteArray} {pc a : Nat} {rest fs : List Value} {w : va_W} {ls : Array Slot} {A : Nat → Prop} {H0 : Heap}
theorem gf_X0_7 (hx : p.tables.exec = Jvm.exec) (hb : c.code = cc) (hown : s.vm.findClass RX0 = some m.cls) (hA : Am G s) (hP : va_P G.1 vwCl w H) (q0 : Nat) (he : w[q0]? = some (a, .inr (0, fs))) {v : Value} (hv : fs[0]? = some v) (hdg : decode cc pc = .ok (.getfield 7, 3)) (kk : W p l e R s m args below meth c H locs cells slots Q (F0 m (pc + 3) ls (v :: rest))) : W p l e R s m args below meth c H locs cells slots Q (F0 m pc ls (.ref a :: rest)) :=
  va_get (D := G.1) (ci := 0) (C := RX0) (T := TX0) (N := 5) hx hb hA.hts wdx_0 hown hA.K hP q0 he rfl 0 (by decide) (hA.hts _ wd_5) (fun _ h9 => h9) hv hdg kk
theorem pf_X0_7 (hx : p.tables.exec = Jvm.exec) (hb : c.code = cc) (hown : s.vm.findClass RX0 = some m.cls) (hA : Am G s) (hP : va_P G.1 vwCl w H) (hD : va_D A w) (hS : va_S A H0 H locs) (q0 : Nat) (he : w[q0]? = some (a, .inr (0, fs))) {v : Int32} (hl : 0 < fs.length) (hdg : decode cc pc = .ok (.putfield 7, 3)) (kk : ∀ (H1 : Heap) (locs1 : List Loc), va_P G.1 vwCl (w.set q0 (a, .inr (0, fs.set 0 (.int v)))) H1 → va_D A (w.set q0 (a, .inr (0, fs.set 0 (.int v)))) → va_S A H0 H1 locs1 → W p l e R s m args below meth c H1 locs1 cells slots Q (F0 m (pc + 3) ls rest)) : W p l e R s m args below meth c H locs cells slots Q (F0 m pc ls (.int v :: .ref a :: rest)) :=
  va_put (D := G.1) (ci := 0) (v := .int v) (ty := .int) (C := RX0) (T := TX0) (N := 5) hx hb hA.hts wdx_0 tyX0 tyX0_ok nmX0 hown hA.K hP hD hS q0 he rfl 0 (by decide) (hA.hts _ wd_5) (fun _ h9 => h9) rfl (by decide +kernel) rfl rfl hl hdg kk
theorem gf_X0_13 (hx : p.tables.exec = Jvm.exec) (hb : c.code = cc) (hown : s.vm.findClass RX0 = some m.cls) (hA : Am G s) (hP : va_P G.1 vwCl w H) (q0 : Nat) (he : w[q0]? = some (a, .inr (0, fs))) {v : Value} (hv : fs[1]? = some v) (hdg : decode cc pc = .ok (.getfield 13, 3)) (kk : W p l e R s m args below meth c H locs cells slots Q (F0 m (pc + 3) ls (v :: rest))) : W p l e R s m args below meth c H locs cells slots Q (F0 m pc ls (.ref a :: rest)) :=
  va_get (D := G.1) (ci := 0) (C := RX0) (T := TX0) (N := 5) hx hb hA.hts wdx_0 hown hA.K hP q0 he rfl 1 (by decide) (hA.hts _ wd_6) (fun _ h9 => h9) hv hdg kk
theorem pf_X0_13 (hx : p.tables.exec = Jvm.exec) (hb : c.code = cc) (hown : s.vm.findClass RX0 = some m.cls) (hA : Am G s) (hP : va_P G.1 vwCl w H) (hD : va_D A w) (hS : va_S A H0 H locs) (q0 : Nat) (he : w[q0]? = some (a, .inr (0, fs))) {v : Int32} (hl : 1 < fs.length) (hdg : decode cc pc = .ok (.putfield 13, 3)) (kk : ∀ (H1 : Heap) (locs1 : List Loc), va_P G.1 vwCl (w.set q0 (a, .inr (0, fs.set 1 (.int v)))) H1 → va_D A (w.set q0 (a, .inr (0, fs.set 1 (.int v)))) → va_S A H0 H1 locs1 → W p l e R s m args below meth c H1 locs1 cells slots Q (F0 m (pc + 3) ls rest)) : W p l e R s m args below meth c H locs cells slots Q (F0 m pc ls (.int v :: .ref a :: rest)) :=
  va_put (D := G.1) (ci := 0) (v := .int v) (ty := .int) (C := RX0) (T := TX0) (N := 5) hx hb hA.hts wdx_0 tyX0 tyX0_ok nmX0 hown hA.K hP hD hS q0 he rfl 1 (by decide) (hA.hts _ wd_6) (fun _ h9 => h9) rfl (by decide +kernel) rfl rfl hl hdg kk
theorem gf_X0_16 (hx : p.tables.exec = Jvm.exec) (hb : c.code = cc) (hown : s.vm.findClass RX0 = some m.cls) (hA : Am G s) (hP : va_P G.1 vwCl w H) (q0 : Nat) (he : w[q0]? = some (a, .inr (0, fs))) {v : Value} (hv : fs[2]? = some v) (hdg : decode cc pc = .ok (.getfield 16, 3)) (kk : W p l e R s m args below meth c H locs cells slots Q (F0 m (pc + 3) ls (v :: rest))) : W p l e R s m args below meth c H locs cells slots Q (F0 m pc ls (.ref a :: rest)) :=
  va_get (D := G.1) (ci := 0) (C := RX0) (T := TX0) (N := 5) hx hb hA.hts wdx_0 hown hA.K hP q0 he rfl 2 (by decide) (hA.hts _ wd_7) (fun _ h9 => h9) hv hdg kk
theorem pf_X0_16 (hx : p.tables.exec = Jvm.exec) (hb : c.code = cc) (hown : s.vm.findClass RX0 = some m.cls) (hA : Am G s) (hP : va_P G.1 vwCl w H) (hD : va_D A w) (hS : va_S A H0 H locs) (q0 : Nat) (he : w[q0]? = some (a, .inr (0, fs))) {v : Int32} (hl : 2 < fs.length) (hdg : decode cc pc = .ok (.putfield 16, 3)) (kk : ∀ (H1 : Heap) (locs1 : List Loc), va_P G.1 vwCl (w.set q0 (a, .inr (0, fs.set 2 (.int v)))) H1 → va_D A (w.set q0 (a, .inr (0, fs.set 2 (.int v)))) → va_S A H0 H1 locs1 → W p l e R s m args below meth c H1 locs1 cells slots Q (F0 m (pc + 3) ls rest)) : W p l e R s m args below meth c H locs cells slots Q (F0 m pc ls (.int v :: .ref a :: rest)) :=
  va_put (D := G.1) (ci := 0) (v := .int v) (ty := .int) (C := RX0) (T := TX0) (N := 5) hx hb hA.hts wdx_0 tyX0 tyX0_ok nmX0 hown hA.K hP hD hS q0 he rfl 2 (by decide) (hA.hts _ wd_7) (fun _ h9 => h9) rfl (by decide +kernel) rfl rfl hl hdg kk
theorem gf_X0_19 (hx : p.tables.exec = Jvm.exec) (hb : c.code = cc) (hown : s.vm.findClass RX0 = some m.cls) (hA : Am G s) (hP : va_P G.1 vwCl w H) (q0 : Nat) (he : w[q0]? = some (a, .inr (0, fs))) {v : Value} (hv : fs[3]? = some v) (hdg : decode cc pc = .ok (.getfield 19, 3)) (kk : W p l e R s m args below meth c H locs cells slots Q (F0 m (pc + 3) ls (v :: rest))) : W p l e R s m args below meth c H locs cells slots Q (F0 m pc ls (.ref a :: rest)) :=
  va_get (D := G.1) (ci := 0) (C := RX0) (T := TX0) (N := 5) hx hb hA.hts wdx_0 hown hA.K hP q0 he rfl 3 (by decide) (hA.hts _ wd_8) (fun _ h9 => h9) hv hdg kk
theorem pf_X0_19 (hx : p.tables.exec = Jvm.exec) (hb : c.code = cc) (hown : s.vm.findClass RX0 = some m.cls) (hA : Am G s) (hP : va_P G.1 vwCl w H) (hD : va_D A w) (hS : va_S A H0 H locs) (q0 : Nat) (he : w[q0]? = some (a, .inr (0, fs))) {v : Int32} (hl : 3 < fs.length) (hdg : decode cc pc = .ok (.putfield 19, 3)) (kk : ∀ (H1 : Heap) (locs1 : List Loc), va_P G.1 vwCl (w.set q0 (a, .inr (0, fs.set 3 (.int v)))) H1 → va_D A (w.set q0 (a, .inr (0, fs.set 3 (.int v)))) → va_S A H0 H1 locs1 → W p l e R s m args below meth c H1 locs1 cells slots Q (F0 m (pc + 3) ls rest)) : W p l e R s m args below meth c H locs cells slots Q (F0 m pc ls (.int v :: .ref a :: rest)) :=
  va_put (D := G.1) (ci := 0) (v := .int v) (ty := .int) (C := RX0) (T := TX0) (N := 5) hx hb hA.hts wdx_0 tyX0 tyX0_ok nmX0 hown hA.K hP hD hS q0 he rfl 3 (by decide) (hA.hts _ wd_8) (fun _ h9 => h9) rfl (by decide +kernel) rfl rfl hl hdg kk
theorem gf_X0_22 (hx : p.tables.exec = Jvm.exec) (hb : c.code = cc) (hown : s.vm.findClass RX0 = some m.cls) (hA : Am G s) (hP : va_P G.1 vwCl w H) (q0 : Nat) (he : w[q0]? = some (a, .inr (0, fs))) {v : Value} (hv : fs[4]? = some v) (hdg : decode cc pc = .ok (.getfield 22, 3)) (kk : W p l e R s m args below meth c H locs cells slots Q (F0 m (pc + 3) ls (v :: rest))) : W p l e R s m args below meth c H locs cells slots Q (F0 m pc ls (.ref a :: rest)) :=
  va_get (D := G.1) (ci := 0) (C := RX0) (T := TX0) (N := 5) hx hb hA.hts wdx_0 hown hA.K hP q0 he rfl 4 (by decide) (hA.hts _ wd_9) (fun _ h9 => h9) hv hdg kk
theorem pf_X0_22 (hx : p.tables.exec = Jvm.exec) (hb : c.code = cc) (hown : s.vm.findClass RX0 = some m.cls) (hA : Am G s) (hP : va_P G.1 vwCl w H) (hD : va_D A w) (hS : va_S A H0 H locs) (q0 : Nat) (he : w[q0]? = some (a, .inr (0, fs))) {v : Int32} (hl : 4 < fs.length) (hdg : decode cc pc = .ok (.putfield 22, 3)) (kk : ∀ (H1 : Heap) (locs1 : List Loc), va_P G.1 vwCl (w.set q0 (a, .inr (0, fs.set 4 (.int v)))) H1 → va_D A (w.set q0 (a, .inr (0, fs.set 4 (.int v)))) → va_S A H0 H1 locs1 → W p l e R s m args below meth c H1 locs1 cells slots Q (F0 m (pc + 3) ls rest)) : W p l e R s m args below meth c H locs cells slots Q (F0 m pc ls (.int v :: .ref a :: rest)) :=
  va_put (D := G.1) (ci := 0) (v := .int v) (ty := .int) (C := RX0) (T := TX0) (N := 5) hx hb hA.hts wdx_0 tyX0 tyX0_ok nmX0 hown hA.K hP hD hS q0 he rfl 4 (by decide) (hA.hts _ wd_9) (fun _ h9 => h9) rfl (by decide +kernel) rfl rfl hl hdg kk
theorem gf_X1_9 (hx : p.tables.exec = Jvm.exec) (hb : c.code = cc) (hown : s.vm.findClass RX1 = some m.cls) (hA : Am G s) (hP : va_P G.1 vwCl w H) (q0 : Nat) (he : w[q0]? = some (a, .inr (1, fs))) {v : Value} (hv : fs[0]? = some v) (hdg : decode cc pc = .ok (.getfield 9, 3)) (kk : W p l e R s m args below meth c H locs cells slots Q (F0 m (pc + 3) ls (v :: rest))) : W p l e R s m args below meth c H locs cells slots Q (F0 m pc ls (.ref a :: rest)) :=
  va_get (D := G.1) (ci := 1) (C := RX1) (T := TX1) (N := 3) hx hb hA.hts wdx_1 hown hA.K hP q0 he rfl 0 (by decide) (hA.hts _ wd_12) (fun _ h9 => h9) hv hdg kk
theorem gf_X1_15 (hx : p.tables.exec = Jvm.exec) (hb : c.code = cc) (hown : s.vm.findClass RX1 = some m.cls) (hA : Am G s) (hP : va_P G.1 vwCl w H) (q0 : Nat) (he : w[q0]? = some (a, .inr (1, fs))) {v : Value} (hv : fs[1]? = some v) (hdg : decode cc pc = .ok (.getfield 15, 3)) (kk : W p l e R s m args below meth c H locs cells slots Q (F0 m (pc + 3) ls (v :: rest))) : W p l e R s m args below meth c H locs cells slots Q (F0 m pc ls (.ref a :: rest)) :=
  va_get (D := G.1) (ci := 1) (C := RX1) (T := TX1) (N := 3) hx hb hA.hts wdx_1 hown hA.K hP q0 he rfl 1 (by decide) (hA.hts _ wd_13) (fun _ h9 => h9) hv hdg kk
theorem pf_X1_9 (hx : p.tables.exec = Jvm.exec) (hb : c.code = cc) (hown : s.vm.findClass RX1 = some m.cls) (hA : Am G s) (hP : va_P G.1 vwCl w H) (hD : va_D A w) (hS : va_S A H0 H locs) (q0 : Nat) (he : w[q0]? = some (a, .inr (1, fs))) {v : Int32} (hl : 0 < fs.length) (hdg : decode cc pc = .ok (.putfield 9, 3)) (kk : ∀ (H1 : Heap) (locs1 : List Loc), va_P G.1 vwCl (w.set q0 (a, .inr (1, fs.set 0 (.int v)))) H1 → va_D A (w.set q0 (a, .inr (1, fs.set 0 (.int v)))) → va_S A H0 H1 locs1 → W p l e R s m args below meth c H1 locs1 cells slots Q (F0 m (pc + 3) ls rest)) : W p l e R s m args below meth c H locs cells slots Q (F0 m pc ls (.int v :: .ref a :: rest)) :=
  va_put (D := G.1) (ci := 1) (v := .int v) (ty := .int) (C := RX1) (T := TX1) (N := 3) hx hb hA.hts wdx_1 tyX1 tyX1_ok nmX1 hown hA.K hP hD hS q0 he rfl 0 (by decide) (hA.hts _ wd_12) (fun _ h9 => h9) rfl (by decide +kernel) rfl rfl hl hdg kk
theorem pf_X1_15 (hx : p.tables.exec = Jvm.exec) (hb : c.code = cc) (hown : s.vm.findClass RX1 = some m.cls) (hA : Am G s) (hP : va_P G.1 vwCl w H) (hD : va_D A w) (hS : va_S A H0 H locs) (q0 : Nat) (he : w[q0]? = some (a, .inr (1, fs))) {v : Int32} (hl : 1 < fs.length) (hdg : decode cc pc = .ok (.putfield 15, 3)) (kk : ∀ (H1 : Heap) (locs1 : List Loc), va_P G.1 vwCl (w.set q0 (a, .inr (1, fs.set 1 (.int v)))) H1 → va_D A (w.set q0 (a, .inr (1, fs.set 1 (.int v)))) → va_S A H0 H1 locs1 → W p l e R s m args below meth c H1 locs1 cells slots Q (F0 m (pc + 3) ls rest)) : W p l e R s m args below meth c H locs cells slots Q (F0 m pc ls (.int v :: .ref a :: rest)) :=
  va_put (D := G.1) (ci := 1) (v := .int v) (ty := .int) (C := RX1) (T := TX1) (N := 3) hx hb hA.hts wdx_1 tyX1 tyX1_ok nmX1 hown hA.K hP hD hS q0 he rfl 1 (by decide) (hA.hts _ wd_13) (fun _ h9 => h9) rfl (by decide +kernel) rfl rfl hl hdg kk
theorem gf_X1_18 (hx : p.tables.exec = Jvm.exec) (hb : c.code = cc) (hown : s.vm.findClass RX1 = some m.cls) (hA : Am G s) (hP : va_P G.1 vwCl w H) (q0 : Nat) (he : w[q0]? = some (a, .inr (1, fs))) {v : Value} (hv : fs[2]? = some v) (hdg : decode cc pc = .ok (.getfield 18, 3)) (kk : W p l e R s m args below meth c H locs cells slots Q (F0 m (pc + 3) ls (v :: rest))) : W p l e R s m args below meth c H locs cells slots Q (F0 m pc ls (.ref a :: rest)) :=
  va_get (D := G.1) (ci := 1) (C := RX1) (T := TX1) (N := 3) hx hb hA.hts wdx_1 hown hA.K hP q0 he rfl 2 (by decide) (hA.hts _ wd_14) (fun _ h9 => h9) hv hdg kk
theorem pf_X1_18 (hx : p.tables.exec = Jvm.exec) (hb : c.code = cc) (hown : s.vm.findClass RX1 = some m.cls) (hA : Am G s) (hP : va_P G.1 vwCl w H) (hD : va_D A w) (hS : va_S A H0 H locs) (q0 : Nat) (he : w[q0]? = some (a, .inr (1, fs))) {v : Int32} (hl : 2 < fs.length) (hdg : decode cc pc = .ok (.putfield 18, 3)) (kk : ∀ (H1 : Heap) (locs1 : List Loc), va_P G.1 vwCl (w.set q0 (a, .inr (1, fs.set 2 (.int v)))) H1 → va_D A (w.set q0 (a, .inr (1, fs.set 2 (.int v)))) → va_S A H0 H1 locs1 → W p l e R s m args below meth c H1 locs1 cells slots Q (F0 m (pc + 3) ls rest)) : W p l e R s m args below meth c H locs cells slots Q (F0 m pc ls (.int v :: .ref a :: rest)) :=
  va_put (D := G.1) (ci := 1) (v := .int v) (ty := .int) (C := RX1) (T := TX1) (N := 3) hx hb hA.hts wdx_1 tyX1 tyX1_ok nmX1 hown hA.K hP hD hS q0 he rfl 2 (by decide) (hA.hts _ wd_14) (fun _ h9 => h9) rfl (by decide +kernel) rfl rfl hl hdg kk
theorem pf_X2_9 (hx : p.tables.exec = Jvm.exec) (hb : c.code = cc) (hown : s.vm.findClass RX2 = some m.cls) (hA : Am G s) (hP : va_P G.1 vwCl w H) (hD : va_D A w) (hS : va_S A H0 H locs) (q0 : Nat) (he : w[q0]? = some (a, .inr (2, fs))) {v : Int32} (hl : 0 < fs.length) (hdg : decode cc pc = .ok (.putfield 9, 3)) (kk : ∀ (H1 : Heap) (locs1 : List Loc), va_P G.1 vwCl (w.set q0 (a, .inr (2, fs.set 0 (.int v)))) H1 → va_D A (w.set q0 (a, .inr (2, fs.set 0 (.int v)))) → va_S A H0 H1 locs1 → W p l e R s m args below meth c H1 locs1 cells slots Q (F0 m (pc + 3) ls rest)) : W p l e R s m args below meth c H locs cells slots Q (F0 m pc ls (.int v :: .ref a :: rest)) :=
  va_put (D := G.1) (ci := 2) (v := .int v) (ty := .int) (C := RX2) (T := TX2) (N := 4) hx hb hA.hts wdx_2 tyX2 tyX2_ok nmX2 hown hA.K hP hD hS q0 he rfl 0 (by decide) (hA.hts _ wd_29) (fun _ h9 => h9) rfl (by decide +kernel) rfl rfl hl hdg kk
theorem pf_X2_15 (hx : p.tables.exec = Jvm.exec) (hb : c.code = cc) (hown : s.vm.findClass RX2 = some m.cls) (hA : Am G s) (hP : va_P G.1 vwCl w H) (hD : va_D A w) (hS : va_S A H0 H locs) (q0 : Nat) (he : w[q0]? = some (a, .inr (2, fs))) {v : Int32} (hl : 1 < fs.length) (hdg : decode cc pc = .ok (.putfield 15, 3)) (kk : ∀ (H1 : Heap) (locs1 : List Loc), va_P G.1 vwCl (w.set q0 (a, .inr (2, fs.set 1 (.int v)))) H1 → va_D A (w.set q0 (a, .inr (2, fs.set 1 (.int v)))) → va_S A H0 H1 locs1 → W p l e R s m args below meth c H1 locs1 cells slots Q (F0 m (pc + 3) ls rest)) : W p l e R s m args below meth c H locs cells slots Q (F0 m pc ls (.int v :: .ref a :: rest)) :=
  va_put (D := G.1) (ci := 2) (v := .int v) (ty := .int) (C := RX2) (T := TX2) (N := 4) hx hb hA.hts wdx_2 tyX2 tyX2_ok nmX2 hown hA.K hP hD hS q0 he rfl 1 (by decide) (hA.hts _ wd_31) (fun _ h9 => h9) rfl (by decide +kernel) rfl rfl hl hdg kk
theorem pf_X2_18 (hx : p.tables.exec = Jvm.exec) (hb : c.code = cc) (hown : s.vm.findClass RX2 = some m.cls) (hA : Am G s) (hP : va_P G.1 vwCl w H) (hD : va_D A w) (hS : va_S A H0 H locs) (q0 : Nat) (he : w[q0]? = some (a, .inr (2, fs))) {v : Int32} (hl : 3 < fs.length) (hdg : decode cc pc = .ok (.putfield 18, 3)) (kk : ∀ (H1 : Heap) (locs1 : List Loc), va_P G.1 vwCl (w.set q0 (a, .inr (2, fs.set 3 (.int v)))) H1 → va_D A (w.set q0 (a, .inr (2, fs.set 3 (.int v)))) → va_S A H0 H1 locs1 → W p l e R s m args below meth c H1 locs1 cells slots Q (F0 m (pc + 3) ls rest)) : W p l e R s m args below meth c H locs cells slots Q (F0 m pc ls (.int v :: .ref a :: rest)) :=
  va_put (D := G.1) (ci := 2) (v := .int v) (ty := .int) (C := RX2) (T := TX2) (N := 4) hx hb hA.hts wdx_2 tyX2 tyX2_ok nmX2 hown hA.K hP hD hS q0 he rfl 3 (by decide) (hA.hts _ wd_32) (fun _ h9 => h9) rfl (by decide +kernel) rfl rfl hl hdg kk
theorem gf_X2_18 (hx : p.tables.exec = Jvm.exec) (hb : c.code = cc) (hown : s.vm.findClass RX2 = some m.cls) (hA : Am G s) (hP : va_P G.1 vwCl w H) (q0 : Nat) (he : w[q0]? = some (a, .inr (2, fs))) {v : Value} (hv : fs[3]? = some v) (hdg : decode cc pc = .ok (.getfield 18, 3)) (kk : W p l e R s m args below meth c H locs cells slots Q (F0 m (pc + 3) ls (v :: rest))) : W p l e R s m args below meth c H locs cells slots Q (F0 m pc ls (.ref a :: rest)) :=
  va_get (D := G.1) (ci := 2) (C := RX2) (T := TX2) (N := 4) hx hb hA.hts wdx_2 hown hA.K hP q0 he rfl 3 (by decide) (hA.hts _ wd_32) (fun _ h9 => h9) hv hdg kk
theorem gf_X2_15 (hx : p.tables.exec = Jvm.exec) (hb : c.code = cc) (hown : s.vm.findClass RX2 = some m.cls) (hA : Am G s) (hP : va_P G.1 vwCl w H) (q0 : Nat) (he : w[q0]? = some (a, .inr (2, fs))) {v : Value} (hv : fs[1]? = some v) (hdg : decode cc pc = .ok (.getfield 15, 3)) (kk : W p l e R s m args below meth c H locs cells slots Q (F0 m (pc + 3) ls (v :: rest))) : W p l e R s m args below meth c H locs cells slots Q (F0 m pc ls (.ref a :: rest)) :=
  va_get (D := G.1) (ci := 2) (C := RX2) (T := TX2) (N := 4) hx hb hA.hts wdx_2 hown hA.K hP q0 he rfl 1 (by decide) (hA.hts _ wd_31) (fun _ h9 => h9) hv hdg kk
theorem gf_X2_9 (hx : p.tables.exec = Jvm.exec) (hb : c.code = cc) (hown : s.vm.findClass RX2 = some m.cls) (hA : Am G s) (hP : va_P G.1 vwCl w H) (q0 : Nat) (he : w[q0]? = some (a, .inr (2, fs))) {v : Value} (hv : fs[0]? = some v) (hdg : decode cc pc = .ok (.getfield 9, 3)) (kk : W p l e R s m args below meth c H locs cells slots Q (F0 m (pc + 3) ls (v :: rest))) : W p l e R s m args below meth c H locs cells slots Q (F0 m pc ls (.ref a :: rest)) :=
  va_get (D := G.1) (ci := 2) (C := RX2) (T := TX2) (N := 4) hx hb hA.hts wdx_2 hown hA.K hP q0 he rfl 0 (by decide) (hA.hts _ wd_29) (fun _ h9 => h9) hv hdg kk
theorem gf_X2_27 (hx : p.tables.exec = Jvm.exec) (hb : c.code = cc) (hown : s.vm.findClass RX2 = some m.cls) (hA : Am G s) (hP : va_P G.1 vwCl w H) (q0 : Nat) (he : w[q0]? = some (a, .inr (2, fs))) {v : Value} (hv : fs[2]? = some v) (hdg : decode cc pc = .ok (.getfield 27, 3)) (kk : W p l e R s m args below meth c H locs cells slots Q (F0 m (pc + 3) ls (v :: rest))) : W p l e R s m args below meth c H locs cells slots Q (F0 m pc ls (.ref a :: rest)) :=
  va_get (D := G.1) (ci := 2) (C := RX2) (T := TX2) (N := 4) hx hb hA.hts wdx_2 hown hA.K hP q0 he rfl 2 (by decide) (hA.hts _ wd_38) (fun _ h9 => h9) hv hdg kk
theorem pf_X2_27 (hx : p.tables.exec = Jvm.exec) (hb : c.code = cc) (hown : s.vm.findClass RX2 = some m.cls) (hA : Am G s) (hP : va_P G.1 vwCl w H) (hD : va_D A w) (hS : va_S A H0 H locs) (q0 : Nat) (he : w[q0]? = some (a, .inr (2, fs))) {v : Int32} (hl : 2 < fs.length) (hdg : decode cc pc = .ok (.putfield 27, 3)) (kk : ∀ (H1 : Heap) (locs1 : List Loc), va_P G.1 vwCl (w.set q0 (a, .inr (2, fs.set 2 (.int v)))) H1 → va_D A (w.set q0 (a, .inr (2, fs.set 2 (.int v)))) → va_S A H0 H1 locs1 → W p l e R s m args below meth c H1 locs1 cells slots Q (F0 m (pc + 3) ls rest)) : W p l e R s m args below meth c H locs cells slots Q (F0 m pc ls (.int v :: .ref a :: rest)) :=
  va_put (D := G.1) (ci := 2) (v := .int v) (ty := .int) (C := RX2) (T := TX2) (N := 4) hx hb hA.hts wdx_2 tyX2 tyX2_ok nmX2 hown hA.K hP hD hS q0 he rfl 2 (by decide) (hA.hts _ wd_38) (fun _ h9 => h9) rfl (by decide +kernel) rfl rfl hl hdg kk
theorem gf_X6_9 (hx : p.tables.exec = Jvm.exec) (hb : c.code = cc) (hown : s.vm.findClass RX6 = some m.cls) (hA : Am G s) (hP : va_P G.1 vwCl w H) (q0 : Nat) (he : w[q0]? = some (a, .inr (6, fs))) {v : Value} (hv : fs[0]? = some v) (hdg : decode cc pc = .ok (.getfield 9, 3)) (kk : W p l e R s m args below meth c H locs cells slots Q (F0 m (pc + 3) ls (v :: rest))) : W p l e R s m args below meth c H locs cells slots Q (F0 m pc ls (.ref a :: rest)) :=
  va_get (D := G.1) (ci := 6) (C := RX6) (T := TX6) (N := 2) hx hb hA.hts wdx_6 hown hA.K hP q0 he rfl 0 (by decide) (hA.hts _ wd_49) (fun _ h9 => h9) hv hdg kk
theorem gf_X4_21 (hx : p.tables.exec = Jvm.exec) (hb : c.code = cc) (hown : s.vm.findClass RX4 = some m.cls) (hA : Am G s) (hP : va_P G.1 vwCl w H) (q0 : Nat) (he : w[q0]? = some (a, .inr (4, fs))) {v : Value} (hv : fs[1]? = some v) (hdg : decode cc pc = .ok (.getfield 21, 3)) (kk : W p l e R s m args below meth c H locs cells slots Q (F0 m (pc + 3) ls (v :: rest))) : W p l e R s m args below meth c H locs cells slots Q (F0 m pc ls (.ref a :: rest)) :=
  va_get (D := G.1) (ci := 4) (C := RX4) (T := TX4) (N := 8) hx hb hA.hts wdx_4 hown hA.K hP q0 he rfl 1 (by decide) (hA.hts _ wd_73) (fun _ h9 => h9) hv hdg kk
theorem gf_X4_50 (hx : p.tables.exec = Jvm.exec) (hb : c.code = cc) (hown : s.vm.findClass RX4 = some m.cls) (hA : Am G s) (hP : va_P G.1 vwCl w H) (q0 : Nat) (he : w[q0]? = some (a, .inr (2, fs))) {v : Value} (hv : fs[0]? = some v) (hdg : decode cc pc = .ok (.getfield 50, 3)) (kk : W p l e R s m args below meth c H locs cells slots Q (F0 m (pc + 3) ls (v :: rest))) : W p l e R s m args below meth c H locs cells slots Q (F0 m pc ls (.ref a :: rest)) :=
  va_getN (D := G.1) (ci := 2) (C := RX2) (T := TX2) (N := 4) hx hb hA.hts wdx_2 hown hA.K hP q0 he rfl 0 (by decide) (hA.nf ("LatheCopies$Lathe", 50, "LatheCopies$Follower", "radius", "I") nf_2) (fun _ h9 => h9) hv hdg kk
theorem gf_X4_12 (hx : p.tables.exec = Jvm.exec) (hb : c.code = cc) (hown : s.vm.findClass RX4 = some m.cls) (hA : Am G s) (hP : va_P G.1 vwCl w H) (q0 : Nat) (he : w[q0]? = some (a, .inr (4, fs))) {v : Value} (hv : fs[0]? = some v) (hdg : decode cc pc = .ok (.getfield 12, 3)) (kk : W p l e R s m args below meth c H locs cells slots Q (F0 m (pc + 3) ls (v :: rest))) : W p l e R s m args below meth c H locs cells slots Q (F0 m pc ls (.ref a :: rest)) :=
  va_get (D := G.1) (ci := 4) (C := RX4) (T := TX4) (N := 8) hx hb hA.hts wdx_4 hown hA.K hP q0 he rfl 0 (by decide) (hA.hts _ wd_69) (fun _ h9 => h9) hv hdg kk
theorem gf_X4_62 (hx : p.tables.exec = Jvm.exec) (hb : c.code = cc) (hown : s.vm.findClass RX4 = some m.cls) (hA : Am G s) (hP : va_P G.1 vwCl w H) (q0 : Nat) (he : w[q0]? = some (a, .inr (6, fs))) {v : Value} (hv : fs[1]? = some v) (hdg : decode cc pc = .ok (.getfield 62, 3)) (kk : W p l e R s m args below meth c H locs cells slots Q (F0 m (pc + 3) ls (v :: rest))) : W p l e R s m args below meth c H locs cells slots Q (F0 m pc ls (.ref a :: rest)) :=
  va_getN (D := G.1) (ci := 6) (C := RX6) (T := TX6) (N := 2) hx hb hA.hts wdx_6 hown hA.K hP q0 he rfl 1 (by decide) (hA.nf ("LatheCopies$Lathe", 62, "LatheCopies$Masters", "chosen", "I") nf_0) (fun _ h9 => h9) hv hdg kk
theorem gf_X4_72 (hx : p.tables.exec = Jvm.exec) (hb : c.code = cc) (hown : s.vm.findClass RX4 = some m.cls) (hA : Am G s) (hP : va_P G.1 vwCl w H) (q0 : Nat) (he : w[q0]? = some (a, .inr (2, fs))) {v : Value} (hv : fs[1]? = some v) (hdg : decode cc pc = .ok (.getfield 72, 3)) (kk : W p l e R s m args below meth c H locs cells slots Q (F0 m (pc + 3) ls (v :: rest))) : W p l e R s m args below meth c H locs cells slots Q (F0 m pc ls (.ref a :: rest)) :=
  va_getN (D := G.1) (ci := 2) (C := RX2) (T := TX2) (N := 4) hx hb hA.hts wdx_2 hown hA.K hP q0 he rfl 1 (by decide) (hA.nf ("LatheCopies$Lathe", 72, "LatheCopies$Follower", "wear", "I") nf_4) (fun _ h9 => h9) hv hdg kk
theorem gf_X4_75 (hx : p.tables.exec = Jvm.exec) (hb : c.code = cc) (hown : s.vm.findClass RX4 = some m.cls) (hA : Am G s) (hP : va_P G.1 vwCl w H) (q0 : Nat) (he : w[q0]? = some (a, .inr (2, fs))) {v : Value} (hv : fs[2]? = some v) (hdg : decode cc pc = .ok (.getfield 75, 3)) (kk : W p l e R s m args below meth c H locs cells slots Q (F0 m (pc + 3) ls (v :: rest))) : W p l e R s m args below meth c H locs cells slots Q (F0 m pc ls (.ref a :: rest)) :=
  va_getN (D := G.1) (ci := 2) (C := RX2) (T := TX2) (N := 4) hx hb hA.hts wdx_2 hown hA.K hP q0 he rfl 2 (by decide) (hA.nf ("LatheCopies$Lathe", 75, "LatheCopies$Follower", "offset", "I") nf_6) (fun _ h9 => h9) hv hdg kk
theorem gf_X8_13 (hx : p.tables.exec = Jvm.exec) (hb : c.code = cc) (hown : s.vm.findClass RX8 = some m.cls) (hA : Am G s) (hP : va_P G.1 vwCl w H) (q0 : Nat) (he : w[q0]? = some (a, .inr (8, fs))) {v : Value} (hv : fs[0]? = some v) (hdg : decode cc pc = .ok (.getfield 13, 3)) (kk : W p l e R s m args below meth c H locs cells slots Q (F0 m (pc + 3) ls (v :: rest))) : W p l e R s m args below meth c H locs cells slots Q (F0 m pc ls (.ref a :: rest)) :=
  va_get (D := G.1) (ci := 8) (C := RX8) (T := TX8) (N := 1) hx hb hA.hts wdx_8 hown hA.K hP q0 he rfl 0 (by decide) (hA.hts _ wd_53) (fun _ h9 => h9) hv hdg kk
theorem gf_X7_14 (hx : p.tables.exec = Jvm.exec) (hb : c.code = cc) (hown : s.vm.findClass RX7 = some m.cls) (hA : Am G s) (hP : va_P G.1 vwCl w H) (q0 : Nat) (he : w[q0]? = some (a, .inr (7, fs))) {v : Value} (hv : fs[0]? = some v) (hdg : decode cc pc = .ok (.getfield 14, 3)) (kk : W p l e R s m args below meth c H locs cells slots Q (F0 m (pc + 3) ls (v :: rest))) : W p l e R s m args below meth c H locs cells slots Q (F0 m pc ls (.ref a :: rest)) :=
  va_get (D := G.1) (ci := 7) (C := RX7) (T := TX7) (N := 5) hx hb hA.hts wdx_7 hown hA.K hP q0 he rfl 0 (by decide) (hA.hts _ wd_59) (fun _ h9 => h9) hv hdg kk
theorem gf_X4_35 (hx : p.tables.exec = Jvm.exec) (hb : c.code = cc) (hown : s.vm.findClass RX4 = some m.cls) (hA : Am G s) (hP : va_P G.1 vwCl w H) (q0 : Nat) (he : w[q0]? = some (a, .inr (4, fs))) {v : Value} (hv : fs[3]? = some v) (hdg : decode cc pc = .ok (.getfield 35, 3)) (kk : W p l e R s m args below meth c H locs cells slots Q (F0 m (pc + 3) ls (v :: rest))) : W p l e R s m args below meth c H locs cells slots Q (F0 m pc ls (.ref a :: rest)) :=
  va_get (D := G.1) (ci := 4) (C := RX4) (T := TX4) (N := 8) hx hb hA.hts wdx_4 hown hA.K hP q0 he rfl 3 (by decide) (hA.hts _ wd_80) (fun _ h9 => h9) hv hdg kk
theorem gf_X4_85 (hx : p.tables.exec = Jvm.exec) (hb : c.code = cc) (hown : s.vm.findClass RX4 = some m.cls) (hA : Am G s) (hP : va_P G.1 vwCl w H) (q0 : Nat) (he : w[q0]? = some (a, .inr (4, fs))) {v : Value} (hv : fs[7]? = some v) (hdg : decode cc pc = .ok (.getfield 85, 3)) (kk : W p l e R s m args below meth c H locs cells slots Q (F0 m (pc + 3) ls (v :: rest))) : W p l e R s m args below meth c H locs cells slots Q (F0 m pc ls (.ref a :: rest)) :=
  va_get (D := G.1) (ci := 4) (C := RX4) (T := TX4) (N := 8) hx hb hA.hts wdx_4 hown hA.K hP q0 he rfl 7 (by decide) (hA.hts _ wd_114) (fun _ h9 => h9) hv hdg kk
theorem gf_X4_28 (hx : p.tables.exec = Jvm.exec) (hb : c.code = cc) (hown : s.vm.findClass RX4 = some m.cls) (hA : Am G s) (hP : va_P G.1 vwCl w H) (q0 : Nat) (he : w[q0]? = some (a, .inr (4, fs))) {v : Value} (hv : fs[2]? = some v) (hdg : decode cc pc = .ok (.getfield 28, 3)) (kk : W p l e R s m args below meth c H locs cells slots Q (F0 m (pc + 3) ls (v :: rest))) : W p l e R s m args below meth c H locs cells slots Q (F0 m pc ls (.ref a :: rest)) :=
  va_get (D := G.1) (ci := 4) (C := RX4) (T := TX4) (N := 8) hx hb hA.hts wdx_4 hown hA.K hP q0 he rfl 2 (by decide) (hA.hts _ wd_76) (fun _ h9 => h9) hv hdg kk
theorem gf_X7_20 (hx : p.tables.exec = Jvm.exec) (hb : c.code = cc) (hown : s.vm.findClass RX7 = some m.cls) (hA : Am G s) (hP : va_P G.1 vwCl w H) (q0 : Nat) (he : w[q0]? = some (a, .inr (7, fs))) {v : Value} (hv : fs[1]? = some v) (hdg : decode cc pc = .ok (.getfield 20, 3)) (kk : W p l e R s m args below meth c H locs cells slots Q (F0 m (pc + 3) ls (v :: rest))) : W p l e R s m args below meth c H locs cells slots Q (F0 m pc ls (.ref a :: rest)) :=
  va_get (D := G.1) (ci := 7) (C := RX7) (T := TX7) (N := 5) hx hb hA.hts wdx_7 hown hA.K hP q0 he rfl 1 (by decide) (hA.hts _ wd_60) (fun _ h9 => h9) hv hdg kk
theorem gf_X4_93 (hx : p.tables.exec = Jvm.exec) (hb : c.code = cc) (hown : s.vm.findClass RX4 = some m.cls) (hA : Am G s) (hP : va_P G.1 vwCl w H) (q0 : Nat) (he : w[q0]? = some (a, .inr (7, fs))) {v : Value} (hv : fs[4]? = some v) (hdg : decode cc pc = .ok (.getfield 93, 3)) (kk : W p l e R s m args below meth c H locs cells slots Q (F0 m (pc + 3) ls (v :: rest))) : W p l e R s m args below meth c H locs cells slots Q (F0 m pc ls (.ref a :: rest)) :=
  va_getN (D := G.1) (ci := 7) (C := RX7) (T := TX7) (N := 5) hx hb hA.hts wdx_7 hown hA.K hP q0 he rfl 4 (by decide) (hA.nf ("LatheCopies$Lathe", 93, "LatheCopies$Rack", "mounted", "I") nf_16) (fun _ h9 => h9) hv hdg kk
theorem gf_X4_99 (hx : p.tables.exec = Jvm.exec) (hb : c.code = cc) (hown : s.vm.findClass RX4 = some m.cls) (hA : Am G s) (hP : va_P G.1 vwCl w H) (q0 : Nat) (he : w[q0]? = some (a, .inr (1, fs))) {v : Value} (hv : fs[2]? = some v) (hdg : decode cc pc = .ok (.getfield 99, 3)) (kk : W p l e R s m args below meth c H locs cells slots Q (F0 m (pc + 3) ls (v :: rest))) : W p l e R s m args below meth c H locs cells slots Q (F0 m pc ls (.ref a :: rest)) :=
  va_getN (D := G.1) (ci := 1) (C := RX1) (T := TX1) (N := 3) hx hb hA.hts wdx_1 hown hA.K hP q0 he rfl 2 (by decide) (hA.nf ("LatheCopies$Lathe", 99, "LatheCopies$Cutter", "speed", "I") nf_10) (fun _ h9 => h9) hv hdg kk
theorem gf_X4_135 (hx : p.tables.exec = Jvm.exec) (hb : c.code = cc) (hown : s.vm.findClass RX4 = some m.cls) (hA : Am G s) (hP : va_P G.1 vwCl w H) (q0 : Nat) (he : w[q0]? = some (a, .inr (4, fs))) {v : Value} (hv : fs[6]? = some v) (hdg : decode cc pc = .ok (.getfield 135, 3)) (kk : W p l e R s m args below meth c H locs cells slots Q (F0 m (pc + 3) ls (v :: rest))) : W p l e R s m args below meth c H locs cells slots Q (F0 m pc ls (.ref a :: rest)) :=
  va_get (D := G.1) (ci := 4) (C := RX4) (T := TX4) (N := 8) hx hb hA.hts wdx_4 hown hA.K hP q0 he rfl 6 (by decide) (hA.hts _ wd_113) (fun _ h9 => h9) hv hdg kk
theorem pf_X4_135 (hx : p.tables.exec = Jvm.exec) (hb : c.code = cc) (hown : s.vm.findClass RX4 = some m.cls) (hA : Am G s) (hP : va_P G.1 vwCl w H) (hD : va_D A w) (hS : va_S A H0 H locs) (q0 : Nat) (he : w[q0]? = some (a, .inr (4, fs))) {v : Int32} (hl : 6 < fs.length) (hdg : decode cc pc = .ok (.putfield 135, 3)) (kk : ∀ (H1 : Heap) (locs1 : List Loc), va_P G.1 vwCl (w.set q0 (a, .inr (4, fs.set 6 (.int v)))) H1 → va_D A (w.set q0 (a, .inr (4, fs.set 6 (.int v)))) → va_S A H0 H1 locs1 → W p l e R s m args below meth c H1 locs1 cells slots Q (F0 m (pc + 3) ls rest)) : W p l e R s m args below meth c H locs cells slots Q (F0 m pc ls (.int v :: .ref a :: rest)) :=
  va_put (D := G.1) (ci := 4) (v := .int v) (ty := .int) (C := RX4) (T := TX4) (N := 8) hx hb hA.hts wdx_4 tyX4 tyX4_ok nmX4 hown hA.K hP hD hS q0 he rfl 6 (by decide) (hA.hts _ wd_113) (fun _ h9 => h9) rfl (by decide +kernel) rfl rfl hl hdg kk
theorem pf_X4_85 (hx : p.tables.exec = Jvm.exec) (hb : c.code = cc) (hown : s.vm.findClass RX4 = some m.cls) (hA : Am G s) (hP : va_P G.1 vwCl w H) (hD : va_D A w) (hS : va_S A H0 H locs) (q0 : Nat) (he : w[q0]? = some (a, .inr (4, fs))) {v : Int32} (hl : 7 < fs.length) (hz : v = 0 ∨ v = 1) (hdg : decode cc pc = .ok (.putfield 85, 3)) (kk : ∀ (H1 : Heap) (locs1 : List Loc), va_P G.1 vwCl (w.set q0 (a, .inr (4, fs.set 7 (.int v)))) H1 → va_D A (w.set q0 (a, .inr (4, fs.set 7 (.int v)))) → va_S A H0 H1 locs1 → W p l e R s m args below meth c H1 locs1 cells slots Q (F0 m (pc + 3) ls rest)) : W p l e R s m args below meth c H locs cells slots Q (F0 m pc ls (.int v :: .ref a :: rest)) :=
  va_put (D := G.1) (ci := 4) (v := .int v) (ty := .boolean) (C := RX4) (T := TX4) (N := 8) hx hb hA.hts wdx_4 tyX4 tyX4_ok nmX4 hown hA.K hP hD hS q0 he rfl 7 (by decide) (hA.hts _ wd_114) (fun _ h9 => h9) rfl (by decide +kernel) (by rcases hz with rfl | rfl <;> rfl) (by rcases hz with rfl | rfl <;> rfl) hl hdg kk
theorem gf_X4_42 (hx : p.tables.exec = Jvm.exec) (hb : c.code = cc) (hown : s.vm.findClass RX4 = some m.cls) (hA : Am G s) (hP : va_P G.1 vwCl w H) (q0 : Nat) (he : w[q0]? = some (a, .inr (4, fs))) {v : Value} (hv : fs[4]? = some v) (hdg : decode cc pc = .ok (.getfield 42, 3)) (kk : W p l e R s m args below meth c H locs cells slots Q (F0 m (pc + 3) ls (v :: rest))) : W p l e R s m args below meth c H locs cells slots Q (F0 m pc ls (.ref a :: rest)) :=
  va_get (D := G.1) (ci := 4) (C := RX4) (T := TX4) (N := 8) hx hb hA.hts wdx_4 hown hA.K hP q0 he rfl 4 (by decide) (hA.hts _ wd_84) (fun _ h9 => h9) hv hdg kk
theorem gf_X4_138 (hx : p.tables.exec = Jvm.exec) (hb : c.code = cc) (hown : s.vm.findClass RX4 = some m.cls) (hA : Am G s) (hP : va_P G.1 vwCl w H) (q0 : Nat) (he : w[q0]? = some (a, .inr (0, fs))) {v : Value} (hv : fs[3]? = some v) (hdg : decode cc pc = .ok (.getfield 138, 3)) (kk : W p l e R s m args below meth c H locs cells slots Q (F0 m (pc + 3) ls (v :: rest))) : W p l e R s m args below meth c H locs cells slots Q (F0 m pc ls (.ref a :: rest)) :=
  va_getN (D := G.1) (ci := 0) (C := RX0) (T := TX0) (N := 5) hx hb hA.hts wdx_0 hown hA.K hP q0 he rfl 3 (by decide) (hA.nf ("LatheCopies$Lathe", 138, "LatheCopies$Accounts", "jams", "I") nf_23) (fun _ h9 => h9) hv hdg kk
theorem pf_X4_138 (hx : p.tables.exec = Jvm.exec) (hb : c.code = cc) (hown : s.vm.findClass RX4 = some m.cls) (hA : Am G s) (hP : va_P G.1 vwCl w H) (hD : va_D A w) (hS : va_S A H0 H locs) (q0 : Nat) (he : w[q0]? = some (a, .inr (0, fs))) {v : Int32} (hl : 3 < fs.length) (hdg : decode cc pc = .ok (.putfield 138, 3)) (kk : ∀ (H1 : Heap) (locs1 : List Loc), va_P G.1 vwCl (w.set q0 (a, .inr (0, fs.set 3 (.int v)))) H1 → va_D A (w.set q0 (a, .inr (0, fs.set 3 (.int v)))) → va_S A H0 H1 locs1 → W p l e R s m args below meth c H1 locs1 cells slots Q (F0 m (pc + 3) ls rest)) : W p l e R s m args below meth c H locs cells slots Q (F0 m pc ls (.int v :: .ref a :: rest)) :=
  va_putN (D := G.1) (ci := 0) (v := .int v) (ty := .int) (C := RX0) (T := TX0) (N := 5) hx hb hA.hts wdx_0 tyX0 tyX0_ok nmX0 hown hA.K hP hD hS q0 he rfl 3 (by decide) (hA.nf ("LatheCopies$Lathe", 138, "LatheCopies$Accounts", "jams", "I") nf_23) (fun _ h9 => h9) rfl (by decide +kernel) rfl rfl hl hdg kk
theorem gf_X4_106 (hx : p.tables.exec = Jvm.exec) (hb : c.code = cc) (hown : s.vm.findClass RX4 = some m.cls) (hA : Am G s) (hP : va_P G.1 vwCl w H) (q0 : Nat) (he : w[q0]? = some (a, .inr (0, fs))) {v : Value} (hv : fs[0]? = some v) (hdg : decode cc pc = .ok (.getfield 106, 3)) (kk : W p l e R s m args below meth c H locs cells slots Q (F0 m (pc + 3) ls (v :: rest))) : W p l e R s m args below meth c H locs cells slots Q (F0 m pc ls (.ref a :: rest)) :=
  va_getN (D := G.1) (ci := 0) (C := RX0) (T := TX0) (N := 5) hx hb hA.hts wdx_0 hown hA.K hP q0 he rfl 0 (by decide) (hA.nf ("LatheCopies$Lathe", 106, "LatheCopies$Accounts", "passes", "I") nf_18) (fun _ h9 => h9) hv hdg kk
theorem pf_X4_106 (hx : p.tables.exec = Jvm.exec) (hb : c.code = cc) (hown : s.vm.findClass RX4 = some m.cls) (hA : Am G s) (hP : va_P G.1 vwCl w H) (hD : va_D A w) (hS : va_S A H0 H locs) (q0 : Nat) (he : w[q0]? = some (a, .inr (0, fs))) {v : Int32} (hl : 0 < fs.length) (hdg : decode cc pc = .ok (.putfield 106, 3)) (kk : ∀ (H1 : Heap) (locs1 : List Loc), va_P G.1 vwCl (w.set q0 (a, .inr (0, fs.set 0 (.int v)))) H1 → va_D A (w.set q0 (a, .inr (0, fs.set 0 (.int v)))) → va_S A H0 H1 locs1 → W p l e R s m args below meth c H1 locs1 cells slots Q (F0 m (pc + 3) ls rest)) : W p l e R s m args below meth c H locs cells slots Q (F0 m pc ls (.int v :: .ref a :: rest)) :=
  va_putN (D := G.1) (ci := 0) (v := .int v) (ty := .int) (C := RX0) (T := TX0) (N := 5) hx hb hA.hts wdx_0 tyX0 tyX0_ok nmX0 hown hA.K hP hD hS q0 he rfl 0 (by decide) (hA.nf ("LatheCopies$Lathe", 106, "LatheCopies$Accounts", "passes", "I") nf_18) (fun _ h9 => h9) rfl (by decide +kernel) rfl rfl hl hdg kk
theorem gf_X4_109 (hx : p.tables.exec = Jvm.exec) (hb : c.code = cc) (hown : s.vm.findClass RX4 = some m.cls) (hA : Am G s) (hP : va_P G.1 vwCl w H) (q0 : Nat) (he : w[q0]? = some (a, .inr (0, fs))) {v : Value} (hv : fs[1]? = some v) (hdg : decode cc pc = .ok (.getfield 109, 3)) (kk : W p l e R s m args below meth c H locs cells slots Q (F0 m (pc + 3) ls (v :: rest))) : W p l e R s m args below meth c H locs cells slots Q (F0 m pc ls (.ref a :: rest)) :=
  va_getN (D := G.1) (ci := 0) (C := RX0) (T := TX0) (N := 5) hx hb hA.hts wdx_0 hown hA.K hP q0 he rfl 1 (by decide) (hA.nf ("LatheCopies$Lathe", 109, "LatheCopies$Accounts", "woodTaken", "I") nf_20) (fun _ h9 => h9) hv hdg kk
theorem pf_X4_109 (hx : p.tables.exec = Jvm.exec) (hb : c.code = cc) (hown : s.vm.findClass RX4 = some m.cls) (hA : Am G s) (hP : va_P G.1 vwCl w H) (hD : va_D A w) (hS : va_S A H0 H locs) (q0 : Nat) (he : w[q0]? = some (a, .inr (0, fs))) {v : Int32} (hl : 1 < fs.length) (hdg : decode cc pc = .ok (.putfield 109, 3)) (kk : ∀ (H1 : Heap) (locs1 : List Loc), va_P G.1 vwCl (w.set q0 (a, .inr (0, fs.set 1 (.int v)))) H1 → va_D A (w.set q0 (a, .inr (0, fs.set 1 (.int v)))) → va_S A H0 H1 locs1 → W p l e R s m args below meth c H1 locs1 cells slots Q (F0 m (pc + 3) ls rest)) : W p l e R s m args below meth c H locs cells slots Q (F0 m pc ls (.int v :: .ref a :: rest)) :=
  va_putN (D := G.1) (ci := 0) (v := .int v) (ty := .int) (C := RX0) (T := TX0) (N := 5) hx hb hA.hts wdx_0 tyX0 tyX0_ok nmX0 hown hA.K hP hD hS q0 he rfl 1 (by decide) (hA.nf ("LatheCopies$Lathe", 109, "LatheCopies$Accounts", "woodTaken", "I") nf_20) (fun _ h9 => h9) rfl (by decide +kernel) rfl rfl hl hdg kk
theorem gf_X4_112 (hx : p.tables.exec = Jvm.exec) (hb : c.code = cc) (hown : s.vm.findClass RX4 = some m.cls) (hA : Am G s) (hP : va_P G.1 vwCl w H) (q0 : Nat) (he : w[q0]? = some (a, .inr (7, fs))) {v : Value} (hv : fs[2]? = some v) (hdg : decode cc pc = .ok (.getfield 112, 3)) (kk : W p l e R s m args below meth c H locs cells slots Q (F0 m (pc + 3) ls (v :: rest))) : W p l e R s m args below meth c H locs cells slots Q (F0 m pc ls (.ref a :: rest)) :=
  va_getN (D := G.1) (ci := 7) (C := RX7) (T := TX7) (N := 5) hx hb hA.hts wdx_7 hown hA.K hP q0 he rfl 2 (by decide) (hA.nf ("LatheCopies$Lathe", 112, "LatheCopies$Rack", "passesDone", "LLatheCopies$Row;") nf_13) (fun _ h9 => h9) hv hdg kk
theorem gf_X4_46 (hx : p.tables.exec = Jvm.exec) (hb : c.code = cc) (hown : s.vm.findClass RX4 = some m.cls) (hA : Am G s) (hP : va_P G.1 vwCl w H) (q0 : Nat) (he : w[q0]? = some (a, .inr (4, fs))) {v : Value} (hv : fs[5]? = some v) (hdg : decode cc pc = .ok (.getfield 46, 3)) (kk : W p l e R s m args below meth c H locs cells slots Q (F0 m (pc + 3) ls (v :: rest))) : W p l e R s m args below meth c H locs cells slots Q (F0 m pc ls (.ref a :: rest)) :=
  va_get (D := G.1) (ci := 4) (C := RX4) (T := TX4) (N := 8) hx hb hA.hts wdx_4 hown hA.K hP q0 he rfl 5 (by decide) (hA.hts _ wd_85) (fun _ h9 => h9) hv hdg kk
theorem gf_X6_15 (hx : p.tables.exec = Jvm.exec) (hb : c.code = cc) (hown : s.vm.findClass RX6 = some m.cls) (hA : Am G s) (hP : va_P G.1 vwCl w H) (q0 : Nat) (he : w[q0]? = some (a, .inr (6, fs))) {v : Value} (hv : fs[1]? = some v) (hdg : decode cc pc = .ok (.getfield 15, 3)) (kk : W p l e R s m args below meth c H locs cells slots Q (F0 m (pc + 3) ls (v :: rest))) : W p l e R s m args below meth c H locs cells slots Q (F0 m pc ls (.ref a :: rest)) :=
  va_get (D := G.1) (ci := 6) (C := RX6) (T := TX6) (N := 2) hx hb hA.hts wdx_6 hown hA.K hP q0 he rfl 1 (by decide) (hA.hts _ wd_96) (fun _ h9 => h9) hv hdg kk
theorem pf_X6_15 (hx : p.tables.exec = Jvm.exec) (hb : c.code = cc) (hown : s.vm.findClass RX6 = some m.cls) (hA : Am G s) (hP : va_P G.1 vwCl w H) (hD : va_D A w) (hS : va_S A H0 H locs) (q0 : Nat) (he : w[q0]? = some (a, .inr (6, fs))) {v : Int32} (hl : 1 < fs.length) (hdg : decode cc pc = .ok (.putfield 15, 3)) (kk : ∀ (H1 : Heap) (locs1 : List Loc), va_P G.1 vwCl (w.set q0 (a, .inr (6, fs.set 1 (.int v)))) H1 → va_D A (w.set q0 (a, .inr (6, fs.set 1 (.int v)))) → va_S A H0 H1 locs1 → W p l e R s m args below meth c H1 locs1 cells slots Q (F0 m (pc + 3) ls rest)) : W p l e R s m args below meth c H locs cells slots Q (F0 m pc ls (.int v :: .ref a :: rest)) :=
  va_put (D := G.1) (ci := 6) (v := .int v) (ty := .int) (C := RX6) (T := TX6) (N := 2) hx hb hA.hts wdx_6 tyX6 tyX6_ok nmX6 hown hA.K hP hD hS q0 he rfl 1 (by decide) (hA.hts _ wd_96) (fun _ h9 => h9) rfl (by decide +kernel) rfl rfl hl hdg kk
theorem gf_X7_23 (hx : p.tables.exec = Jvm.exec) (hb : c.code = cc) (hown : s.vm.findClass RX7 = some m.cls) (hA : Am G s) (hP : va_P G.1 vwCl w H) (q0 : Nat) (he : w[q0]? = some (a, .inr (7, fs))) {v : Value} (hv : fs[2]? = some v) (hdg : decode cc pc = .ok (.getfield 23, 3)) (kk : W p l e R s m args below meth c H locs cells slots Q (F0 m (pc + 3) ls (v :: rest))) : W p l e R s m args below meth c H locs cells slots Q (F0 m pc ls (.ref a :: rest)) :=
  va_get (D := G.1) (ci := 7) (C := RX7) (T := TX7) (N := 5) hx hb hA.hts wdx_7 hown hA.K hP q0 he rfl 2 (by decide) (hA.hts _ wd_61) (fun _ h9 => h9) hv hdg kk
theorem gf_X7_51 (hx : p.tables.exec = Jvm.exec) (hb : c.code = cc) (hown : s.vm.findClass RX7 = some m.cls) (hA : Am G s) (hP : va_P G.1 vwCl w H) (q0 : Nat) (he : w[q0]? = some (a, .inr (7, fs))) {v : Value} (hv : fs[3]? = some v) (hdg : decode cc pc = .ok (.getfield 51, 3)) (kk : W p l e R s m args below meth c H locs cells slots Q (F0 m (pc + 3) ls (v :: rest))) : W p l e R s m args below meth c H locs cells slots Q (F0 m pc ls (.ref a :: rest)) :=
  va_get (D := G.1) (ci := 7) (C := RX7) (T := TX7) (N := 5) hx hb hA.hts wdx_7 hown hA.K hP q0 he rfl 3 (by decide) (hA.hts _ wd_109) (fun _ h9 => h9) hv hdg kk
theorem pf_X7_51 (hx : p.tables.exec = Jvm.exec) (hb : c.code = cc) (hown : s.vm.findClass RX7 = some m.cls) (hA : Am G s) (hP : va_P G.1 vwCl w H) (hD : va_D A w) (hS : va_S A H0 H locs) (q0 : Nat) (he : w[q0]? = some (a, .inr (7, fs))) {v : Int32} (hl : 3 < fs.length) (hdg : decode cc pc = .ok (.putfield 51, 3)) (kk : ∀ (H1 : Heap) (locs1 : List Loc), va_P G.1 vwCl (w.set q0 (a, .inr (7, fs.set 3 (.int v)))) H1 → va_D A (w.set q0 (a, .inr (7, fs.set 3 (.int v)))) → va_S A H0 H1 locs1 → W p l e R s m args below meth c H1 locs1 cells slots Q (F0 m (pc + 3) ls rest)) : W p l e R s m args below meth c H locs cells slots Q (F0 m pc ls (.int v :: .ref a :: rest)) :=
  va_put (D := G.1) (ci := 7) (v := .int v) (ty := .int) (C := RX7) (T := TX7) (N := 5) hx hb hA.hts wdx_7 tyX7 tyX7_ok nmX7 hown hA.K hP hD hS q0 he rfl 3 (by decide) (hA.hts _ wd_109) (fun _ h9 => h9) rfl (by decide +kernel) rfl rfl hl hdg kk
theorem gf_X7_26 (hx : p.tables.exec = Jvm.exec) (hb : c.code = cc) (hown : s.vm.findClass RX7 = some m.cls) (hA : Am G s) (hP : va_P G.1 vwCl w H) (q0 : Nat) (he : w[q0]? = some (a, .inr (7, fs))) {v : Value} (hv : fs[4]? = some v) (hdg : decode cc pc = .ok (.getfield 26, 3)) (kk : W p l e R s m args below meth c H locs cells slots Q (F0 m (pc + 3) ls (v :: rest))) : W p l e R s m args below meth c H locs cells slots Q (F0 m pc ls (.ref a :: rest)) :=
  va_get (D := G.1) (ci := 7) (C := RX7) (T := TX7) (N := 5) hx hb hA.hts wdx_7 hown hA.K hP q0 he rfl 4 (by decide) (hA.hts _ wd_62) (fun _ h9 => h9) hv hdg kk
theorem pf_X7_26 (hx : p.tables.exec = Jvm.exec) (hb : c.code = cc) (hown : s.vm.findClass RX7 = some m.cls) (hA : Am G s) (hP : va_P G.1 vwCl w H) (hD : va_D A w) (hS : va_S A H0 H locs) (q0 : Nat) (he : w[q0]? = some (a, .inr (7, fs))) {v : Int32} (hl : 4 < fs.length) (hdg : decode cc pc = .ok (.putfield 26, 3)) (kk : ∀ (H1 : Heap) (locs1 : List Loc), va_P G.1 vwCl (w.set q0 (a, .inr (7, fs.set 4 (.int v)))) H1 → va_D A (w.set q0 (a, .inr (7, fs.set 4 (.int v)))) → va_S A H0 H1 locs1 → W p l e R s m args below meth c H1 locs1 cells slots Q (F0 m (pc + 3) ls rest)) : W p l e R s m args below meth c H locs cells slots Q (F0 m pc ls (.int v :: .ref a :: rest)) :=
  va_put (D := G.1) (ci := 7) (v := .int v) (ty := .int) (C := RX7) (T := TX7) (N := 5) hx hb hA.hts wdx_7 tyX7 tyX7_ok nmX7 hown hA.K hP hD hS q0 he rfl 4 (by decide) (hA.hts _ wd_62) (fun _ h9 => h9) rfl (by decide +kernel) rfl rfl hl hdg kk
theorem pf_X4_46 (hx : p.tables.exec = Jvm.exec) (hb : c.code = cc) (hown : s.vm.findClass RX4 = some m.cls) (hA : Am G s) (hP : va_P G.1 vwCl w H) (hD : va_D A w) (hS : va_S A H0 H locs) (q0 : Nat) (he : w[q0]? = some (a, .inr (4, fs))) {v : Int32} (hl : 5 < fs.length) (hdg : decode cc pc = .ok (.putfield 46, 3)) (kk : ∀ (H1 : Heap) (locs1 : List Loc), va_P G.1 vwCl (w.set q0 (a, .inr (4, fs.set 5 (.int v)))) H1 → va_D A (w.set q0 (a, .inr (4, fs.set 5 (.int v)))) → va_S A H0 H1 locs1 → W p l e R s m args below meth c H1 locs1 cells slots Q (F0 m (pc + 3) ls rest)) : W p l e R s m args below meth c H locs cells slots Q (F0 m pc ls (.int v :: .ref a :: rest)) :=
  va_put (D := G.1) (ci := 4) (v := .int v) (ty := .int) (C := RX4) (T := TX4) (N := 8) hx hb hA.hts wdx_4 tyX4 tyX4_ok nmX4 hown hA.K hP hD hS q0 he rfl 5 (by decide) (hA.hts _ wd_85) (fun _ h9 => h9) rfl (by decide +kernel) rfl rfl hl hdg kk
end GEN
theorem g_X1_21 : GoodIn Wd (wsV RX1 21 RX1 yX1_isSharp [.code yX1_isSharp cX1_isSharp 1 (some .boolean)]) := gV wd_17 wd_18 wd_19 wd_20 wd_15
theorem gd_X1_isSharp : Gd yX1_isSharp RX1 0 := by decide +kernel
theorem g_X4_65 : GoodIn Wd (wsV RX4 65 RX6 yX6_at [.code yX6_at cX6_at 4 (some .int)]) := gV wd_152 wd_98 wd_99 wd_68 wd_93
theorem gd_X6_at : Gd yX6_at RX6 2 := by decide +kernel
theorem g_X4_68 : GoodIn Wd (wsV RX4 68 RX4 yX4_reading [.code yX4_reading cX4_reading 5 (some .int)]) := gV wd_154 wd_155 wd_156 wd_132 wd_149
theorem gd_X4_reading : Gd yX4_reading RX4 1 := by decide +kernel
theorem g_X7_30 : GoodIn Wd (wsV RX7 30 RX8 yX8_at [.code yX8_at cX8_at 2 (some .int)]) := gV wd_158 wd_106 wd_107 wd_58 wd_103
theorem gd_X8_at : Gd yX8_at RX8 1 := by decide +kernel
theorem g_X4_78 : GoodIn Wd (wsV RX4 78 RX7 yX7_at [.code yX7_at cX7_at 3 (some .int)]) := gV wd_159 wd_160 wd_161 wd_79 wd_157
theorem gd_X7_at : Gd yX7_at RX7 2 := by decide +kernel
theorem g_X4_79 : GoodIn Wd (wsV RX4 79 RX4 yX4_target [.code yX4_target cX4_target 2 (some .int)]) := gV wd_162 wd_163 wd_164 wd_132 wd_153
theorem gd_X4_target : Gd yX4_target RX4 1 := by decide +kernel
theorem g_X4_82 : GoodIn Wd (wsV RX4 82 RX4 yX4_above [.code yX4_above cX4_above 3 (some .int)]) := gV wd_166 wd_167 wd_168 wd_132 wd_165
theorem gd_X4_above : Gd yX4_above RX4 2 := by decide +kernel
theorem g_X4_89 : GoodIn Wd (wsV RX4 89 RX1 yX1_isSharp [.code yX1_isSharp cX1_isSharp 1 (some .boolean)]) := gV wd_172 wd_18 wd_19 wd_20 wd_15
theorem g_X4_96 : GoodIn Wd (wsV RX4 96 RX7 yX7_hardness [.code yX7_hardness cX7_hardness 3 (some .int)]) := gV wd_176 wd_177 wd_178 wd_79 wd_173
theorem gd_X7_hardness : Gd yX7_hardness RX7 1 := by decide +kernel
theorem g_X8_19 : GoodIn Wd (wsV RX8 19 RX8 yX8_at [.code yX8_at cX8_at 2 (some .int)]) := gV wd_105 wd_106 wd_107 wd_58 wd_103
theorem g_X8_23 : GoodIn Wd (wsV RX8 23 RX8 yX8_put [.code yX8_put cX8_put 3 none]) := gV wd_181 wd_182 wd_183 wd_58 wd_179
theorem gd_X8_put : Gd yX8_put RX8 2 := by decide +kernel
theorem g_X7_34 : GoodIn Wd (wsV RX7 34 RX8 yX8_add [.code yX8_add cX8_add 3 none]) := gV wd_185 wd_186 wd_187 wd_58 wd_180
theorem gd_X8_add : Gd yX8_add RX8 2 := by decide +kernel
theorem g_X4_132 : GoodIn Wd (wsV RX4 132 RX1 yX1_reach [.code yX1_reach cX1_reach 1 (some .int)]) := gV wd_188 wd_189 wd_190 wd_20 wd_16
theorem gd_X1_reach : Gd yX1_reach RX1 0 := by decide +kernel
theorem g_X4_141 : GoodIn Wd (wsV RX4 141 RX7 yX7_thin [.code yX7_thin cX7_thin 4 none]) := gV wd_191 wd_192 wd_193 wd_79 wd_184
theorem gd_X7_thin : Gd yX7_thin RX7 3 := by decide +kernel
theorem g_X4_102 : GoodIn Wd (wsV RX4 102 RX4 yX4_cutSteps [.code yX4_cutSteps cX4_cutSteps 4 (some .int)]) := gV wd_195 wd_196 wd_197 wd_132 wd_194
theorem gd_X4_cutSteps : Gd yX4_cutSteps RX4 0 := by decide +kernel
theorem g_X4_116 : GoodIn Wd (wsV RX4 116 RX8 yX8_add [.code yX8_add cX8_add 3 none]) := gV wd_198 wd_186 wd_187 wd_58 wd_180
theorem g_X4_122 : GoodIn Wd (wsV RX4 122 RX4 yX4_blunting [.code yX4_blunting cX4_blunting 1 (some .int)]) := gV wd_199 wd_200 wd_201 wd_132 wd_175
theorem gd_X4_blunting : Gd yX4_blunting RX4 0 := by decide +kernel
theorem g_X4_125 : GoodIn Wd (wsV RX4 125 RX1 yX1_becomeBlunter [.code yX1_becomeBlunter cX1_becomeBlunter 2 none]) := gV wd_202 wd_203 wd_204 wd_20 wd_21
theorem gd_X1_becomeBlunter : Gd yX1_becomeBlunter RX1 1 := by decide +kernel
theorem g_X4_129 : GoodIn Wd (wsV RX4 129 RX2 yX2_wearByPass [.code yX2_wearByPass cX2_wearByPass 1 none]) := gV wd_205 wd_206 wd_207 wd_72 wd_33
theorem gd_X2_wearByPass : Gd yX2_wearByPass RX2 0 := by decide +kernel
theorem g_X4_145 : GoodIn Wd (wsV RX4 145 RX4 yX4_difference [.code yX4_difference cX4_difference 4 (some .int)]) := gV wd_215 wd_216 wd_217 wd_132 wd_211
theorem gd_X4_difference : Gd yX4_difference RX4 3 := by decide +kernel
theorem g_X4_152 : GoodIn Wd (wsV RX4 152 RX4 yX4_faults [.code yX4_faults cX4_faults 4 (some .int)]) := gV wd_220 wd_221 wd_222 wd_132 wd_219
theorem gd_X4_faults : Gd yX4_faults RX4 1 := by decide +kernel
theorem g_X4_155 : GoodIn Wd (wsV RX4 155 RX4 yX4_differences [.code yX4_differences cX4_differences 5 (some .int)]) := gV wd_223 wd_224 wd_225 wd_132 wd_218
theorem gd_X4_differences : Gd yX4_differences RX4 2 := by decide +kernel
theorem g_X6_19 : GoodIn Wd (wsV RX6 19 RX6 yX6_at [.code yX6_at cX6_at 4 (some .int)]) := gV wd_97 wd_98 wd_99 wd_68 wd_93
theorem g_X6_23 : GoodIn Wd (wsV RX6 23 RX6 yX6_put [.code yX6_put cX6_put 5 none]) := gV wd_100 wd_101 wd_102 wd_68 wd_94
theorem gd_X6_put : Gd yX6_put RX6 3 := by decide +kernel
theorem g_X7_60 : GoodIn Wd (wsV RX7 60 RX8 yX8_takeOver [.code yX8_takeOver cX8_takeOver 3 none]) := gV wd_110 wd_111 wd_112 wd_58 wd_104
theorem gd_X8_takeOver : Gd yX8_takeOver RX8 1 := by decide +kernel
theorem g_X4_158 : GoodIn Wd (wsV RX4 158 RX6 yX6_takeOver [.code yX6_takeOver cX6_takeOver 4 none]) := gV wd_115 wd_116 wd_117 wd_68 wd_95
theorem gd_X6_takeOver : Gd yX6_takeOver RX6 1 := by decide +kernel
theorem g_X4_162 : GoodIn Wd (wsV RX4 162 RX2 yX2_takeOver [.code yX2_takeOver cX2_takeOver 2 none]) := gV wd_118 wd_119 wd_120 wd_72 wd_37
theorem gd_X2_takeOver : Gd yX2_takeOver RX2 1 := by decide +kernel
theorem g_X4_165 : GoodIn Wd (wsV RX4 165 RX1 yX1_takeOver [.code yX1_takeOver cX1_takeOver 2 none]) := gV wd_121 wd_122 wd_123 wd_20 wd_26
theorem gd_X1_takeOver : Gd yX1_takeOver RX1 1 := by decide +kernel
theorem g_X4_168 : GoodIn Wd (wsV RX4 168 RX7 yX7_takeOver [.code yX7_takeOver cX7_takeOver 2 none]) := gV wd_124 wd_125 wd_126 wd_79 wd_108
theorem gd_X7_takeOver : Gd yX7_takeOver RX7 1 := by decide +kernel
theorem g_X4_171 : GoodIn Wd (wsV RX4 171 RX0 yX0_takeOver [.code yX0_takeOver cX0_takeOver 2 none]) := gV wd_127 wd_128 wd_129 wd_83 wd_4
theorem gd_X0_takeOver : Gd yX0_takeOver RX0 1 := by decide +kernel
theorem g_X7_38 : GoodIn Wd (wsV RX7 38 RX7 yX7_at [.code yX7_at cX7_at 3 (some .int)]) := gV wd_238 wd_160 wd_161 wd_79 wd_157
theorem g_X7_54 : GoodIn Wd (wsV RX7 54 RX8 yX8_put [.code yX8_put cX8_put 3 none]) := gV wd_240 wd_182 wd_183 wd_58 wd_179
theorem g_X7_57 : GoodIn Wd (wsV RX7 57 RX7 yX7_moveUp [.code yX7_moveUp cX7_moveUp 3 none]) := gV wd_243 wd_244 wd_245 wd_79 wd_241
theorem gd_X7_moveUp : Gd yX7_moveUp RX7 1 := by decide +kernel
def fX0_takeOver (o_apa : Int32) (o_awo : Int32) (o_ash : Int32) (o_aja : Int32) (o_abu : Int32)  : Option (Int32 × Int32 × Int32 × Int32 × Int32) :=
  some (o_apa, o_awo, o_ash, o_aja, o_abu)
set_option maxHeartbeats 4000000 in
set_option maxRecDepth 100000 in
theorem kX0_takeOver (l : Launch) (G : GG) (a0 b0 : Nat) (apa : Int32) (awo : Int32) (ash : Int32) (aja : Int32) (abu : Int32) (o_apa : Int32) (o_awo : Int32) (o_ash : Int32) (o_aja : Int32) (o_abu : Int32)  (apa_0 : Int32) (awo_0 : Int32) (ash_0 : Int32) (aja_0 : Int32) (abu_0 : Int32) (hf : fX0_takeOver o_apa o_awo o_ash o_aja o_abu = some (apa_0, awo_0, ash_0, aja_0, abu_0)) : Wr l G yX0_takeOver cX0_takeOver 2 none 0 0 0 0 [.ref a0, .ref b0] [(a0, .inr (0, [.int apa, .int awo, .int ash, .int aja, .int abu])), (b0, .inr (0, [.int o_apa, .int o_awo, .int o_ash, .int o_aja, .int o_abu]))] (X := Unit) (fun _ => [(a0, .inr (0, [.int apa_0, .int awo_0, .int ash_0, .int aja_0, .int abu_0])), (b0, .inr (0, [.int o_apa, .int o_awo, .int o_ash, .int o_aja, .int o_abu]))]) none := by
  refine wr_of (by decide) (Nat.le_of_ble_eq_true rfl) ?_
  intro p e s m args below meth c ls A hx hb hr hml hown hlk hA hZ hP hD hS hA0 hin hl
  have hP : va_P G.1 vwCl [(a0, .inr (0, [.int apa, .int awo, .int ash, .int aja, .int abu])), (b0, .inr (0, [.int o_apa, .int o_awo, .int o_ash, .int o_aja, .int o_abu]))] s.heap := hP
  replace hown : s.vm.findClass RX0 = some m.cls := hown
  replace hl : lv_has ls 2 [(0, .ref a0), (1, .ref b0)] := hl
  unfold fX0_takeOver at hf
  refine lv_aload_n hx hb dX0_takeOver_0 rfl (lv_at hl 0 rfl) ?_
  refine lv_aload_n hx hb dX0_takeOver_1 rfl (lv_at hl 1 rfl) ?_
  refine gf_X0_7 hx hb hown hA hP 1 rfl rfl dX0_takeOver_2 ?_
  refine pf_X0_7 hx hb hown hA hP hD hS 0 rfl (Nat.le_of_ble_eq_true rfl) dX0_takeOver_5 (fun H locs hP hD hS => ?_)
  have hP : va_P G.1 vwCl [(a0, .inr (0, [.int o_apa, .int awo, .int ash, .int aja, .int abu])), (b0, .inr (0, [.int o_apa, .int o_awo, .int o_ash, .int o_aja, .int o_abu]))] H := hP
  have hD : va_D A [(a0, .inr (0, [.int o_apa, .int awo, .int ash, .int aja, .int abu])), (b0, .inr (0, [.int o_apa, .int o_awo, .int o_ash, .int o_aja, .int o_abu]))] := hD
  refine lv_aload_n hx hb dX0_takeOver_8 rfl (lv_at hl 0 rfl) ?_
  refine lv_aload_n hx hb dX0_takeOver_9 rfl (lv_at hl 1 rfl) ?_
  refine gf_X0_13 hx hb hown hA hP 1 rfl rfl dX0_takeOver_10 ?_
  refine pf_X0_13 hx hb hown hA hP hD hS 0 rfl (Nat.le_of_ble_eq_true rfl) dX0_takeOver_13 (fun H locs hP hD hS => ?_)
  have hP : va_P G.1 vwCl [(a0, .inr (0, [.int o_apa, .int o_awo, .int ash, .int aja, .int abu])), (b0, .inr (0, [.int o_apa, .int o_awo, .int o_ash, .int o_aja, .int o_abu]))] H := hP
  have hD : va_D A [(a0, .inr (0, [.int o_apa, .int o_awo, .int ash, .int aja, .int abu])), (b0, .inr (0, [.int o_apa, .int o_awo, .int o_ash, .int o_aja, .int o_abu]))] := hD
  refine lv_aload_n hx hb dX0_takeOver_16 rfl (lv_at hl 0 rfl) ?_
  refine lv_aload_n hx hb dX0_takeOver_17 rfl (lv_at hl 1 rfl) ?_
  refine gf_X0_16 hx hb hown hA hP 1 rfl rfl dX0_takeOver_18 ?_
  refine pf_X0_16 hx hb hown hA hP hD hS 0 rfl (Nat.le_of_ble_eq_true rfl) dX0_takeOver_21 (fun H locs hP hD hS => ?_)
  have hP : va_P G.1 vwCl [(a0, .inr (0, [.int o_apa, .int o_awo, .int o_ash, .int aja, .int abu])), (b0, .inr (0, [.int o_apa, .int o_awo, .int o_ash, .int o_aja, .int o_abu]))] H := hP
  have hD : va_D A [(a0, .inr (0, [.int o_apa, .int o_awo, .int o_ash, .int aja, .int abu])), (b0, .inr (0, [.int o_apa, .int o_awo, .int o_ash, .int o_aja, .int o_abu]))] := hD
  refine lv_aload_n hx hb dX0_takeOver_24 rfl (lv_at hl 0 rfl) ?_
  refine lv_aload_n hx hb dX0_takeOver_25 rfl (lv_at hl 1 rfl) ?_
  refine gf_X0_19 hx hb hown hA hP 1 rfl rfl dX0_takeOver_26 ?_
  refine pf_X0_19 hx hb hown hA hP hD hS 0 rfl (Nat.le_of_ble_eq_true rfl) dX0_takeOver_29 (fun H locs hP hD hS => ?_)
  have hP : va_P G.1 vwCl [(a0, .inr (0, [.int o_apa, .int o_awo, .int o_ash, .int o_aja, .int abu])), (b0, .inr (0, [.int o_apa, .int o_awo, .int o_ash, .int o_aja, .int o_abu]))] H := hP
  have hD : va_D A [(a0, .inr (0, [.int o_apa, .int o_awo, .int o_ash, .int o_aja, .int abu])), (b0, .inr (0, [.int o_apa, .int o_awo, .int o_ash, .int o_aja, .int o_abu]))] := hD
  refine lv_aload_n hx hb dX0_takeOver_32 rfl (lv_at hl 0 rfl) ?_
  refine lv_aload_n hx hb dX0_takeOver_33 rfl (lv_at hl 1 rfl) ?_
  refine gf_X0_22 hx hb hown hA hP 1 rfl rfl dX0_takeOver_34 ?_
  refine pf_X0_22 hx hb hown hA hP hD hS 0 rfl (Nat.le_of_ble_eq_true rfl) dX0_takeOver_37 (fun H locs hP hD hS => ?_)
  have hP : va_P G.1 vwCl [(a0, .inr (0, [.int o_apa, .int o_awo, .int o_ash, .int o_aja, .int o_abu])), (b0, .inr (0, [.int o_apa, .int o_awo, .int o_ash, .int o_aja, .int o_abu]))] H := hP
  have hD : va_D A [(a0, .inr (0, [.int o_apa, .int o_awo, .int o_ash, .int o_aja, .int o_abu])), (b0, .inr (0, [.int o_apa, .int o_awo, .int o_ash, .int o_aja, .int o_abu]))] := hD
  cases hf
  exact wr_vret () hx hb hr hlk hP hD hS dX0_takeOver_40
def fX1_isSharp (csh : Int32)  : Option (Int32) :=
  (if csh ≤ 0 then some 0 else some 1)
set_option maxHeartbeats 4000000 in
set_option maxRecDepth 100000 in
theorem kX1_isSharp (l : Launch) (G : GG) (a0 : Nat) (csh : Int32) (cde : Int32) (csp : Int32)  (r_0 : Int32) (hf : fX1_isSharp csh = some r_0) : Ro l G yX1_isSharp cX1_isSharp 1 (some .boolean) 0 0 [.ref a0] [(a0, .inr (1, [.int csh, .int cde, .int csp]))] (some (.int r_0)) := by
  refine ro_of (by decide) (Nat.le_of_ble_eq_true rfl) ?_
  intro p e s m args below meth c ls hx hb hr hml hown hlk hA hZ hP hl
  replace hown : s.vm.findClass RX1 = some m.cls := hown
  replace hl : lv_has ls 1 [(0, .ref a0)] := hl
  unfold fX1_isSharp at hf
  refine lv_aload_n hx hb dX1_isSharp_0 rfl (lv_at hl 0 rfl) ?_
  refine gf_X1_9 hx hb hown hA hP 0 rfl rfl dX1_isSharp_1 ?_
  refine lv_if_le (tgt := 11) hx hb dX1_isSharp_4 (by decide) (fun c_1 => ?_) (fun c_1 => ?_)
  · replace hf := ifp c_1 hf
    refine lv_iconst (v := 0) hx hb dX1_isSharp_11 (by decide) ?_
    cases hf
    exact ro_zret hx hb hr hlk (Or.inl rfl) dX1_isSharp_12
  · replace hf := ifn c_1 hf
    refine lv_iconst (v := 1) hx hb dX1_isSharp_7 (by decide) ?_
    refine lv_goto (tgt := 12) hx hb dX1_isSharp_8 (by decide) ?_
    cases hf
    exact ro_zret hx hb hr hlk (Or.inr rfl) dX1_isSharp_12
def fX1_reach (csh : Int32) (cde : Int32)  : Option (Int32) :=
  ((fX1_isSharp csh).bind fun r_1 => (if r_1 = 0 then some 0 else (if csh < 50 then some ((cde + 1) / 2) else some cde)))
set_option maxHeartbeats 4000000 in
set_option maxRecDepth 100000 in
theorem kX1_reach (l : Launch) (G : GG) (a0 : Nat) (csh : Int32) (cde : Int32) (csp : Int32)  (r_0 : Int32) (hf : fX1_reach csh cde = some r_0) : Ro l G yX1_reach cX1_reach 1 (some .int) 1 20 [.ref a0] [(a0, .inr (1, [.int csh, .int cde, .int csp]))] (some (.int r_0)) := by
  refine ro_of (by decide) (Nat.le_of_ble_eq_true rfl) ?_
  intro p e s m args below meth c ls hx hb hr hml hown hlk hA hZ hP hl
  replace hown : s.vm.findClass RX1 = some m.cls := hown
  replace hl : lv_has ls 1 [(0, .ref a0)] := hl
  unfold fX1_reach at hf
  refine lv_aload_n hx hb dX1_reach_0 rfl (lv_at hl 0 rfl) ?_
  obtain ⟨r_1, q_2, hf⟩ := obd hf
  refine ro_v (n := 0) (As := []) (q0 := 0) hx hb hml hown hA (kX1_isSharp l G a0 csh cde csp r_1 q_2) g_X1_21 gd_X1_isSharp ⟨(Nat.le_of_ble_eq_true rfl), (Nat.le_of_ble_eq_true rfl)⟩ hZ (hP.sub [0] rfl) rfl rfl rfl hl.1 (Nat.le_of_ble_eq_true rfl) ⟨(Nat.le_of_ble_eq_true rfl), (Nat.le_of_ble_eq_true rfl)⟩ dX1_reach_1 ?_
  refine W.eq (g2 := F0 m 4 ls [.int r_1]) rfl ?_
  refine lv_if_ne (tgt := 9) hx hb dX1_reach_4 (by decide) (fun c_3 => ?_) (fun c_3 => ?_)
  · replace hf := ifn c_3 hf
    refine lv_aload_n hx hb dX1_reach_9 rfl (lv_at hl 0 rfl) ?_
    refine gf_X1_9 hx hb hown hA hP 0 rfl rfl dX1_reach_10 ?_
    refine lv_bipush (v := 50) hx hb dX1_reach_13 (by decide) ?_
    refine lv_icmp_lt (tgt := 25) hx hb dX1_reach_15 (by decide) (fun c_4 => ?_) (fun c_4 => ?_)
    · replace hf := ifp c_4 hf
      refine lv_aload_n hx hb dX1_reach_25 rfl (lv_at hl 0 rfl) ?_
      refine gf_X1_15 hx hb hown hA hP 0 rfl rfl dX1_reach_26 ?_
      refine lv_iconst (v := 1) hx hb dX1_reach_29 (by decide) ?_
      refine lv_iadd hx hb dX1_reach_30 ?_
      refine lv_iconst (v := 2) hx hb dX1_reach_31 (by decide) ?_
      refine lv_idiv hx hb dX1_reach_32 (by decide) ?_
      cases hf
      exact ro_iret hx hb hr hlk dX1_reach_33
    · replace hf := ifn c_4 hf
      refine lv_aload_n hx hb dX1_reach_18 rfl (lv_at hl 0 rfl) ?_
      refine gf_X1_15 hx hb hown hA hP 0 rfl rfl dX1_reach_19 ?_
      refine lv_goto (tgt := 33) hx hb dX1_reach_22 (by decide) ?_
      cases hf
      exact ro_iret hx hb hr hlk dX1_reach_33
  · replace hf := ifp c_3 hf
    refine lv_iconst (v := 0) hx hb dX1_reach_7 (by decide) ?_
    cases hf
    exact ro_iret hx hb hr hlk dX1_reach_8
def fX1_becomeBlunter (csh : Int32) (i1 : Int32) : Option (Int32) :=
  some (mxI 0 (csh - i1))
set_option maxHeartbeats 4000000 in
set_option maxRecDepth 100000 in
theorem kX1_becomeBlunter (l : Launch) (G : GG) (a0 : Nat) (csh : Int32) (cde : Int32) (csp : Int32) (i1 : Int32) (csh_0 : Int32) (hf : fX1_becomeBlunter csh i1 = some csh_0) : Wr l G yX1_becomeBlunter cX1_becomeBlunter 2 none 1 14 0 0 [.ref a0, .int i1] [(a0, .inr (1, [.int csh, .int cde, .int csp]))] (X := Unit) (fun _ => [(a0, .inr (1, [.int csh_0, .int cde, .int csp]))]) none := by
  refine wr_of (by decide) (Nat.le_of_ble_eq_true rfl) ?_
  intro p e s m args below meth c ls A hx hb hr hml hown hlk hA hZ hP hD hS hA0 hin hl
  have hP : va_P G.1 vwCl [(a0, .inr (1, [.int csh, .int cde, .int csp]))] s.heap := hP
  replace hown : s.vm.findClass RX1 = some m.cls := hown
  replace hl : lv_has ls 2 [(0, .ref a0), (1, .int i1)] := hl
  unfold fX1_becomeBlunter at hf
  refine lv_aload_n hx hb dX1_becomeBlunter_0 rfl (lv_at hl 0 rfl) ?_
  refine lv_iconst (v := 0) hx hb dX1_becomeBlunter_1 (by decide) ?_
  refine lv_aload_n hx hb dX1_becomeBlunter_2 rfl (lv_at hl 0 rfl) ?_
  refine gf_X1_9 hx hb hown hA hP 0 rfl rfl dX1_becomeBlunter_3 ?_
  refine lv_iload_n hx hb dX1_becomeBlunter_6 rfl (lv_at hl 1 rfl) ?_
  refine lv_isub hx hb dX1_becomeBlunter_7 ?_
  refine va_mmax hx hb (hml.trans hl.1.symm) hown (hA.hts _ wd_22) (hA.hts _ wd_23) (hA.hts _ wd_24) (hA.hts _ wd_25) (Nat.le_of_ble_eq_true rfl) (Nat.le_of_ble_eq_true rfl) (Nat.le_of_ble_eq_true rfl) (Nat.le_of_ble_eq_true rfl) dX1_becomeBlunter_8 ?_
  refine pf_X1_9 hx hb hown hA hP hD hS 0 rfl (Nat.le_of_ble_eq_true rfl) dX1_becomeBlunter_11 (fun H locs hP hD hS => ?_)
  have hP : va_P G.1 vwCl [(a0, .inr (1, [.int (mxI 0 (csh - i1)), .int cde, .int csp]))] H := hP
  have hD : va_D A [(a0, .inr (1, [.int (mxI 0 (csh - i1)), .int cde, .int csp]))] := hD
  cases hf
  exact wr_vret () hx hb hr hlk hP hD hS dX1_becomeBlunter_14
def fX1_takeOver (o_csh : Int32) (o_cde : Int32) (o_csp : Int32)  : Option (Int32 × Int32 × Int32) :=
  some (o_csh, o_cde, o_csp)
set_option maxHeartbeats 4000000 in
set_option maxRecDepth 100000 in
theorem kX1_takeOver (l : Launch) (G : GG) (a0 b0 : Nat) (csh : Int32) (cde : Int32) (csp : Int32) (o_csh : Int32) (o_cde : Int32) (o_csp : Int32)  (csh_0 : Int32) (cde_0 : Int32) (csp_0 : Int32) (hf : fX1_takeOver o_csh o_cde o_csp = some (csh_0, cde_0, csp_0)) : Wr l G yX1_takeOver cX1_takeOver 2 none 0 0 0 0 [.ref a0, .ref b0] [(a0, .inr (1, [.int csh, .int cde, .int csp])), (b0, .inr (1, [.int o_csh, .int o_cde, .int o_csp]))] (X := Unit) (fun _ => [(a0, .inr (1, [.int csh_0, .int cde_0, .int csp_0])), (b0, .inr (1, [.int o_csh, .int o_cde, .int o_csp]))]) none := by
  refine wr_of (by decide) (Nat.le_of_ble_eq_true rfl) ?_
  intro p e s m args below meth c ls A hx hb hr hml hown hlk hA hZ hP hD hS hA0 hin hl
  have hP : va_P G.1 vwCl [(a0, .inr (1, [.int csh, .int cde, .int csp])), (b0, .inr (1, [.int o_csh, .int o_cde, .int o_csp]))] s.heap := hP
  replace hown : s.vm.findClass RX1 = some m.cls := hown
  replace hl : lv_has ls 2 [(0, .ref a0), (1, .ref b0)] := hl
  unfold fX1_takeOver at hf
  refine lv_aload_n hx hb dX1_takeOver_0 rfl (lv_at hl 0 rfl) ?_
  refine lv_aload_n hx hb dX1_takeOver_1 rfl (lv_at hl 1 rfl) ?_
  refine gf_X1_9 hx hb hown hA hP 1 rfl rfl dX1_takeOver_2 ?_
  refine pf_X1_9 hx hb hown hA hP hD hS 0 rfl (Nat.le_of_ble_eq_true rfl) dX1_takeOver_5 (fun H locs hP hD hS => ?_)
  have hP : va_P G.1 vwCl [(a0, .inr (1, [.int o_csh, .int cde, .int csp])), (b0, .inr (1, [.int o_csh, .int o_cde, .int o_csp]))] H := hP
  have hD : va_D A [(a0, .inr (1, [.int o_csh, .int cde, .int csp])), (b0, .inr (1, [.int o_csh, .int o_cde, .int o_csp]))] := hD
  refine lv_aload_n hx hb dX1_takeOver_8 rfl (lv_at hl 0 rfl) ?_
  refine lv_aload_n hx hb dX1_takeOver_9 rfl (lv_at hl 1 rfl) ?_
  refine gf_X1_15 hx hb hown hA hP 1 rfl rfl dX1_takeOver_10 ?_
  refine pf_X1_15 hx hb hown hA hP hD hS 0 rfl (Nat.le_of_ble_eq_true rfl) dX1_takeOver_13 (fun H locs hP hD hS => ?_)
  have hP : va_P G.1 vwCl [(a0, .inr (1, [.int o_csh, .int o_cde, .int csp])), (b0, .inr (1, [.int o_csh, .int o_cde, .int o_csp]))] H := hP
  have hD : va_D A [(a0, .inr (1, [.int o_csh, .int o_cde, .int csp])), (b0, .inr (1, [.int o_csh, .int o_cde, .int o_csp]))] := hD
  refine lv_aload_n hx hb dX1_takeOver_16 rfl (lv_at hl 0 rfl) ?_
  refine lv_aload_n hx hb dX1_takeOver_17 rfl (lv_at hl 1 rfl) ?_
  refine gf_X1_18 hx hb hown hA hP 1 rfl rfl dX1_takeOver_18 ?_
  refine pf_X1_18 hx hb hown hA hP hD hS 0 rfl (Nat.le_of_ble_eq_true rfl) dX1_takeOver_21 (fun H locs hP hD hS => ?_)
  have hP : va_P G.1 vwCl [(a0, .inr (1, [.int o_csh, .int o_cde, .int o_csp])), (b0, .inr (1, [.int o_csh, .int o_cde, .int o_csp]))] H := hP
  have hD : va_D A [(a0, .inr (1, [.int o_csh, .int o_cde, .int o_csp])), (b0, .inr (1, [.int o_csh, .int o_cde, .int o_csp]))] := hD
  cases hf
  exact wr_vret () hx hb hr hlk hP hD hS dX1_takeOver_24
def fX2_renew  (i1 : Int32) : Option (Int32 × Int32 × Int32) :=
  some (i1, 0, 0)
set_option maxHeartbeats 4000000 in
set_option maxRecDepth 100000 in
theorem kX2_renew (l : Launch) (G : GG) (a0 : Nat) (fra : Int32) (fwe : Int32) (fof : Int32) (fsi : Int32) (i1 : Int32) (fra_0 : Int32) (fwe_0 : Int32) (fsi_0 : Int32) (hf : fX2_renew i1 = some (fra_0, fwe_0, fsi_0)) : Wr l G yX2_renew cX2_renew 2 none 0 0 0 0 [.ref a0, .int i1] [(a0, .inr (2, [.int fra, .int fwe, .int fof, .int fsi]))] (X := Unit) (fun _ => [(a0, .inr (2, [.int fra_0, .int fwe_0, .int fof, .int fsi_0]))]) none := by
  refine wr_of (by decide) (Nat.le_of_ble_eq_true rfl) ?_
  intro p e s m args below meth c ls A hx hb hr hml hown hlk hA hZ hP hD hS hA0 hin hl
  have hP : va_P G.1 vwCl [(a0, .inr (2, [.int fra, .int fwe, .int fof, .int fsi]))] s.heap := hP
  replace hown : s.vm.findClass RX2 = some m.cls := hown
  replace hl : lv_has ls 2 [(0, .ref a0), (1, .int i1)] := hl
  unfold fX2_renew at hf
  refine lv_aload_n hx hb dX2_renew_0 rfl (lv_at hl 0 rfl) ?_
  refine lv_iload_n hx hb dX2_renew_1 rfl (lv_at hl 1 rfl) ?_
  refine pf_X2_9 hx hb hown hA hP hD hS 0 rfl (Nat.le_of_ble_eq_true rfl) dX2_renew_2 (fun H locs hP hD hS => ?_)
  have hP : va_P G.1 vwCl [(a0, .inr (2, [.int i1, .int fwe, .int fof, .int fsi]))] H := hP
  have hD : va_D A [(a0, .inr (2, [.int i1, .int fwe, .int fof, .int fsi]))] := hD
  refine lv_aload_n hx hb dX2_renew_5 rfl (lv_at hl 0 rfl) ?_
  refine lv_iconst (v := 0) hx hb dX2_renew_6 (by decide) ?_
  refine pf_X2_15 hx hb hown hA hP hD hS 0 rfl (Nat.le_of_ble_eq_true rfl) dX2_renew_7 (fun H locs hP hD hS => ?_)
  have hP : va_P G.1 vwCl [(a0, .inr (2, [.int i1, .int 0, .int fof, .int fsi]))] H := hP
  have hD : va_D A [(a0, .inr (2, [.int i1, .int 0, .int fof, .int fsi]))] := hD
  refine lv_aload_n hx hb dX2_renew_10 rfl (lv_at hl 0 rfl) ?_
  refine lv_iconst (v := 0) hx hb dX2_renew_11 (by decide) ?_
  refine pf_X2_18 hx hb hown hA hP hD hS 0 rfl (Nat.le_of_ble_eq_true rfl) dX2_renew_12 (fun H locs hP hD hS => ?_)
  have hP : va_P G.1 vwCl [(a0, .inr (2, [.int i1, .int 0, .int fof, .int 0]))] H := hP
  have hD : va_D A [(a0, .inr (2, [.int i1, .int 0, .int fof, .int 0]))] := hD
  cases hf
  exact wr_vret () hx hb hr hlk hP hD hS dX2_renew_15
def fX2_wearByPass (fwe : Int32) (fsi : Int32)  : Option (Int32 × Int32) :=
  (if ((fsi + 1) - (fsi + 1) / 4 * 4) = 0 then some (mnI 30 (fwe + 1), fsi + 1) else some (fwe, fsi + 1))
set_option maxHeartbeats 4000000 in
set_option maxRecDepth 100000 in
theorem kX2_wearByPass (l : Launch) (G : GG) (a0 : Nat) (fra : Int32) (fwe : Int32) (fof : Int32) (fsi : Int32)  (fwe_0 : Int32) (fsi_0 : Int32) (hf : fX2_wearByPass fwe fsi = some (fwe_0, fsi_0)) : Wr l G yX2_wearByPass cX2_wearByPass 1 none 1 14 0 0 [.ref a0] [(a0, .inr (2, [.int fra, .int fwe, .int fof, .int fsi]))] (X := Unit) (fun _ => [(a0, .inr (2, [.int fra, .int fwe_0, .int fof, .int fsi_0]))]) none := by
  refine wr_of (by decide) (Nat.le_of_ble_eq_true rfl) ?_
  intro p e s m args below meth c ls A hx hb hr hml hown hlk hA hZ hP hD hS hA0 hin hl
  have hP : va_P G.1 vwCl [(a0, .inr (2, [.int fra, .int fwe, .int fof, .int fsi]))] s.heap := hP
  replace hown : s.vm.findClass RX2 = some m.cls := hown
  replace hl : lv_has ls 1 [(0, .ref a0)] := hl
  unfold fX2_wearByPass at hf
  refine lv_aload_n hx hb dX2_wearByPass_0 rfl (lv_at hl 0 rfl) ?_
  refine lv_dup hx hb dX2_wearByPass_1 rfl ?_
  refine gf_X2_18 hx hb hown hA hP 0 rfl rfl dX2_wearByPass_2 ?_
  refine lv_iconst (v := 1) hx hb dX2_wearByPass_5 (by decide) ?_
  refine lv_iadd hx hb dX2_wearByPass_6 ?_
  refine pf_X2_18 hx hb hown hA hP hD hS 0 rfl (Nat.le_of_ble_eq_true rfl) dX2_wearByPass_7 (fun H locs hP hD hS => ?_)
  have hP : va_P G.1 vwCl [(a0, .inr (2, [.int fra, .int fwe, .int fof, .int (fsi + 1)]))] H := hP
  have hD : va_D A [(a0, .inr (2, [.int fra, .int fwe, .int fof, .int (fsi + 1)]))] := hD
  refine lv_aload_n hx hb dX2_wearByPass_10 rfl (lv_at hl 0 rfl) ?_
  refine gf_X2_18 hx hb hown hA hP 0 rfl rfl dX2_wearByPass_11 ?_
  refine lv_iconst (v := 4) hx hb dX2_wearByPass_14 (by decide) ?_
  refine lv_irem hx hb dX2_wearByPass_15 (by decide) ?_
  refine lv_if_ne (tgt := 34) hx hb dX2_wearByPass_16 (by decide) (fun c_1 => ?_) (fun c_1 => ?_)
  · replace hf := ifn c_1 hf
    cases hf
    exact wr_vret () hx hb hr hlk hP hD hS dX2_wearByPass_34
  · replace hf := ifp c_1 hf
    refine lv_aload_n hx hb dX2_wearByPass_19 rfl (lv_at hl 0 rfl) ?_
    refine lv_bipush (v := 30) hx hb dX2_wearByPass_20 (by decide) ?_
    refine lv_aload_n hx hb dX2_wearByPass_22 rfl (lv_at hl 0 rfl) ?_
    refine gf_X2_15 hx hb hown hA hP 0 rfl rfl dX2_wearByPass_23 ?_
    refine lv_iconst (v := 1) hx hb dX2_wearByPass_26 (by decide) ?_
    refine lv_iadd hx hb dX2_wearByPass_27 ?_
    refine va_mmin hx hb (hml.trans hl.1.symm) hown (hA.hts _ wd_34) (hA.hts _ wd_35) (hA.hts _ wd_24) (hA.hts _ wd_36) (Nat.le_of_ble_eq_true rfl) (Nat.le_of_ble_eq_true rfl) (Nat.le_of_ble_eq_true rfl) (Nat.le_of_ble_eq_true rfl) dX2_wearByPass_28 ?_
    refine pf_X2_15 hx hb hown hA hP hD hS 0 rfl (Nat.le_of_ble_eq_true rfl) dX2_wearByPass_31 (fun H locs hP hD hS => ?_)
    have hP : va_P G.1 vwCl [(a0, .inr (2, [.int fra, .int (mnI 30 (fwe + 1)), .int fof, .int (fsi + 1)]))] H := hP
    have hD : va_D A [(a0, .inr (2, [.int fra, .int (mnI 30 (fwe + 1)), .int fof, .int (fsi + 1)]))] := hD
    cases hf
    exact wr_vret () hx hb hr hlk hP hD hS dX2_wearByPass_34
def fX2_takeOver (o_fra : Int32) (o_fwe : Int32) (o_fof : Int32) (o_fsi : Int32)  : Option (Int32 × Int32 × Int32 × Int32) :=
  some (o_fra, o_fwe, o_fof, o_fsi)
set_option maxHeartbeats 4000000 in
set_option maxRecDepth 100000 in
theorem kX2_takeOver (l : Launch) (G : GG) (a0 b0 : Nat) (fra : Int32) (fwe : Int32) (fof : Int32) (fsi : Int32) (o_fra : Int32) (o_fwe : Int32) (o_fof : Int32) (o_fsi : Int32)  (fra_0 : Int32) (fwe_0 : Int32) (fof_0 : Int32) (fsi_0 : Int32) (hf : fX2_takeOver o_fra o_fwe o_fof o_fsi = some (fra_0, fwe_0, fof_0, fsi_0)) : Wr l G yX2_takeOver cX2_takeOver 2 none 0 0 0 0 [.ref a0, .ref b0] [(a0, .inr (2, [.int fra, .int fwe, .int fof, .int fsi])), (b0, .inr (2, [.int o_fra, .int o_fwe, .int o_fof, .int o_fsi]))] (X := Unit) (fun _ => [(a0, .inr (2, [.int fra_0, .int fwe_0, .int fof_0, .int fsi_0])), (b0, .inr (2, [.int o_fra, .int o_fwe, .int o_fof, .int o_fsi]))]) none := by
  refine wr_of (by decide) (Nat.le_of_ble_eq_true rfl) ?_
  intro p e s m args below meth c ls A hx hb hr hml hown hlk hA hZ hP hD hS hA0 hin hl
  have hP : va_P G.1 vwCl [(a0, .inr (2, [.int fra, .int fwe, .int fof, .int fsi])), (b0, .inr (2, [.int o_fra, .int o_fwe, .int o_fof, .int o_fsi]))] s.heap := hP
  replace hown : s.vm.findClass RX2 = some m.cls := hown
  replace hl : lv_has ls 2 [(0, .ref a0), (1, .ref b0)] := hl
  unfold fX2_takeOver at hf
  refine lv_aload_n hx hb dX2_takeOver_0 rfl (lv_at hl 0 rfl) ?_
  refine lv_aload_n hx hb dX2_takeOver_1 rfl (lv_at hl 1 rfl) ?_
  refine gf_X2_9 hx hb hown hA hP 1 rfl rfl dX2_takeOver_2 ?_
  refine pf_X2_9 hx hb hown hA hP hD hS 0 rfl (Nat.le_of_ble_eq_true rfl) dX2_takeOver_5 (fun H locs hP hD hS => ?_)
  have hP : va_P G.1 vwCl [(a0, .inr (2, [.int o_fra, .int fwe, .int fof, .int fsi])), (b0, .inr (2, [.int o_fra, .int o_fwe, .int o_fof, .int o_fsi]))] H := hP
  have hD : va_D A [(a0, .inr (2, [.int o_fra, .int fwe, .int fof, .int fsi])), (b0, .inr (2, [.int o_fra, .int o_fwe, .int o_fof, .int o_fsi]))] := hD
  refine lv_aload_n hx hb dX2_takeOver_8 rfl (lv_at hl 0 rfl) ?_
  refine lv_aload_n hx hb dX2_takeOver_9 rfl (lv_at hl 1 rfl) ?_
  refine gf_X2_15 hx hb hown hA hP 1 rfl rfl dX2_takeOver_10 ?_
  refine pf_X2_15 hx hb hown hA hP hD hS 0 rfl (Nat.le_of_ble_eq_true rfl) dX2_takeOver_13 (fun H locs hP hD hS => ?_)
  have hP : va_P G.1 vwCl [(a0, .inr (2, [.int o_fra, .int o_fwe, .int fof, .int fsi])), (b0, .inr (2, [.int o_fra, .int o_fwe, .int o_fof, .int o_fsi]))] H := hP
  have hD : va_D A [(a0, .inr (2, [.int o_fra, .int o_fwe, .int fof, .int fsi])), (b0, .inr (2, [.int o_fra, .int o_fwe, .int o_fof, .int o_fsi]))] := hD
  refine lv_aload_n hx hb dX2_takeOver_16 rfl (lv_at hl 0 rfl) ?_
  refine lv_aload_n hx hb dX2_takeOver_17 rfl (lv_at hl 1 rfl) ?_
  refine gf_X2_27 hx hb hown hA hP 1 rfl rfl dX2_takeOver_18 ?_
  refine pf_X2_27 hx hb hown hA hP hD hS 0 rfl (Nat.le_of_ble_eq_true rfl) dX2_takeOver_21 (fun H locs hP hD hS => ?_)
  have hP : va_P G.1 vwCl [(a0, .inr (2, [.int o_fra, .int o_fwe, .int o_fof, .int fsi])), (b0, .inr (2, [.int o_fra, .int o_fwe, .int o_fof, .int o_fsi]))] H := hP
  have hD : va_D A [(a0, .inr (2, [.int o_fra, .int o_fwe, .int o_fof, .int fsi])), (b0, .inr (2, [.int o_fra, .int o_fwe, .int o_fof, .int o_fsi]))] := hD
  refine lv_aload_n hx hb dX2_takeOver_24 rfl (lv_at hl 0 rfl) ?_
  refine lv_aload_n hx hb dX2_takeOver_25 rfl (lv_at hl 1 rfl) ?_
  refine gf_X2_18 hx hb hown hA hP 1 rfl rfl dX2_takeOver_26 ?_
  refine pf_X2_18 hx hb hown hA hP hD hS 0 rfl (Nat.le_of_ble_eq_true rfl) dX2_takeOver_29 (fun H locs hP hD hS => ?_)
  have hP : va_P G.1 vwCl [(a0, .inr (2, [.int o_fra, .int o_fwe, .int o_fof, .int o_fsi])), (b0, .inr (2, [.int o_fra, .int o_fwe, .int o_fof, .int o_fsi]))] H := hP
  have hD : va_D A [(a0, .inr (2, [.int o_fra, .int o_fwe, .int o_fof, .int o_fsi])), (b0, .inr (2, [.int o_fra, .int o_fwe, .int o_fof, .int o_fsi]))] := hD
  cases hf
  exact wr_vret () hx hb hr hlk hP hD hS dX2_takeOver_32
def fX6_at (md : Nat → Int32) (i1 : Int32) (i2 : Int32) : Option (Int32) :=
  (if ((i1 * 16) + i2) < 0 then some 0 else (if 48 ≤ ((i1 * 16) + i2) then some 0 else some (md ((i1 * 16) + i2 : Int32).toNatClampNeg)))
set_option maxHeartbeats 4000000 in
set_option maxRecDepth 100000 in
theorem kX6_at (l : Launch) (G : GG) (a0 a1 : Nat) (md : Nat → Int32) (mch : Int32) (i1 : Int32) (i2 : Int32) (r_0 : Int32) (hf : fX6_at md i1 i2 = some r_0) : Ro l G yX6_at cX6_at 4 (some .int) 0 0 [.ref a0, .int i1, .int i2] [(a0, .inr (6, [.ref a1, .int mch])), (a1, .inl (G.2.1, 48, .inl md))] (some (.int r_0)) := by
  refine ro_of (by decide) (Nat.le_of_ble_eq_true rfl) ?_
  intro p e s m args below meth c ls hx hb hr hml hown hlk hA hZ hP hl
  replace hown : s.vm.findClass RX6 = some m.cls := hown
  replace hl : lv_has ls 4 [(0, .ref a0), (1, .int i1), (2, .int i2)] := hl
  unfold fX6_at at hf
  refine lv_iload_n hx hb dX6_at_0 rfl (lv_at hl 1 rfl) ?_
  refine lv_bipush (v := 16) hx hb dX6_at_1 (by decide) ?_
  refine lv_imul hx hb dX6_at_3 ?_
  refine lv_iload_n hx hb dX6_at_4 rfl (lv_at hl 2 rfl) ?_
  refine lv_iadd hx hb dX6_at_5 ?_
  refine lv_istore_n (lv' := [(3, .int ((i1 * 16) + i2)), (0, .ref a0), (1, .int i1), (2, .int i2)]) hx hb dX6_at_6 rfl hl (by decide) rfl (fun ls hl => ?_)
  refine lv_iload_n hx hb dX6_at_7 rfl (lv_at hl 0 rfl) ?_
  refine lv_if_lt (tgt := 29) hx hb dX6_at_8 (by decide) (fun c_1 => ?_) (fun c_1 => ?_)
  · replace hf := ifp c_1 hf
    refine lv_iconst (v := 0) hx hb dX6_at_29 (by decide) ?_
    cases hf
    exact ro_iret hx hb hr hlk dX6_at_30
  · replace hf := ifn c_1 hf
    refine lv_iload_n hx hb dX6_at_11 rfl (lv_at hl 0 rfl) ?_
    refine lv_aload_n hx hb dX6_at_12 rfl (lv_at hl 1 rfl) ?_
    refine gf_X6_9 hx hb hown hA hP 0 rfl rfl dX6_at_13 ?_
    refine va_alen hx hb hA.K hP 1 0 rfl rfl (v := 48) rfl dX6_at_16 ?_
    refine lv_icmp_ge (tgt := 29) hx hb dX6_at_17 (by decide) (fun c_2 => ?_) (fun c_2 => ?_)
    · replace hf := ifp c_2 hf
      refine lv_iconst (v := 0) hx hb dX6_at_29 (by decide) ?_
      cases hf
      exact ro_iret hx hb hr hlk dX6_at_30
    · replace hf := ifn c_2 hf
      refine lv_aload_n hx hb dX6_at_20 rfl (lv_at hl 1 rfl) ?_
      refine gf_X6_9 hx hb hown hA hP 0 rfl rfl dX6_at_21 ?_
      refine lv_iload_n hx hb dX6_at_24 rfl (lv_at hl 0 rfl) ?_
      refine va_iald hx hb hA.K hP 1 0 rfl rfl (vin_g c_1 c_2 (by decide)) dX6_at_25 ?_
      refine lv_goto (tgt := 30) hx hb dX6_at_26 (by decide) ?_
      cases hf
      exact ro_iret hx hb hr hlk dX6_at_30
def fX4_reading_L32 (md : Nat → Int32) (mch : Int32) (v3 : Int32) : Nat → Int32 → Int32 → Option (Int32)
  | 0, _, _ => none
  | n9 + 1, v2, v4 => (if v3 < v4 then some v2 else ((fX6_at md mch v4).bind fun r_2 => fX4_reading_L32 md mch v3 n9 (mxI v2 r_2) (v4 + 1)))
def fX4_reading (md : Nat → Int32) (mch : Int32) (fra : Int32) (i1 : Int32) : Option (Int32) :=
  ((fX4_reading_L32 md mch (mnI 15 (i1 + fra)) 2000 0 (mxI 0 (i1 - fra))).bind fun x2_4 => some x2_4)
set_option maxHeartbeats 4000000 in
set_option maxRecDepth 100000 in
theorem kX4_reading (l : Launch) (G : GG) (a0 a1 a2 a3 a4 a5 a6 a7 a8 a9 a10 a11 a12 : Nat) (md : Nat → Int32) (mch : Int32) (fra : Int32) (fwe : Int32) (fof : Int32) (fsi : Int32) (csh : Int32) (cde : Int32) (csp : Int32) (rd : Nat → Int32) (rw : Nat → Int32) (rp : Nat → Int32) (rco : Int32) (rmo : Int32) (apa : Int32) (awo : Int32) (ash : Int32) (aja : Int32) (abu : Int32) (ltol : Int32) (lchi : Int32) (ljam : Int32) (i1 : Int32) (r_0 : Int32) (hf : fX4_reading md mch fra i1 = some r_0) : Ro l G yX4_reading cX4_reading 5 (some .int) 1 23 [.ref a0, .int i1] [(a0, .inr (4, [.ref a1, .ref a3, .ref a4, .ref a5, .ref a12, .int ltol, .int lchi, .int ljam])), (a1, .inr (6, [.ref a2, .int mch])), (a2, .inl (G.2.1, 48, .inl md)), (a3, .inr (2, [.int fra, .int fwe, .int fof, .int fsi])), (a4, .inr (1, [.int csh, .int cde, .int csp])), (a5, .inr (7, [.ref a6, .ref a8, .ref a10, .int rco, .int rmo])), (a6, .inr (8, [.ref a7])), (a7, .inl (G.2.1, 80, .inl rd)), (a8, .inr (8, [.ref a9])), (a9, .inl (G.2.1, 5, .inl rw)), (a10, .inr (8, [.ref a11])), (a11, .inl (G.2.1, 5, .inl rp)), (a12, .inr (0, [.int apa, .int awo, .int ash, .int aja, .int abu]))] (some (.int r_0)) := by
  refine ro_of (by decide) (Nat.le_of_ble_eq_true rfl) ?_
  intro p e s m args below meth c ls hx hb hr hml hown hlk hA hZ hP hl
  replace hown : s.vm.findClass RX4 = some m.cls := hown
  replace hl : lv_has ls 5 [(0, .ref a0), (1, .int i1)] := hl
  unfold fX4_reading at hf
  refine lv_iconst (v := 0) hx hb dX4_reading_0 (by decide) ?_
  refine lv_istore_n (lv' := [(2, .int 0), (0, .ref a0), (1, .int i1)]) hx hb dX4_reading_1 rfl hl (by decide) rfl (fun ls hl => ?_)
  refine lv_bipush (v := 15) hx hb dX4_reading_2 (by decide) ?_
  refine lv_iload_n hx hb dX4_reading_4 rfl (lv_at hl 2 rfl) ?_
  refine lv_aload_n hx hb dX4_reading_5 rfl (lv_at hl 1 rfl) ?_
  refine gf_X4_21 hx hb hown hA hP 0 rfl rfl dX4_reading_6 ?_
  refine gf_X4_50 hx hb hown hA hP 3 rfl rfl dX4_reading_9 ?_
  refine lv_iadd hx hb dX4_reading_12 ?_
  refine va_mmin hx hb (hml.trans hl.1.symm) hown (hA.hts _ wd_150) (hA.hts _ wd_35) (hA.hts _ wd_24) (hA.hts _ wd_36) (Nat.le_of_ble_eq_true rfl) (Nat.le_of_ble_eq_true rfl) (Nat.le_of_ble_eq_true rfl) (Nat.le_of_ble_eq_true rfl) dX4_reading_13 ?_
  refine lv_istore_n (lv' := [(3, .int (mnI 15 (i1 + fra))), (2, .int 0), (0, .ref a0), (1, .int i1)]) hx hb dX4_reading_16 rfl hl (by decide) rfl (fun ls hl => ?_)
  refine lv_iconst (v := 0) hx hb dX4_reading_17 (by decide) ?_
  refine lv_iload_n hx hb dX4_reading_18 rfl (lv_at hl 3 rfl) ?_
  refine lv_aload_n hx hb dX4_reading_19 rfl (lv_at hl 2 rfl) ?_
  refine gf_X4_21 hx hb hown hA hP 0 rfl rfl dX4_reading_20 ?_
  refine gf_X4_50 hx hb hown hA hP 3 rfl rfl dX4_reading_23 ?_
  refine lv_isub hx hb dX4_reading_26 ?_
  refine va_mmax hx hb (hml.trans hl.1.symm) hown (hA.hts _ wd_151) (hA.hts _ wd_23) (hA.hts _ wd_24) (hA.hts _ wd_25) (Nat.le_of_ble_eq_true rfl) (Nat.le_of_ble_eq_true rfl) (Nat.le_of_ble_eq_true rfl) (Nat.le_of_ble_eq_true rfl) dX4_reading_27 ?_
  refine lv_istore (lv' := [(4, .int (mxI 0 (i1 - fra))), (3, .int (mnI 15 (i1 + fra))), (2, .int 0), (0, .ref a0), (1, .int i1)]) hx hb dX4_reading_30 hl (by decide) rfl (fun ls hl => ?_)
  have lp32 : ∀ (v3 : Int32)  (n : Nat) (v2 : Int32) (v4 : Int32)  (x2_4 : Int32) (Q : State → Prop), fX4_reading_L32 md mch v3 n v2 v4 = some x2_4 → ∀ (ls : Array Slot), lv_has ls 5 [(0, .ref a0), (2, .int v2), (3, .int v3), (4, .int v4)] → (∀ (ls : Array Slot), lv_has ls 5 [(2, .int x2_4)] → W p l e { frames := 1, cells := 0, slots := 0, locals := 23 } s m args below meth c s.heap [] 0 0 Q (F0 m 65 ls [])) → W p l e { frames := 1, cells := 0, slots := 0, locals := 23 } s m args below meth c s.heap [] 0 0 Q (F0 m 32 ls []) := by
    intro v3 n
    induction n with
    | zero => intro v2 v4 x2_4 Q hf; rw [fX4_reading_L32] at hf; cases hf
    | succ n ih =>
      intro v2 v4 x2_4 Q hf ls hl kk
      rw [fX4_reading_L32] at hf
      refine lv_iload hx hb dX4_reading_32 (lv_at hl 3 rfl) ?_
      refine lv_iload_n hx hb dX4_reading_34 rfl (lv_at hl 2 rfl) ?_
      refine lv_icmp_gt (tgt := 65) hx hb dX4_reading_35 (by decide) (fun c_1 => ?_) (fun c_1 => ?_)
      · replace hf := ifp c_1 hf
        cases hf
        exact kk ls (lv_sub hl [1] rfl)
      · replace hf := ifn c_1 hf
        refine lv_iload_n hx hb dX4_reading_38 rfl (lv_at hl 1 rfl) ?_
        refine lv_aload_n hx hb dX4_reading_39 rfl (lv_at hl 0 rfl) ?_
        refine gf_X4_12 hx hb hown hA hP 0 rfl rfl dX4_reading_40 ?_
        refine lv_aload_n hx hb dX4_reading_43 rfl (lv_at hl 0 rfl) ?_
        refine gf_X4_12 hx hb hown hA hP 0 rfl rfl dX4_reading_44 ?_
        refine gf_X4_62 hx hb hown hA hP 1 rfl rfl dX4_reading_47 ?_
        refine lv_iload hx hb dX4_reading_50 (lv_at hl 3 rfl) ?_
        obtain ⟨r_2, q_3, hf⟩ := obd hf
        refine ro_v (n := 2) (As := [.int mch, .int v4]) (q0 := 0) hx hb hml hown hA (kX6_at l G a1 a2 md mch mch v4 r_2 q_3) g_X4_65 gd_X6_at ⟨(Nat.le_of_ble_eq_true rfl), (Nat.le_of_ble_eq_true rfl)⟩ hZ (hP.sub [1, 2] rfl) rfl rfl rfl hl.1 (Nat.le_of_ble_eq_true rfl) ⟨(Nat.le_of_ble_eq_true rfl), (Nat.le_of_ble_eq_true rfl)⟩ dX4_reading_52 ?_
        refine W.eq (g2 := F0 m 55 ls [.int r_2, .int v2]) rfl ?_
        refine va_mmax hx hb (hml.trans hl.1.symm) hown (hA.hts _ wd_151) (hA.hts _ wd_23) (hA.hts _ wd_24) (hA.hts _ wd_25) (Nat.le_of_ble_eq_true rfl) (Nat.le_of_ble_eq_true rfl) (Nat.le_of_ble_eq_true rfl) (Nat.le_of_ble_eq_true rfl) dX4_reading_55 ?_
        refine lv_istore_n (lv' := [(2, .int (mxI v2 r_2)), (0, .ref a0), (3, .int v3), (4, .int v4)]) hx hb dX4_reading_58 rfl hl (by decide) rfl (fun ls hl => ?_)
        refine lv_iinc (v := v4 + 1) (lv' := [(4, .int (v4 + 1)), (2, .int (mxI v2 r_2)), (0, .ref a0), (3, .int v3)]) hx hb dX4_reading_59 hl (k := 3) rfl rfl (by decide) rfl (fun ls hl => ?_)
        refine lv_goto (tgt := 32) hx hb dX4_reading_62 (by decide) ?_
        exact ih _ _ _ _ hf ls (lv_sub hl [2, 1, 3, 0] rfl) kk
  obtain ⟨x2_4, q_5, hf⟩ := obd hf
  refine lp32 _ _ _ _ _ _ q_5 ls (lv_sub hl [3, 2, 1, 0] rfl) (fun ls hl => ?_)
  refine lv_iload_n hx hb dX4_reading_65 rfl (lv_at hl 0 rfl) ?_
  cases hf
  exact ro_iret hx hb hr hlk dX4_reading_66
def fX4_target (md : Nat → Int32) (mch : Int32) (fra : Int32) (fwe : Int32) (fof : Int32) (i1 : Int32) : Option (Int32) :=
  ((fX4_reading md mch fra i1).bind fun r_1 => some (mxI 1 ((r_1 - fwe) + fof)))
set_option maxHeartbeats 4000000 in
set_option maxRecDepth 100000 in
theorem kX4_target (l : Launch) (G : GG) (a0 a1 a2 a3 a4 a5 a6 a7 a8 a9 a10 a11 a12 : Nat) (md : Nat → Int32) (mch : Int32) (fra : Int32) (fwe : Int32) (fof : Int32) (fsi : Int32) (csh : Int32) (cde : Int32) (csp : Int32) (rd : Nat → Int32) (rw : Nat → Int32) (rp : Nat → Int32) (rco : Int32) (rmo : Int32) (apa : Int32) (awo : Int32) (ash : Int32) (aja : Int32) (abu : Int32) (ltol : Int32) (lchi : Int32) (ljam : Int32) (i1 : Int32) (r_0 : Int32) (hf : fX4_target md mch fra fwe fof i1 = some r_0) : Ro l G yX4_target cX4_target 2 (some .int) 2 47 [.ref a0, .int i1] [(a0, .inr (4, [.ref a1, .ref a3, .ref a4, .ref a5, .ref a12, .int ltol, .int lchi, .int ljam])), (a1, .inr (6, [.ref a2, .int mch])), (a2, .inl (G.2.1, 48, .inl md)), (a3, .inr (2, [.int fra, .int fwe, .int fof, .int fsi])), (a4, .inr (1, [.int csh, .int cde, .int csp])), (a5, .inr (7, [.ref a6, .ref a8, .ref a10, .int rco, .int rmo])), (a6, .inr (8, [.ref a7])), (a7, .inl (G.2.1, 80, .inl rd)), (a8, .inr (8, [.ref a9])), (a9, .inl (G.2.1, 5, .inl rw)), (a10, .inr (8, [.ref a11])), (a11, .inl (G.2.1, 5, .inl rp)), (a12, .inr (0, [.int apa, .int awo, .int ash, .int aja, .int abu]))] (some (.int r_0)) := by
  refine ro_of (by decide) (Nat.le_of_ble_eq_true rfl) ?_
  intro p e s m args below meth c ls hx hb hr hml hown hlk hA hZ hP hl
  replace hown : s.vm.findClass RX4 = some m.cls := hown
  replace hl : lv_has ls 2 [(0, .ref a0), (1, .int i1)] := hl
  unfold fX4_target at hf
  refine lv_iconst (v := 1) hx hb dX4_target_0 (by decide) ?_
  refine lv_aload_n hx hb dX4_target_1 rfl (lv_at hl 0 rfl) ?_
  refine lv_iload_n hx hb dX4_target_2 rfl (lv_at hl 1 rfl) ?_
  obtain ⟨r_1, q_2, hf⟩ := obd hf
  refine ro_v (n := 1) (As := [.int i1]) (q0 := 0) hx hb hml hown hA (kX4_reading l G a0 a1 a2 a3 a4 a5 a6 a7 a8 a9 a10 a11 a12 md mch fra fwe fof fsi csh cde csp rd rw rp rco rmo apa awo ash aja abu ltol lchi ljam i1 r_1 q_2) g_X4_68 gd_X4_reading ⟨(Nat.le_of_ble_eq_true rfl), (Nat.le_of_ble_eq_true rfl)⟩ hZ (hP.sub [0, 1, 2, 3, 4, 5, 6, 7, 8, 9, 10, 11, 12] rfl) rfl rfl rfl hl.1 (Nat.le_of_ble_eq_true rfl) ⟨(Nat.le_of_ble_eq_true rfl), (Nat.le_of_ble_eq_true rfl)⟩ dX4_target_3 ?_
  refine W.eq (g2 := F0 m 6 ls [.int r_1, .int 1]) rfl ?_
  refine lv_aload_n hx hb dX4_target_6 rfl (lv_at hl 0 rfl) ?_
  refine gf_X4_21 hx hb hown hA hP 0 rfl rfl dX4_target_7 ?_
  refine gf_X4_72 hx hb hown hA hP 3 rfl rfl dX4_target_10 ?_
  refine lv_isub hx hb dX4_target_13 ?_
  refine lv_aload_n hx hb dX4_target_14 rfl (lv_at hl 0 rfl) ?_
  refine gf_X4_21 hx hb hown hA hP 0 rfl rfl dX4_target_15 ?_
  refine gf_X4_75 hx hb hown hA hP 3 rfl rfl dX4_target_18 ?_
  refine lv_iadd hx hb dX4_target_21 ?_
  refine va_mmax hx hb (hml.trans hl.1.symm) hown (hA.hts _ wd_151) (hA.hts _ wd_23) (hA.hts _ wd_24) (hA.hts _ wd_25) (Nat.le_of_ble_eq_true rfl) (Nat.le_of_ble_eq_true rfl) (Nat.le_of_ble_eq_true rfl) (Nat.le_of_ble_eq_true rfl) dX4_target_22 ?_
  cases hf
  exact ro_iret hx hb hr hlk dX4_target_25
def fX8_at (ln : Nat) (rf : Nat → Int32) (i1 : Int32) : Option (Int32) :=
  (if i1 < 0 then some 0 else (if (Int32.ofNat ln) ≤ i1 then some 0 else some (rf i1.toNatClampNeg)))
set_option maxHeartbeats 4000000 in
set_option maxRecDepth 100000 in
theorem kX8_at (l : Launch) (G : GG) (a0 a1 : Nat) (ln : Nat) (rf : Nat → Int32) (i1 : Int32) (r_0 : Int32) (hf : fX8_at ln rf i1 = some r_0) (hln : ln < 2147483648) : Ro l G yX8_at cX8_at 2 (some .int) 0 0 [.ref a0, .int i1] [(a0, .inr (8, [.ref a1])), (a1, .inl (G.2.1, ln, .inl rf))] (some (.int r_0)) := by
  refine ro_of (by decide) (Nat.le_of_ble_eq_true rfl) ?_
  intro p e s m args below meth c ls hx hb hr hml hown hlk hA hZ hP hl
  replace hown : s.vm.findClass RX8 = some m.cls := hown
  replace hl : lv_has ls 2 [(0, .ref a0), (1, .int i1)] := hl
  unfold fX8_at at hf
  refine lv_iload_n hx hb dX8_at_0 rfl (lv_at hl 1 rfl) ?_
  refine lv_if_lt (tgt := 22) hx hb dX8_at_1 (by decide) (fun c_1 => ?_) (fun c_1 => ?_)
  · replace hf := ifp c_1 hf
    refine lv_iconst (v := 0) hx hb dX8_at_22 (by decide) ?_
    cases hf
    exact ro_iret hx hb hr hlk dX8_at_23
  · replace hf := ifn c_1 hf
    refine lv_iload_n hx hb dX8_at_4 rfl (lv_at hl 1 rfl) ?_
    refine lv_aload_n hx hb dX8_at_5 rfl (lv_at hl 0 rfl) ?_
    refine gf_X8_13 hx hb hown hA hP 0 rfl rfl dX8_at_6 ?_
    refine va_alen hx hb hA.K hP 1 0 rfl rfl (v := Int32.ofNat ln) rfl dX8_at_9 ?_
    refine lv_icmp_ge (tgt := 22) hx hb dX8_at_10 (by decide) (fun c_2 => ?_) (fun c_2 => ?_)
    · replace hf := ifp c_2 hf
      refine lv_iconst (v := 0) hx hb dX8_at_22 (by decide) ?_
      cases hf
      exact ro_iret hx hb hr hlk dX8_at_23
    · replace hf := ifn c_2 hf
      refine lv_aload_n hx hb dX8_at_13 rfl (lv_at hl 0 rfl) ?_
      refine gf_X8_13 hx hb hown hA hP 0 rfl rfl dX8_at_14 ?_
      refine lv_iload_n hx hb dX8_at_17 rfl (lv_at hl 1 rfl) ?_
      refine va_iald hx hb hA.K hP 1 0 rfl rfl (vin_g c_1 c_2 hln) dX8_at_18 ?_
      refine lv_goto (tgt := 23) hx hb dX8_at_19 (by decide) ?_
      cases hf
      exact ro_iret hx hb hr hlk dX8_at_23
def fX7_at (rd : Nat → Int32) (i1 : Int32) (i2 : Int32) : Option (Int32) :=
  ((fX8_at 80 rd ((i1 * 16) + i2)).bind fun r_1 => some r_1)
set_option maxHeartbeats 4000000 in
set_option maxRecDepth 100000 in
theorem kX7_at (l : Launch) (G : GG) (a0 a1 a2 a3 a4 a5 a6 : Nat) (rd : Nat → Int32) (rw : Nat → Int32) (rp : Nat → Int32) (rco : Int32) (rmo : Int32) (i1 : Int32) (i2 : Int32) (r_0 : Int32) (hf : fX7_at rd i1 i2 = some r_0) : Ro l G yX7_at cX7_at 3 (some .int) 1 21 [.ref a0, .int i1, .int i2] [(a0, .inr (7, [.ref a1, .ref a3, .ref a5, .int rco, .int rmo])), (a1, .inr (8, [.ref a2])), (a2, .inl (G.2.1, 80, .inl rd)), (a3, .inr (8, [.ref a4])), (a4, .inl (G.2.1, 5, .inl rw)), (a5, .inr (8, [.ref a6])), (a6, .inl (G.2.1, 5, .inl rp))] (some (.int r_0)) := by
  refine ro_of (by decide) (Nat.le_of_ble_eq_true rfl) ?_
  intro p e s m args below meth c ls hx hb hr hml hown hlk hA hZ hP hl
  replace hown : s.vm.findClass RX7 = some m.cls := hown
  replace hl : lv_has ls 3 [(0, .ref a0), (1, .int i1), (2, .int i2)] := hl
  unfold fX7_at at hf
  refine lv_aload_n hx hb dX7_at_0 rfl (lv_at hl 0 rfl) ?_
  refine gf_X7_14 hx hb hown hA hP 0 rfl rfl dX7_at_1 ?_
  refine lv_iload_n hx hb dX7_at_4 rfl (lv_at hl 1 rfl) ?_
  refine lv_bipush (v := 16) hx hb dX7_at_5 (by decide) ?_
  refine lv_imul hx hb dX7_at_7 ?_
  refine lv_iload_n hx hb dX7_at_8 rfl (lv_at hl 2 rfl) ?_
  refine lv_iadd hx hb dX7_at_9 ?_
  obtain ⟨r_1, q_2, hf⟩ := obd hf
  refine ro_v (n := 1) (As := [.int ((i1 * 16) + i2)]) (q0 := 0) hx hb hml hown hA (kX8_at l G a1 a2 80 rd ((i1 * 16) + i2) r_1 q_2 (by decide)) g_X7_30 gd_X8_at ⟨(Nat.le_of_ble_eq_true rfl), (Nat.le_of_ble_eq_true rfl)⟩ hZ (hP.sub [1, 2] rfl) rfl rfl rfl hl.1 (Nat.le_of_ble_eq_true rfl) ⟨(Nat.le_of_ble_eq_true rfl), (Nat.le_of_ble_eq_true rfl)⟩ dX7_at_10 ?_
  refine W.eq (g2 := F0 m 13 ls [.int r_1]) rfl ?_
  cases hf
  exact ro_iret hx hb hr hlk dX7_at_13
def fX4_above (md : Nat → Int32) (mch : Int32) (fra : Int32) (fwe : Int32) (fof : Int32) (rd : Nat → Int32) (i1 : Int32) (i2 : Int32) : Option (Int32) :=
  ((fX7_at rd i1 i2).bind fun r_1 => ((fX4_target md mch fra fwe fof i2).bind fun r_3 => some (mxI 0 (r_1 - r_3))))
set_option maxHeartbeats 4000000 in
set_option maxRecDepth 100000 in
theorem kX4_above (l : Launch) (G : GG) (a0 a1 a2 a3 a4 a5 a6 a7 a8 a9 a10 a11 a12 : Nat) (md : Nat → Int32) (mch : Int32) (fra : Int32) (fwe : Int32) (fof : Int32) (fsi : Int32) (csh : Int32) (cde : Int32) (csp : Int32) (rd : Nat → Int32) (rw : Nat → Int32) (rp : Nat → Int32) (rco : Int32) (rmo : Int32) (apa : Int32) (awo : Int32) (ash : Int32) (aja : Int32) (abu : Int32) (ltol : Int32) (lchi : Int32) (ljam : Int32) (i1 : Int32) (i2 : Int32) (r_0 : Int32) (hf : fX4_above md mch fra fwe fof rd i1 i2 = some r_0) : Ro l G yX4_above cX4_above 3 (some .int) 3 68 [.ref a0, .int i1, .int i2] [(a0, .inr (4, [.ref a1, .ref a3, .ref a4, .ref a5, .ref a12, .int ltol, .int lchi, .int ljam])), (a1, .inr (6, [.ref a2, .int mch])), (a2, .inl (G.2.1, 48, .inl md)), (a3, .inr (2, [.int fra, .int fwe, .int fof, .int fsi])), (a4, .inr (1, [.int csh, .int cde, .int csp])), (a5, .inr (7, [.ref a6, .ref a8, .ref a10, .int rco, .int rmo])), (a6, .inr (8, [.ref a7])), (a7, .inl (G.2.1, 80, .inl rd)), (a8, .inr (8, [.ref a9])), (a9, .inl (G.2.1, 5, .inl rw)), (a10, .inr (8, [.ref a11])), (a11, .inl (G.2.1, 5, .inl rp)), (a12, .inr (0, [.int apa, .int awo, .int ash, .int aja, .int abu]))] (some (.int r_0)) := by
  refine ro_of (by decide) (Nat.le_of_ble_eq_true rfl) ?_
  intro p e s m args below meth c ls hx hb hr hml hown hlk hA hZ hP hl
  replace hown : s.vm.findClass RX4 = some m.cls := hown
  replace hl : lv_has ls 3 [(0, .ref a0), (1, .int i1), (2, .int i2)] := hl
  unfold fX4_above at hf
  refine lv_iconst (v := 0) hx hb dX4_above_0 (by decide) ?_
  refine lv_aload_n hx hb dX4_above_1 rfl (lv_at hl 0 rfl) ?_
  refine gf_X4_35 hx hb hown hA hP 0 rfl rfl dX4_above_2 ?_
  refine lv_iload_n hx hb dX4_above_5 rfl (lv_at hl 1 rfl) ?_
  refine lv_iload_n hx hb dX4_above_6 rfl (lv_at hl 2 rfl) ?_
  obtain ⟨r_1, q_2, hf⟩ := obd hf
  refine ro_v (n := 2) (As := [.int i1, .int i2]) (q0 := 0) hx hb hml hown hA (kX7_at l G a5 a6 a7 a8 a9 a10 a11 rd rw rp rco rmo i1 i2 r_1 q_2) g_X4_78 gd_X7_at ⟨(Nat.le_of_ble_eq_true rfl), (Nat.le_of_ble_eq_true rfl)⟩ hZ (hP.sub [5, 6, 7, 8, 9, 10, 11] rfl) rfl rfl rfl hl.1 (Nat.le_of_ble_eq_true rfl) ⟨(Nat.le_of_ble_eq_true rfl), (Nat.le_of_ble_eq_true rfl)⟩ dX4_above_7 ?_
  refine W.eq (g2 := F0 m 10 ls [.int r_1, .int 0]) rfl ?_
  refine lv_aload_n hx hb dX4_above_10 rfl (lv_at hl 0 rfl) ?_
  refine lv_iload_n hx hb dX4_above_11 rfl (lv_at hl 2 rfl) ?_
  obtain ⟨r_3, q_4, hf⟩ := obd hf
  refine ro_v (n := 1) (As := [.int i2]) (q0 := 0) hx hb hml hown hA (kX4_target l G a0 a1 a2 a3 a4 a5 a6 a7 a8 a9 a10 a11 a12 md mch fra fwe fof fsi csh cde csp rd rw rp rco rmo apa awo ash aja abu ltol lchi ljam i2 r_3 q_4) g_X4_79 gd_X4_target ⟨(Nat.le_of_ble_eq_true rfl), (Nat.le_of_ble_eq_true rfl)⟩ hZ (hP.sub [0, 1, 2, 3, 4, 5, 6, 7, 8, 9, 10, 11, 12] rfl) rfl rfl rfl hl.1 (Nat.le_of_ble_eq_true rfl) ⟨(Nat.le_of_ble_eq_true rfl), (Nat.le_of_ble_eq_true rfl)⟩ dX4_above_12 ?_
  refine W.eq (g2 := F0 m 15 ls [.int r_3, .int r_1, .int 0]) rfl ?_
  refine lv_isub hx hb dX4_above_15 ?_
  refine va_mmax hx hb (hml.trans hl.1.symm) hown (hA.hts _ wd_151) (hA.hts _ wd_23) (hA.hts _ wd_24) (hA.hts _ wd_25) (Nat.le_of_ble_eq_true rfl) (Nat.le_of_ble_eq_true rfl) (Nat.le_of_ble_eq_true rfl) (Nat.le_of_ble_eq_true rfl) dX4_above_16 ?_
  cases hf
  exact ro_iret hx hb hr hlk dX4_above_19
def fX4_mostAbove_L4 (md : Nat → Int32) (mch : Int32) (fra : Int32) (fwe : Int32) (fof : Int32) (rd : Nat → Int32) (v1 : Int32) : Nat → Int32 → Int32 → Option (Int32)
  | 0, _, _ => none
  | n9 + 1, v2, v3 => (if 16 ≤ v3 then some v2 else ((fX4_above md mch fra fwe fof rd v1 v3).bind fun r_2 => fX4_mostAbove_L4 md mch fra fwe fof rd v1 n9 (mxI v2 r_2) (v3 + 1)))
def fX4_mostAbove (md : Nat → Int32) (mch : Int32) (fra : Int32) (fwe : Int32) (fof : Int32) (rd : Nat → Int32) (i1 : Int32) : Option (Int32) :=
  ((fX4_mostAbove_L4 md mch fra fwe fof rd i1 2000 0 0).bind fun x2_4 => some x2_4)
set_option maxHeartbeats 4000000 in
set_option maxRecDepth 100000 in
theorem kX4_mostAbove (l : Launch) (G : GG) (a0 a1 a2 a3 a4 a5 a6 a7 a8 a9 a10 a11 a12 : Nat) (md : Nat → Int32) (mch : Int32) (fra : Int32) (fwe : Int32) (fof : Int32) (fsi : Int32) (csh : Int32) (cde : Int32) (csp : Int32) (rd : Nat → Int32) (rw : Nat → Int32) (rp : Nat → Int32) (rco : Int32) (rmo : Int32) (apa : Int32) (awo : Int32) (ash : Int32) (aja : Int32) (abu : Int32) (ltol : Int32) (lchi : Int32) (ljam : Int32) (i1 : Int32) (r_0 : Int32) (hf : fX4_mostAbove md mch fra fwe fof rd i1 = some r_0) : Ro l G yX4_mostAbove cX4_mostAbove 4 (some .int) 4 90 [.ref a0, .int i1] [(a0, .inr (4, [.ref a1, .ref a3, .ref a4, .ref a5, .ref a12, .int ltol, .int lchi, .int ljam])), (a1, .inr (6, [.ref a2, .int mch])), (a2, .inl (G.2.1, 48, .inl md)), (a3, .inr (2, [.int fra, .int fwe, .int fof, .int fsi])), (a4, .inr (1, [.int csh, .int cde, .int csp])), (a5, .inr (7, [.ref a6, .ref a8, .ref a10, .int rco, .int rmo])), (a6, .inr (8, [.ref a7])), (a7, .inl (G.2.1, 80, .inl rd)), (a8, .inr (8, [.ref a9])), (a9, .inl (G.2.1, 5, .inl rw)), (a10, .inr (8, [.ref a11])), (a11, .inl (G.2.1, 5, .inl rp)), (a12, .inr (0, [.int apa, .int awo, .int ash, .int aja, .int abu]))] (some (.int r_0)) := by
  refine ro_of (by decide) (Nat.le_of_ble_eq_true rfl) ?_
  intro p e s m args below meth c ls hx hb hr hml hown hlk hA hZ hP hl
  replace hown : s.vm.findClass RX4 = some m.cls := hown
  replace hl : lv_has ls 4 [(0, .ref a0), (1, .int i1)] := hl
  unfold fX4_mostAbove at hf
  refine lv_iconst (v := 0) hx hb dX4_mostAbove_0 (by decide) ?_
  refine lv_istore_n (lv' := [(2, .int 0), (0, .ref a0), (1, .int i1)]) hx hb dX4_mostAbove_1 rfl hl (by decide) rfl (fun ls hl => ?_)
  refine lv_iconst (v := 0) hx hb dX4_mostAbove_2 (by decide) ?_
  refine lv_istore_n (lv' := [(3, .int 0), (2, .int 0), (0, .ref a0), (1, .int i1)]) hx hb dX4_mostAbove_3 rfl hl (by decide) rfl (fun ls hl => ?_)
  have lp4 : ∀ (v1 : Int32)  (n : Nat) (v2 : Int32) (v3 : Int32)  (x2_4 : Int32) (Q : State → Prop), fX4_mostAbove_L4 md mch fra fwe fof rd v1 n v2 v3 = some x2_4 → ∀ (ls : Array Slot), lv_has ls 4 [(0, .ref a0), (1, .int v1), (2, .int v2), (3, .int v3)] → (∀ (ls : Array Slot), lv_has ls 4 [(2, .int x2_4)] → W p l e { frames := 4, cells := 0, slots := 0, locals := 90 } s m args below meth c s.heap [] 0 0 Q (F0 m 27 ls [])) → W p l e { frames := 4, cells := 0, slots := 0, locals := 90 } s m args below meth c s.heap [] 0 0 Q (F0 m 4 ls []) := by
    intro v1 n
    induction n with
    | zero => intro v2 v3 x2_4 Q hf; rw [fX4_mostAbove_L4] at hf; cases hf
    | succ n ih =>
      intro v2 v3 x2_4 Q hf ls hl kk
      rw [fX4_mostAbove_L4] at hf
      refine lv_iload_n hx hb dX4_mostAbove_4 rfl (lv_at hl 3 rfl) ?_
      refine lv_bipush (v := 16) hx hb dX4_mostAbove_5 (by decide) ?_
      refine lv_icmp_ge (tgt := 27) hx hb dX4_mostAbove_7 (by decide) (fun c_1 => ?_) (fun c_1 => ?_)
      · replace hf := ifp c_1 hf
        cases hf
        exact kk ls (lv_sub hl [2] rfl)
      · replace hf := ifn c_1 hf
        refine lv_iload_n hx hb dX4_mostAbove_10 rfl (lv_at hl 2 rfl) ?_
        refine lv_aload_n hx hb dX4_mostAbove_11 rfl (lv_at hl 0 rfl) ?_
        refine lv_iload_n hx hb dX4_mostAbove_12 rfl (lv_at hl 1 rfl) ?_
        refine lv_iload_n hx hb dX4_mostAbove_13 rfl (lv_at hl 3 rfl) ?_
        obtain ⟨r_2, q_3, hf⟩ := obd hf
        refine ro_v (n := 2) (As := [.int v1, .int v3]) (q0 := 0) hx hb hml hown hA (kX4_above l G a0 a1 a2 a3 a4 a5 a6 a7 a8 a9 a10 a11 a12 md mch fra fwe fof fsi csh cde csp rd rw rp rco rmo apa awo ash aja abu ltol lchi ljam v1 v3 r_2 q_3) g_X4_82 gd_X4_above ⟨(Nat.le_of_ble_eq_true rfl), (Nat.le_of_ble_eq_true rfl)⟩ hZ (hP.sub [0, 1, 2, 3, 4, 5, 6, 7, 8, 9, 10, 11, 12] rfl) rfl rfl rfl hl.1 (Nat.le_of_ble_eq_true rfl) ⟨(Nat.le_of_ble_eq_true rfl), (Nat.le_of_ble_eq_true rfl)⟩ dX4_mostAbove_14 ?_
        refine W.eq (g2 := F0 m 17 ls [.int r_2, .int v2]) rfl ?_
        refine va_mmax hx hb (hml.trans hl.1.symm) hown (hA.hts _ wd_151) (hA.hts _ wd_23) (hA.hts _ wd_24) (hA.hts _ wd_25) (Nat.le_of_ble_eq_true rfl) (Nat.le_of_ble_eq_true rfl) (Nat.le_of_ble_eq_true rfl) (Nat.le_of_ble_eq_true rfl) dX4_mostAbove_17 ?_
        refine lv_istore_n (lv' := [(2, .int (mxI v2 r_2)), (0, .ref a0), (1, .int v1), (3, .int v3)]) hx hb dX4_mostAbove_20 rfl hl (by decide) rfl (fun ls hl => ?_)
        refine lv_iinc (v := v3 + 1) (lv' := [(3, .int (v3 + 1)), (2, .int (mxI v2 r_2)), (0, .ref a0), (1, .int v1)]) hx hb dX4_mostAbove_21 hl (k := 3) rfl rfl (by decide) rfl (fun ls hl => ?_)
        refine lv_goto (tgt := 4) hx hb dX4_mostAbove_24 (by decide) ?_
        exact ih _ _ _ _ hf ls (lv_sub hl [2, 3, 1, 0] rfl) kk
  obtain ⟨x2_4, q_5, hf⟩ := obd hf
  refine lp4 _ _ _ _ _ _ q_5 ls (lv_sub hl [2, 3, 1, 0] rfl) (fun ls hl => ?_)
  refine lv_iload_n hx hb dX4_mostAbove_27 rfl (lv_at hl 0 rfl) ?_
  cases hf
  exact ro_iret hx hb hr hlk dX4_mostAbove_28
def fX4_allAbove_L4 (md : Nat → Int32) (mch : Int32) (fra : Int32) (fwe : Int32) (fof : Int32) (rd : Nat → Int32) (v1 : Int32) : Nat → Int32 → Int32 → Option (Int32)
  | 0, _, _ => none
  | n9 + 1, v2, v3 => (if 16 ≤ v3 then some v2 else ((fX4_above md mch fra fwe fof rd v1 v3).bind fun r_2 => fX4_allAbove_L4 md mch fra fwe fof rd v1 n9 (v2 + r_2) (v3 + 1)))
def fX4_allAbove (md : Nat → Int32) (mch : Int32) (fra : Int32) (fwe : Int32) (fof : Int32) (rd : Nat → Int32) (i1 : Int32) : Option (Int32) :=
  ((fX4_allAbove_L4 md mch fra fwe fof rd i1 2000 0 0).bind fun x2_4 => some x2_4)
set_option maxHeartbeats 4000000 in
set_option maxRecDepth 100000 in
theorem kX4_allAbove (l : Launch) (G : GG) (a0 a1 a2 a3 a4 a5 a6 a7 a8 a9 a10 a11 a12 : Nat) (md : Nat → Int32) (mch : Int32) (fra : Int32) (fwe : Int32) (fof : Int32) (fsi : Int32) (csh : Int32) (cde : Int32) (csp : Int32) (rd : Nat → Int32) (rw : Nat → Int32) (rp : Nat → Int32) (rco : Int32) (rmo : Int32) (apa : Int32) (awo : Int32) (ash : Int32) (aja : Int32) (abu : Int32) (ltol : Int32) (lchi : Int32) (ljam : Int32) (i1 : Int32) (r_0 : Int32) (hf : fX4_allAbove md mch fra fwe fof rd i1 = some r_0) : Ro l G yX4_allAbove cX4_allAbove 4 (some .int) 4 90 [.ref a0, .int i1] [(a0, .inr (4, [.ref a1, .ref a3, .ref a4, .ref a5, .ref a12, .int ltol, .int lchi, .int ljam])), (a1, .inr (6, [.ref a2, .int mch])), (a2, .inl (G.2.1, 48, .inl md)), (a3, .inr (2, [.int fra, .int fwe, .int fof, .int fsi])), (a4, .inr (1, [.int csh, .int cde, .int csp])), (a5, .inr (7, [.ref a6, .ref a8, .ref a10, .int rco, .int rmo])), (a6, .inr (8, [.ref a7])), (a7, .inl (G.2.1, 80, .inl rd)), (a8, .inr (8, [.ref a9])), (a9, .inl (G.2.1, 5, .inl rw)), (a10, .inr (8, [.ref a11])), (a11, .inl (G.2.1, 5, .inl rp)), (a12, .inr (0, [.int apa, .int awo, .int ash, .int aja, .int abu]))] (some (.int r_0)) := by
  refine ro_of (by decide) (Nat.le_of_ble_eq_true rfl) ?_
  intro p e s m args below meth c ls hx hb hr hml hown hlk hA hZ hP hl
  replace hown : s.vm.findClass RX4 = some m.cls := hown
  replace hl : lv_has ls 4 [(0, .ref a0), (1, .int i1)] := hl
  unfold fX4_allAbove at hf
  refine lv_iconst (v := 0) hx hb dX4_allAbove_0 (by decide) ?_
  refine lv_istore_n (lv' := [(2, .int 0), (0, .ref a0), (1, .int i1)]) hx hb dX4_allAbove_1 rfl hl (by decide) rfl (fun ls hl => ?_)
  refine lv_iconst (v := 0) hx hb dX4_allAbove_2 (by decide) ?_
  refine lv_istore_n (lv' := [(3, .int 0), (2, .int 0), (0, .ref a0), (1, .int i1)]) hx hb dX4_allAbove_3 rfl hl (by decide) rfl (fun ls hl => ?_)
  have lp4 : ∀ (v1 : Int32)  (n : Nat) (v2 : Int32) (v3 : Int32)  (x2_4 : Int32) (Q : State → Prop), fX4_allAbove_L4 md mch fra fwe fof rd v1 n v2 v3 = some x2_4 → ∀ (ls : Array Slot), lv_has ls 4 [(0, .ref a0), (1, .int v1), (2, .int v2), (3, .int v3)] → (∀ (ls : Array Slot), lv_has ls 4 [(2, .int x2_4)] → W p l e { frames := 4, cells := 0, slots := 0, locals := 90 } s m args below meth c s.heap [] 0 0 Q (F0 m 25 ls [])) → W p l e { frames := 4, cells := 0, slots := 0, locals := 90 } s m args below meth c s.heap [] 0 0 Q (F0 m 4 ls []) := by
    intro v1 n
    induction n with
    | zero => intro v2 v3 x2_4 Q hf; rw [fX4_allAbove_L4] at hf; cases hf
    | succ n ih =>
      intro v2 v3 x2_4 Q hf ls hl kk
      rw [fX4_allAbove_L4] at hf
      refine lv_iload_n hx hb dX4_allAbove_4 rfl (lv_at hl 3 rfl) ?_
      refine lv_bipush (v := 16) hx hb dX4_allAbove_5 (by decide) ?_
      refine lv_icmp_ge (tgt := 25) hx hb dX4_allAbove_7 (by decide) (fun c_1 => ?_) (fun c_1 => ?_)
      · replace hf := ifp c_1 hf
        cases hf
        exact kk ls (lv_sub hl [2] rfl)
      · replace hf := ifn c_1 hf
        refine lv_iload_n hx hb dX4_allAbove_10 rfl (lv_at hl 2 rfl) ?_
        refine lv_aload_n hx hb dX4_allAbove_11 rfl (lv_at hl 0 rfl) ?_
        refine lv_iload_n hx hb dX4_allAbove_12 rfl (lv_at hl 1 rfl) ?_
        refine lv_iload_n hx hb dX4_allAbove_13 rfl (lv_at hl 3 rfl) ?_
        obtain ⟨r_2, q_3, hf⟩ := obd hf
        refine ro_v (n := 2) (As := [.int v1, .int v3]) (q0 := 0) hx hb hml hown hA (kX4_above l G a0 a1 a2 a3 a4 a5 a6 a7 a8 a9 a10 a11 a12 md mch fra fwe fof fsi csh cde csp rd rw rp rco rmo apa awo ash aja abu ltol lchi ljam v1 v3 r_2 q_3) g_X4_82 gd_X4_above ⟨(Nat.le_of_ble_eq_true rfl), (Nat.le_of_ble_eq_true rfl)⟩ hZ (hP.sub [0, 1, 2, 3, 4, 5, 6, 7, 8, 9, 10, 11, 12] rfl) rfl rfl rfl hl.1 (Nat.le_of_ble_eq_true rfl) ⟨(Nat.le_of_ble_eq_true rfl), (Nat.le_of_ble_eq_true rfl)⟩ dX4_allAbove_14 ?_
        refine W.eq (g2 := F0 m 17 ls [.int r_2, .int v2]) rfl ?_
        refine lv_iadd hx hb dX4_allAbove_17 ?_
        refine lv_istore_n (lv' := [(2, .int (v2 + r_2)), (0, .ref a0), (1, .int v1), (3, .int v3)]) hx hb dX4_allAbove_18 rfl hl (by decide) rfl (fun ls hl => ?_)
        refine lv_iinc (v := v3 + 1) (lv' := [(3, .int (v3 + 1)), (2, .int (v2 + r_2)), (0, .ref a0), (1, .int v1)]) hx hb dX4_allAbove_19 hl (k := 3) rfl rfl (by decide) rfl (fun ls hl => ?_)
        refine lv_goto (tgt := 4) hx hb dX4_allAbove_22 (by decide) ?_
        exact ih _ _ _ _ hf ls (lv_sub hl [2, 3, 1, 0] rfl) kk
  obtain ⟨x2_4, q_5, hf⟩ := obd hf
  refine lp4 _ _ _ _ _ _ q_5 ls (lv_sub hl [2, 3, 1, 0] rfl) (fun ls hl => ?_)
  refine lv_iload_n hx hb dX4_allAbove_25 rfl (lv_at hl 0 rfl) ?_
  cases hf
  exact ro_iret hx hb hr hlk dX4_allAbove_26
def fX4_canRun (csh : Int32) (ljam : Int32)  : Option (Int32) :=
  (if ljam = 0 then ((fX1_isSharp csh).bind fun r_2 => (if r_2 = 0 then some 0 else some 1)) else some 0)
set_option maxHeartbeats 4000000 in
set_option maxRecDepth 100000 in
theorem kX4_canRun (l : Launch) (G : GG) (a0 a1 a2 a3 a4 a5 a6 a7 a8 a9 a10 a11 a12 : Nat) (md : Nat → Int32) (mch : Int32) (fra : Int32) (fwe : Int32) (fof : Int32) (fsi : Int32) (csh : Int32) (cde : Int32) (csp : Int32) (rd : Nat → Int32) (rw : Nat → Int32) (rp : Nat → Int32) (rco : Int32) (rmo : Int32) (apa : Int32) (awo : Int32) (ash : Int32) (aja : Int32) (abu : Int32) (ltol : Int32) (lchi : Int32) (ljam : Int32)  (r_0 : Int32) (hf : fX4_canRun csh ljam = some r_0) : Ro l G yX4_canRun cX4_canRun 1 (some .boolean) 1 20 [.ref a0] [(a0, .inr (4, [.ref a1, .ref a3, .ref a4, .ref a5, .ref a12, .int ltol, .int lchi, .int ljam])), (a1, .inr (6, [.ref a2, .int mch])), (a2, .inl (G.2.1, 48, .inl md)), (a3, .inr (2, [.int fra, .int fwe, .int fof, .int fsi])), (a4, .inr (1, [.int csh, .int cde, .int csp])), (a5, .inr (7, [.ref a6, .ref a8, .ref a10, .int rco, .int rmo])), (a6, .inr (8, [.ref a7])), (a7, .inl (G.2.1, 80, .inl rd)), (a8, .inr (8, [.ref a9])), (a9, .inl (G.2.1, 5, .inl rw)), (a10, .inr (8, [.ref a11])), (a11, .inl (G.2.1, 5, .inl rp)), (a12, .inr (0, [.int apa, .int awo, .int ash, .int aja, .int abu]))] (some (.int r_0)) := by
  refine ro_of (by decide) (Nat.le_of_ble_eq_true rfl) ?_
  intro p e s m args below meth c ls hx hb hr hml hown hlk hA hZ hP hl
  replace hown : s.vm.findClass RX4 = some m.cls := hown
  replace hl : lv_has ls 1 [(0, .ref a0)] := hl
  unfold fX4_canRun at hf
  refine lv_aload_n hx hb dX4_canRun_0 rfl (lv_at hl 0 rfl) ?_
  refine gf_X4_85 hx hb hown hA hP 0 rfl rfl dX4_canRun_1 ?_
  refine lv_if_ne (tgt := 21) hx hb dX4_canRun_4 (by decide) (fun c_1 => ?_) (fun c_1 => ?_)
  · replace hf := ifn c_1 hf
    refine lv_iconst (v := 0) hx hb dX4_canRun_21 (by decide) ?_
    cases hf
    exact ro_zret hx hb hr hlk (Or.inl rfl) dX4_canRun_22
  · replace hf := ifp c_1 hf
    refine lv_aload_n hx hb dX4_canRun_7 rfl (lv_at hl 0 rfl) ?_
    refine gf_X4_28 hx hb hown hA hP 0 rfl rfl dX4_canRun_8 ?_
    obtain ⟨r_2, q_3, hf⟩ := obd hf
    refine ro_v (n := 0) (As := []) (q0 := 0) hx hb hml hown hA (kX1_isSharp l G a4 csh cde csp r_2 q_3) g_X4_89 gd_X1_isSharp ⟨(Nat.le_of_ble_eq_true rfl), (Nat.le_of_ble_eq_true rfl)⟩ hZ (hP.sub [4] rfl) rfl rfl rfl hl.1 (Nat.le_of_ble_eq_true rfl) ⟨(Nat.le_of_ble_eq_true rfl), (Nat.le_of_ble_eq_true rfl)⟩ dX4_canRun_11 ?_
    refine W.eq (g2 := F0 m 14 ls [.int r_2]) rfl ?_
    refine lv_if_eq (tgt := 21) hx hb dX4_canRun_14 (by decide) (fun c_4 => ?_) (fun c_4 => ?_)
    · replace hf := ifp c_4 hf
      refine lv_iconst (v := 0) hx hb dX4_canRun_21 (by decide) ?_
      cases hf
      exact ro_zret hx hb hr hlk (Or.inl rfl) dX4_canRun_22
    · replace hf := ifn c_4 hf
      refine lv_iconst (v := 1) hx hb dX4_canRun_17 (by decide) ?_
      refine lv_goto (tgt := 22) hx hb dX4_canRun_18 (by decide) ?_
      cases hf
      exact ro_zret hx hb hr hlk (Or.inr rfl) dX4_canRun_22
def fX7_hardness (rw : Nat → Int32) (i1 : Int32) : Option (Int32) :=
  ((fX8_at 5 rw i1).bind fun r_1 => (if r_1 < 0 then some 0 else (if 3 ≤ r_1 then some 0 else some (([1, 2, 4] : List Int32).getD r_1.toNatClampNeg 0))))
set_option maxHeartbeats 4000000 in
set_option maxRecDepth 100000 in
theorem kX7_hardness (l : Launch) (G : GG) (a0 a1 a2 a3 a4 a5 a6 : Nat) (rd : Nat → Int32) (rw : Nat → Int32) (rp : Nat → Int32) (rco : Int32) (rmo : Int32) (i1 : Int32) (r_0 : Int32) (hf : fX7_hardness rw i1 = some r_0) : Ro l G yX7_hardness cX7_hardness 3 (some .int) 1 21 [.ref a0, .int i1] [(a0, .inr (7, [.ref a1, .ref a3, .ref a5, .int rco, .int rmo])), (a1, .inr (8, [.ref a2])), (a2, .inl (G.2.1, 80, .inl rd)), (a3, .inr (8, [.ref a4])), (a4, .inl (G.2.1, 5, .inl rw)), (a5, .inr (8, [.ref a6])), (a6, .inl (G.2.1, 5, .inl rp))] (some (.int r_0)) := by
  refine ro_of (by decide) (Nat.le_of_ble_eq_true rfl) ?_
  intro p e s m args below meth c ls hx hb hr hml hown hlk hA hZ hP hl
  replace hown : s.vm.findClass RX7 = some m.cls := hown
  replace hl : lv_has ls 3 [(0, .ref a0), (1, .int i1)] := hl
  unfold fX7_hardness at hf
  refine lv_aload_n hx hb dX7_hardness_0 rfl (lv_at hl 0 rfl) ?_
  refine gf_X7_20 hx hb hown hA hP 0 rfl rfl dX7_hardness_1 ?_
  refine lv_iload_n hx hb dX7_hardness_4 rfl (lv_at hl 1 rfl) ?_
  obtain ⟨r_1, q_2, hf⟩ := obd hf
  refine ro_v (n := 1) (As := [.int i1]) (q0 := 0) hx hb hml hown hA (kX8_at l G a3 a4 5 rw i1 r_1 q_2 (by decide)) g_X7_30 gd_X8_at ⟨(Nat.le_of_ble_eq_true rfl), (Nat.le_of_ble_eq_true rfl)⟩ hZ (hP.sub [3, 4] rfl) rfl rfl rfl hl.1 (Nat.le_of_ble_eq_true rfl) ⟨(Nat.le_of_ble_eq_true rfl), (Nat.le_of_ble_eq_true rfl)⟩ dX7_hardness_5 ?_
  refine W.eq (g2 := F0 m 8 ls [.int r_1]) rfl ?_
  refine lv_istore_n (lv' := [(2, .int r_1), (0, .ref a0), (1, .int i1)]) hx hb dX7_hardness_8 rfl hl (by decide) rfl (fun ls hl => ?_)
  refine lv_iload_n hx hb dX7_hardness_9 rfl (lv_at hl 0 rfl) ?_
  refine lv_if_lt (tgt := 29) hx hb dX7_hardness_10 (by decide) (fun c_3 => ?_) (fun c_3 => ?_)
  · replace hf := ifp c_3 hf
    refine lv_iconst (v := 0) hx hb dX7_hardness_29 (by decide) ?_
    cases hf
    exact ro_iret hx hb hr hlk dX7_hardness_30
  · replace hf := ifn c_3 hf
    refine lv_iload_n hx hb dX7_hardness_13 rfl (lv_at hl 0 rfl) ?_
    refine va_gets hx hb (A := nA) hZ.1 va_S.rf hown (hA.hts _ wd_174) (fun _ h9 => h9) dX7_hardness_14 ?_
    refine va_tlen hx hb (A := nA) hZ.2 va_S.rf (v := 3) rfl dX7_hardness_17 ?_
    refine lv_icmp_ge (tgt := 29) hx hb dX7_hardness_18 (by decide) (fun c_4 => ?_) (fun c_4 => ?_)
    · replace hf := ifp c_4 hf
      refine lv_iconst (v := 0) hx hb dX7_hardness_29 (by decide) ?_
      cases hf
      exact ro_iret hx hb hr hlk dX7_hardness_30
    · replace hf := ifn c_4 hf
      refine va_gets hx hb (A := nA) hZ.1 va_S.rf hown (hA.hts _ wd_174) (fun _ h9 => h9) dX7_hardness_21 ?_
      refine lv_iload_n hx hb dX7_hardness_24 rfl (lv_at hl 0 rfl) ?_
      refine va_ti hx hb (A := nA) hZ.2 va_S.rf (vin_g c_3 c_4 (by decide)) (v := .int (([1, 2, 4] : List Int32).getD r_1.toNatClampNeg 0)) rfl dX7_hardness_25 ?_
      refine lv_goto (tgt := 30) hx hb dX7_hardness_26 (by decide) ?_
      cases hf
      exact ro_iret hx hb hr hlk dX7_hardness_30
def fX4_blunting (csp : Int32) (rw : Nat → Int32) (rmo : Int32)  : Option (Int32) :=
  ((fX7_hardness rw rmo).bind fun r_1 => some (r_1 * csp))
set_option maxHeartbeats 4000000 in
set_option maxRecDepth 100000 in
theorem kX4_blunting (l : Launch) (G : GG) (a0 a1 a2 a3 a4 a5 a6 a7 a8 a9 a10 a11 a12 : Nat) (md : Nat → Int32) (mch : Int32) (fra : Int32) (fwe : Int32) (fof : Int32) (fsi : Int32) (csh : Int32) (cde : Int32) (csp : Int32) (rd : Nat → Int32) (rw : Nat → Int32) (rp : Nat → Int32) (rco : Int32) (rmo : Int32) (apa : Int32) (awo : Int32) (ash : Int32) (aja : Int32) (abu : Int32) (ltol : Int32) (lchi : Int32) (ljam : Int32)  (r_0 : Int32) (hf : fX4_blunting csp rw rmo = some r_0) : Ro l G yX4_blunting cX4_blunting 1 (some .int) 2 43 [.ref a0] [(a0, .inr (4, [.ref a1, .ref a3, .ref a4, .ref a5, .ref a12, .int ltol, .int lchi, .int ljam])), (a1, .inr (6, [.ref a2, .int mch])), (a2, .inl (G.2.1, 48, .inl md)), (a3, .inr (2, [.int fra, .int fwe, .int fof, .int fsi])), (a4, .inr (1, [.int csh, .int cde, .int csp])), (a5, .inr (7, [.ref a6, .ref a8, .ref a10, .int rco, .int rmo])), (a6, .inr (8, [.ref a7])), (a7, .inl (G.2.1, 80, .inl rd)), (a8, .inr (8, [.ref a9])), (a9, .inl (G.2.1, 5, .inl rw)), (a10, .inr (8, [.ref a11])), (a11, .inl (G.2.1, 5, .inl rp)), (a12, .inr (0, [.int apa, .int awo, .int ash, .int aja, .int abu]))] (some (.int r_0)) := by
  refine ro_of (by decide) (Nat.le_of_ble_eq_true rfl) ?_
  intro p e s m args below meth c ls hx hb hr hml hown hlk hA hZ hP hl
  replace hown : s.vm.findClass RX4 = some m.cls := hown
  replace hl : lv_has ls 1 [(0, .ref a0)] := hl
  unfold fX4_blunting at hf
  refine lv_aload_n hx hb dX4_blunting_0 rfl (lv_at hl 0 rfl) ?_
  refine gf_X4_35 hx hb hown hA hP 0 rfl rfl dX4_blunting_1 ?_
  refine lv_aload_n hx hb dX4_blunting_4 rfl (lv_at hl 0 rfl) ?_
  refine gf_X4_35 hx hb hown hA hP 0 rfl rfl dX4_blunting_5 ?_
  refine gf_X4_93 hx hb hown hA hP 5 rfl rfl dX4_blunting_8 ?_
  obtain ⟨r_1, q_2, hf⟩ := obd hf
  refine ro_v (n := 1) (As := [.int rmo]) (q0 := 0) hx hb hml hown hA (kX7_hardness l G a5 a6 a7 a8 a9 a10 a11 rd rw rp rco rmo rmo r_1 q_2) g_X4_96 gd_X7_hardness ⟨(Nat.le_of_ble_eq_true rfl), (Nat.le_of_ble_eq_true rfl)⟩ hZ (hP.sub [5, 6, 7, 8, 9, 10, 11] rfl) rfl rfl rfl hl.1 (Nat.le_of_ble_eq_true rfl) ⟨(Nat.le_of_ble_eq_true rfl), (Nat.le_of_ble_eq_true rfl)⟩ dX4_blunting_11 ?_
  refine W.eq (g2 := F0 m 14 ls [.int r_1]) rfl ?_
  refine lv_aload_n hx hb dX4_blunting_14 rfl (lv_at hl 0 rfl) ?_
  refine gf_X4_28 hx hb hown hA hP 0 rfl rfl dX4_blunting_15 ?_
  refine gf_X4_99 hx hb hown hA hP 4 rfl rfl dX4_blunting_18 ?_
  refine lv_imul hx hb dX4_blunting_21 ?_
  cases hf
  exact ro_iret hx hb hr hlk dX4_blunting_22
def fX8_put (ln : Nat) (rf : Nat → Int32) (i1 : Int32) (i2 : Int32) : Option ((Nat → Int32)) :=
  (if i1 < 0 then some rf else (if (Int32.ofNat ln) ≤ i1 then some rf else some (upd rf i1.toNatClampNeg i2)))
set_option maxHeartbeats 4000000 in
set_option maxRecDepth 100000 in
theorem kX8_put (l : Launch) (G : GG) (a0 a1 : Nat) (ln : Nat) (rf : Nat → Int32) (i1 : Int32) (i2 : Int32) (rf_0 : Nat → Int32) (hf : fX8_put ln rf i1 i2 = some rf_0) (hln : ln < 2147483648) : Wr l G yX8_put cX8_put 3 none 0 0 0 0 [.ref a0, .int i1, .int i2] [(a0, .inr (8, [.ref a1])), (a1, .inl (G.2.1, ln, .inl rf))] (X := Unit) (fun _ => [(a0, .inr (8, [.ref a1])), (a1, .inl (G.2.1, ln, .inl rf_0))]) none := by
  refine wr_of (by decide) (Nat.le_of_ble_eq_true rfl) ?_
  intro p e s m args below meth c ls A hx hb hr hml hown hlk hA hZ hP hD hS hA0 hin hl
  have hP : va_P G.1 vwCl [(a0, .inr (8, [.ref a1])), (a1, .inl (G.2.1, ln, .inl rf))] s.heap := hP
  replace hown : s.vm.findClass RX8 = some m.cls := hown
  replace hl : lv_has ls 3 [(0, .ref a0), (1, .int i1), (2, .int i2)] := hl
  unfold fX8_put at hf
  refine lv_iload_n hx hb dX8_put_0 rfl (lv_at hl 1 rfl) ?_
  refine lv_if_lt (tgt := 20) hx hb dX8_put_1 (by decide) (fun c_1 => ?_) (fun c_1 => ?_)
  · replace hf := ifp c_1 hf
    cases hf
    exact wr_vret () hx hb hr hlk hP hD hS dX8_put_20
  · replace hf := ifn c_1 hf
    refine lv_iload_n hx hb dX8_put_4 rfl (lv_at hl 1 rfl) ?_
    refine lv_aload_n hx hb dX8_put_5 rfl (lv_at hl 0 rfl) ?_
    refine gf_X8_13 hx hb hown hA hP 0 rfl rfl dX8_put_6 ?_
    refine va_alen hx hb hA.K hP 1 0 rfl rfl (v := Int32.ofNat ln) rfl dX8_put_9 ?_
    refine lv_icmp_ge (tgt := 20) hx hb dX8_put_10 (by decide) (fun c_2 => ?_) (fun c_2 => ?_)
    · replace hf := ifp c_2 hf
      cases hf
      exact wr_vret () hx hb hr hlk hP hD hS dX8_put_20
    · replace hf := ifn c_2 hf
      refine lv_aload_n hx hb dX8_put_13 rfl (lv_at hl 0 rfl) ?_
      refine gf_X8_13 hx hb hown hA hP 0 rfl rfl dX8_put_14 ?_
      refine lv_iload_n hx hb dX8_put_17 rfl (lv_at hl 1 rfl) ?_
      refine lv_iload_n hx hb dX8_put_18 rfl (lv_at hl 2 rfl) ?_
      refine va_iast hx hb hA.K hP hD hS 1 0 rfl rfl (vin_g c_1 c_2 hln) dX8_put_19 (fun H locs hP hD hS => ?_)
      have hP : va_P G.1 vwCl [(a0, .inr (8, [.ref a1])), (a1, .inl (G.2.1, ln, .inl (upd rf i1.toNatClampNeg i2)))] H := hP
      have hD : va_D A [(a0, .inr (8, [.ref a1])), (a1, .inl (G.2.1, ln, .inl (upd rf i1.toNatClampNeg i2)))] := hD
      cases hf
      exact wr_vret () hx hb hr hlk hP hD hS dX8_put_20
def fX8_add (ln : Nat) (rf : Nat → Int32) (i1 : Int32) (i2 : Int32) : Option ((Nat → Int32)) :=
  ((fX8_at ln rf i1).bind fun r_1 => ((fX8_put ln rf i1 (r_1 + i2)).bind fun rf_3 => some rf_3))
set_option maxHeartbeats 4000000 in
set_option maxRecDepth 100000 in
theorem kX8_add (l : Launch) (G : GG) (a0 a1 : Nat) (ln : Nat) (rf : Nat → Int32) (i1 : Int32) (i2 : Int32) (rf_0 : Nat → Int32) (hf : fX8_add ln rf i1 i2 = some rf_0) (hln : ln < 2147483648) : Wr l G yX8_add cX8_add 3 none 1 22 0 0 [.ref a0, .int i1, .int i2] [(a0, .inr (8, [.ref a1])), (a1, .inl (G.2.1, ln, .inl rf))] (X := Unit) (fun _ => [(a0, .inr (8, [.ref a1])), (a1, .inl (G.2.1, ln, .inl rf_0))]) none := by
  refine wr_of (by decide) (Nat.le_of_ble_eq_true rfl) ?_
  intro p e s m args below meth c ls A hx hb hr hml hown hlk hA hZ hP hD hS hA0 hin hl
  have hP : va_P G.1 vwCl [(a0, .inr (8, [.ref a1])), (a1, .inl (G.2.1, ln, .inl rf))] s.heap := hP
  replace hown : s.vm.findClass RX8 = some m.cls := hown
  replace hl : lv_has ls 3 [(0, .ref a0), (1, .int i1), (2, .int i2)] := hl
  unfold fX8_add at hf
  refine lv_aload_n hx hb dX8_add_0 rfl (lv_at hl 0 rfl) ?_
  refine lv_iload_n hx hb dX8_add_1 rfl (lv_at hl 1 rfl) ?_
  refine lv_aload_n hx hb dX8_add_2 rfl (lv_at hl 0 rfl) ?_
  refine lv_iload_n hx hb dX8_add_3 rfl (lv_at hl 1 rfl) ?_
  obtain ⟨r_1, q_2, hf⟩ := obd hf
  refine ro_v (n := 1) (As := [.int i1]) (q0 := 0) hx hb hml hown hA (kX8_at l G a0 a1 ln rf i1 r_1 q_2 hln) g_X8_19 gd_X8_at ⟨(Nat.le_of_ble_eq_true rfl), (Nat.le_of_ble_eq_true rfl)⟩ (hZ.at hS) (hP.sub [0, 1] rfl) rfl rfl rfl hl.1 (Nat.le_of_ble_eq_true rfl) ⟨(Nat.le_of_ble_eq_true rfl), (Nat.le_of_ble_eq_true rfl)⟩ dX8_add_4 ?_
  refine W.eq (g2 := F0 m 7 ls [.int r_1, .int i1, .ref a0]) rfl ?_
  refine lv_iload_n hx hb dX8_add_7 rfl (lv_at hl 2 rfl) ?_
  refine lv_iadd hx hb dX8_add_8 ?_
  obtain ⟨rf_3, q_4, hf⟩ := obd hf
  refine wr_v (n := 2) (As := [.int i1, .int (r_1 + i2)]) (q0 := 0) (wr := []) (w2 := fun _ => [(a0, .inr (8, [.ref a1])), (a1, .inl (G.2.1, ln, .inl rf_3))]) hx hb hml hown hA (kX8_put l G a0 a1 ln rf i1 (r_1 + i2) rf_3 q_4 hln) g_X8_23 gd_X8_put ⟨(Nat.le_of_ble_eq_true rfl), (Nat.le_of_ble_eq_true rfl)⟩ hZ hP hD hS hA0 rfl rfl [0, 1] [] [0, 1] rfl rfl rfl rfl (by decide) (fun _ => rfl) rfl rfl hl.1 (Nat.le_of_ble_eq_true rfl) ⟨(Nat.le_of_ble_eq_true rfl), (Nat.le_of_ble_eq_true rfl)⟩ dX8_add_9 (fun _ H locs hP hD hS => ?_)
  refine W.eq (g2 := F0 m 12 ls []) rfl ?_
  cases hf
  exact wr_vret () hx hb hr hlk hP hD hS dX8_add_12
def fX7_thin (rd : Nat → Int32) (i1 : Int32) (i2 : Int32) (i3 : Int32) : Option ((Nat → Int32)) :=
  ((fX8_add 80 rd ((i1 * 16) + i2) (-i3)).bind fun rf_1 => some rf_1)
set_option maxHeartbeats 4000000 in
set_option maxRecDepth 100000 in
theorem kX7_thin (l : Launch) (G : GG) (a0 a1 a2 a3 a4 a5 a6 : Nat) (rd : Nat → Int32) (rw : Nat → Int32) (rp : Nat → Int32) (rco : Int32) (rmo : Int32) (i1 : Int32) (i2 : Int32) (i3 : Int32) (rd_0 : Nat → Int32) (hf : fX7_thin rd i1 i2 i3 = some rd_0) : Wr l G yX7_thin cX7_thin 4 none 2 44 0 0 [.ref a0, .int i1, .int i2, .int i3] [(a0, .inr (7, [.ref a1, .ref a3, .ref a5, .int rco, .int rmo])), (a1, .inr (8, [.ref a2])), (a2, .inl (G.2.1, 80, .inl rd)), (a3, .inr (8, [.ref a4])), (a4, .inl (G.2.1, 5, .inl rw)), (a5, .inr (8, [.ref a6])), (a6, .inl (G.2.1, 5, .inl rp))] (X := Unit) (fun _ => [(a0, .inr (7, [.ref a1, .ref a3, .ref a5, .int rco, .int rmo])), (a1, .inr (8, [.ref a2])), (a2, .inl (G.2.1, 80, .inl rd_0)), (a3, .inr (8, [.ref a4])), (a4, .inl (G.2.1, 5, .inl rw)), (a5, .inr (8, [.ref a6])), (a6, .inl (G.2.1, 5, .inl rp))]) none := by
  refine wr_of (by decide) (Nat.le_of_ble_eq_true rfl) ?_
  intro p e s m args below meth c ls A hx hb hr hml hown hlk hA hZ hP hD hS hA0 hin hl
  have hP : va_P G.1 vwCl [(a0, .inr (7, [.ref a1, .ref a3, .ref a5, .int rco, .int rmo])), (a1, .inr (8, [.ref a2])), (a2, .inl (G.2.1, 80, .inl rd)), (a3, .inr (8, [.ref a4])), (a4, .inl (G.2.1, 5, .inl rw)), (a5, .inr (8, [.ref a6])), (a6, .inl (G.2.1, 5, .inl rp))] s.heap := hP
  replace hown : s.vm.findClass RX7 = some m.cls := hown
  replace hl : lv_has ls 4 [(0, .ref a0), (1, .int i1), (2, .int i2), (3, .int i3)] := hl
  unfold fX7_thin at hf
  refine lv_aload_n hx hb dX7_thin_0 rfl (lv_at hl 0 rfl) ?_
  refine gf_X7_14 hx hb hown hA hP 0 rfl rfl dX7_thin_1 ?_
  refine lv_iload_n hx hb dX7_thin_4 rfl (lv_at hl 1 rfl) ?_
  refine lv_bipush (v := 16) hx hb dX7_thin_5 (by decide) ?_
  refine lv_imul hx hb dX7_thin_7 ?_
  refine lv_iload_n hx hb dX7_thin_8 rfl (lv_at hl 2 rfl) ?_
  refine lv_iadd hx hb dX7_thin_9 ?_
  refine lv_iload_n hx hb dX7_thin_10 rfl (lv_at hl 3 rfl) ?_
  refine lv_ineg hx hb dX7_thin_11 ?_
  obtain ⟨rf_1, q_2, hf⟩ := obd hf
  refine wr_v (n := 2) (As := [.int ((i1 * 16) + i2), .int (-i3)]) (q0 := 0) (wr := [(a0, .inr (7, [.ref a1, .ref a3, .ref a5, .int rco, .int rmo])), (a3, .inr (8, [.ref a4])), (a4, .inl (G.2.1, 5, .inl rw)), (a5, .inr (8, [.ref a6])), (a6, .inl (G.2.1, 5, .inl rp))]) (w2 := fun _ => [(a0, .inr (7, [.ref a1, .ref a3, .ref a5, .int rco, .int rmo])), (a1, .inr (8, [.ref a2])), (a2, .inl (G.2.1, 80, .inl rf_1)), (a3, .inr (8, [.ref a4])), (a4, .inl (G.2.1, 5, .inl rw)), (a5, .inr (8, [.ref a6])), (a6, .inl (G.2.1, 5, .inl rp))]) hx hb hml hown hA (kX8_add l G a1 a2 80 rd ((i1 * 16) + i2) (-i3) rf_1 q_2 (by decide)) g_X7_34 gd_X8_add ⟨(Nat.le_of_ble_eq_true rfl), (Nat.le_of_ble_eq_true rfl)⟩ hZ hP hD hS hA0 rfl rfl [1, 2] [0, 3, 4, 5, 6] [0, 5, 6, 1, 2, 3, 4] rfl rfl rfl rfl (by decide) (fun _ => rfl) rfl rfl hl.1 (Nat.le_of_ble_eq_true rfl) ⟨(Nat.le_of_ble_eq_true rfl), (Nat.le_of_ble_eq_true rfl)⟩ dX7_thin_12 (fun _ H locs hP hD hS => ?_)
  refine W.eq (g2 := F0 m 15 ls []) rfl ?_
  cases hf
  exact wr_vret () hx hb hr hlk hP hD hS dX7_thin_15
def fX4_cutSteps_L4 (md : Nat → Int32) (mch : Int32) (fra : Int32) (fwe : Int32) (fof : Int32) (csh : Int32) (cde : Int32) (rmo : Int32)  : Nat → Int32 → Int32 → (Nat → Int32) → Int32 → Int32 → Int32 → Option (Int32 × (Nat → Int32) × Int32 × Int32 × Int32)
  | 0, _, _, _, _, _, _ => none
  | n9 + 1, v1, v2, rd, aja, lchi, ljam => (if 16 ≤ v2 then some (v1, rd, aja, lchi, ljam) else (if ljam = 0 then ((fX1_reach csh cde).bind fun r_3 => ((fX4_above md mch fra fwe fof rd rmo v2).bind fun r_5 => (if (mnI r_3 r_5) ≤ (200 - lchi) then ((fX7_thin rd rmo v2 (mnI r_3 r_5)).bind fun rd_8 => fX4_cutSteps_L4 md mch fra fwe fof csh cde rmo n9 (v1 + (mnI r_3 r_5)) (v2 + 1) rd_8 aja (lchi + (mnI r_3 r_5)) ljam) else fX4_cutSteps_L4 md mch fra fwe fof csh cde rmo n9 v1 (v2 + 1) rd (aja + 1) lchi 1))) else some (v1, rd, aja, lchi, ljam)))
def fX4_cutSteps (md : Nat → Int32) (mch : Int32) (fra : Int32) (fwe : Int32) (fof : Int32) (csh : Int32) (cde : Int32) (rd : Nat → Int32) (rmo : Int32) (aja : Int32) (lchi : Int32) (ljam : Int32)  : Option (Int32 × (Nat → Int32) × Int32 × Int32 × Int32) :=
  ((fX4_cutSteps_L4 md mch fra fwe fof csh cde rmo 2000 0 0 rd aja lchi ljam).bind fun (x1_10, rd_11, aja_12, lchi_13, ljam_14) => some (x1_10, rd_11, aja_12, lchi_13, ljam_14))
set_option maxHeartbeats 4000000 in
set_option maxRecDepth 100000 in
theorem kX4_cutSteps (l : Launch) (G : GG) (a0 a1 a2 a3 a4 a5 a6 a7 a8 a9 a10 a11 a12 : Nat) (md : Nat → Int32) (mch : Int32) (fra : Int32) (fwe : Int32) (fof : Int32) (fsi : Int32) (csh : Int32) (cde : Int32) (csp : Int32) (rd : Nat → Int32) (rw : Nat → Int32) (rp : Nat → Int32) (rco : Int32) (rmo : Int32) (apa : Int32) (awo : Int32) (ash : Int32) (aja : Int32) (abu : Int32) (ltol : Int32) (lchi : Int32) (ljam : Int32)  (r_0 : Int32) (rd_0 : Nat → Int32) (aja_0 : Int32) (lchi_0 : Int32) (ljam_0 : Int32) (hf : fX4_cutSteps md mch fra fwe fof csh cde rd rmo aja lchi ljam = some (r_0, rd_0, aja_0, lchi_0, ljam_0)) : Wr l G yX4_cutSteps cX4_cutSteps 4 (some .int) 4 90 0 0 [.ref a0] [(a0, .inr (4, [.ref a1, .ref a3, .ref a4, .ref a5, .ref a12, .int ltol, .int lchi, .int ljam])), (a1, .inr (6, [.ref a2, .int mch])), (a2, .inl (G.2.1, 48, .inl md)), (a3, .inr (2, [.int fra, .int fwe, .int fof, .int fsi])), (a4, .inr (1, [.int csh, .int cde, .int csp])), (a5, .inr (7, [.ref a6, .ref a8, .ref a10, .int rco, .int rmo])), (a6, .inr (8, [.ref a7])), (a7, .inl (G.2.1, 80, .inl rd)), (a8, .inr (8, [.ref a9])), (a9, .inl (G.2.1, 5, .inl rw)), (a10, .inr (8, [.ref a11])), (a11, .inl (G.2.1, 5, .inl rp)), (a12, .inr (0, [.int apa, .int awo, .int ash, .int aja, .int abu]))] (X := Unit) (fun _ => [(a0, .inr (4, [.ref a1, .ref a3, .ref a4, .ref a5, .ref a12, .int ltol, .int lchi_0, .int ljam_0])), (a1, .inr (6, [.ref a2, .int mch])), (a2, .inl (G.2.1, 48, .inl md)), (a3, .inr (2, [.int fra, .int fwe, .int fof, .int fsi])), (a4, .inr (1, [.int csh, .int cde, .int csp])), (a5, .inr (7, [.ref a6, .ref a8, .ref a10, .int rco, .int rmo])), (a6, .inr (8, [.ref a7])), (a7, .inl (G.2.1, 80, .inl rd_0)), (a8, .inr (8, [.ref a9])), (a9, .inl (G.2.1, 5, .inl rw)), (a10, .inr (8, [.ref a11])), (a11, .inl (G.2.1, 5, .inl rp)), (a12, .inr (0, [.int apa, .int awo, .int ash, .int aja_0, .int abu]))]) (some (.int r_0)) := by
  refine wr_of (by decide) (Nat.le_of_ble_eq_true rfl) ?_
  intro p e s m args below meth c ls A hx hb hr hml hown hlk hA hZ hP hD hS hA0 hin hl
  have hP : va_P G.1 vwCl [(a0, .inr (4, [.ref a1, .ref a3, .ref a4, .ref a5, .ref a12, .int ltol, .int lchi, .int ljam])), (a1, .inr (6, [.ref a2, .int mch])), (a2, .inl (G.2.1, 48, .inl md)), (a3, .inr (2, [.int fra, .int fwe, .int fof, .int fsi])), (a4, .inr (1, [.int csh, .int cde, .int csp])), (a5, .inr (7, [.ref a6, .ref a8, .ref a10, .int rco, .int rmo])), (a6, .inr (8, [.ref a7])), (a7, .inl (G.2.1, 80, .inl rd)), (a8, .inr (8, [.ref a9])), (a9, .inl (G.2.1, 5, .inl rw)), (a10, .inr (8, [.ref a11])), (a11, .inl (G.2.1, 5, .inl rp)), (a12, .inr (0, [.int apa, .int awo, .int ash, .int aja, .int abu]))] s.heap := hP
  replace hown : s.vm.findClass RX4 = some m.cls := hown
  replace hl : lv_has ls 4 [(0, .ref a0)] := hl
  unfold fX4_cutSteps at hf
  refine lv_iconst (v := 0) hx hb dX4_cutSteps_0 (by decide) ?_
  refine lv_istore_n (lv' := [(1, .int 0), (0, .ref a0)]) hx hb dX4_cutSteps_1 rfl hl (by decide) rfl (fun ls hl => ?_)
  refine lv_iconst (v := 0) hx hb dX4_cutSteps_2 (by decide) ?_
  refine lv_istore_n (lv' := [(2, .int 0), (1, .int 0), (0, .ref a0)]) hx hb dX4_cutSteps_3 rfl hl (by decide) rfl (fun ls hl => ?_)
  have lp4 : ∀   (n : Nat) (v1 : Int32) (v2 : Int32) (rd : Nat → Int32) (aja : Int32) (lchi : Int32) (ljam : Int32) (x1_10 : Int32) (rd_11 : Nat → Int32) (aja_12 : Int32) (lchi_13 : Int32) (ljam_14 : Int32) (Q : State → Prop), fX4_cutSteps_L4 md mch fra fwe fof csh cde rmo n v1 v2 rd aja lchi ljam = some (x1_10, rd_11, aja_12, lchi_13, ljam_14) → ∀ (H : Heap) (locs : List Loc), va_P G.1 vwCl [(a0, .inr (4, [.ref a1, .ref a3, .ref a4, .ref a5, .ref a12, .int ltol, .int lchi, .int ljam])), (a1, .inr (6, [.ref a2, .int mch])), (a2, .inl (G.2.1, 48, .inl md)), (a3, .inr (2, [.int fra, .int fwe, .int fof, .int fsi])), (a4, .inr (1, [.int csh, .int cde, .int csp])), (a5, .inr (7, [.ref a6, .ref a8, .ref a10, .int rco, .int rmo])), (a6, .inr (8, [.ref a7])), (a7, .inl (G.2.1, 80, .inl rd)), (a8, .inr (8, [.ref a9])), (a9, .inl (G.2.1, 5, .inl rw)), (a10, .inr (8, [.ref a11])), (a11, .inl (G.2.1, 5, .inl rp)), (a12, .inr (0, [.int apa, .int awo, .int ash, .int aja, .int abu]))] H → va_D A [(a0, .inr (4, [.ref a1, .ref a3, .ref a4, .ref a5, .ref a12, .int ltol, .int lchi, .int ljam])), (a1, .inr (6, [.ref a2, .int mch])), (a2, .inl (G.2.1, 48, .inl md)), (a3, .inr (2, [.int fra, .int fwe, .int fof, .int fsi])), (a4, .inr (1, [.int csh, .int cde, .int csp])), (a5, .inr (7, [.ref a6, .ref a8, .ref a10, .int rco, .int rmo])), (a6, .inr (8, [.ref a7])), (a7, .inl (G.2.1, 80, .inl rd)), (a8, .inr (8, [.ref a9])), (a9, .inl (G.2.1, 5, .inl rw)), (a10, .inr (8, [.ref a11])), (a11, .inl (G.2.1, 5, .inl rp)), (a12, .inr (0, [.int apa, .int awo, .int ash, .int aja, .int abu]))] → va_S A s.heap H locs → ∀ (ls : Array Slot), lv_has ls 4 [(0, .ref a0), (1, .int v1), (2, .int v2)] → (∀ (H : Heap) (locs : List Loc) (ls : Array Slot), va_P G.1 vwCl [(a0, .inr (4, [.ref a1, .ref a3, .ref a4, .ref a5, .ref a12, .int ltol, .int lchi_13, .int ljam_14])), (a1, .inr (6, [.ref a2, .int mch])), (a2, .inl (G.2.1, 48, .inl md)), (a3, .inr (2, [.int fra, .int fwe, .int fof, .int fsi])), (a4, .inr (1, [.int csh, .int cde, .int csp])), (a5, .inr (7, [.ref a6, .ref a8, .ref a10, .int rco, .int rmo])), (a6, .inr (8, [.ref a7])), (a7, .inl (G.2.1, 80, .inl rd_11)), (a8, .inr (8, [.ref a9])), (a9, .inl (G.2.1, 5, .inl rw)), (a10, .inr (8, [.ref a11])), (a11, .inl (G.2.1, 5, .inl rp)), (a12, .inr (0, [.int apa, .int awo, .int ash, .int aja_12, .int abu]))] H → va_D A [(a0, .inr (4, [.ref a1, .ref a3, .ref a4, .ref a5, .ref a12, .int ltol, .int lchi_13, .int ljam_14])), (a1, .inr (6, [.ref a2, .int mch])), (a2, .inl (G.2.1, 48, .inl md)), (a3, .inr (2, [.int fra, .int fwe, .int fof, .int fsi])), (a4, .inr (1, [.int csh, .int cde, .int csp])), (a5, .inr (7, [.ref a6, .ref a8, .ref a10, .int rco, .int rmo])), (a6, .inr (8, [.ref a7])), (a7, .inl (G.2.1, 80, .inl rd_11)), (a8, .inr (8, [.ref a9])), (a9, .inl (G.2.1, 5, .inl rw)), (a10, .inr (8, [.ref a11])), (a11, .inl (G.2.1, 5, .inl rp)), (a12, .inr (0, [.int apa, .int awo, .int ash, .int aja_12, .int abu]))] → va_S A s.heap H locs → lv_has ls 4 [(1, .int x1_10)] → W p l e { frames := 4, cells := 0, slots := 0, locals := 90 } s m args below meth c H locs 0 0 Q (F0 m 109 ls [])) → W p l e { frames := 4, cells := 0, slots := 0, locals := 90 } s m args below meth c H locs 0 0 Q (F0 m 4 ls []) := by
    intro  n
    induction n with
    | zero => intro v1 v2 rd aja lchi ljam x1_10 rd_11 aja_12 lchi_13 ljam_14 Q hf; rw [fX4_cutSteps_L4] at hf; cases hf
    | succ n ih =>
      intro v1 v2 rd aja lchi ljam x1_10 rd_11 aja_12 lchi_13 ljam_14 Q hf H locs hP hD hS ls hl kk
      rw [fX4_cutSteps_L4] at hf
      refine lv_iload_n hx hb dX4_cutSteps_4 rfl (lv_at hl 2 rfl) ?_
      refine lv_bipush (v := 16) hx hb dX4_cutSteps_5 (by decide) ?_
      refine lv_icmp_ge (tgt := 109) hx hb dX4_cutSteps_7 (by decide) (fun c_1 => ?_) (fun c_1 => ?_)
      · replace hf := ifp c_1 hf
        cases hf
        exact kk _ _ ls hP hD hS (lv_sub hl [1] rfl)
      · replace hf := ifn c_1 hf
        refine lv_aload_n hx hb dX4_cutSteps_10 rfl (lv_at hl 0 rfl) ?_
        refine gf_X4_85 hx hb hown hA hP 0 rfl rfl dX4_cutSteps_11 ?_
        refine lv_if_ne (tgt := 109) hx hb dX4_cutSteps_14 (by decide) (fun c_2 => ?_) (fun c_2 => ?_)
        · replace hf := ifn c_2 hf
          cases hf
          exact kk _ _ ls hP hD hS (lv_sub hl [1] rfl)
        · replace hf := ifp c_2 hf
          refine lv_aload_n hx hb dX4_cutSteps_17 rfl (lv_at hl 0 rfl) ?_
          refine gf_X4_28 hx hb hown hA hP 0 rfl rfl dX4_cutSteps_18 ?_
          obtain ⟨r_3, q_4, hf⟩ := obd hf
          refine ro_v (n := 0) (As := []) (q0 := 0) hx hb hml hown hA (kX1_reach l G a4 csh cde csp r_3 q_4) g_X4_132 gd_X1_reach ⟨(Nat.le_of_ble_eq_true rfl), (Nat.le_of_ble_eq_true rfl)⟩ (hZ.at hS) (hP.sub [4] rfl) rfl rfl rfl hl.1 (Nat.le_of_ble_eq_true rfl) ⟨(Nat.le_of_ble_eq_true rfl), (Nat.le_of_ble_eq_true rfl)⟩ dX4_cutSteps_21 ?_
          refine W.eq (g2 := F0 m 24 ls [.int r_3]) rfl ?_
          refine lv_aload_n hx hb dX4_cutSteps_24 rfl (lv_at hl 0 rfl) ?_
          refine lv_aload_n hx hb dX4_cutSteps_25 rfl (lv_at hl 0 rfl) ?_
          refine gf_X4_35 hx hb hown hA hP 0 rfl rfl dX4_cutSteps_26 ?_
          refine gf_X4_93 hx hb hown hA hP 5 rfl rfl dX4_cutSteps_29 ?_
          refine lv_iload_n hx hb dX4_cutSteps_32 rfl (lv_at hl 2 rfl) ?_
          obtain ⟨r_5, q_6, hf⟩ := obd hf
          refine ro_v (n := 2) (As := [.int rmo, .int v2]) (q0 := 0) hx hb hml hown hA (kX4_above l G a0 a1 a2 a3 a4 a5 a6 a7 a8 a9 a10 a11 a12 md mch fra fwe fof fsi csh cde csp rd rw rp rco rmo apa awo ash aja abu ltol lchi ljam rmo v2 r_5 q_6) g_X4_82 gd_X4_above ⟨(Nat.le_of_ble_eq_true rfl), (Nat.le_of_ble_eq_true rfl)⟩ (hZ.at hS) (hP.sub [0, 1, 2, 3, 4, 5, 6, 7, 8, 9, 10, 11, 12] rfl) rfl rfl rfl hl.1 (Nat.le_of_ble_eq_true rfl) ⟨(Nat.le_of_ble_eq_true rfl), (Nat.le_of_ble_eq_true rfl)⟩ dX4_cutSteps_33 ?_
          refine W.eq (g2 := F0 m 36 ls [.int r_5, .int r_3]) rfl ?_
          refine va_mmin hx hb (hml.trans hl.1.symm) hown (hA.hts _ wd_150) (hA.hts _ wd_35) (hA.hts _ wd_24) (hA.hts _ wd_36) (Nat.le_of_ble_eq_true rfl) (Nat.le_of_ble_eq_true rfl) (Nat.le_of_ble_eq_true rfl) (Nat.le_of_ble_eq_true rfl) dX4_cutSteps_36 ?_
          refine lv_istore_n (lv' := [(3, .int (mnI r_3 r_5)), (0, .ref a0), (1, .int v1), (2, .int v2)]) hx hb dX4_cutSteps_39 rfl hl (by decide) rfl (fun ls hl => ?_)
          refine lv_iload_n hx hb dX4_cutSteps_40 rfl (lv_at hl 0 rfl) ?_
          refine lv_sipush (v := 200) hx hb dX4_cutSteps_41 (by decide) ?_
          refine lv_aload_n hx hb dX4_cutSteps_44 rfl (lv_at hl 1 rfl) ?_
          refine gf_X4_135 hx hb hown hA hP 0 rfl rfl dX4_cutSteps_45 ?_
          refine lv_isub hx hb dX4_cutSteps_48 ?_
          refine lv_icmp_le (tgt := 73) hx hb dX4_cutSteps_49 (by decide) (fun c_7 => ?_) (fun c_7 => ?_)
          · replace hf := ifp c_7 hf
            refine lv_aload_n hx hb dX4_cutSteps_73 rfl (lv_at hl 1 rfl) ?_
            refine gf_X4_35 hx hb hown hA hP 0 rfl rfl dX4_cutSteps_74 ?_
            refine lv_aload_n hx hb dX4_cutSteps_77 rfl (lv_at hl 1 rfl) ?_
            refine gf_X4_35 hx hb hown hA hP 0 rfl rfl dX4_cutSteps_78 ?_
            refine gf_X4_93 hx hb hown hA hP 5 rfl rfl dX4_cutSteps_81 ?_
            refine lv_iload_n hx hb dX4_cutSteps_84 rfl (lv_at hl 3 rfl) ?_
            refine lv_iload_n hx hb dX4_cutSteps_85 rfl (lv_at hl 0 rfl) ?_
            obtain ⟨rd_8, q_9, hf⟩ := obd hf
            refine wr_v (n := 3) (As := [.int rmo, .int v2, .int (mnI r_3 r_5)]) (q0 := 0) (wr := [(a0, .inr (4, [.ref a1, .ref a3, .ref a4, .ref a5, .ref a12, .int ltol, .int lchi, .int ljam])), (a1, .inr (6, [.ref a2, .int mch])), (a2, .inl (G.2.1, 48, .inl md)), (a3, .inr (2, [.int fra, .int fwe, .int fof, .int fsi])), (a4, .inr (1, [.int csh, .int cde, .int csp])), (a12, .inr (0, [.int apa, .int awo, .int ash, .int aja, .int abu]))]) (w2 := fun _ => [(a0, .inr (4, [.ref a1, .ref a3, .ref a4, .ref a5, .ref a12, .int ltol, .int lchi, .int ljam])), (a1, .inr (6, [.ref a2, .int mch])), (a2, .inl (G.2.1, 48, .inl md)), (a3, .inr (2, [.int fra, .int fwe, .int fof, .int fsi])), (a4, .inr (1, [.int csh, .int cde, .int csp])), (a5, .inr (7, [.ref a6, .ref a8, .ref a10, .int rco, .int rmo])), (a6, .inr (8, [.ref a7])), (a7, .inl (G.2.1, 80, .inl rd_8)), (a8, .inr (8, [.ref a9])), (a9, .inl (G.2.1, 5, .inl rw)), (a10, .inr (8, [.ref a11])), (a11, .inl (G.2.1, 5, .inl rp)), (a12, .inr (0, [.int apa, .int awo, .int ash, .int aja, .int abu]))]) hx hb hml hown hA (kX7_thin l G a5 a6 a7 a8 a9 a10 a11 rd rw rp rco rmo rmo v2 (mnI r_3 r_5) rd_8 q_9) g_X4_141 gd_X7_thin ⟨(Nat.le_of_ble_eq_true rfl), (Nat.le_of_ble_eq_true rfl)⟩ hZ hP hD hS hA0 rfl rfl [5, 6, 7, 8, 9, 10, 11] [0, 1, 2, 3, 4, 12] [0, 1, 2, 3, 4, 6, 7, 8, 9, 10, 11, 12, 5] rfl rfl rfl rfl (by decide) (fun _ => rfl) rfl rfl hl.1 (Nat.le_of_ble_eq_true rfl) ⟨(Nat.le_of_ble_eq_true rfl), (Nat.le_of_ble_eq_true rfl)⟩ dX4_cutSteps_86 (fun _ H locs hP hD hS => ?_)
            refine W.eq (g2 := F0 m 89 ls []) rfl ?_
            refine lv_aload_n hx hb dX4_cutSteps_89 rfl (lv_at hl 1 rfl) ?_
            refine lv_dup hx hb dX4_cutSteps_90 rfl ?_
            refine gf_X4_135 hx hb hown hA hP 0 rfl rfl dX4_cutSteps_91 ?_
            refine lv_iload_n hx hb dX4_cutSteps_94 rfl (lv_at hl 0 rfl) ?_
            refine lv_iadd hx hb dX4_cutSteps_95 ?_
            refine pf_X4_135 hx hb hown hA hP hD hS 0 rfl (Nat.le_of_ble_eq_true rfl) dX4_cutSteps_96 (fun H locs hP hD hS => ?_)
            have hP : va_P G.1 vwCl [(a0, .inr (4, [.ref a1, .ref a3, .ref a4, .ref a5, .ref a12, .int ltol, .int (lchi + (mnI r_3 r_5)), .int ljam])), (a1, .inr (6, [.ref a2, .int mch])), (a2, .inl (G.2.1, 48, .inl md)), (a3, .inr (2, [.int fra, .int fwe, .int fof, .int fsi])), (a4, .inr (1, [.int csh, .int cde, .int csp])), (a5, .inr (7, [.ref a6, .ref a8, .ref a10, .int rco, .int rmo])), (a6, .inr (8, [.ref a7])), (a7, .inl (G.2.1, 80, .inl rd_8)), (a8, .inr (8, [.ref a9])), (a9, .inl (G.2.1, 5, .inl rw)), (a10, .inr (8, [.ref a11])), (a11, .inl (G.2.1, 5, .inl rp)), (a12, .inr (0, [.int apa, .int awo, .int ash, .int aja, .int abu]))] H := hP
            have hD : va_D A [(a0, .inr (4, [.ref a1, .ref a3, .ref a4, .ref a5, .ref a12, .int ltol, .int (lchi + (mnI r_3 r_5)), .int ljam])), (a1, .inr (6, [.ref a2, .int mch])), (a2, .inl (G.2.1, 48, .inl md)), (a3, .inr (2, [.int fra, .int fwe, .int fof, .int fsi])), (a4, .inr (1, [.int csh, .int cde, .int csp])), (a5, .inr (7, [.ref a6, .ref a8, .ref a10, .int rco, .int rmo])), (a6, .inr (8, [.ref a7])), (a7, .inl (G.2.1, 80, .inl rd_8)), (a8, .inr (8, [.ref a9])), (a9, .inl (G.2.1, 5, .inl rw)), (a10, .inr (8, [.ref a11])), (a11, .inl (G.2.1, 5, .inl rp)), (a12, .inr (0, [.int apa, .int awo, .int ash, .int aja, .int abu]))] := hD
            refine lv_iload_n hx hb dX4_cutSteps_99 rfl (lv_at hl 2 rfl) ?_
            refine lv_iload_n hx hb dX4_cutSteps_100 rfl (lv_at hl 0 rfl) ?_
            refine lv_iadd hx hb dX4_cutSteps_101 ?_
            refine lv_istore_n (lv' := [(1, .int (v1 + (mnI r_3 r_5))), (3, .int (mnI r_3 r_5)), (0, .ref a0), (2, .int v2)]) hx hb dX4_cutSteps_102 rfl hl (by decide) rfl (fun ls hl => ?_)
            refine lv_iinc (v := v2 + 1) (lv' := [(2, .int (v2 + 1)), (1, .int (v1 + (mnI r_3 r_5))), (3, .int (mnI r_3 r_5)), (0, .ref a0)]) hx hb dX4_cutSteps_103 hl (k := 3) rfl rfl (by decide) rfl (fun ls hl => ?_)
            refine lv_goto (tgt := 4) hx hb dX4_cutSteps_106 (by decide) ?_
            exact ih _ _ _ _ _ _ _ _ _ _ _ _ hf _ _ hP hD hS ls (lv_sub hl [3, 1, 0] rfl) kk
          · replace hf := ifn c_7 hf
            refine lv_aload_n hx hb dX4_cutSteps_52 rfl (lv_at hl 1 rfl) ?_
            refine lv_iconst (v := 1) hx hb dX4_cutSteps_53 (by decide) ?_
            refine pf_X4_85 hx hb hown hA hP hD hS 0 rfl (Nat.le_of_ble_eq_true rfl) (Or.inr rfl) dX4_cutSteps_54 (fun H locs hP hD hS => ?_)
            have hP : va_P G.1 vwCl [(a0, .inr (4, [.ref a1, .ref a3, .ref a4, .ref a5, .ref a12, .int ltol, .int lchi, .int 1])), (a1, .inr (6, [.ref a2, .int mch])), (a2, .inl (G.2.1, 48, .inl md)), (a3, .inr (2, [.int fra, .int fwe, .int fof, .int fsi])), (a4, .inr (1, [.int csh, .int cde, .int csp])), (a5, .inr (7, [.ref a6, .ref a8, .ref a10, .int rco, .int rmo])), (a6, .inr (8, [.ref a7])), (a7, .inl (G.2.1, 80, .inl rd)), (a8, .inr (8, [.ref a9])), (a9, .inl (G.2.1, 5, .inl rw)), (a10, .inr (8, [.ref a11])), (a11, .inl (G.2.1, 5, .inl rp)), (a12, .inr (0, [.int apa, .int awo, .int ash, .int aja, .int abu]))] H := hP
            have hD : va_D A [(a0, .inr (4, [.ref a1, .ref a3, .ref a4, .ref a5, .ref a12, .int ltol, .int lchi, .int 1])), (a1, .inr (6, [.ref a2, .int mch])), (a2, .inl (G.2.1, 48, .inl md)), (a3, .inr (2, [.int fra, .int fwe, .int fof, .int fsi])), (a4, .inr (1, [.int csh, .int cde, .int csp])), (a5, .inr (7, [.ref a6, .ref a8, .ref a10, .int rco, .int rmo])), (a6, .inr (8, [.ref a7])), (a7, .inl (G.2.1, 80, .inl rd)), (a8, .inr (8, [.ref a9])), (a9, .inl (G.2.1, 5, .inl rw)), (a10, .inr (8, [.ref a11])), (a11, .inl (G.2.1, 5, .inl rp)), (a12, .inr (0, [.int apa, .int awo, .int ash, .int aja, .int abu]))] := hD
            refine lv_aload_n hx hb dX4_cutSteps_57 rfl (lv_at hl 1 rfl) ?_
            refine gf_X4_42 hx hb hown hA hP 0 rfl rfl dX4_cutSteps_58 ?_
            refine lv_dup hx hb dX4_cutSteps_61 rfl ?_
            refine gf_X4_138 hx hb hown hA hP 12 rfl rfl dX4_cutSteps_62 ?_
            refine lv_iconst (v := 1) hx hb dX4_cutSteps_65 (by decide) ?_
            refine lv_iadd hx hb dX4_cutSteps_66 ?_
            refine pf_X4_138 hx hb hown hA hP hD hS 12 rfl (Nat.le_of_ble_eq_true rfl) dX4_cutSteps_67 (fun H locs hP hD hS => ?_)
            have hP : va_P G.1 vwCl [(a0, .inr (4, [.ref a1, .ref a3, .ref a4, .ref a5, .ref a12, .int ltol, .int lchi, .int 1])), (a1, .inr (6, [.ref a2, .int mch])), (a2, .inl (G.2.1, 48, .inl md)), (a3, .inr (2, [.int fra, .int fwe, .int fof, .int fsi])), (a4, .inr (1, [.int csh, .int cde, .int csp])), (a5, .inr (7, [.ref a6, .ref a8, .ref a10, .int rco, .int rmo])), (a6, .inr (8, [.ref a7])), (a7, .inl (G.2.1, 80, .inl rd)), (a8, .inr (8, [.ref a9])), (a9, .inl (G.2.1, 5, .inl rw)), (a10, .inr (8, [.ref a11])), (a11, .inl (G.2.1, 5, .inl rp)), (a12, .inr (0, [.int apa, .int awo, .int ash, .int (aja + 1), .int abu]))] H := hP
            have hD : va_D A [(a0, .inr (4, [.ref a1, .ref a3, .ref a4, .ref a5, .ref a12, .int ltol, .int lchi, .int 1])), (a1, .inr (6, [.ref a2, .int mch])), (a2, .inl (G.2.1, 48, .inl md)), (a3, .inr (2, [.int fra, .int fwe, .int fof, .int fsi])), (a4, .inr (1, [.int csh, .int cde, .int csp])), (a5, .inr (7, [.ref a6, .ref a8, .ref a10, .int rco, .int rmo])), (a6, .inr (8, [.ref a7])), (a7, .inl (G.2.1, 80, .inl rd)), (a8, .inr (8, [.ref a9])), (a9, .inl (G.2.1, 5, .inl rw)), (a10, .inr (8, [.ref a11])), (a11, .inl (G.2.1, 5, .inl rp)), (a12, .inr (0, [.int apa, .int awo, .int ash, .int (aja + 1), .int abu]))] := hD
            refine lv_goto (tgt := 103) hx hb dX4_cutSteps_70 (by decide) ?_
            refine lv_iinc (v := v2 + 1) (lv' := [(2, .int (v2 + 1)), (3, .int (mnI r_3 r_5)), (0, .ref a0), (1, .int v1)]) hx hb dX4_cutSteps_103 hl (k := 3) rfl rfl (by decide) rfl (fun ls hl => ?_)
            refine lv_goto (tgt := 4) hx hb dX4_cutSteps_106 (by decide) ?_
            exact ih _ _ _ _ _ _ _ _ _ _ _ _ hf _ _ hP hD hS ls (lv_sub hl [2, 3, 0] rfl) kk
  obtain ⟨⟨x1_10, rd_11, aja_12, lchi_13, ljam_14⟩, q_15, hf⟩ := obd hf
  dsimp only at hf
  refine lp4 _ _ _ _ _ _ _ _ _ _ _ _ _ q_15 _ _ hP hD hS ls (lv_sub hl [2, 1, 0] rfl) (fun H locs ls hP hD hS hl => ?_)
  refine lv_iload_n hx hb dX4_cutSteps_109 rfl (lv_at hl 0 rfl) ?_
  cases hf
  exact wr_iret () hx hb hr hlk hP hD hS dX4_cutSteps_110
def fX4_runPass (md : Nat → Int32) (mch : Int32) (fra : Int32) (fwe : Int32) (fof : Int32) (fsi : Int32) (csh : Int32) (cde : Int32) (csp : Int32) (rd : Nat → Int32) (rw : Nat → Int32) (rp : Nat → Int32) (rmo : Int32) (apa : Int32) (awo : Int32) (aja : Int32) (lchi : Int32) (ljam : Int32)  : Option (Int32 × Int32 × Int32 × Int32 × (Nat → Int32) × (Nat → Int32) × Int32 × Int32 × Int32 × Int32 × Int32) :=
  ((fX4_cutSteps md mch fra fwe fof csh cde rd rmo aja lchi ljam).bind fun (r_1, rd_2, aja_3, lchi_4, ljam_5) => ((fX8_add 5 rp rmo 1).bind fun rf_7 => ((fX4_blunting csp rw rmo).bind fun r_9 => ((fX1_becomeBlunter csh r_9).bind fun csh_11 => ((fX2_wearByPass fwe fsi).bind fun (fwe_13, fsi_14) => some (r_1, fwe_13, fsi_14, csh_11, rd_2, rf_7, apa + 1, awo + r_1, aja_3, lchi_4, ljam_5))))))
set_option maxHeartbeats 4000000 in
set_option maxRecDepth 100000 in
theorem kX4_runPass (l : Launch) (G : GG) (a0 a1 a2 a3 a4 a5 a6 a7 a8 a9 a10 a11 a12 : Nat) (md : Nat → Int32) (mch : Int32) (fra : Int32) (fwe : Int32) (fof : Int32) (fsi : Int32) (csh : Int32) (cde : Int32) (csp : Int32) (rd : Nat → Int32) (rw : Nat → Int32) (rp : Nat → Int32) (rco : Int32) (rmo : Int32) (apa : Int32) (awo : Int32) (ash : Int32) (aja : Int32) (abu : Int32) (ltol : Int32) (lchi : Int32) (ljam : Int32)  (r_0 : Int32) (fwe_0 : Int32) (fsi_0 : Int32) (csh_0 : Int32) (rd_0 : Nat → Int32) (rp_0 : Nat → Int32) (apa_0 : Int32) (awo_0 : Int32) (aja_0 : Int32) (lchi_0 : Int32) (ljam_0 : Int32) (hf : fX4_runPass md mch fra fwe fof fsi csh cde csp rd rw rp rmo apa awo aja lchi ljam = some (r_0, fwe_0, fsi_0, csh_0, rd_0, rp_0, apa_0, awo_0, aja_0, lchi_0, ljam_0)) : Wr l G yX4_runPass cX4_runPass 2 (some .int) 5 113 0 0 [.ref a0] [(a0, .inr (4, [.ref a1, .ref a3, .ref a4, .ref a5, .ref a12, .int ltol, .int lchi, .int ljam])), (a1, .inr (6, [.ref a2, .int mch])), (a2, .inl (G.2.1, 48, .inl md)), (a3, .inr (2, [.int fra, .int fwe, .int fof, .int fsi])), (a4, .inr (1, [.int csh, .int cde, .int csp])), (a5, .inr (7, [.ref a6, .ref a8, .ref a10, .int rco, .int rmo])), (a6, .inr (8, [.ref a7])), (a7, .inl (G.2.1, 80, .inl rd)), (a8, .inr (8, [.ref a9])), (a9, .inl (G.2.1, 5, .inl rw)), (a10, .inr (8, [.ref a11])), (a11, .inl (G.2.1, 5, .inl rp)), (a12, .inr (0, [.int apa, .int awo, .int ash, .int aja, .int abu]))] (X := Unit) (fun _ => [(a0, .inr (4, [.ref a1, .ref a3, .ref a4, .ref a5, .ref a12, .int ltol, .int lchi_0, .int ljam_0])), (a1, .inr (6, [.ref a2, .int mch])), (a2, .inl (G.2.1, 48, .inl md)), (a3, .inr (2, [.int fra, .int fwe_0, .int fof, .int fsi_0])), (a4, .inr (1, [.int csh_0, .int cde, .int csp])), (a5, .inr (7, [.ref a6, .ref a8, .ref a10, .int rco, .int rmo])), (a6, .inr (8, [.ref a7])), (a7, .inl (G.2.1, 80, .inl rd_0)), (a8, .inr (8, [.ref a9])), (a9, .inl (G.2.1, 5, .inl rw)), (a10, .inr (8, [.ref a11])), (a11, .inl (G.2.1, 5, .inl rp_0)), (a12, .inr (0, [.int apa_0, .int awo_0, .int ash, .int aja_0, .int abu]))]) (some (.int r_0)) := by
  refine wr_of (by decide) (Nat.le_of_ble_eq_true rfl) ?_
  intro p e s m args below meth c ls A hx hb hr hml hown hlk hA hZ hP hD hS hA0 hin hl
  have hP : va_P G.1 vwCl [(a0, .inr (4, [.ref a1, .ref a3, .ref a4, .ref a5, .ref a12, .int ltol, .int lchi, .int ljam])), (a1, .inr (6, [.ref a2, .int mch])), (a2, .inl (G.2.1, 48, .inl md)), (a3, .inr (2, [.int fra, .int fwe, .int fof, .int fsi])), (a4, .inr (1, [.int csh, .int cde, .int csp])), (a5, .inr (7, [.ref a6, .ref a8, .ref a10, .int rco, .int rmo])), (a6, .inr (8, [.ref a7])), (a7, .inl (G.2.1, 80, .inl rd)), (a8, .inr (8, [.ref a9])), (a9, .inl (G.2.1, 5, .inl rw)), (a10, .inr (8, [.ref a11])), (a11, .inl (G.2.1, 5, .inl rp)), (a12, .inr (0, [.int apa, .int awo, .int ash, .int aja, .int abu]))] s.heap := hP
  replace hown : s.vm.findClass RX4 = some m.cls := hown
  replace hl : lv_has ls 2 [(0, .ref a0)] := hl
  unfold fX4_runPass at hf
  refine lv_aload_n hx hb dX4_runPass_0 rfl (lv_at hl 0 rfl) ?_
  obtain ⟨⟨r_1, rd_2, aja_3, lchi_4, ljam_5⟩, q_6, hf⟩ := obd hf
  dsimp only at hf
  refine wr_v (n := 0) (As := []) (q0 := 0) (wr := []) (w2 := fun _ => [(a0, .inr (4, [.ref a1, .ref a3, .ref a4, .ref a5, .ref a12, .int ltol, .int lchi_4, .int ljam_5])), (a1, .inr (6, [.ref a2, .int mch])), (a2, .inl (G.2.1, 48, .inl md)), (a3, .inr (2, [.int fra, .int fwe, .int fof, .int fsi])), (a4, .inr (1, [.int csh, .int cde, .int csp])), (a5, .inr (7, [.ref a6, .ref a8, .ref a10, .int rco, .int rmo])), (a6, .inr (8, [.ref a7])), (a7, .inl (G.2.1, 80, .inl rd_2)), (a8, .inr (8, [.ref a9])), (a9, .inl (G.2.1, 5, .inl rw)), (a10, .inr (8, [.ref a11])), (a11, .inl (G.2.1, 5, .inl rp)), (a12, .inr (0, [.int apa, .int awo, .int ash, .int aja_3, .int abu]))]) hx hb hml hown hA (kX4_cutSteps l G a0 a1 a2 a3 a4 a5 a6 a7 a8 a9 a10 a11 a12 md mch fra fwe fof fsi csh cde csp rd rw rp rco rmo apa awo ash aja abu ltol lchi ljam r_1 rd_2 aja_3 lchi_4 ljam_5 q_6) g_X4_102 gd_X4_cutSteps ⟨(Nat.le_of_ble_eq_true rfl), (Nat.le_of_ble_eq_true rfl)⟩ hZ hP hD hS hA0 rfl rfl [0, 1, 2, 3, 4, 5, 6, 7, 8, 9, 10, 11, 12] [] [0, 1, 2, 3, 4, 5, 6, 7, 8, 9, 10, 11, 12] rfl rfl rfl rfl (by decide) (fun _ => rfl) rfl rfl hl.1 (Nat.le_of_ble_eq_true rfl) ⟨(Nat.le_of_ble_eq_true rfl), (Nat.le_of_ble_eq_true rfl)⟩ dX4_runPass_1 (fun _ H locs hP hD hS => ?_)
  refine W.eq (g2 := F0 m 4 ls [.int r_1]) rfl ?_
  refine lv_istore_n (lv' := [(1, .int r_1), (0, .ref a0)]) hx hb dX4_runPass_4 rfl hl (by decide) rfl (fun ls hl => ?_)
  refine lv_aload_n hx hb dX4_runPass_5 rfl (lv_at hl 1 rfl) ?_
  refine gf_X4_42 hx hb hown hA hP 0 rfl rfl dX4_runPass_6 ?_
  refine lv_dup hx hb dX4_runPass_9 rfl ?_
  refine gf_X4_106 hx hb hown hA hP 12 rfl rfl dX4_runPass_10 ?_
  refine lv_iconst (v := 1) hx hb dX4_runPass_13 (by decide) ?_
  refine lv_iadd hx hb dX4_runPass_14 ?_
  refine pf_X4_106 hx hb hown hA hP hD hS 12 rfl (Nat.le_of_ble_eq_true rfl) dX4_runPass_15 (fun H locs hP hD hS => ?_)
  have hP : va_P G.1 vwCl [(a0, .inr (4, [.ref a1, .ref a3, .ref a4, .ref a5, .ref a12, .int ltol, .int lchi_4, .int ljam_5])), (a1, .inr (6, [.ref a2, .int mch])), (a2, .inl (G.2.1, 48, .inl md)), (a3, .inr (2, [.int fra, .int fwe, .int fof, .int fsi])), (a4, .inr (1, [.int csh, .int cde, .int csp])), (a5, .inr (7, [.ref a6, .ref a8, .ref a10, .int rco, .int rmo])), (a6, .inr (8, [.ref a7])), (a7, .inl (G.2.1, 80, .inl rd_2)), (a8, .inr (8, [.ref a9])), (a9, .inl (G.2.1, 5, .inl rw)), (a10, .inr (8, [.ref a11])), (a11, .inl (G.2.1, 5, .inl rp)), (a12, .inr (0, [.int (apa + 1), .int awo, .int ash, .int aja_3, .int abu]))] H := hP
  have hD : va_D A [(a0, .inr (4, [.ref a1, .ref a3, .ref a4, .ref a5, .ref a12, .int ltol, .int lchi_4, .int ljam_5])), (a1, .inr (6, [.ref a2, .int mch])), (a2, .inl (G.2.1, 48, .inl md)), (a3, .inr (2, [.int fra, .int fwe, .int fof, .int fsi])), (a4, .inr (1, [.int csh, .int cde, .int csp])), (a5, .inr (7, [.ref a6, .ref a8, .ref a10, .int rco, .int rmo])), (a6, .inr (8, [.ref a7])), (a7, .inl (G.2.1, 80, .inl rd_2)), (a8, .inr (8, [.ref a9])), (a9, .inl (G.2.1, 5, .inl rw)), (a10, .inr (8, [.ref a11])), (a11, .inl (G.2.1, 5, .inl rp)), (a12, .inr (0, [.int (apa + 1), .int awo, .int ash, .int aja_3, .int abu]))] := hD
  refine lv_aload_n hx hb dX4_runPass_18 rfl (lv_at hl 1 rfl) ?_
  refine gf_X4_42 hx hb hown hA hP 0 rfl rfl dX4_runPass_19 ?_
  refine lv_dup hx hb dX4_runPass_22 rfl ?_
  refine gf_X4_109 hx hb hown hA hP 12 rfl rfl dX4_runPass_23 ?_
  refine lv_iload_n hx hb dX4_runPass_26 rfl (lv_at hl 0 rfl) ?_
  refine lv_iadd hx hb dX4_runPass_27 ?_
  refine pf_X4_109 hx hb hown hA hP hD hS 12 rfl (Nat.le_of_ble_eq_true rfl) dX4_runPass_28 (fun H locs hP hD hS => ?_)
  have hP : va_P G.1 vwCl [(a0, .inr (4, [.ref a1, .ref a3, .ref a4, .ref a5, .ref a12, .int ltol, .int lchi_4, .int ljam_5])), (a1, .inr (6, [.ref a2, .int mch])), (a2, .inl (G.2.1, 48, .inl md)), (a3, .inr (2, [.int fra, .int fwe, .int fof, .int fsi])), (a4, .inr (1, [.int csh, .int cde, .int csp])), (a5, .inr (7, [.ref a6, .ref a8, .ref a10, .int rco, .int rmo])), (a6, .inr (8, [.ref a7])), (a7, .inl (G.2.1, 80, .inl rd_2)), (a8, .inr (8, [.ref a9])), (a9, .inl (G.2.1, 5, .inl rw)), (a10, .inr (8, [.ref a11])), (a11, .inl (G.2.1, 5, .inl rp)), (a12, .inr (0, [.int (apa + 1), .int (awo + r_1), .int ash, .int aja_3, .int abu]))] H := hP
  have hD : va_D A [(a0, .inr (4, [.ref a1, .ref a3, .ref a4, .ref a5, .ref a12, .int ltol, .int lchi_4, .int ljam_5])), (a1, .inr (6, [.ref a2, .int mch])), (a2, .inl (G.2.1, 48, .inl md)), (a3, .inr (2, [.int fra, .int fwe, .int fof, .int fsi])), (a4, .inr (1, [.int csh, .int cde, .int csp])), (a5, .inr (7, [.ref a6, .ref a8, .ref a10, .int rco, .int rmo])), (a6, .inr (8, [.ref a7])), (a7, .inl (G.2.1, 80, .inl rd_2)), (a8, .inr (8, [.ref a9])), (a9, .inl (G.2.1, 5, .inl rw)), (a10, .inr (8, [.ref a11])), (a11, .inl (G.2.1, 5, .inl rp)), (a12, .inr (0, [.int (apa + 1), .int (awo + r_1), .int ash, .int aja_3, .int abu]))] := hD
  refine lv_aload_n hx hb dX4_runPass_31 rfl (lv_at hl 1 rfl) ?_
  refine gf_X4_35 hx hb hown hA hP 0 rfl rfl dX4_runPass_32 ?_
  refine gf_X4_112 hx hb hown hA hP 5 rfl rfl dX4_runPass_35 ?_
  refine lv_aload_n hx hb dX4_runPass_38 rfl (lv_at hl 1 rfl) ?_
  refine gf_X4_35 hx hb hown hA hP 0 rfl rfl dX4_runPass_39 ?_
  refine gf_X4_93 hx hb hown hA hP 5 rfl rfl dX4_runPass_42 ?_
  refine lv_iconst (v := 1) hx hb dX4_runPass_45 (by decide) ?_
  obtain ⟨rf_7, q_8, hf⟩ := obd hf
  refine wr_v (n := 2) (As := [.int rmo, .int 1]) (q0 := 0) (wr := [(a0, .inr (4, [.ref a1, .ref a3, .ref a4, .ref a5, .ref a12, .int ltol, .int lchi_4, .int ljam_5])), (a1, .inr (6, [.ref a2, .int mch])), (a2, .inl (G.2.1, 48, .inl md)), (a3, .inr (2, [.int fra, .int fwe, .int fof, .int fsi])), (a4, .inr (1, [.int csh, .int cde, .int csp])), (a5, .inr (7, [.ref a6, .ref a8, .ref a10, .int rco, .int rmo])), (a6, .inr (8, [.ref a7])), (a7, .inl (G.2.1, 80, .inl rd_2)), (a8, .inr (8, [.ref a9])), (a9, .inl (G.2.1, 5, .inl rw)), (a12, .inr (0, [.int (apa + 1), .int (awo + r_1), .int ash, .int aja_3, .int abu]))]) (w2 := fun _ => [(a0, .inr (4, [.ref a1, .ref a3, .ref a4, .ref a5, .ref a12, .int ltol, .int lchi_4, .int ljam_5])), (a1, .inr (6, [.ref a2, .int mch])), (a2, .inl (G.2.1, 48, .inl md)), (a3, .inr (2, [.int fra, .int fwe, .int fof, .int fsi])), (a4, .inr (1, [.int csh, .int cde, .int csp])), (a5, .inr (7, [.ref a6, .ref a8, .ref a10, .int rco, .int rmo])), (a6, .inr (8, [.ref a7])), (a7, .inl (G.2.1, 80, .inl rd_2)), (a8, .inr (8, [.ref a9])), (a9, .inl (G.2.1, 5, .inl rw)), (a10, .inr (8, [.ref a11])), (a11, .inl (G.2.1, 5, .inl rf_7)), (a12, .inr (0, [.int (apa + 1), .int (awo + r_1), .int ash, .int aja_3, .int abu]))]) hx hb hml hown hA (kX8_add l G a10 a11 5 rp rmo 1 rf_7 q_8 (by decide)) g_X4_116 gd_X8_add ⟨(Nat.le_of_ble_eq_true rfl), (Nat.le_of_ble_eq_true rfl)⟩ hZ hP hD hS hA0 rfl rfl [10, 11] [0, 1, 2, 3, 4, 5, 6, 7, 8, 9, 12] [0, 1, 2, 3, 4, 5, 6, 7, 8, 9, 11, 12, 10] rfl rfl rfl rfl (by decide) (fun _ => rfl) rfl rfl hl.1 (Nat.le_of_ble_eq_true rfl) ⟨(Nat.le_of_ble_eq_true rfl), (Nat.le_of_ble_eq_true rfl)⟩ dX4_runPass_46 (fun _ H locs hP hD hS => ?_)
  refine W.eq (g2 := F0 m 49 ls []) rfl ?_
  refine lv_aload_n hx hb dX4_runPass_49 rfl (lv_at hl 1 rfl) ?_
  refine gf_X4_28 hx hb hown hA hP 0 rfl rfl dX4_runPass_50 ?_
  refine lv_aload_n hx hb dX4_runPass_53 rfl (lv_at hl 1 rfl) ?_
  obtain ⟨r_9, q_10, hf⟩ := obd hf
  refine ro_v (n := 0) (As := []) (q0 := 0) hx hb hml hown hA (kX4_blunting l G a0 a1 a2 a3 a4 a5 a6 a7 a8 a9 a10 a11 a12 md mch fra fwe fof fsi csh cde csp rd_2 rw rf_7 rco rmo (apa + 1) (awo + r_1) ash aja_3 abu ltol lchi_4 ljam_5 r_9 q_10) g_X4_122 gd_X4_blunting ⟨(Nat.le_of_ble_eq_true rfl), (Nat.le_of_ble_eq_true rfl)⟩ (hZ.at hS) (hP.sub [0, 1, 2, 3, 4, 5, 6, 7, 8, 9, 10, 11, 12] rfl) rfl rfl rfl hl.1 (Nat.le_of_ble_eq_true rfl) ⟨(Nat.le_of_ble_eq_true rfl), (Nat.le_of_ble_eq_true rfl)⟩ dX4_runPass_54 ?_
  refine W.eq (g2 := F0 m 57 ls [.int r_9, .ref a4]) rfl ?_
  obtain ⟨csh_11, q_12, hf⟩ := obd hf
  refine wr_v (n := 1) (As := [.int r_9]) (q0 := 0) (wr := [(a0, .inr (4, [.ref a1, .ref a3, .ref a4, .ref a5, .ref a12, .int ltol, .int lchi_4, .int ljam_5])), (a1, .inr (6, [.ref a2, .int mch])), (a2, .inl (G.2.1, 48, .inl md)), (a3, .inr (2, [.int fra, .int fwe, .int fof, .int fsi])), (a5, .inr (7, [.ref a6, .ref a8, .ref a10, .int rco, .int rmo])), (a6, .inr (8, [.ref a7])), (a7, .inl (G.2.1, 80, .inl rd_2)), (a8, .inr (8, [.ref a9])), (a9, .inl (G.2.1, 5, .inl rw)), (a10, .inr (8, [.ref a11])), (a11, .inl (G.2.1, 5, .inl rf_7)), (a12, .inr (0, [.int (apa + 1), .int (awo + r_1), .int ash, .int aja_3, .int abu]))]) (w2 := fun _ => [(a0, .inr (4, [.ref a1, .ref a3, .ref a4, .ref a5, .ref a12, .int ltol, .int lchi_4, .int ljam_5])), (a1, .inr (6, [.ref a2, .int mch])), (a2, .inl (G.2.1, 48, .inl md)), (a3, .inr (2, [.int fra, .int fwe, .int fof, .int fsi])), (a4, .inr (1, [.int csh_11, .int cde, .int csp])), (a5, .inr (7, [.ref a6, .ref a8, .ref a10, .int rco, .int rmo])), (a6, .inr (8, [.ref a7])), (a7, .inl (G.2.1, 80, .inl rd_2)), (a8, .inr (8, [.ref a9])), (a9, .inl (G.2.1, 5, .inl rw)), (a10, .inr (8, [.ref a11])), (a11, .inl (G.2.1, 5, .inl rf_7)), (a12, .inr (0, [.int (apa + 1), .int (awo + r_1), .int ash, .int aja_3, .int abu]))]) hx hb hml hown hA (kX1_becomeBlunter l G a4 csh cde csp r_9 csh_11 q_12) g_X4_125 gd_X1_becomeBlunter ⟨(Nat.le_of_ble_eq_true rfl), (Nat.le_of_ble_eq_true rfl)⟩ hZ hP hD hS hA0 rfl rfl [4] [0, 1, 2, 3, 5, 6, 7, 8, 9, 10, 11, 12] [0, 1, 2, 3, 12, 4, 5, 6, 7, 8, 9, 10, 11] rfl rfl rfl rfl (by decide) (fun _ => rfl) rfl rfl hl.1 (Nat.le_of_ble_eq_true rfl) ⟨(Nat.le_of_ble_eq_true rfl), (Nat.le_of_ble_eq_true rfl)⟩ dX4_runPass_57 (fun _ H locs hP hD hS => ?_)
  refine W.eq (g2 := F0 m 60 ls []) rfl ?_
  refine lv_aload_n hx hb dX4_runPass_60 rfl (lv_at hl 1 rfl) ?_
  refine gf_X4_21 hx hb hown hA hP 0 rfl rfl dX4_runPass_61 ?_
  obtain ⟨⟨fwe_13, fsi_14⟩, q_15, hf⟩ := obd hf
  dsimp only at hf
  refine wr_v (n := 0) (As := []) (q0 := 0) (wr := [(a0, .inr (4, [.ref a1, .ref a3, .ref a4, .ref a5, .ref a12, .int ltol, .int lchi_4, .int ljam_5])), (a1, .inr (6, [.ref a2, .int mch])), (a2, .inl (G.2.1, 48, .inl md)), (a4, .inr (1, [.int csh_11, .int cde, .int csp])), (a5, .inr (7, [.ref a6, .ref a8, .ref a10, .int rco, .int rmo])), (a6, .inr (8, [.ref a7])), (a7, .inl (G.2.1, 80, .inl rd_2)), (a8, .inr (8, [.ref a9])), (a9, .inl (G.2.1, 5, .inl rw)), (a10, .inr (8, [.ref a11])), (a11, .inl (G.2.1, 5, .inl rf_7)), (a12, .inr (0, [.int (apa + 1), .int (awo + r_1), .int ash, .int aja_3, .int abu]))]) (w2 := fun _ => [(a0, .inr (4, [.ref a1, .ref a3, .ref a4, .ref a5, .ref a12, .int ltol, .int lchi_4, .int ljam_5])), (a1, .inr (6, [.ref a2, .int mch])), (a2, .inl (G.2.1, 48, .inl md)), (a3, .inr (2, [.int fra, .int fwe_13, .int fof, .int fsi_14])), (a4, .inr (1, [.int csh_11, .int cde, .int csp])), (a5, .inr (7, [.ref a6, .ref a8, .ref a10, .int rco, .int rmo])), (a6, .inr (8, [.ref a7])), (a7, .inl (G.2.1, 80, .inl rd_2)), (a8, .inr (8, [.ref a9])), (a9, .inl (G.2.1, 5, .inl rw)), (a10, .inr (8, [.ref a11])), (a11, .inl (G.2.1, 5, .inl rf_7)), (a12, .inr (0, [.int (apa + 1), .int (awo + r_1), .int ash, .int aja_3, .int abu]))]) hx hb hml hown hA (kX2_wearByPass l G a3 fra fwe fof fsi fwe_13 fsi_14 q_15) g_X4_129 gd_X2_wearByPass ⟨(Nat.le_of_ble_eq_true rfl), (Nat.le_of_ble_eq_true rfl)⟩ hZ hP hD hS hA0 rfl rfl [3] [0, 1, 2, 4, 5, 6, 7, 8, 9, 10, 11, 12] [0, 1, 2, 12, 3, 4, 5, 6, 7, 8, 9, 10, 11] rfl rfl rfl rfl (by decide) (fun _ => rfl) rfl rfl hl.1 (Nat.le_of_ble_eq_true rfl) ⟨(Nat.le_of_ble_eq_true rfl), (Nat.le_of_ble_eq_true rfl)⟩ dX4_runPass_64 (fun _ H locs hP hD hS => ?_)
  refine W.eq (g2 := F0 m 67 ls []) rfl ?_
  refine lv_iload_n hx hb dX4_runPass_67 rfl (lv_at hl 0 rfl) ?_
  cases hf
  exact wr_iret () hx hb hr hlk hP hD hS dX4_runPass_68
def fX4_wouldCut_L4 (md : Nat → Int32) (mch : Int32) (fra : Int32) (fwe : Int32) (fof : Int32) (csh : Int32) (cde : Int32) (rd : Nat → Int32) (rmo : Int32) (lchi : Int32)  : Nat → Int32 → Int32 → Option (Nat × Int32)
  | 0, _, _ => none
  | n9 + 1, v1, v2 => (if 16 ≤ v2 then some (1, v1) else ((fX1_reach csh cde).bind fun r_2 => ((fX4_above md mch fra fwe fof rd rmo v2).bind fun r_4 => (if (mnI r_2 r_4) ≤ ((200 - lchi) - v1) then fX4_wouldCut_L4 md mch fra fwe fof csh cde rd rmo lchi n9 (v1 + (mnI r_2 r_4)) (v2 + 1) else some (0, v1)))))
def fX4_wouldCut (md : Nat → Int32) (mch : Int32) (fra : Int32) (fwe : Int32) (fof : Int32) (csh : Int32) (cde : Int32) (rd : Nat → Int32) (rmo : Int32) (lchi : Int32)  : Option (Int32) :=
  ((fX4_wouldCut_L4 md mch fra fwe fof csh cde rd rmo lchi 2000 0 0).bind fun (t_8, x1_7) => (if t_8 = 0 then some x1_7 else some x1_7))
set_option maxHeartbeats 4000000 in
set_option maxRecDepth 100000 in
theorem kX4_wouldCut (l : Launch) (G : GG) (a0 a1 a2 a3 a4 a5 a6 a7 a8 a9 a10 a11 a12 : Nat) (md : Nat → Int32) (mch : Int32) (fra : Int32) (fwe : Int32) (fof : Int32) (fsi : Int32) (csh : Int32) (cde : Int32) (csp : Int32) (rd : Nat → Int32) (rw : Nat → Int32) (rp : Nat → Int32) (rco : Int32) (rmo : Int32) (apa : Int32) (awo : Int32) (ash : Int32) (aja : Int32) (abu : Int32) (ltol : Int32) (lchi : Int32) (ljam : Int32)  (r_0 : Int32) (hf : fX4_wouldCut md mch fra fwe fof csh cde rd rmo lchi = some r_0) : Ro l G yX4_wouldCut cX4_wouldCut 4 (some .int) 4 90 [.ref a0] [(a0, .inr (4, [.ref a1, .ref a3, .ref a4, .ref a5, .ref a12, .int ltol, .int lchi, .int ljam])), (a1, .inr (6, [.ref a2, .int mch])), (a2, .inl (G.2.1, 48, .inl md)), (a3, .inr (2, [.int fra, .int fwe, .int fof, .int fsi])), (a4, .inr (1, [.int csh, .int cde, .int csp])), (a5, .inr (7, [.ref a6, .ref a8, .ref a10, .int rco, .int rmo])), (a6, .inr (8, [.ref a7])), (a7, .inl (G.2.1, 80, .inl rd)), (a8, .inr (8, [.ref a9])), (a9, .inl (G.2.1, 5, .inl rw)), (a10, .inr (8, [.ref a11])), (a11, .inl (G.2.1, 5, .inl rp)), (a12, .inr (0, [.int apa, .int awo, .int ash, .int aja, .int abu]))] (some (.int r_0)) := by
  refine ro_of (by decide) (Nat.le_of_ble_eq_true rfl) ?_
  intro p e s m args below meth c ls hx hb hr hml hown hlk hA hZ hP hl
  replace hown : s.vm.findClass RX4 = some m.cls := hown
  replace hl : lv_has ls 4 [(0, .ref a0)] := hl
  unfold fX4_wouldCut at hf
  refine lv_iconst (v := 0) hx hb dX4_wouldCut_0 (by decide) ?_
  refine lv_istore_n (lv' := [(1, .int 0), (0, .ref a0)]) hx hb dX4_wouldCut_1 rfl hl (by decide) rfl (fun ls hl => ?_)
  refine lv_iconst (v := 0) hx hb dX4_wouldCut_2 (by decide) ?_
  refine lv_istore_n (lv' := [(2, .int 0), (1, .int 0), (0, .ref a0)]) hx hb dX4_wouldCut_3 rfl hl (by decide) rfl (fun ls hl => ?_)
  have lp4 : ∀   (n : Nat) (v1 : Int32) (v2 : Int32)  (t_8 : Nat) (x1_7 : Int32) (Q : State → Prop), fX4_wouldCut_L4 md mch fra fwe fof csh cde rd rmo lchi n v1 v2 = some (t_8, x1_7) → ∀ (ls : Array Slot), lv_has ls 4 [(0, .ref a0), (1, .int v1), (2, .int v2)] → ((t_8 = 0 → ∀ (ls : Array Slot), lv_has ls 4 [(1, .int x1_7)] → W p l e { frames := 4, cells := 0, slots := 0, locals := 90 } s m args below meth c s.heap [] 0 0 Q (F0 m 47 ls [])) ∧ (t_8 = 1 → ∀ (ls : Array Slot), lv_has ls 4 [(1, .int x1_7)] → W p l e { frames := 4, cells := 0, slots := 0, locals := 90 } s m args below meth c s.heap [] 0 0 Q (F0 m 59 ls []))) → W p l e { frames := 4, cells := 0, slots := 0, locals := 90 } s m args below meth c s.heap [] 0 0 Q (F0 m 4 ls []) := by
    intro  n
    induction n with
    | zero => intro v1 v2 t_8 x1_7 Q hf; rw [fX4_wouldCut_L4] at hf; cases hf
    | succ n ih =>
      intro v1 v2 t_8 x1_7 Q hf ls hl kk
      rw [fX4_wouldCut_L4] at hf
      refine lv_iload_n hx hb dX4_wouldCut_4 rfl (lv_at hl 2 rfl) ?_
      refine lv_bipush (v := 16) hx hb dX4_wouldCut_5 (by decide) ?_
      refine lv_icmp_ge (tgt := 59) hx hb dX4_wouldCut_7 (by decide) (fun c_1 => ?_) (fun c_1 => ?_)
      · replace hf := ifp c_1 hf
        cases hf
        exact (kk.2 rfl) ls (lv_sub hl [1] rfl)
      · replace hf := ifn c_1 hf
        refine lv_aload_n hx hb dX4_wouldCut_10 rfl (lv_at hl 0 rfl) ?_
        refine gf_X4_28 hx hb hown hA hP 0 rfl rfl dX4_wouldCut_11 ?_
        obtain ⟨r_2, q_3, hf⟩ := obd hf
        refine ro_v (n := 0) (As := []) (q0 := 0) hx hb hml hown hA (kX1_reach l G a4 csh cde csp r_2 q_3) g_X4_132 gd_X1_reach ⟨(Nat.le_of_ble_eq_true rfl), (Nat.le_of_ble_eq_true rfl)⟩ hZ (hP.sub [4] rfl) rfl rfl rfl hl.1 (Nat.le_of_ble_eq_true rfl) ⟨(Nat.le_of_ble_eq_true rfl), (Nat.le_of_ble_eq_true rfl)⟩ dX4_wouldCut_14 ?_
        refine W.eq (g2 := F0 m 17 ls [.int r_2]) rfl ?_
        refine lv_aload_n hx hb dX4_wouldCut_17 rfl (lv_at hl 0 rfl) ?_
        refine lv_aload_n hx hb dX4_wouldCut_18 rfl (lv_at hl 0 rfl) ?_
        refine gf_X4_35 hx hb hown hA hP 0 rfl rfl dX4_wouldCut_19 ?_
        refine gf_X4_93 hx hb hown hA hP 5 rfl rfl dX4_wouldCut_22 ?_
        refine lv_iload_n hx hb dX4_wouldCut_25 rfl (lv_at hl 2 rfl) ?_
        obtain ⟨r_4, q_5, hf⟩ := obd hf
        refine ro_v (n := 2) (As := [.int rmo, .int v2]) (q0 := 0) hx hb hml hown hA (kX4_above l G a0 a1 a2 a3 a4 a5 a6 a7 a8 a9 a10 a11 a12 md mch fra fwe fof fsi csh cde csp rd rw rp rco rmo apa awo ash aja abu ltol lchi ljam rmo v2 r_4 q_5) g_X4_82 gd_X4_above ⟨(Nat.le_of_ble_eq_true rfl), (Nat.le_of_ble_eq_true rfl)⟩ hZ (hP.sub [0, 1, 2, 3, 4, 5, 6, 7, 8, 9, 10, 11, 12] rfl) rfl rfl rfl hl.1 (Nat.le_of_ble_eq_true rfl) ⟨(Nat.le_of_ble_eq_true rfl), (Nat.le_of_ble_eq_true rfl)⟩ dX4_wouldCut_26 ?_
        refine W.eq (g2 := F0 m 29 ls [.int r_4, .int r_2]) rfl ?_
        refine va_mmin hx hb (hml.trans hl.1.symm) hown (hA.hts _ wd_150) (hA.hts _ wd_35) (hA.hts _ wd_24) (hA.hts _ wd_36) (Nat.le_of_ble_eq_true rfl) (Nat.le_of_ble_eq_true rfl) (Nat.le_of_ble_eq_true rfl) (Nat.le_of_ble_eq_true rfl) dX4_wouldCut_29 ?_
        refine lv_istore_n (lv' := [(3, .int (mnI r_2 r_4)), (0, .ref a0), (1, .int v1), (2, .int v2)]) hx hb dX4_wouldCut_32 rfl hl (by decide) rfl (fun ls hl => ?_)
        refine lv_iload_n hx hb dX4_wouldCut_33 rfl (lv_at hl 0 rfl) ?_
        refine lv_sipush (v := 200) hx hb dX4_wouldCut_34 (by decide) ?_
        refine lv_aload_n hx hb dX4_wouldCut_37 rfl (lv_at hl 1 rfl) ?_
        refine gf_X4_135 hx hb hown hA hP 0 rfl rfl dX4_wouldCut_38 ?_
        refine lv_isub hx hb dX4_wouldCut_41 ?_
        refine lv_iload_n hx hb dX4_wouldCut_42 rfl (lv_at hl 2 rfl) ?_
        refine lv_isub hx hb dX4_wouldCut_43 ?_
        refine lv_icmp_le (tgt := 49) hx hb dX4_wouldCut_44 (by decide) (fun c_6 => ?_) (fun c_6 => ?_)
        · replace hf := ifp c_6 hf
          refine lv_iload_n hx hb dX4_wouldCut_49 rfl (lv_at hl 2 rfl) ?_
          refine lv_iload_n hx hb dX4_wouldCut_50 rfl (lv_at hl 0 rfl) ?_
          refine lv_iadd hx hb dX4_wouldCut_51 ?_
          refine lv_istore_n (lv' := [(1, .int (v1 + (mnI r_2 r_4))), (3, .int (mnI r_2 r_4)), (0, .ref a0), (2, .int v2)]) hx hb dX4_wouldCut_52 rfl hl (by decide) rfl (fun ls hl => ?_)
          refine lv_iinc (v := v2 + 1) (lv' := [(2, .int (v2 + 1)), (1, .int (v1 + (mnI r_2 r_4))), (3, .int (mnI r_2 r_4)), (0, .ref a0)]) hx hb dX4_wouldCut_53 hl (k := 3) rfl rfl (by decide) rfl (fun ls hl => ?_)
          refine lv_goto (tgt := 4) hx hb dX4_wouldCut_56 (by decide) ?_
          exact ih _ _ _ _ _ hf ls (lv_sub hl [3, 1, 0] rfl) kk
        · replace hf := ifn c_6 hf
          cases hf
          exact (kk.1 rfl) ls (lv_sub hl [2] rfl)
  obtain ⟨⟨t_8, x1_7⟩, q_9, hf⟩ := obd hf
  dsimp only at hf
  refine lp4 _ _ _ _ _ _ q_9 ls (lv_sub hl [2, 1, 0] rfl) ⟨fun t_8e => fun ls hl => ?_, fun t_8e => fun ls hl => ?_⟩
  · subst t_8e
    replace hf := ifp rfl hf
    refine lv_iload_n hx hb dX4_wouldCut_47 rfl (lv_at hl 0 rfl) ?_
    cases hf
    exact ro_iret hx hb hr hlk dX4_wouldCut_48
  · subst t_8e
    replace hf := ifn (by decide) hf
    refine lv_iload_n hx hb dX4_wouldCut_59 rfl (lv_at hl 0 rfl) ?_
    cases hf
    exact ro_iret hx hb hr hlk dX4_wouldCut_60
def fX4_rub_L4 (md : Nat → Int32) (mch : Int32) (fra : Int32) (fwe : Int32) (fof : Int32) (rmo : Int32) (v1 : Int32) : Nat → Int32 → Int32 → (Nat → Int32) → Option (Int32 × (Nat → Int32))
  | 0, _, _, _ => none
  | n9 + 1, v2, v3, rd => (if 16 ≤ v3 then some (v2, rd) else ((fX4_above md mch fra fwe fof rd rmo v3).bind fun r_2 => ((fX7_thin rd rmo v3 (mnI v1 r_2)).bind fun rd_4 => fX4_rub_L4 md mch fra fwe fof rmo v1 n9 (v2 + (mnI v1 r_2)) (v3 + 1) rd_4)))
def fX4_rub (md : Nat → Int32) (mch : Int32) (fra : Int32) (fwe : Int32) (fof : Int32) (rd : Nat → Int32) (rmo : Int32) (awo : Int32) (i1 : Int32) : Option (Int32 × (Nat → Int32) × Int32) :=
  ((fX4_rub_L4 md mch fra fwe fof rmo i1 2000 0 0 rd).bind fun (x2_6, rd_7) => some (x2_6, rd_7, awo + x2_6))
set_option maxHeartbeats 4000000 in
set_option maxRecDepth 100000 in
theorem kX4_rub (l : Launch) (G : GG) (a0 a1 a2 a3 a4 a5 a6 a7 a8 a9 a10 a11 a12 : Nat) (md : Nat → Int32) (mch : Int32) (fra : Int32) (fwe : Int32) (fof : Int32) (fsi : Int32) (csh : Int32) (cde : Int32) (csp : Int32) (rd : Nat → Int32) (rw : Nat → Int32) (rp : Nat → Int32) (rco : Int32) (rmo : Int32) (apa : Int32) (awo : Int32) (ash : Int32) (aja : Int32) (abu : Int32) (ltol : Int32) (lchi : Int32) (ljam : Int32) (i1 : Int32) (r_0 : Int32) (rd_0 : Nat → Int32) (awo_0 : Int32) (hf : fX4_rub md mch fra fwe fof rd rmo awo i1 = some (r_0, rd_0, awo_0)) : Wr l G yX4_rub cX4_rub 5 (some .int) 4 90 0 0 [.ref a0, .int i1] [(a0, .inr (4, [.ref a1, .ref a3, .ref a4, .ref a5, .ref a12, .int ltol, .int lchi, .int ljam])), (a1, .inr (6, [.ref a2, .int mch])), (a2, .inl (G.2.1, 48, .inl md)), (a3, .inr (2, [.int fra, .int fwe, .int fof, .int fsi])), (a4, .inr (1, [.int csh, .int cde, .int csp])), (a5, .inr (7, [.ref a6, .ref a8, .ref a10, .int rco, .int rmo])), (a6, .inr (8, [.ref a7])), (a7, .inl (G.2.1, 80, .inl rd)), (a8, .inr (8, [.ref a9])), (a9, .inl (G.2.1, 5, .inl rw)), (a10, .inr (8, [.ref a11])), (a11, .inl (G.2.1, 5, .inl rp)), (a12, .inr (0, [.int apa, .int awo, .int ash, .int aja, .int abu]))] (X := Unit) (fun _ => [(a0, .inr (4, [.ref a1, .ref a3, .ref a4, .ref a5, .ref a12, .int ltol, .int lchi, .int ljam])), (a1, .inr (6, [.ref a2, .int mch])), (a2, .inl (G.2.1, 48, .inl md)), (a3, .inr (2, [.int fra, .int fwe, .int fof, .int fsi])), (a4, .inr (1, [.int csh, .int cde, .int csp])), (a5, .inr (7, [.ref a6, .ref a8, .ref a10, .int rco, .int rmo])), (a6, .inr (8, [.ref a7])), (a7, .inl (G.2.1, 80, .inl rd_0)), (a8, .inr (8, [.ref a9])), (a9, .inl (G.2.1, 5, .inl rw)), (a10, .inr (8, [.ref a11])), (a11, .inl (G.2.1, 5, .inl rp)), (a12, .inr (0, [.int apa, .int awo_0, .int ash, .int aja, .int abu]))]) (some (.int r_0)) := by
  refine wr_of (by decide) (Nat.le_of_ble_eq_true rfl) ?_
  intro p e s m args below meth c ls A hx hb hr hml hown hlk hA hZ hP hD hS hA0 hin hl
  have hP : va_P G.1 vwCl [(a0, .inr (4, [.ref a1, .ref a3, .ref a4, .ref a5, .ref a12, .int ltol, .int lchi, .int ljam])), (a1, .inr (6, [.ref a2, .int mch])), (a2, .inl (G.2.1, 48, .inl md)), (a3, .inr (2, [.int fra, .int fwe, .int fof, .int fsi])), (a4, .inr (1, [.int csh, .int cde, .int csp])), (a5, .inr (7, [.ref a6, .ref a8, .ref a10, .int rco, .int rmo])), (a6, .inr (8, [.ref a7])), (a7, .inl (G.2.1, 80, .inl rd)), (a8, .inr (8, [.ref a9])), (a9, .inl (G.2.1, 5, .inl rw)), (a10, .inr (8, [.ref a11])), (a11, .inl (G.2.1, 5, .inl rp)), (a12, .inr (0, [.int apa, .int awo, .int ash, .int aja, .int abu]))] s.heap := hP
  replace hown : s.vm.findClass RX4 = some m.cls := hown
  replace hl : lv_has ls 5 [(0, .ref a0), (1, .int i1)] := hl
  unfold fX4_rub at hf
  refine lv_iconst (v := 0) hx hb dX4_rub_0 (by decide) ?_
  refine lv_istore_n (lv' := [(2, .int 0), (0, .ref a0), (1, .int i1)]) hx hb dX4_rub_1 rfl hl (by decide) rfl (fun ls hl => ?_)
  refine lv_iconst (v := 0) hx hb dX4_rub_2 (by decide) ?_
  refine lv_istore_n (lv' := [(3, .int 0), (2, .int 0), (0, .ref a0), (1, .int i1)]) hx hb dX4_rub_3 rfl hl (by decide) rfl (fun ls hl => ?_)
  have lp4 : ∀ (v1 : Int32) (awo : Int32) (n : Nat) (v2 : Int32) (v3 : Int32) (rd : Nat → Int32) (x2_6 : Int32) (rd_7 : Nat → Int32) (Q : State → Prop), fX4_rub_L4 md mch fra fwe fof rmo v1 n v2 v3 rd = some (x2_6, rd_7) → ∀ (H : Heap) (locs : List Loc), va_P G.1 vwCl [(a0, .inr (4, [.ref a1, .ref a3, .ref a4, .ref a5, .ref a12, .int ltol, .int lchi, .int ljam])), (a1, .inr (6, [.ref a2, .int mch])), (a2, .inl (G.2.1, 48, .inl md)), (a3, .inr (2, [.int fra, .int fwe, .int fof, .int fsi])), (a4, .inr (1, [.int csh, .int cde, .int csp])), (a5, .inr (7, [.ref a6, .ref a8, .ref a10, .int rco, .int rmo])), (a6, .inr (8, [.ref a7])), (a7, .inl (G.2.1, 80, .inl rd)), (a8, .inr (8, [.ref a9])), (a9, .inl (G.2.1, 5, .inl rw)), (a10, .inr (8, [.ref a11])), (a11, .inl (G.2.1, 5, .inl rp)), (a12, .inr (0, [.int apa, .int awo, .int ash, .int aja, .int abu]))] H → va_D A [(a0, .inr (4, [.ref a1, .ref a3, .ref a4, .ref a5, .ref a12, .int ltol, .int lchi, .int ljam])), (a1, .inr (6, [.ref a2, .int mch])), (a2, .inl (G.2.1, 48, .inl md)), (a3, .inr (2, [.int fra, .int fwe, .int fof, .int fsi])), (a4, .inr (1, [.int csh, .int cde, .int csp])), (a5, .inr (7, [.ref a6, .ref a8, .ref a10, .int rco, .int rmo])), (a6, .inr (8, [.ref a7])), (a7, .inl (G.2.1, 80, .inl rd)), (a8, .inr (8, [.ref a9])), (a9, .inl (G.2.1, 5, .inl rw)), (a10, .inr (8, [.ref a11])), (a11, .inl (G.2.1, 5, .inl rp)), (a12, .inr (0, [.int apa, .int awo, .int ash, .int aja, .int abu]))] → va_S A s.heap H locs → ∀ (ls : Array Slot), lv_has ls 5 [(0, .ref a0), (1, .int v1), (2, .int v2), (3, .int v3)] → (∀ (H : Heap) (locs : List Loc) (ls : Array Slot), va_P G.1 vwCl [(a0, .inr (4, [.ref a1, .ref a3, .ref a4, .ref a5, .ref a12, .int ltol, .int lchi, .int ljam])), (a1, .inr (6, [.ref a2, .int mch])), (a2, .inl (G.2.1, 48, .inl md)), (a3, .inr (2, [.int fra, .int fwe, .int fof, .int fsi])), (a4, .inr (1, [.int csh, .int cde, .int csp])), (a5, .inr (7, [.ref a6, .ref a8, .ref a10, .int rco, .int rmo])), (a6, .inr (8, [.ref a7])), (a7, .inl (G.2.1, 80, .inl rd_7)), (a8, .inr (8, [.ref a9])), (a9, .inl (G.2.1, 5, .inl rw)), (a10, .inr (8, [.ref a11])), (a11, .inl (G.2.1, 5, .inl rp)), (a12, .inr (0, [.int apa, .int awo, .int ash, .int aja, .int abu]))] H → va_D A [(a0, .inr (4, [.ref a1, .ref a3, .ref a4, .ref a5, .ref a12, .int ltol, .int lchi, .int ljam])), (a1, .inr (6, [.ref a2, .int mch])), (a2, .inl (G.2.1, 48, .inl md)), (a3, .inr (2, [.int fra, .int fwe, .int fof, .int fsi])), (a4, .inr (1, [.int csh, .int cde, .int csp])), (a5, .inr (7, [.ref a6, .ref a8, .ref a10, .int rco, .int rmo])), (a6, .inr (8, [.ref a7])), (a7, .inl (G.2.1, 80, .inl rd_7)), (a8, .inr (8, [.ref a9])), (a9, .inl (G.2.1, 5, .inl rw)), (a10, .inr (8, [.ref a11])), (a11, .inl (G.2.1, 5, .inl rp)), (a12, .inr (0, [.int apa, .int awo, .int ash, .int aja, .int abu]))] → va_S A s.heap H locs → lv_has ls 5 [(0, .ref a0), (2, .int x2_6)] → W p l e { frames := 4, cells := 0, slots := 0, locals := 90 } s m args below meth c H locs 0 0 Q (F0 m 56 ls [])) → W p l e { frames := 4, cells := 0, slots := 0, locals := 90 } s m args below meth c H locs 0 0 Q (F0 m 4 ls []) := by
    intro v1 awo n
    induction n with
    | zero => intro v2 v3 rd x2_6 rd_7 Q hf; rw [fX4_rub_L4] at hf; cases hf
    | succ n ih =>
      intro v2 v3 rd x2_6 rd_7 Q hf H locs hP hD hS ls hl kk
      rw [fX4_rub_L4] at hf
      refine lv_iload_n hx hb dX4_rub_4 rfl (lv_at hl 3 rfl) ?_
      refine lv_bipush (v := 16) hx hb dX4_rub_5 (by decide) ?_
      refine lv_icmp_ge (tgt := 56) hx hb dX4_rub_7 (by decide) (fun c_1 => ?_) (fun c_1 => ?_)
      · replace hf := ifp c_1 hf
        cases hf
        exact kk _ _ ls hP hD hS (lv_sub hl [0, 2] rfl)
      · replace hf := ifn c_1 hf
        refine lv_iload_n hx hb dX4_rub_10 rfl (lv_at hl 1 rfl) ?_
        refine lv_aload_n hx hb dX4_rub_11 rfl (lv_at hl 0 rfl) ?_
        refine lv_aload_n hx hb dX4_rub_12 rfl (lv_at hl 0 rfl) ?_
        refine gf_X4_35 hx hb hown hA hP 0 rfl rfl dX4_rub_13 ?_
        refine gf_X4_93 hx hb hown hA hP 5 rfl rfl dX4_rub_16 ?_
        refine lv_iload_n hx hb dX4_rub_19 rfl (lv_at hl 3 rfl) ?_
        obtain ⟨r_2, q_3, hf⟩ := obd hf
        refine ro_v (n := 2) (As := [.int rmo, .int v3]) (q0 := 0) hx hb hml hown hA (kX4_above l G a0 a1 a2 a3 a4 a5 a6 a7 a8 a9 a10 a11 a12 md mch fra fwe fof fsi csh cde csp rd rw rp rco rmo apa awo ash aja abu ltol lchi ljam rmo v3 r_2 q_3) g_X4_82 gd_X4_above ⟨(Nat.le_of_ble_eq_true rfl), (Nat.le_of_ble_eq_true rfl)⟩ (hZ.at hS) (hP.sub [0, 1, 2, 3, 4, 5, 6, 7, 8, 9, 10, 11, 12] rfl) rfl rfl rfl hl.1 (Nat.le_of_ble_eq_true rfl) ⟨(Nat.le_of_ble_eq_true rfl), (Nat.le_of_ble_eq_true rfl)⟩ dX4_rub_20 ?_
        refine W.eq (g2 := F0 m 23 ls [.int r_2, .int v1]) rfl ?_
        refine va_mmin hx hb (hml.trans hl.1.symm) hown (hA.hts _ wd_150) (hA.hts _ wd_35) (hA.hts _ wd_24) (hA.hts _ wd_36) (Nat.le_of_ble_eq_true rfl) (Nat.le_of_ble_eq_true rfl) (Nat.le_of_ble_eq_true rfl) (Nat.le_of_ble_eq_true rfl) dX4_rub_23 ?_
        refine lv_istore (lv' := [(4, .int (mnI v1 r_2)), (0, .ref a0), (1, .int v1), (2, .int v2), (3, .int v3)]) hx hb dX4_rub_26 hl (by decide) rfl (fun ls hl => ?_)
        refine lv_aload_n hx hb dX4_rub_28 rfl (lv_at hl 1 rfl) ?_
        refine gf_X4_35 hx hb hown hA hP 0 rfl rfl dX4_rub_29 ?_
        refine lv_aload_n hx hb dX4_rub_32 rfl (lv_at hl 1 rfl) ?_
        refine gf_X4_35 hx hb hown hA hP 0 rfl rfl dX4_rub_33 ?_
        refine gf_X4_93 hx hb hown hA hP 5 rfl rfl dX4_rub_36 ?_
        refine lv_iload_n hx hb dX4_rub_39 rfl (lv_at hl 4 rfl) ?_
        refine lv_iload hx hb dX4_rub_40 (lv_at hl 0 rfl) ?_
        obtain ⟨rd_4, q_5, hf⟩ := obd hf
        refine wr_v (n := 3) (As := [.int rmo, .int v3, .int (mnI v1 r_2)]) (q0 := 0) (wr := [(a0, .inr (4, [.ref a1, .ref a3, .ref a4, .ref a5, .ref a12, .int ltol, .int lchi, .int ljam])), (a1, .inr (6, [.ref a2, .int mch])), (a2, .inl (G.2.1, 48, .inl md)), (a3, .inr (2, [.int fra, .int fwe, .int fof, .int fsi])), (a4, .inr (1, [.int csh, .int cde, .int csp])), (a12, .inr (0, [.int apa, .int awo, .int ash, .int aja, .int abu]))]) (w2 := fun _ => [(a0, .inr (4, [.ref a1, .ref a3, .ref a4, .ref a5, .ref a12, .int ltol, .int lchi, .int ljam])), (a1, .inr (6, [.ref a2, .int mch])), (a2, .inl (G.2.1, 48, .inl md)), (a3, .inr (2, [.int fra, .int fwe, .int fof, .int fsi])), (a4, .inr (1, [.int csh, .int cde, .int csp])), (a5, .inr (7, [.ref a6, .ref a8, .ref a10, .int rco, .int rmo])), (a6, .inr (8, [.ref a7])), (a7, .inl (G.2.1, 80, .inl rd_4)), (a8, .inr (8, [.ref a9])), (a9, .inl (G.2.1, 5, .inl rw)), (a10, .inr (8, [.ref a11])), (a11, .inl (G.2.1, 5, .inl rp)), (a12, .inr (0, [.int apa, .int awo, .int ash, .int aja, .int abu]))]) hx hb hml hown hA (kX7_thin l G a5 a6 a7 a8 a9 a10 a11 rd rw rp rco rmo rmo v3 (mnI v1 r_2) rd_4 q_5) g_X4_141 gd_X7_thin ⟨(Nat.le_of_ble_eq_true rfl), (Nat.le_of_ble_eq_true rfl)⟩ hZ hP hD hS hA0 rfl rfl [5, 6, 7, 8, 9, 10, 11] [0, 1, 2, 3, 4, 12] [0, 1, 2, 3, 4, 6, 7, 8, 9, 10, 11, 12, 5] rfl rfl rfl rfl (by decide) (fun _ => rfl) rfl rfl hl.1 (Nat.le_of_ble_eq_true rfl) ⟨(Nat.le_of_ble_eq_true rfl), (Nat.le_of_ble_eq_true rfl)⟩ dX4_rub_42 (fun _ H locs hP hD hS => ?_)
        refine W.eq (g2 := F0 m 45 ls []) rfl ?_
        refine lv_iload_n hx hb dX4_rub_45 rfl (lv_at hl 3 rfl) ?_
        refine lv_iload hx hb dX4_rub_46 (lv_at hl 0 rfl) ?_
        refine lv_iadd hx hb dX4_rub_48 ?_
        refine lv_istore_n (lv' := [(2, .int (v2 + (mnI v1 r_2))), (4, .int (mnI v1 r_2)), (0, .ref a0), (1, .int v1), (3, .int v3)]) hx hb dX4_rub_49 rfl hl (by decide) rfl (fun ls hl => ?_)
        refine lv_iinc (v := v3 + 1) (lv' := [(3, .int (v3 + 1)), (2, .int (v2 + (mnI v1 r_2))), (4, .int (mnI v1 r_2)), (0, .ref a0), (1, .int v1)]) hx hb dX4_rub_50 hl (k := 4) rfl rfl (by decide) rfl (fun ls hl => ?_)
        refine lv_goto (tgt := 4) hx hb dX4_rub_53 (by decide) ?_
        exact ih _ _ _ _ _ _ hf _ _ hP hD hS ls (lv_sub hl [3, 4, 1, 0] rfl) kk
  obtain ⟨⟨x2_6, rd_7⟩, q_8, hf⟩ := obd hf
  dsimp only at hf
  refine lp4 _ _ _ _ _ _ _ _ _ q_8 _ _ hP hD hS ls (lv_sub hl [2, 3, 1, 0] rfl) (fun H locs ls hP hD hS hl => ?_)
  refine lv_aload_n hx hb dX4_rub_56 rfl (lv_at hl 0 rfl) ?_
  refine gf_X4_42 hx hb hown hA hP 0 rfl rfl dX4_rub_57 ?_
  refine lv_dup hx hb dX4_rub_60 rfl ?_
  refine gf_X4_109 hx hb hown hA hP 12 rfl rfl dX4_rub_61 ?_
  refine lv_iload_n hx hb dX4_rub_64 rfl (lv_at hl 1 rfl) ?_
  refine lv_iadd hx hb dX4_rub_65 ?_
  refine pf_X4_109 hx hb hown hA hP hD hS 12 rfl (Nat.le_of_ble_eq_true rfl) dX4_rub_66 (fun H locs hP hD hS => ?_)
  have hP : va_P G.1 vwCl [(a0, .inr (4, [.ref a1, .ref a3, .ref a4, .ref a5, .ref a12, .int ltol, .int lchi, .int ljam])), (a1, .inr (6, [.ref a2, .int mch])), (a2, .inl (G.2.1, 48, .inl md)), (a3, .inr (2, [.int fra, .int fwe, .int fof, .int fsi])), (a4, .inr (1, [.int csh, .int cde, .int csp])), (a5, .inr (7, [.ref a6, .ref a8, .ref a10, .int rco, .int rmo])), (a6, .inr (8, [.ref a7])), (a7, .inl (G.2.1, 80, .inl rd_7)), (a8, .inr (8, [.ref a9])), (a9, .inl (G.2.1, 5, .inl rw)), (a10, .inr (8, [.ref a11])), (a11, .inl (G.2.1, 5, .inl rp)), (a12, .inr (0, [.int apa, .int (awo + x2_6), .int ash, .int aja, .int abu]))] H := hP
  have hD : va_D A [(a0, .inr (4, [.ref a1, .ref a3, .ref a4, .ref a5, .ref a12, .int ltol, .int lchi, .int ljam])), (a1, .inr (6, [.ref a2, .int mch])), (a2, .inl (G.2.1, 48, .inl md)), (a3, .inr (2, [.int fra, .int fwe, .int fof, .int fsi])), (a4, .inr (1, [.int csh, .int cde, .int csp])), (a5, .inr (7, [.ref a6, .ref a8, .ref a10, .int rco, .int rmo])), (a6, .inr (8, [.ref a7])), (a7, .inl (G.2.1, 80, .inl rd_7)), (a8, .inr (8, [.ref a9])), (a9, .inl (G.2.1, 5, .inl rw)), (a10, .inr (8, [.ref a11])), (a11, .inl (G.2.1, 5, .inl rp)), (a12, .inr (0, [.int apa, .int (awo + x2_6), .int ash, .int aja, .int abu]))] := hD
  refine lv_iload_n hx hb dX4_rub_69 rfl (lv_at hl 1 rfl) ?_
  cases hf
  exact wr_iret () hx hb hr hlk hP hD hS dX4_rub_70
def fX4_difference (md : Nat → Int32) (rd : Nat → Int32) (i1 : Int32) (i2 : Int32) (i3 : Int32) : Option (Int32) :=
  ((fX7_at rd i1 i3).bind fun r_1 => ((fX6_at md i2 i3).bind fun r_3 => some (r_1 - r_3)))
set_option maxHeartbeats 4000000 in
set_option maxRecDepth 100000 in
theorem kX4_difference (l : Launch) (G : GG) (a0 a1 a2 a3 a4 a5 a6 a7 a8 a9 a10 a11 a12 : Nat) (md : Nat → Int32) (mch : Int32) (fra : Int32) (fwe : Int32) (fof : Int32) (fsi : Int32) (csh : Int32) (cde : Int32) (csp : Int32) (rd : Nat → Int32) (rw : Nat → Int32) (rp : Nat → Int32) (rco : Int32) (rmo : Int32) (apa : Int32) (awo : Int32) (ash : Int32) (aja : Int32) (abu : Int32) (ltol : Int32) (lchi : Int32) (ljam : Int32) (i1 : Int32) (i2 : Int32) (i3 : Int32) (r_0 : Int32) (hf : fX4_difference md rd i1 i2 i3 = some r_0) : Ro l G yX4_difference cX4_difference 4 (some .int) 2 43 [.ref a0, .int i1, .int i2, .int i3] [(a0, .inr (4, [.ref a1, .ref a3, .ref a4, .ref a5, .ref a12, .int ltol, .int lchi, .int ljam])), (a1, .inr (6, [.ref a2, .int mch])), (a2, .inl (G.2.1, 48, .inl md)), (a3, .inr (2, [.int fra, .int fwe, .int fof, .int fsi])), (a4, .inr (1, [.int csh, .int cde, .int csp])), (a5, .inr (7, [.ref a6, .ref a8, .ref a10, .int rco, .int rmo])), (a6, .inr (8, [.ref a7])), (a7, .inl (G.2.1, 80, .inl rd)), (a8, .inr (8, [.ref a9])), (a9, .inl (G.2.1, 5, .inl rw)), (a10, .inr (8, [.ref a11])), (a11, .inl (G.2.1, 5, .inl rp)), (a12, .inr (0, [.int apa, .int awo, .int ash, .int aja, .int abu]))] (some (.int r_0)) := by
  refine ro_of (by decide) (Nat.le_of_ble_eq_true rfl) ?_
  intro p e s m args below meth c ls hx hb hr hml hown hlk hA hZ hP hl
  replace hown : s.vm.findClass RX4 = some m.cls := hown
  replace hl : lv_has ls 4 [(0, .ref a0), (1, .int i1), (2, .int i2), (3, .int i3)] := hl
  unfold fX4_difference at hf
  refine lv_aload_n hx hb dX4_difference_0 rfl (lv_at hl 0 rfl) ?_
  refine gf_X4_35 hx hb hown hA hP 0 rfl rfl dX4_difference_1 ?_
  refine lv_iload_n hx hb dX4_difference_4 rfl (lv_at hl 1 rfl) ?_
  refine lv_iload_n hx hb dX4_difference_5 rfl (lv_at hl 3 rfl) ?_
  obtain ⟨r_1, q_2, hf⟩ := obd hf
  refine ro_v (n := 2) (As := [.int i1, .int i3]) (q0 := 0) hx hb hml hown hA (kX7_at l G a5 a6 a7 a8 a9 a10 a11 rd rw rp rco rmo i1 i3 r_1 q_2) g_X4_78 gd_X7_at ⟨(Nat.le_of_ble_eq_true rfl), (Nat.le_of_ble_eq_true rfl)⟩ hZ (hP.sub [5, 6, 7, 8, 9, 10, 11] rfl) rfl rfl rfl hl.1 (Nat.le_of_ble_eq_true rfl) ⟨(Nat.le_of_ble_eq_true rfl), (Nat.le_of_ble_eq_true rfl)⟩ dX4_difference_6 ?_
  refine W.eq (g2 := F0 m 9 ls [.int r_1]) rfl ?_
  refine lv_aload_n hx hb dX4_difference_9 rfl (lv_at hl 0 rfl) ?_
  refine gf_X4_12 hx hb hown hA hP 0 rfl rfl dX4_difference_10 ?_
  refine lv_iload_n hx hb dX4_difference_13 rfl (lv_at hl 2 rfl) ?_
  refine lv_iload_n hx hb dX4_difference_14 rfl (lv_at hl 3 rfl) ?_
  obtain ⟨r_3, q_4, hf⟩ := obd hf
  refine ro_v (n := 2) (As := [.int i2, .int i3]) (q0 := 0) hx hb hml hown hA (kX6_at l G a1 a2 md mch i2 i3 r_3 q_4) g_X4_65 gd_X6_at ⟨(Nat.le_of_ble_eq_true rfl), (Nat.le_of_ble_eq_true rfl)⟩ hZ (hP.sub [1, 2] rfl) rfl rfl rfl hl.1 (Nat.le_of_ble_eq_true rfl) ⟨(Nat.le_of_ble_eq_true rfl), (Nat.le_of_ble_eq_true rfl)⟩ dX4_difference_15 ?_
  refine W.eq (g2 := F0 m 18 ls [.int r_3, .int r_1]) rfl ?_
  refine lv_isub hx hb dX4_difference_18 ?_
  cases hf
  exact ro_iret hx hb hr hlk dX4_difference_19
def fX4_differences_L5 (md : Nat → Int32) (rd : Nat → Int32) (v1 : Int32) (v2 : Int32) : Nat → Int32 → Int32 → Option (Int32)
  | 0, _, _ => none
  | n9 + 1, v3, v4 => (if 16 ≤ v4 then some v3 else ((fX4_difference md rd v1 v2 v4).bind fun r_2 => fX4_differences_L5 md rd v1 v2 n9 (v3 + (abI r_2)) (v4 + 1)))
def fX4_differences (md : Nat → Int32) (rd : Nat → Int32) (i1 : Int32) (i2 : Int32) : Option (Int32) :=
  ((fX4_differences_L5 md rd i1 i2 2000 0 0).bind fun x3_4 => some x3_4)
set_option maxHeartbeats 4000000 in
set_option maxRecDepth 100000 in
theorem kX4_differences (l : Launch) (G : GG) (a0 a1 a2 a3 a4 a5 a6 a7 a8 a9 a10 a11 a12 : Nat) (md : Nat → Int32) (mch : Int32) (fra : Int32) (fwe : Int32) (fof : Int32) (fsi : Int32) (csh : Int32) (cde : Int32) (csp : Int32) (rd : Nat → Int32) (rw : Nat → Int32) (rp : Nat → Int32) (rco : Int32) (rmo : Int32) (apa : Int32) (awo : Int32) (ash : Int32) (aja : Int32) (abu : Int32) (ltol : Int32) (lchi : Int32) (ljam : Int32) (i1 : Int32) (i2 : Int32) (r_0 : Int32) (hf : fX4_differences md rd i1 i2 = some r_0) : Ro l G yX4_differences cX4_differences 5 (some .int) 3 66 [.ref a0, .int i1, .int i2] [(a0, .inr (4, [.ref a1, .ref a3, .ref a4, .ref a5, .ref a12, .int ltol, .int lchi, .int ljam])), (a1, .inr (6, [.ref a2, .int mch])), (a2, .inl (G.2.1, 48, .inl md)), (a3, .inr (2, [.int fra, .int fwe, .int fof, .int fsi])), (a4, .inr (1, [.int csh, .int cde, .int csp])), (a5, .inr (7, [.ref a6, .ref a8, .ref a10, .int rco, .int rmo])), (a6, .inr (8, [.ref a7])), (a7, .inl (G.2.1, 80, .inl rd)), (a8, .inr (8, [.ref a9])), (a9, .inl (G.2.1, 5, .inl rw)), (a10, .inr (8, [.ref a11])), (a11, .inl (G.2.1, 5, .inl rp)), (a12, .inr (0, [.int apa, .int awo, .int ash, .int aja, .int abu]))] (some (.int r_0)) := by
  refine ro_of (by decide) (Nat.le_of_ble_eq_true rfl) ?_
  intro p e s m args below meth c ls hx hb hr hml hown hlk hA hZ hP hl
  replace hown : s.vm.findClass RX4 = some m.cls := hown
  replace hl : lv_has ls 5 [(0, .ref a0), (1, .int i1), (2, .int i2)] := hl
  unfold fX4_differences at hf
  refine lv_iconst (v := 0) hx hb dX4_differences_0 (by decide) ?_
  refine lv_istore_n (lv' := [(3, .int 0), (0, .ref a0), (1, .int i1), (2, .int i2)]) hx hb dX4_differences_1 rfl hl (by decide) rfl (fun ls hl => ?_)
  refine lv_iconst (v := 0) hx hb dX4_differences_2 (by decide) ?_
  refine lv_istore (lv' := [(4, .int 0), (3, .int 0), (0, .ref a0), (1, .int i1), (2, .int i2)]) hx hb dX4_differences_3 hl (by decide) rfl (fun ls hl => ?_)
  have lp5 : ∀ (v1 : Int32) (v2 : Int32)  (n : Nat) (v3 : Int32) (v4 : Int32)  (x3_4 : Int32) (Q : State → Prop), fX4_differences_L5 md rd v1 v2 n v3 v4 = some x3_4 → ∀ (ls : Array Slot), lv_has ls 5 [(0, .ref a0), (1, .int v1), (2, .int v2), (3, .int v3), (4, .int v4)] → (∀ (ls : Array Slot), lv_has ls 5 [(3, .int x3_4)] → W p l e { frames := 3, cells := 0, slots := 0, locals := 66 } s m args below meth c s.heap [] 0 0 Q (F0 m 32 ls [])) → W p l e { frames := 3, cells := 0, slots := 0, locals := 66 } s m args below meth c s.heap [] 0 0 Q (F0 m 5 ls []) := by
    intro v1 v2 n
    induction n with
    | zero => intro v3 v4 x3_4 Q hf; rw [fX4_differences_L5] at hf; cases hf
    | succ n ih =>
      intro v3 v4 x3_4 Q hf ls hl kk
      rw [fX4_differences_L5] at hf
      refine lv_iload hx hb dX4_differences_5 (lv_at hl 4 rfl) ?_
      refine lv_bipush (v := 16) hx hb dX4_differences_7 (by decide) ?_
      refine lv_icmp_ge (tgt := 32) hx hb dX4_differences_9 (by decide) (fun c_1 => ?_) (fun c_1 => ?_)
      · replace hf := ifp c_1 hf
        cases hf
        exact kk ls (lv_sub hl [3] rfl)
      · replace hf := ifn c_1 hf
        refine lv_iload_n hx hb dX4_differences_12 rfl (lv_at hl 3 rfl) ?_
        refine lv_aload_n hx hb dX4_differences_13 rfl (lv_at hl 0 rfl) ?_
        refine lv_iload_n hx hb dX4_differences_14 rfl (lv_at hl 1 rfl) ?_
        refine lv_iload_n hx hb dX4_differences_15 rfl (lv_at hl 2 rfl) ?_
        refine lv_iload hx hb dX4_differences_16 (lv_at hl 4 rfl) ?_
        obtain ⟨r_2, q_3, hf⟩ := obd hf
        refine ro_v (n := 3) (As := [.int v1, .int v2, .int v4]) (q0 := 0) hx hb hml hown hA (kX4_difference l G a0 a1 a2 a3 a4 a5 a6 a7 a8 a9 a10 a11 a12 md mch fra fwe fof fsi csh cde csp rd rw rp rco rmo apa awo ash aja abu ltol lchi ljam v1 v2 v4 r_2 q_3) g_X4_145 gd_X4_difference ⟨(Nat.le_of_ble_eq_true rfl), (Nat.le_of_ble_eq_true rfl)⟩ hZ (hP.sub [0, 1, 2, 3, 4, 5, 6, 7, 8, 9, 10, 11, 12] rfl) rfl rfl rfl hl.1 (Nat.le_of_ble_eq_true rfl) ⟨(Nat.le_of_ble_eq_true rfl), (Nat.le_of_ble_eq_true rfl)⟩ dX4_differences_18 ?_
        refine W.eq (g2 := F0 m 21 ls [.int r_2, .int v3]) rfl ?_
        refine va_mabs hx hb (hml.trans hl.1.symm) hown (hA.hts _ wd_212) (hA.hts _ wd_213) (hA.hts _ wd_24) (hA.hts _ wd_214) (Nat.le_of_ble_eq_true rfl) (Nat.le_of_ble_eq_true rfl) (Nat.le_of_ble_eq_true rfl) (Nat.le_of_ble_eq_true rfl) dX4_differences_21 ?_
        refine lv_iadd hx hb dX4_differences_24 ?_
        refine lv_istore_n (lv' := [(3, .int (v3 + (abI r_2))), (0, .ref a0), (1, .int v1), (2, .int v2), (4, .int v4)]) hx hb dX4_differences_25 rfl hl (by decide) rfl (fun ls hl => ?_)
        refine lv_iinc (v := v4 + 1) (lv' := [(4, .int (v4 + 1)), (3, .int (v3 + (abI r_2))), (0, .ref a0), (1, .int v1), (2, .int v2)]) hx hb dX4_differences_26 hl (k := 4) rfl rfl (by decide) rfl (fun ls hl => ?_)
        refine lv_goto (tgt := 5) hx hb dX4_differences_29 (by decide) ?_
        exact ih _ _ _ _ hf ls (lv_sub hl [2, 3, 4, 1, 0] rfl) kk
  obtain ⟨x3_4, q_5, hf⟩ := obd hf
  refine lp5 _ _ _ _ _ _ _ q_5 ls (lv_sub hl [2, 3, 4, 1, 0] rfl) (fun ls hl => ?_)
  refine lv_iload_n hx hb dX4_differences_32 rfl (lv_at hl 0 rfl) ?_
  cases hf
  exact ro_iret hx hb hr hlk dX4_differences_33
def fX4_faults_L4 (md : Nat → Int32) (mch : Int32) (rd : Nat → Int32) (ltol : Int32) (v1 : Int32) : Nat → Int32 → Int32 → Option (Int32)
  | 0, _, _ => none
  | n9 + 1, v2, v3 => (if 16 ≤ v3 then some v2 else ((fX4_difference md rd v1 mch v3).bind fun r_2 => (if (abI r_2) ≤ ltol then fX4_faults_L4 md mch rd ltol v1 n9 v2 (v3 + 1) else fX4_faults_L4 md mch rd ltol v1 n9 (v2 + 1) (v3 + 1))))
def fX4_faults (md : Nat → Int32) (mch : Int32) (rd : Nat → Int32) (ltol : Int32) (i1 : Int32) : Option (Int32) :=
  ((fX4_faults_L4 md mch rd ltol i1 2000 0 0).bind fun x2_5 => some x2_5)
set_option maxHeartbeats 4000000 in
set_option maxRecDepth 100000 in
theorem kX4_faults (l : Launch) (G : GG) (a0 a1 a2 a3 a4 a5 a6 a7 a8 a9 a10 a11 a12 : Nat) (md : Nat → Int32) (mch : Int32) (fra : Int32) (fwe : Int32) (fof : Int32) (fsi : Int32) (csh : Int32) (cde : Int32) (csp : Int32) (rd : Nat → Int32) (rw : Nat → Int32) (rp : Nat → Int32) (rco : Int32) (rmo : Int32) (apa : Int32) (awo : Int32) (ash : Int32) (aja : Int32) (abu : Int32) (ltol : Int32) (lchi : Int32) (ljam : Int32) (i1 : Int32) (r_0 : Int32) (hf : fX4_faults md mch rd ltol i1 = some r_0) : Ro l G yX4_faults cX4_faults 4 (some .int) 3 66 [.ref a0, .int i1] [(a0, .inr (4, [.ref a1, .ref a3, .ref a4, .ref a5, .ref a12, .int ltol, .int lchi, .int ljam])), (a1, .inr (6, [.ref a2, .int mch])), (a2, .inl (G.2.1, 48, .inl md)), (a3, .inr (2, [.int fra, .int fwe, .int fof, .int fsi])), (a4, .inr (1, [.int csh, .int cde, .int csp])), (a5, .inr (7, [.ref a6, .ref a8, .ref a10, .int rco, .int rmo])), (a6, .inr (8, [.ref a7])), (a7, .inl (G.2.1, 80, .inl rd)), (a8, .inr (8, [.ref a9])), (a9, .inl (G.2.1, 5, .inl rw)), (a10, .inr (8, [.ref a11])), (a11, .inl (G.2.1, 5, .inl rp)), (a12, .inr (0, [.int apa, .int awo, .int ash, .int aja, .int abu]))] (some (.int r_0)) := by
  refine ro_of (by decide) (Nat.le_of_ble_eq_true rfl) ?_
  intro p e s m args below meth c ls hx hb hr hml hown hlk hA hZ hP hl
  replace hown : s.vm.findClass RX4 = some m.cls := hown
  replace hl : lv_has ls 4 [(0, .ref a0), (1, .int i1)] := hl
  unfold fX4_faults at hf
  refine lv_iconst (v := 0) hx hb dX4_faults_0 (by decide) ?_
  refine lv_istore_n (lv' := [(2, .int 0), (0, .ref a0), (1, .int i1)]) hx hb dX4_faults_1 rfl hl (by decide) rfl (fun ls hl => ?_)
  refine lv_iconst (v := 0) hx hb dX4_faults_2 (by decide) ?_
  refine lv_istore_n (lv' := [(3, .int 0), (2, .int 0), (0, .ref a0), (1, .int i1)]) hx hb dX4_faults_3 rfl hl (by decide) rfl (fun ls hl => ?_)
  have lp4 : ∀ (v1 : Int32)  (n : Nat) (v2 : Int32) (v3 : Int32)  (x2_5 : Int32) (Q : State → Prop), fX4_faults_L4 md mch rd ltol v1 n v2 v3 = some x2_5 → ∀ (ls : Array Slot), lv_has ls 4 [(0, .ref a0), (1, .int v1), (2, .int v2), (3, .int v3)] → (∀ (ls : Array Slot), lv_has ls 4 [(2, .int x2_5)] → W p l e { frames := 3, cells := 0, slots := 0, locals := 66 } s m args below meth c s.heap [] 0 0 Q (F0 m 42 ls [])) → W p l e { frames := 3, cells := 0, slots := 0, locals := 66 } s m args below meth c s.heap [] 0 0 Q (F0 m 4 ls []) := by
    intro v1 n
    induction n with
    | zero => intro v2 v3 x2_5 Q hf; rw [fX4_faults_L4] at hf; cases hf
    | succ n ih =>
      intro v2 v3 x2_5 Q hf ls hl kk
      rw [fX4_faults_L4] at hf
      refine lv_iload_n hx hb dX4_faults_4 rfl (lv_at hl 3 rfl) ?_
      refine lv_bipush (v := 16) hx hb dX4_faults_5 (by decide) ?_
      refine lv_icmp_ge (tgt := 42) hx hb dX4_faults_7 (by decide) (fun c_1 => ?_) (fun c_1 => ?_)
      · replace hf := ifp c_1 hf
        cases hf
        exact kk ls (lv_sub hl [2] rfl)
      · replace hf := ifn c_1 hf
        refine lv_aload_n hx hb dX4_faults_10 rfl (lv_at hl 0 rfl) ?_
        refine lv_iload_n hx hb dX4_faults_11 rfl (lv_at hl 1 rfl) ?_
        refine lv_aload_n hx hb dX4_faults_12 rfl (lv_at hl 0 rfl) ?_
        refine gf_X4_12 hx hb hown hA hP 0 rfl rfl dX4_faults_13 ?_
        refine gf_X4_62 hx hb hown hA hP 1 rfl rfl dX4_faults_16 ?_
        refine lv_iload_n hx hb dX4_faults_19 rfl (lv_at hl 3 rfl) ?_
        obtain ⟨r_2, q_3, hf⟩ := obd hf
        refine ro_v (n := 3) (As := [.int v1, .int mch, .int v3]) (q0 := 0) hx hb hml hown hA (kX4_difference l G a0 a1 a2 a3 a4 a5 a6 a7 a8 a9 a10 a11 a12 md mch fra fwe fof fsi csh cde csp rd rw rp rco rmo apa awo ash aja abu ltol lchi ljam v1 mch v3 r_2 q_3) g_X4_145 gd_X4_difference ⟨(Nat.le_of_ble_eq_true rfl), (Nat.le_of_ble_eq_true rfl)⟩ hZ (hP.sub [0, 1, 2, 3, 4, 5, 6, 7, 8, 9, 10, 11, 12] rfl) rfl rfl rfl hl.1 (Nat.le_of_ble_eq_true rfl) ⟨(Nat.le_of_ble_eq_true rfl), (Nat.le_of_ble_eq_true rfl)⟩ dX4_faults_20 ?_
        refine W.eq (g2 := F0 m 23 ls [.int r_2]) rfl ?_
        refine va_mabs hx hb (hml.trans hl.1.symm) hown (hA.hts _ wd_212) (hA.hts _ wd_213) (hA.hts _ wd_24) (hA.hts _ wd_214) (Nat.le_of_ble_eq_true rfl) (Nat.le_of_ble_eq_true rfl) (Nat.le_of_ble_eq_true rfl) (Nat.le_of_ble_eq_true rfl) dX4_faults_23 ?_
        refine lv_aload_n hx hb dX4_faults_26 rfl (lv_at hl 0 rfl) ?_
        refine gf_X4_46 hx hb hown hA hP 0 rfl rfl dX4_faults_27 ?_
        refine lv_icmp_le (tgt := 36) hx hb dX4_faults_30 (by decide) (fun c_4 => ?_) (fun c_4 => ?_)
        · replace hf := ifp c_4 hf
          refine lv_iinc (v := v3 + 1) (lv' := [(3, .int (v3 + 1)), (0, .ref a0), (1, .int v1), (2, .int v2)]) hx hb dX4_faults_36 hl (k := 3) rfl rfl (by decide) rfl (fun ls hl => ?_)
          refine lv_goto (tgt := 4) hx hb dX4_faults_39 (by decide) ?_
          exact ih _ _ _ _ hf ls (lv_sub hl [1, 2, 3, 0] rfl) kk
        · replace hf := ifn c_4 hf
          refine lv_iinc (v := v2 + 1) (lv' := [(2, .int (v2 + 1)), (0, .ref a0), (1, .int v1), (3, .int v3)]) hx hb dX4_faults_33 hl (k := 2) rfl rfl (by decide) rfl (fun ls hl => ?_)
          refine lv_iinc (v := v3 + 1) (lv' := [(3, .int (v3 + 1)), (2, .int (v2 + 1)), (0, .ref a0), (1, .int v1)]) hx hb dX4_faults_36 hl (k := 3) rfl rfl (by decide) rfl (fun ls hl => ?_)
          refine lv_goto (tgt := 4) hx hb dX4_faults_39 (by decide) ?_
          exact ih _ _ _ _ hf ls (lv_sub hl [2, 3, 1, 0] rfl) kk
  obtain ⟨x2_5, q_6, hf⟩ := obd hf
  refine lp4 _ _ _ _ _ _ q_6 ls (lv_sub hl [2, 3, 1, 0] rfl) (fun ls hl => ?_)
  refine lv_iload_n hx hb dX4_faults_42 rfl (lv_at hl 0 rfl) ?_
  cases hf
  exact ro_iret hx hb hr hlk dX4_faults_43
def fX4_isBetter (md : Nat → Int32) (mch : Int32) (rd : Nat → Int32) (ltol : Int32) (i1 : Int32) (i2 : Int32) : Option (Int32) :=
  ((fX4_faults md mch rd ltol i1).bind fun r_1 => ((fX4_faults md mch rd ltol i2).bind fun r_3 => (if r_1 = r_3 then ((fX4_differences md rd i1 mch).bind fun r_6 => ((fX4_differences md rd i2 mch).bind fun r_8 => (if r_8 ≤ r_6 then some 0 else some 1))) else (if r_3 ≤ r_1 then some 0 else some 1))))
set_option maxHeartbeats 4000000 in
set_option maxRecDepth 100000 in
theorem kX4_isBetter (l : Launch) (G : GG) (a0 a1 a2 a3 a4 a5 a6 a7 a8 a9 a10 a11 a12 : Nat) (md : Nat → Int32) (mch : Int32) (fra : Int32) (fwe : Int32) (fof : Int32) (fsi : Int32) (csh : Int32) (cde : Int32) (csp : Int32) (rd : Nat → Int32) (rw : Nat → Int32) (rp : Nat → Int32) (rco : Int32) (rmo : Int32) (apa : Int32) (awo : Int32) (ash : Int32) (aja : Int32) (abu : Int32) (ltol : Int32) (lchi : Int32) (ljam : Int32) (i1 : Int32) (i2 : Int32) (r_0 : Int32) (hf : fX4_isBetter md mch rd ltol i1 i2 = some r_0) : Ro l G yX4_isBetter cX4_isBetter 5 (some .boolean) 4 90 [.ref a0, .int i1, .int i2] [(a0, .inr (4, [.ref a1, .ref a3, .ref a4, .ref a5, .ref a12, .int ltol, .int lchi, .int ljam])), (a1, .inr (6, [.ref a2, .int mch])), (a2, .inl (G.2.1, 48, .inl md)), (a3, .inr (2, [.int fra, .int fwe, .int fof, .int fsi])), (a4, .inr (1, [.int csh, .int cde, .int csp])), (a5, .inr (7, [.ref a6, .ref a8, .ref a10, .int rco, .int rmo])), (a6, .inr (8, [.ref a7])), (a7, .inl (G.2.1, 80, .inl rd)), (a8, .inr (8, [.ref a9])), (a9, .inl (G.2.1, 5, .inl rw)), (a10, .inr (8, [.ref a11])), (a11, .inl (G.2.1, 5, .inl rp)), (a12, .inr (0, [.int apa, .int awo, .int ash, .int aja, .int abu]))] (some (.int r_0)) := by
  refine ro_of (by decide) (Nat.le_of_ble_eq_true rfl) ?_
  intro p e s m args below meth c ls hx hb hr hml hown hlk hA hZ hP hl
  replace hown : s.vm.findClass RX4 = some m.cls := hown
  replace hl : lv_has ls 5 [(0, .ref a0), (1, .int i1), (2, .int i2)] := hl
  unfold fX4_isBetter at hf
  refine lv_aload_n hx hb dX4_isBetter_0 rfl (lv_at hl 0 rfl) ?_
  refine lv_iload_n hx hb dX4_isBetter_1 rfl (lv_at hl 1 rfl) ?_
  obtain ⟨r_1, q_2, hf⟩ := obd hf
  refine ro_v (n := 1) (As := [.int i1]) (q0 := 0) hx hb hml hown hA (kX4_faults l G a0 a1 a2 a3 a4 a5 a6 a7 a8 a9 a10 a11 a12 md mch fra fwe fof fsi csh cde csp rd rw rp rco rmo apa awo ash aja abu ltol lchi ljam i1 r_1 q_2) g_X4_152 gd_X4_faults ⟨(Nat.le_of_ble_eq_true rfl), (Nat.le_of_ble_eq_true rfl)⟩ hZ (hP.sub [0, 1, 2, 3, 4, 5, 6, 7, 8, 9, 10, 11, 12] rfl) rfl rfl rfl hl.1 (Nat.le_of_ble_eq_true rfl) ⟨(Nat.le_of_ble_eq_true rfl), (Nat.le_of_ble_eq_true rfl)⟩ dX4_isBetter_2 ?_
  refine W.eq (g2 := F0 m 5 ls [.int r_1]) rfl ?_
  refine lv_istore_n (lv' := [(3, .int r_1), (0, .ref a0), (1, .int i1), (2, .int i2)]) hx hb dX4_isBetter_5 rfl hl (by decide) rfl (fun ls hl => ?_)
  refine lv_aload_n hx hb dX4_isBetter_6 rfl (lv_at hl 1 rfl) ?_
  refine lv_iload_n hx hb dX4_isBetter_7 rfl (lv_at hl 3 rfl) ?_
  obtain ⟨r_3, q_4, hf⟩ := obd hf
  refine ro_v (n := 1) (As := [.int i2]) (q0 := 0) hx hb hml hown hA (kX4_faults l G a0 a1 a2 a3 a4 a5 a6 a7 a8 a9 a10 a11 a12 md mch fra fwe fof fsi csh cde csp rd rw rp rco rmo apa awo ash aja abu ltol lchi ljam i2 r_3 q_4) g_X4_152 gd_X4_faults ⟨(Nat.le_of_ble_eq_true rfl), (Nat.le_of_ble_eq_true rfl)⟩ hZ (hP.sub [0, 1, 2, 3, 4, 5, 6, 7, 8, 9, 10, 11, 12] rfl) rfl rfl rfl hl.1 (Nat.le_of_ble_eq_true rfl) ⟨(Nat.le_of_ble_eq_true rfl), (Nat.le_of_ble_eq_true rfl)⟩ dX4_isBetter_8 ?_
  refine W.eq (g2 := F0 m 11 ls [.int r_3]) rfl ?_
  refine lv_istore (lv' := [(4, .int r_3), (3, .int r_1), (0, .ref a0), (1, .int i1), (2, .int i2)]) hx hb dX4_isBetter_11 hl (by decide) rfl (fun ls hl => ?_)
  refine lv_iload_n hx hb dX4_isBetter_13 rfl (lv_at hl 1 rfl) ?_
  refine lv_iload hx hb dX4_isBetter_14 (lv_at hl 0 rfl) ?_
  refine lv_icmp_eq (tgt := 31) hx hb dX4_isBetter_16 (by decide) (fun c_5 => ?_) (fun c_5 => ?_)
  · replace hf := ifp c_5 hf
    refine lv_aload_n hx hb dX4_isBetter_31 rfl (lv_at hl 2 rfl) ?_
    refine lv_iload_n hx hb dX4_isBetter_32 rfl (lv_at hl 3 rfl) ?_
    refine lv_aload_n hx hb dX4_isBetter_33 rfl (lv_at hl 2 rfl) ?_
    refine gf_X4_12 hx hb hown hA hP 0 rfl rfl dX4_isBetter_34 ?_
    refine gf_X4_62 hx hb hown hA hP 1 rfl rfl dX4_isBetter_37 ?_
    obtain ⟨r_6, q_7, hf⟩ := obd hf
    refine ro_v (n := 2) (As := [.int i1, .int mch]) (q0 := 0) hx hb hml hown hA (kX4_differences l G a0 a1 a2 a3 a4 a5 a6 a7 a8 a9 a10 a11 a12 md mch fra fwe fof fsi csh cde csp rd rw rp rco rmo apa awo ash aja abu ltol lchi ljam i1 mch r_6 q_7) g_X4_155 gd_X4_differences ⟨(Nat.le_of_ble_eq_true rfl), (Nat.le_of_ble_eq_true rfl)⟩ hZ (hP.sub [0, 1, 2, 3, 4, 5, 6, 7, 8, 9, 10, 11, 12] rfl) rfl rfl rfl hl.1 (Nat.le_of_ble_eq_true rfl) ⟨(Nat.le_of_ble_eq_true rfl), (Nat.le_of_ble_eq_true rfl)⟩ dX4_isBetter_40 ?_
    refine W.eq (g2 := F0 m 43 ls [.int r_6]) rfl ?_
    refine lv_aload_n hx hb dX4_isBetter_43 rfl (lv_at hl 2 rfl) ?_
    refine lv_iload_n hx hb dX4_isBetter_44 rfl (lv_at hl 4 rfl) ?_
    refine lv_aload_n hx hb dX4_isBetter_45 rfl (lv_at hl 2 rfl) ?_
    refine gf_X4_12 hx hb hown hA hP 0 rfl rfl dX4_isBetter_46 ?_
    refine gf_X4_62 hx hb hown hA hP 1 rfl rfl dX4_isBetter_49 ?_
    obtain ⟨r_8, q_9, hf⟩ := obd hf
    refine ro_v (n := 2) (As := [.int i2, .int mch]) (q0 := 0) hx hb hml hown hA (kX4_differences l G a0 a1 a2 a3 a4 a5 a6 a7 a8 a9 a10 a11 a12 md mch fra fwe fof fsi csh cde csp rd rw rp rco rmo apa awo ash aja abu ltol lchi ljam i2 mch r_8 q_9) g_X4_155 gd_X4_differences ⟨(Nat.le_of_ble_eq_true rfl), (Nat.le_of_ble_eq_true rfl)⟩ hZ (hP.sub [0, 1, 2, 3, 4, 5, 6, 7, 8, 9, 10, 11, 12] rfl) rfl rfl rfl hl.1 (Nat.le_of_ble_eq_true rfl) ⟨(Nat.le_of_ble_eq_true rfl), (Nat.le_of_ble_eq_true rfl)⟩ dX4_isBetter_52 ?_
    refine W.eq (g2 := F0 m 55 ls [.int r_8, .int r_6]) rfl ?_
    refine lv_icmp_ge (tgt := 62) hx hb dX4_isBetter_55 (by decide) (fun c_10 => ?_) (fun c_10 => ?_)
    · replace hf := ifp c_10 hf
      refine lv_iconst (v := 0) hx hb dX4_isBetter_62 (by decide) ?_
      cases hf
      exact ro_zret hx hb hr hlk (Or.inl rfl) dX4_isBetter_63
    · replace hf := ifn c_10 hf
      refine lv_iconst (v := 1) hx hb dX4_isBetter_58 (by decide) ?_
      refine lv_goto (tgt := 63) hx hb dX4_isBetter_59 (by decide) ?_
      cases hf
      exact ro_zret hx hb hr hlk (Or.inr rfl) dX4_isBetter_63
  · replace hf := ifn c_5 hf
    refine lv_iload_n hx hb dX4_isBetter_19 rfl (lv_at hl 1 rfl) ?_
    refine lv_iload hx hb dX4_isBetter_20 (lv_at hl 0 rfl) ?_
    refine lv_icmp_ge (tgt := 29) hx hb dX4_isBetter_22 (by decide) (fun c_11 => ?_) (fun c_11 => ?_)
    · replace hf := ifp c_11 hf
      refine lv_iconst (v := 0) hx hb dX4_isBetter_29 (by decide) ?_
      cases hf
      exact ro_zret hx hb hr hlk (Or.inl rfl) dX4_isBetter_30
    · replace hf := ifn c_11 hf
      refine lv_iconst (v := 1) hx hb dX4_isBetter_25 (by decide) ?_
      refine lv_goto (tgt := 30) hx hb dX4_isBetter_26 (by decide) ?_
      cases hf
      exact ro_zret hx hb hr hlk (Or.inr rfl) dX4_isBetter_30
def fX6_put (md : Nat → Int32) (i1 : Int32) (i2 : Int32) (i3 : Int32) : Option ((Nat → Int32)) :=
  (if ((i1 * 16) + i2) < 0 then some md else (if 48 ≤ ((i1 * 16) + i2) then some md else some (upd md ((i1 * 16) + i2 : Int32).toNatClampNeg i3)))
set_option maxHeartbeats 4000000 in
set_option maxRecDepth 100000 in
theorem kX6_put (l : Launch) (G : GG) (a0 a1 : Nat) (md : Nat → Int32) (mch : Int32) (i1 : Int32) (i2 : Int32) (i3 : Int32) (md_0 : Nat → Int32) (hf : fX6_put md i1 i2 i3 = some md_0) : Wr l G yX6_put cX6_put 5 none 0 0 0 0 [.ref a0, .int i1, .int i2, .int i3] [(a0, .inr (6, [.ref a1, .int mch])), (a1, .inl (G.2.1, 48, .inl md))] (X := Unit) (fun _ => [(a0, .inr (6, [.ref a1, .int mch])), (a1, .inl (G.2.1, 48, .inl md_0))]) none := by
  refine wr_of (by decide) (Nat.le_of_ble_eq_true rfl) ?_
  intro p e s m args below meth c ls A hx hb hr hml hown hlk hA hZ hP hD hS hA0 hin hl
  have hP : va_P G.1 vwCl [(a0, .inr (6, [.ref a1, .int mch])), (a1, .inl (G.2.1, 48, .inl md))] s.heap := hP
  replace hown : s.vm.findClass RX6 = some m.cls := hown
  replace hl : lv_has ls 5 [(0, .ref a0), (1, .int i1), (2, .int i2), (3, .int i3)] := hl
  unfold fX6_put at hf
  refine lv_iload_n hx hb dX6_put_0 rfl (lv_at hl 1 rfl) ?_
  refine lv_bipush (v := 16) hx hb dX6_put_1 (by decide) ?_
  refine lv_imul hx hb dX6_put_3 ?_
  refine lv_iload_n hx hb dX6_put_4 rfl (lv_at hl 2 rfl) ?_
  refine lv_iadd hx hb dX6_put_5 ?_
  refine lv_istore (lv' := [(4, .int ((i1 * 16) + i2)), (0, .ref a0), (1, .int i1), (2, .int i2), (3, .int i3)]) hx hb dX6_put_6 hl (by decide) rfl (fun ls hl => ?_)
  refine lv_iload hx hb dX6_put_8 (lv_at hl 0 rfl) ?_
  refine lv_if_lt (tgt := 31) hx hb dX6_put_10 (by decide) (fun c_1 => ?_) (fun c_1 => ?_)
  · replace hf := ifp c_1 hf
    cases hf
    exact wr_vret () hx hb hr hlk hP hD hS dX6_put_31
  · replace hf := ifn c_1 hf
    refine lv_iload hx hb dX6_put_13 (lv_at hl 0 rfl) ?_
    refine lv_aload_n hx hb dX6_put_15 rfl (lv_at hl 1 rfl) ?_
    refine gf_X6_9 hx hb hown hA hP 0 rfl rfl dX6_put_16 ?_
    refine va_alen hx hb hA.K hP 1 0 rfl rfl (v := 48) rfl dX6_put_19 ?_
    refine lv_icmp_ge (tgt := 31) hx hb dX6_put_20 (by decide) (fun c_2 => ?_) (fun c_2 => ?_)
    · replace hf := ifp c_2 hf
      cases hf
      exact wr_vret () hx hb hr hlk hP hD hS dX6_put_31
    · replace hf := ifn c_2 hf
      refine lv_aload_n hx hb dX6_put_23 rfl (lv_at hl 1 rfl) ?_
      refine gf_X6_9 hx hb hown hA hP 0 rfl rfl dX6_put_24 ?_
      refine lv_iload hx hb dX6_put_27 (lv_at hl 0 rfl) ?_
      refine lv_iload_n hx hb dX6_put_29 rfl (lv_at hl 4 rfl) ?_
      refine va_iast hx hb hA.K hP hD hS 1 0 rfl rfl (vin_g c_1 c_2 (by decide)) dX6_put_30 (fun H locs hP hD hS => ?_)
      have hP : va_P G.1 vwCl [(a0, .inr (6, [.ref a1, .int mch])), (a1, .inl (G.2.1, 48, .inl (upd md ((i1 * 16) + i2 : Int32).toNatClampNeg i3)))] H := hP
      have hD : va_D A [(a0, .inr (6, [.ref a1, .int mch])), (a1, .inl (G.2.1, 48, .inl (upd md ((i1 * 16) + i2 : Int32).toNatClampNeg i3)))] := hD
      cases hf
      exact wr_vret () hx hb hr hlk hP hD hS dX6_put_31
def fX6_takeOver_L9 (o_md : Nat → Int32) (v2 : Int32) : Nat → Int32 → (Nat → Int32) → Option ((Nat → Int32))
  | 0, _, _ => none
  | n9 + 1, v3, md => (if 16 ≤ v3 then some md else ((fX6_at o_md v2 v3).bind fun r_3 => ((fX6_put md v2 v3 r_3).bind fun md_5 => fX6_takeOver_L9 o_md v2 n9 (v3 + 1) md_5)))
def fX6_takeOver_L2 (o_md : Nat → Int32)  : Nat → Int32 → (Nat → Int32) → Option ((Nat → Int32))
  | 0, _, _ => none
  | n9 + 1, v2, md => (if 3 ≤ v2 then some md else ((fX6_takeOver_L9 o_md v2 2000 0 md).bind fun md_7 => fX6_takeOver_L2 o_md n9 (v2 + 1) md_7))
def fX6_takeOver (md : Nat → Int32) (o_md : Nat → Int32) (o_mch : Int32)  : Option ((Nat → Int32) × Int32) :=
  ((fX6_takeOver_L2 o_md 2000 0 md).bind fun md_9 => some (md_9, o_mch))
set_option maxHeartbeats 4000000 in
set_option maxRecDepth 100000 in
theorem kX6_takeOver (l : Launch) (G : GG) (a0 a1 b0 b1 : Nat) (md : Nat → Int32) (mch : Int32) (o_md : Nat → Int32) (o_mch : Int32)  (md_0 : Nat → Int32) (mch_0 : Int32) (hf : fX6_takeOver md o_md o_mch = some (md_0, mch_0)) : Wr l G yX6_takeOver cX6_takeOver 4 none 1 24 0 0 [.ref a0, .ref b0] [(a0, .inr (6, [.ref a1, .int mch])), (a1, .inl (G.2.1, 48, .inl md)), (b0, .inr (6, [.ref b1, .int o_mch])), (b1, .inl (G.2.1, 48, .inl o_md))] (X := Unit) (fun _ => [(a0, .inr (6, [.ref a1, .int mch_0])), (a1, .inl (G.2.1, 48, .inl md_0)), (b0, .inr (6, [.ref b1, .int o_mch])), (b1, .inl (G.2.1, 48, .inl o_md))]) none := by
  refine wr_of (by decide) (Nat.le_of_ble_eq_true rfl) ?_
  intro p e s m args below meth c ls A hx hb hr hml hown hlk hA hZ hP hD hS hA0 hin hl
  have hP : va_P G.1 vwCl [(a0, .inr (6, [.ref a1, .int mch])), (a1, .inl (G.2.1, 48, .inl md)), (b0, .inr (6, [.ref b1, .int o_mch])), (b1, .inl (G.2.1, 48, .inl o_md))] s.heap := hP
  replace hown : s.vm.findClass RX6 = some m.cls := hown
  replace hl : lv_has ls 4 [(0, .ref a0), (1, .ref b0)] := hl
  unfold fX6_takeOver at hf
  refine lv_iconst (v := 0) hx hb dX6_takeOver_0 (by decide) ?_
  refine lv_istore_n (lv' := [(2, .int 0), (0, .ref a0), (1, .ref b0)]) hx hb dX6_takeOver_1 rfl hl (by decide) rfl (fun ls hl => ?_)
  have lp2 : ∀  (mch : Int32) (n : Nat) (v2 : Int32) (md : Nat → Int32) (md_9 : Nat → Int32) (Q : State → Prop), fX6_takeOver_L2 o_md n v2 md = some md_9 → ∀ (H : Heap) (locs : List Loc), va_P G.1 vwCl [(a0, .inr (6, [.ref a1, .int mch])), (a1, .inl (G.2.1, 48, .inl md)), (b0, .inr (6, [.ref b1, .int o_mch])), (b1, .inl (G.2.1, 48, .inl o_md))] H → va_D A [(a0, .inr (6, [.ref a1, .int mch])), (a1, .inl (G.2.1, 48, .inl md)), (b0, .inr (6, [.ref b1, .int o_mch])), (b1, .inl (G.2.1, 48, .inl o_md))] → va_S A s.heap H locs → ∀ (ls : Array Slot), lv_has ls 4 [(0, .ref a0), (1, .ref b0), (2, .int v2)] → (∀ (H : Heap) (locs : List Loc) (ls : Array Slot), va_P G.1 vwCl [(a0, .inr (6, [.ref a1, .int mch])), (a1, .inl (G.2.1, 48, .inl md_9)), (b0, .inr (6, [.ref b1, .int o_mch])), (b1, .inl (G.2.1, 48, .inl o_md))] H → va_D A [(a0, .inr (6, [.ref a1, .int mch])), (a1, .inl (G.2.1, 48, .inl md_9)), (b0, .inr (6, [.ref b1, .int o_mch])), (b1, .inl (G.2.1, 48, .inl o_md))] → va_S A s.heap H locs → lv_has ls 4 [(0, .ref a0), (1, .ref b0)] → W p l e { frames := 1, cells := 0, slots := 0, locals := 24 } s m args below meth c H locs 0 0 Q (F0 m 39 ls [])) → W p l e { frames := 1, cells := 0, slots := 0, locals := 24 } s m args below meth c H locs 0 0 Q (F0 m 2 ls []) := by
    intro mch n
    induction n with
    | zero => intro v2 md md_9 Q hf; rw [fX6_takeOver_L2] at hf; cases hf
    | succ n ih =>
      intro v2 md md_9 Q hf H locs hP hD hS ls hl kk
      rw [fX6_takeOver_L2] at hf
      refine lv_iload_n hx hb dX6_takeOver_2 rfl (lv_at hl 2 rfl) ?_
      refine lv_iconst (v := 3) hx hb dX6_takeOver_3 (by decide) ?_
      refine lv_icmp_ge (tgt := 39) hx hb dX6_takeOver_4 (by decide) (fun c_1 => ?_) (fun c_1 => ?_)
      · replace hf := ifp c_1 hf
        cases hf
        exact kk _ _ ls hP hD hS (lv_sub hl [0, 1] rfl)
      · replace hf := ifn c_1 hf
        refine lv_iconst (v := 0) hx hb dX6_takeOver_7 (by decide) ?_
        refine lv_istore_n (lv' := [(3, .int 0), (0, .ref a0), (1, .ref b0), (2, .int v2)]) hx hb dX6_takeOver_8 rfl hl (by decide) rfl (fun ls hl => ?_)
        have lp9 : ∀ (v2 : Int32) (mch : Int32) (n : Nat) (v3 : Int32) (md : Nat → Int32) (md_7 : Nat → Int32) (Q : State → Prop), fX6_takeOver_L9 o_md v2 n v3 md = some md_7 → ∀ (H : Heap) (locs : List Loc), va_P G.1 vwCl [(a0, .inr (6, [.ref a1, .int mch])), (a1, .inl (G.2.1, 48, .inl md)), (b0, .inr (6, [.ref b1, .int o_mch])), (b1, .inl (G.2.1, 48, .inl o_md))] H → va_D A [(a0, .inr (6, [.ref a1, .int mch])), (a1, .inl (G.2.1, 48, .inl md)), (b0, .inr (6, [.ref b1, .int o_mch])), (b1, .inl (G.2.1, 48, .inl o_md))] → va_S A s.heap H locs → ∀ (ls : Array Slot), lv_has ls 4 [(0, .ref a0), (1, .ref b0), (2, .int v2), (3, .int v3)] → (∀ (H : Heap) (locs : List Loc) (ls : Array Slot), va_P G.1 vwCl [(a0, .inr (6, [.ref a1, .int mch])), (a1, .inl (G.2.1, 48, .inl md_7)), (b0, .inr (6, [.ref b1, .int o_mch])), (b1, .inl (G.2.1, 48, .inl o_md))] H → va_D A [(a0, .inr (6, [.ref a1, .int mch])), (a1, .inl (G.2.1, 48, .inl md_7)), (b0, .inr (6, [.ref b1, .int o_mch])), (b1, .inl (G.2.1, 48, .inl o_md))] → va_S A s.heap H locs → lv_has ls 4 [(0, .ref a0), (1, .ref b0), (2, .int v2)] → W p l e { frames := 1, cells := 0, slots := 0, locals := 24 } s m args below meth c H locs 0 0 Q (F0 m 33 ls [])) → W p l e { frames := 1, cells := 0, slots := 0, locals := 24 } s m args below meth c H locs 0 0 Q (F0 m 9 ls []) := by
          intro v2 mch n
          induction n with
          | zero => intro v3 md md_7 Q hf; rw [fX6_takeOver_L9] at hf; cases hf
          | succ n ih =>
            intro v3 md md_7 Q hf H locs hP hD hS ls hl kk
            rw [fX6_takeOver_L9] at hf
            refine lv_iload_n hx hb dX6_takeOver_9 rfl (lv_at hl 3 rfl) ?_
            refine lv_bipush (v := 16) hx hb dX6_takeOver_10 (by decide) ?_
            refine lv_icmp_ge (tgt := 33) hx hb dX6_takeOver_12 (by decide) (fun c_2 => ?_) (fun c_2 => ?_)
            · replace hf := ifp c_2 hf
              cases hf
              exact kk _ _ ls hP hD hS (lv_sub hl [0, 1, 2] rfl)
            · replace hf := ifn c_2 hf
              refine lv_aload_n hx hb dX6_takeOver_15 rfl (lv_at hl 0 rfl) ?_
              refine lv_iload_n hx hb dX6_takeOver_16 rfl (lv_at hl 2 rfl) ?_
              refine lv_iload_n hx hb dX6_takeOver_17 rfl (lv_at hl 3 rfl) ?_
              refine lv_aload_n hx hb dX6_takeOver_18 rfl (lv_at hl 1 rfl) ?_
              refine lv_iload_n hx hb dX6_takeOver_19 rfl (lv_at hl 2 rfl) ?_
              refine lv_iload_n hx hb dX6_takeOver_20 rfl (lv_at hl 3 rfl) ?_
              obtain ⟨r_3, q_4, hf⟩ := obd hf
              refine ro_v (n := 2) (As := [.int v2, .int v3]) (q0 := 0) hx hb hml hown hA (kX6_at l G b0 b1 o_md o_mch v2 v3 r_3 q_4) g_X6_19 gd_X6_at ⟨(Nat.le_of_ble_eq_true rfl), (Nat.le_of_ble_eq_true rfl)⟩ (hZ.at hS) (hP.sub [2, 3] rfl) rfl rfl rfl hl.1 (Nat.le_of_ble_eq_true rfl) ⟨(Nat.le_of_ble_eq_true rfl), (Nat.le_of_ble_eq_true rfl)⟩ dX6_takeOver_21 ?_
              refine W.eq (g2 := F0 m 24 ls [.int r_3, .int v3, .int v2, .ref a0]) rfl ?_
              obtain ⟨md_5, q_6, hf⟩ := obd hf
              refine wr_v (n := 3) (As := [.int v2, .int v3, .int r_3]) (q0 := 0) (wr := [(b0, .inr (6, [.ref b1, .int o_mch])), (b1, .inl (G.2.1, 48, .inl o_md))]) (w2 := fun _ => [(a0, .inr (6, [.ref a1, .int mch])), (a1, .inl (G.2.1, 48, .inl md_5)), (b0, .inr (6, [.ref b1, .int o_mch])), (b1, .inl (G.2.1, 48, .inl o_md))]) hx hb hml hown hA (kX6_put l G a0 a1 md mch v2 v3 r_3 md_5 q_6) g_X6_23 gd_X6_put ⟨(Nat.le_of_ble_eq_true rfl), (Nat.le_of_ble_eq_true rfl)⟩ hZ hP hD hS hA0 rfl rfl [0, 1] [2, 3] [2, 3, 0, 1] rfl rfl rfl rfl (by decide) (fun _ => rfl) rfl rfl hl.1 (Nat.le_of_ble_eq_true rfl) ⟨(Nat.le_of_ble_eq_true rfl), (Nat.le_of_ble_eq_true rfl)⟩ dX6_takeOver_24 (fun _ H locs hP hD hS => ?_)
              refine W.eq (g2 := F0 m 27 ls []) rfl ?_
              refine lv_iinc (v := v3 + 1) (lv' := [(3, .int (v3 + 1)), (0, .ref a0), (1, .ref b0), (2, .int v2)]) hx hb dX6_takeOver_27 hl (k := 3) rfl rfl (by decide) rfl (fun ls hl => ?_)
              refine lv_goto (tgt := 9) hx hb dX6_takeOver_30 (by decide) ?_
              exact ih _ _ _ _ hf _ _ hP hD hS ls (lv_sub hl [1, 2, 3, 0] rfl) kk
        obtain ⟨md_7, q_8, hf⟩ := obd hf
        refine lp9 _ _ _ _ _ _ _ q_8 _ _ hP hD hS ls (lv_sub hl [1, 2, 3, 0] rfl) (fun H locs ls hP hD hS hl => ?_)
        refine lv_iinc (v := v2 + 1) (lv' := [(2, .int (v2 + 1)), (0, .ref a0), (1, .ref b0)]) hx hb dX6_takeOver_33 hl (k := 2) rfl rfl (by decide) rfl (fun ls hl => ?_)
        refine lv_goto (tgt := 2) hx hb dX6_takeOver_36 (by decide) ?_
        exact ih _ _ _ _ hf _ _ hP hD hS ls (lv_sub hl [1, 2, 0] rfl) kk
  obtain ⟨md_9, q_10, hf⟩ := obd hf
  refine lp2 _ _ _ _ _ _ q_10 _ _ hP hD hS ls (lv_sub hl [1, 2, 0] rfl) (fun H locs ls hP hD hS hl => ?_)
  refine lv_aload_n hx hb dX6_takeOver_39 rfl (lv_at hl 0 rfl) ?_
  refine lv_aload_n hx hb dX6_takeOver_40 rfl (lv_at hl 1 rfl) ?_
  refine gf_X6_15 hx hb hown hA hP 2 rfl rfl dX6_takeOver_41 ?_
  refine pf_X6_15 hx hb hown hA hP hD hS 0 rfl (Nat.le_of_ble_eq_true rfl) dX6_takeOver_44 (fun H locs hP hD hS => ?_)
  have hP : va_P G.1 vwCl [(a0, .inr (6, [.ref a1, .int o_mch])), (a1, .inl (G.2.1, 48, .inl md_9)), (b0, .inr (6, [.ref b1, .int o_mch])), (b1, .inl (G.2.1, 48, .inl o_md))] H := hP
  have hD : va_D A [(a0, .inr (6, [.ref a1, .int o_mch])), (a1, .inl (G.2.1, 48, .inl md_9)), (b0, .inr (6, [.ref b1, .int o_mch])), (b1, .inl (G.2.1, 48, .inl o_md))] := hD
  cases hf
  exact wr_vret () hx hb hr hlk hP hD hS dX6_takeOver_47
def fX8_takeOver_L2 (ln : Nat) (o_ln : Nat) (o_rf : Nat → Int32)  : Nat → Int32 → (Nat → Int32) → Option ((Nat → Int32))
  | 0, _, _ => none
  | n9 + 1, v2, rf => (if (Int32.ofNat ln) ≤ v2 then some rf else ((fX8_at o_ln o_rf v2).bind fun r_2 => (if ¬ (v2 < 0 ∨ ln ≤ v2.toNatClampNeg) then fX8_takeOver_L2 ln o_ln o_rf n9 (v2 + 1) (upd rf v2.toNatClampNeg r_2) else none)))
def fX8_takeOver (ln : Nat) (rf : Nat → Int32) (o_ln : Nat) (o_rf : Nat → Int32)  : Option ((Nat → Int32)) :=
  ((fX8_takeOver_L2 ln o_ln o_rf 2000 0 rf).bind fun rf_5 => some rf_5)
set_option maxHeartbeats 4000000 in
set_option maxRecDepth 100000 in
theorem kX8_takeOver (l : Launch) (G : GG) (a0 a1 b0 b1 : Nat) (ln : Nat) (rf : Nat → Int32) (o_ln : Nat) (o_rf : Nat → Int32)  (rf_0 : Nat → Int32) (hf : fX8_takeOver ln rf o_ln o_rf = some rf_0) (hln : ln < 2147483648) (ho_ln : o_ln < 2147483648) : Wr l G yX8_takeOver cX8_takeOver 3 none 1 21 0 0 [.ref a0, .ref b0] [(a0, .inr (8, [.ref a1])), (a1, .inl (G.2.1, ln, .inl rf)), (b0, .inr (8, [.ref b1])), (b1, .inl (G.2.1, o_ln, .inl o_rf))] (X := Unit) (fun _ => [(a0, .inr (8, [.ref a1])), (a1, .inl (G.2.1, ln, .inl rf_0)), (b0, .inr (8, [.ref b1])), (b1, .inl (G.2.1, o_ln, .inl o_rf))]) none := by
  refine wr_of (by decide) (Nat.le_of_ble_eq_true rfl) ?_
  intro p e s m args below meth c ls A hx hb hr hml hown hlk hA hZ hP hD hS hA0 hin hl
  have hP : va_P G.1 vwCl [(a0, .inr (8, [.ref a1])), (a1, .inl (G.2.1, ln, .inl rf)), (b0, .inr (8, [.ref b1])), (b1, .inl (G.2.1, o_ln, .inl o_rf))] s.heap := hP
  replace hown : s.vm.findClass RX8 = some m.cls := hown
  replace hl : lv_has ls 3 [(0, .ref a0), (1, .ref b0)] := hl
  unfold fX8_takeOver at hf
  refine lv_iconst (v := 0) hx hb dX8_takeOver_0 (by decide) ?_
  refine lv_istore_n (lv' := [(2, .int 0), (0, .ref a0), (1, .ref b0)]) hx hb dX8_takeOver_1 rfl hl (by decide) rfl (fun ls hl => ?_)
  have lp2 : ∀   (n : Nat) (v2 : Int32) (rf : Nat → Int32) (rf_5 : Nat → Int32) (Q : State → Prop), fX8_takeOver_L2 ln o_ln o_rf n v2 rf = some rf_5 → ∀ (H : Heap) (locs : List Loc), va_P G.1 vwCl [(a0, .inr (8, [.ref a1])), (a1, .inl (G.2.1, ln, .inl rf)), (b0, .inr (8, [.ref b1])), (b1, .inl (G.2.1, o_ln, .inl o_rf))] H → va_D A [(a0, .inr (8, [.ref a1])), (a1, .inl (G.2.1, ln, .inl rf)), (b0, .inr (8, [.ref b1])), (b1, .inl (G.2.1, o_ln, .inl o_rf))] → va_S A s.heap H locs → ∀ (ls : Array Slot), lv_has ls 3 [(0, .ref a0), (1, .ref b0), (2, .int v2)] → (∀ (H : Heap) (locs : List Loc) (ls : Array Slot), va_P G.1 vwCl [(a0, .inr (8, [.ref a1])), (a1, .inl (G.2.1, ln, .inl rf_5)), (b0, .inr (8, [.ref b1])), (b1, .inl (G.2.1, o_ln, .inl o_rf))] H → va_D A [(a0, .inr (8, [.ref a1])), (a1, .inl (G.2.1, ln, .inl rf_5)), (b0, .inr (8, [.ref b1])), (b1, .inl (G.2.1, o_ln, .inl o_rf))] → va_S A s.heap H locs → lv_has ls 3 [] → W p l e { frames := 1, cells := 0, slots := 0, locals := 21 } s m args below meth c H locs 0 0 Q (F0 m 28 ls [])) → W p l e { frames := 1, cells := 0, slots := 0, locals := 21 } s m args below meth c H locs 0 0 Q (F0 m 2 ls []) := by
    intro  n
    induction n with
    | zero => intro v2 rf rf_5 Q hf; rw [fX8_takeOver_L2] at hf; cases hf
    | succ n ih =>
      intro v2 rf rf_5 Q hf H locs hP hD hS ls hl kk
      rw [fX8_takeOver_L2] at hf
      refine lv_iload_n hx hb dX8_takeOver_2 rfl (lv_at hl 2 rfl) ?_
      refine lv_aload_n hx hb dX8_takeOver_3 rfl (lv_at hl 0 rfl) ?_
      refine gf_X8_13 hx hb hown hA hP 0 rfl rfl dX8_takeOver_4 ?_
      refine va_alen hx hb hA.K hP 1 0 rfl rfl (v := Int32.ofNat ln) rfl dX8_takeOver_7 ?_
      refine lv_icmp_ge (tgt := 28) hx hb dX8_takeOver_8 (by decide) (fun c_1 => ?_) (fun c_1 => ?_)
      · replace hf := ifp c_1 hf
        cases hf
        exact kk _ _ ls hP hD hS (lv_sub hl [] rfl)
      · replace hf := ifn c_1 hf
        refine lv_aload_n hx hb dX8_takeOver_11 rfl (lv_at hl 0 rfl) ?_
        refine gf_X8_13 hx hb hown hA hP 0 rfl rfl dX8_takeOver_12 ?_
        refine lv_iload_n hx hb dX8_takeOver_15 rfl (lv_at hl 2 rfl) ?_
        refine lv_aload_n hx hb dX8_takeOver_16 rfl (lv_at hl 1 rfl) ?_
        refine lv_iload_n hx hb dX8_takeOver_17 rfl (lv_at hl 2 rfl) ?_
        obtain ⟨r_2, q_3, hf⟩ := obd hf
        refine ro_v (n := 1) (As := [.int v2]) (q0 := 0) hx hb hml hown hA (kX8_at l G b0 b1 o_ln o_rf v2 r_2 q_3 ho_ln) g_X8_19 gd_X8_at ⟨(Nat.le_of_ble_eq_true rfl), (Nat.le_of_ble_eq_true rfl)⟩ (hZ.at hS) (hP.sub [2, 3] rfl) rfl rfl rfl hl.1 (Nat.le_of_ble_eq_true rfl) ⟨(Nat.le_of_ble_eq_true rfl), (Nat.le_of_ble_eq_true rfl)⟩ dX8_takeOver_18 ?_
        refine W.eq (g2 := F0 m 21 ls [.int r_2, .int v2, .ref a1]) rfl ?_
        obtain ⟨z_4, hf⟩ := ock hf
        refine va_iast hx hb hA.K hP hD hS 1 0 rfl rfl z_4 dX8_takeOver_21 (fun H locs hP hD hS => ?_)
        have hP : va_P G.1 vwCl [(a0, .inr (8, [.ref a1])), (a1, .inl (G.2.1, ln, .inl (upd rf v2.toNatClampNeg r_2))), (b0, .inr (8, [.ref b1])), (b1, .inl (G.2.1, o_ln, .inl o_rf))] H := hP
        have hD : va_D A [(a0, .inr (8, [.ref a1])), (a1, .inl (G.2.1, ln, .inl (upd rf v2.toNatClampNeg r_2))), (b0, .inr (8, [.ref b1])), (b1, .inl (G.2.1, o_ln, .inl o_rf))] := hD
        refine lv_iinc (v := v2 + 1) (lv' := [(2, .int (v2 + 1)), (0, .ref a0), (1, .ref b0)]) hx hb dX8_takeOver_22 hl (k := 2) rfl rfl (by decide) rfl (fun ls hl => ?_)
        refine lv_goto (tgt := 2) hx hb dX8_takeOver_25 (by decide) ?_
        exact ih _ _ _ _ hf _ _ hP hD hS ls (lv_sub hl [1, 2, 0] rfl) kk
  obtain ⟨rf_5, q_6, hf⟩ := obd hf
  refine lp2 _ _ _ _ _ q_6 _ _ hP hD hS ls (lv_sub hl [1, 2, 0] rfl) (fun H locs ls hP hD hS hl => ?_)
  cases hf
  exact wr_vret () hx hb hr hlk hP hD hS dX8_takeOver_28
def fX7_takeOver (rd : Nat → Int32) (rw : Nat → Int32) (rp : Nat → Int32) (o_rd : Nat → Int32) (o_rw : Nat → Int32) (o_rp : Nat → Int32) (o_rco : Int32) (o_rmo : Int32)  : Option ((Nat → Int32) × (Nat → Int32) × (Nat → Int32) × Int32 × Int32) :=
  ((fX8_takeOver 80 rd 80 o_rd).bind fun rf_1 => ((fX8_takeOver 5 rw 5 o_rw).bind fun rf_3 => ((fX8_takeOver 5 rp 5 o_rp).bind fun rf_5 => some (rf_1, rf_3, rf_5, o_rco, o_rmo))))
set_option maxHeartbeats 4000000 in
set_option maxRecDepth 100000 in
theorem kX7_takeOver (l : Launch) (G : GG) (a0 a1 a2 a3 a4 a5 a6 b0 b1 b2 b3 b4 b5 b6 : Nat) (rd : Nat → Int32) (rw : Nat → Int32) (rp : Nat → Int32) (rco : Int32) (rmo : Int32) (o_rd : Nat → Int32) (o_rw : Nat → Int32) (o_rp : Nat → Int32) (o_rco : Int32) (o_rmo : Int32)  (rd_0 : Nat → Int32) (rw_0 : Nat → Int32) (rp_0 : Nat → Int32) (rco_0 : Int32) (rmo_0 : Int32) (hf : fX7_takeOver rd rw rp o_rd o_rw o_rp o_rco o_rmo = some (rd_0, rw_0, rp_0, rco_0, rmo_0)) : Wr l G yX7_takeOver cX7_takeOver 2 none 2 43 0 0 [.ref a0, .ref b0] [(a0, .inr (7, [.ref a1, .ref a3, .ref a5, .int rco, .int rmo])), (a1, .inr (8, [.ref a2])), (a2, .inl (G.2.1, 80, .inl rd)), (a3, .inr (8, [.ref a4])), (a4, .inl (G.2.1, 5, .inl rw)), (a5, .inr (8, [.ref a6])), (a6, .inl (G.2.1, 5, .inl rp)), (b0, .inr (7, [.ref b1, .ref b3, .ref b5, .int o_rco, .int o_rmo])), (b1, .inr (8, [.ref b2])), (b2, .inl (G.2.1, 80, .inl o_rd)), (b3, .inr (8, [.ref b4])), (b4, .inl (G.2.1, 5, .inl o_rw)), (b5, .inr (8, [.ref b6])), (b6, .inl (G.2.1, 5, .inl o_rp))] (X := Unit) (fun _ => [(a0, .inr (7, [.ref a1, .ref a3, .ref a5, .int rco_0, .int rmo_0])), (a1, .inr (8, [.ref a2])), (a2, .inl (G.2.1, 80, .inl rd_0)), (a3, .inr (8, [.ref a4])), (a4, .inl (G.2.1, 5, .inl rw_0)), (a5, .inr (8, [.ref a6])), (a6, .inl (G.2.1, 5, .inl rp_0)), (b0, .inr (7, [.ref b1, .ref b3, .ref b5, .int o_rco, .int o_rmo])), (b1, .inr (8, [.ref b2])), (b2, .inl (G.2.1, 80, .inl o_rd)), (b3, .inr (8, [.ref b4])), (b4, .inl (G.2.1, 5, .inl o_rw)), (b5, .inr (8, [.ref b6])), (b6, .inl (G.2.1, 5, .inl o_rp))]) none := by
  refine wr_of (by decide) (Nat.le_of_ble_eq_true rfl) ?_
  intro p e s m args below meth c ls A hx hb hr hml hown hlk hA hZ hP hD hS hA0 hin hl
  have hP : va_P G.1 vwCl [(a0, .inr (7, [.ref a1, .ref a3, .ref a5, .int rco, .int rmo])), (a1, .inr (8, [.ref a2])), (a2, .inl (G.2.1, 80, .inl rd)), (a3, .inr (8, [.ref a4])), (a4, .inl (G.2.1, 5, .inl rw)), (a5, .inr (8, [.ref a6])), (a6, .inl (G.2.1, 5, .inl rp)), (b0, .inr (7, [.ref b1, .ref b3, .ref b5, .int o_rco, .int o_rmo])), (b1, .inr (8, [.ref b2])), (b2, .inl (G.2.1, 80, .inl o_rd)), (b3, .inr (8, [.ref b4])), (b4, .inl (G.2.1, 5, .inl o_rw)), (b5, .inr (8, [.ref b6])), (b6, .inl (G.2.1, 5, .inl o_rp))] s.heap := hP
  replace hown : s.vm.findClass RX7 = some m.cls := hown
  replace hl : lv_has ls 2 [(0, .ref a0), (1, .ref b0)] := hl
  unfold fX7_takeOver at hf
  refine lv_aload_n hx hb dX7_takeOver_0 rfl (lv_at hl 0 rfl) ?_
  refine gf_X7_14 hx hb hown hA hP 0 rfl rfl dX7_takeOver_1 ?_
  refine lv_aload_n hx hb dX7_takeOver_4 rfl (lv_at hl 1 rfl) ?_
  refine gf_X7_14 hx hb hown hA hP 7 rfl rfl dX7_takeOver_5 ?_
  obtain ⟨rf_1, q_2, hf⟩ := obd hf
  refine wr_v (n := 1) (As := [.ref b1]) (q0 := 0) (wr := [(a0, .inr (7, [.ref a1, .ref a3, .ref a5, .int rco, .int rmo])), (a3, .inr (8, [.ref a4])), (a4, .inl (G.2.1, 5, .inl rw)), (a5, .inr (8, [.ref a6])), (a6, .inl (G.2.1, 5, .inl rp)), (b0, .inr (7, [.ref b1, .ref b3, .ref b5, .int o_rco, .int o_rmo])), (b3, .inr (8, [.ref b4])), (b4, .inl (G.2.1, 5, .inl o_rw)), (b5, .inr (8, [.ref b6])), (b6, .inl (G.2.1, 5, .inl o_rp))]) (w2 := fun _ => [(a0, .inr (7, [.ref a1, .ref a3, .ref a5, .int rco, .int rmo])), (a1, .inr (8, [.ref a2])), (a2, .inl (G.2.1, 80, .inl rf_1)), (a3, .inr (8, [.ref a4])), (a4, .inl (G.2.1, 5, .inl rw)), (a5, .inr (8, [.ref a6])), (a6, .inl (G.2.1, 5, .inl rp)), (b0, .inr (7, [.ref b1, .ref b3, .ref b5, .int o_rco, .int o_rmo])), (b1, .inr (8, [.ref b2])), (b2, .inl (G.2.1, 80, .inl o_rd)), (b3, .inr (8, [.ref b4])), (b4, .inl (G.2.1, 5, .inl o_rw)), (b5, .inr (8, [.ref b6])), (b6, .inl (G.2.1, 5, .inl o_rp))]) hx hb hml hown hA (kX8_takeOver l G a1 a2 b1 b2 80 rd 80 o_rd rf_1 q_2 (by decide) (by decide)) g_X7_60 gd_X8_takeOver ⟨(Nat.le_of_ble_eq_true rfl), (Nat.le_of_ble_eq_true rfl)⟩ hZ hP hD hS hA0 rfl rfl [1, 2, 8, 9] [0, 3, 4, 5, 6, 7, 10, 11, 12, 13] [0, 10, 11, 1, 2, 3, 4, 5, 12, 13, 6, 7, 8, 9] rfl rfl rfl rfl (by decide) (fun _ => rfl) rfl rfl hl.1 (Nat.le_of_ble_eq_true rfl) ⟨(Nat.le_of_ble_eq_true rfl), (Nat.le_of_ble_eq_true rfl)⟩ dX7_takeOver_8 (fun _ H locs hP hD hS => ?_)
  refine W.eq (g2 := F0 m 11 ls []) rfl ?_
  refine lv_aload_n hx hb dX7_takeOver_11 rfl (lv_at hl 0 rfl) ?_
  refine gf_X7_20 hx hb hown hA hP 0 rfl rfl dX7_takeOver_12 ?_
  refine lv_aload_n hx hb dX7_takeOver_15 rfl (lv_at hl 1 rfl) ?_
  refine gf_X7_20 hx hb hown hA hP 7 rfl rfl dX7_takeOver_16 ?_
  obtain ⟨rf_3, q_4, hf⟩ := obd hf
  refine wr_v (n := 1) (As := [.ref b3]) (q0 := 0) (wr := [(a0, .inr (7, [.ref a1, .ref a3, .ref a5, .int rco, .int rmo])), (a1, .inr (8, [.ref a2])), (a2, .inl (G.2.1, 80, .inl rf_1)), (a5, .inr (8, [.ref a6])), (a6, .inl (G.2.1, 5, .inl rp)), (b0, .inr (7, [.ref b1, .ref b3, .ref b5, .int o_rco, .int o_rmo])), (b1, .inr (8, [.ref b2])), (b2, .inl (G.2.1, 80, .inl o_rd)), (b5, .inr (8, [.ref b6])), (b6, .inl (G.2.1, 5, .inl o_rp))]) (w2 := fun _ => [(a0, .inr (7, [.ref a1, .ref a3, .ref a5, .int rco, .int rmo])), (a1, .inr (8, [.ref a2])), (a2, .inl (G.2.1, 80, .inl rf_1)), (a3, .inr (8, [.ref a4])), (a4, .inl (G.2.1, 5, .inl rf_3)), (a5, .inr (8, [.ref a6])), (a6, .inl (G.2.1, 5, .inl rp)), (b0, .inr (7, [.ref b1, .ref b3, .ref b5, .int o_rco, .int o_rmo])), (b1, .inr (8, [.ref b2])), (b2, .inl (G.2.1, 80, .inl o_rd)), (b3, .inr (8, [.ref b4])), (b4, .inl (G.2.1, 5, .inl o_rw)), (b5, .inr (8, [.ref b6])), (b6, .inl (G.2.1, 5, .inl o_rp))]) hx hb hml hown hA (kX8_takeOver l G a3 a4 b3 b4 5 rw 5 o_rw rf_3 q_4 (by decide) (by decide)) g_X7_60 gd_X8_takeOver ⟨(Nat.le_of_ble_eq_true rfl), (Nat.le_of_ble_eq_true rfl)⟩ hZ hP hD hS hA0 rfl rfl [3, 4, 10, 11] [0, 1, 2, 5, 6, 7, 8, 9, 12, 13] [0, 1, 2, 10, 11, 3, 4, 5, 6, 7, 12, 13, 8, 9] rfl rfl rfl rfl (by decide) (fun _ => rfl) rfl rfl hl.1 (Nat.le_of_ble_eq_true rfl) ⟨(Nat.le_of_ble_eq_true rfl), (Nat.le_of_ble_eq_true rfl)⟩ dX7_takeOver_19 (fun _ H locs hP hD hS => ?_)
  refine W.eq (g2 := F0 m 22 ls []) rfl ?_
  refine lv_aload_n hx hb dX7_takeOver_22 rfl (lv_at hl 0 rfl) ?_
  refine gf_X7_23 hx hb hown hA hP 0 rfl rfl dX7_takeOver_23 ?_
  refine lv_aload_n hx hb dX7_takeOver_26 rfl (lv_at hl 1 rfl) ?_
  refine gf_X7_23 hx hb hown hA hP 7 rfl rfl dX7_takeOver_27 ?_
  obtain ⟨rf_5, q_6, hf⟩ := obd hf
  refine wr_v (n := 1) (As := [.ref b5]) (q0 := 0) (wr := [(a0, .inr (7, [.ref a1, .ref a3, .ref a5, .int rco, .int rmo])), (a1, .inr (8, [.ref a2])), (a2, .inl (G.2.1, 80, .inl rf_1)), (a3, .inr (8, [.ref a4])), (a4, .inl (G.2.1, 5, .inl rf_3)), (b0, .inr (7, [.ref b1, .ref b3, .ref b5, .int o_rco, .int o_rmo])), (b1, .inr (8, [.ref b2])), (b2, .inl (G.2.1, 80, .inl o_rd)), (b3, .inr (8, [.ref b4])), (b4, .inl (G.2.1, 5, .inl o_rw))]) (w2 := fun _ => [(a0, .inr (7, [.ref a1, .ref a3, .ref a5, .int rco, .int rmo])), (a1, .inr (8, [.ref a2])), (a2, .inl (G.2.1, 80, .inl rf_1)), (a3, .inr (8, [.ref a4])), (a4, .inl (G.2.1, 5, .inl rf_3)), (a5, .inr (8, [.ref a6])), (a6, .inl (G.2.1, 5, .inl rf_5)), (b0, .inr (7, [.ref b1, .ref b3, .ref b5, .int o_rco, .int o_rmo])), (b1, .inr (8, [.ref b2])), (b2, .inl (G.2.1, 80, .inl o_rd)), (b3, .inr (8, [.ref b4])), (b4, .inl (G.2.1, 5, .inl o_rw)), (b5, .inr (8, [.ref b6])), (b6, .inl (G.2.1, 5, .inl o_rp))]) hx hb hml hown hA (kX8_takeOver l G a5 a6 b5 b6 5 rp 5 o_rp rf_5 q_6 (by decide) (by decide)) g_X7_60 gd_X8_takeOver ⟨(Nat.le_of_ble_eq_true rfl), (Nat.le_of_ble_eq_true rfl)⟩ hZ hP hD hS hA0 rfl rfl [5, 6, 12, 13] [0, 1, 2, 3, 4, 7, 8, 9, 10, 11] [0, 1, 2, 3, 4, 10, 11, 5, 6, 7, 8, 9, 12, 13] rfl rfl rfl rfl (by decide) (fun _ => rfl) rfl rfl hl.1 (Nat.le_of_ble_eq_true rfl) ⟨(Nat.le_of_ble_eq_true rfl), (Nat.le_of_ble_eq_true rfl)⟩ dX7_takeOver_30 (fun _ H locs hP hD hS => ?_)
  refine W.eq (g2 := F0 m 33 ls []) rfl ?_
  refine lv_aload_n hx hb dX7_takeOver_33 rfl (lv_at hl 0 rfl) ?_
  refine lv_aload_n hx hb dX7_takeOver_34 rfl (lv_at hl 1 rfl) ?_
  refine gf_X7_51 hx hb hown hA hP 7 rfl rfl dX7_takeOver_35 ?_
  refine pf_X7_51 hx hb hown hA hP hD hS 0 rfl (Nat.le_of_ble_eq_true rfl) dX7_takeOver_38 (fun H locs hP hD hS => ?_)
  have hP : va_P G.1 vwCl [(a0, .inr (7, [.ref a1, .ref a3, .ref a5, .int o_rco, .int rmo])), (a1, .inr (8, [.ref a2])), (a2, .inl (G.2.1, 80, .inl rf_1)), (a3, .inr (8, [.ref a4])), (a4, .inl (G.2.1, 5, .inl rf_3)), (a5, .inr (8, [.ref a6])), (a6, .inl (G.2.1, 5, .inl rf_5)), (b0, .inr (7, [.ref b1, .ref b3, .ref b5, .int o_rco, .int o_rmo])), (b1, .inr (8, [.ref b2])), (b2, .inl (G.2.1, 80, .inl o_rd)), (b3, .inr (8, [.ref b4])), (b4, .inl (G.2.1, 5, .inl o_rw)), (b5, .inr (8, [.ref b6])), (b6, .inl (G.2.1, 5, .inl o_rp))] H := hP
  have hD : va_D A [(a0, .inr (7, [.ref a1, .ref a3, .ref a5, .int o_rco, .int rmo])), (a1, .inr (8, [.ref a2])), (a2, .inl (G.2.1, 80, .inl rf_1)), (a3, .inr (8, [.ref a4])), (a4, .inl (G.2.1, 5, .inl rf_3)), (a5, .inr (8, [.ref a6])), (a6, .inl (G.2.1, 5, .inl rf_5)), (b0, .inr (7, [.ref b1, .ref b3, .ref b5, .int o_rco, .int o_rmo])), (b1, .inr (8, [.ref b2])), (b2, .inl (G.2.1, 80, .inl o_rd)), (b3, .inr (8, [.ref b4])), (b4, .inl (G.2.1, 5, .inl o_rw)), (b5, .inr (8, [.ref b6])), (b6, .inl (G.2.1, 5, .inl o_rp))] := hD
  refine lv_aload_n hx hb dX7_takeOver_41 rfl (lv_at hl 0 rfl) ?_
  refine lv_aload_n hx hb dX7_takeOver_42 rfl (lv_at hl 1 rfl) ?_
  refine gf_X7_26 hx hb hown hA hP 7 rfl rfl dX7_takeOver_43 ?_
  refine pf_X7_26 hx hb hown hA hP hD hS 0 rfl (Nat.le_of_ble_eq_true rfl) dX7_takeOver_46 (fun H locs hP hD hS => ?_)
  have hP : va_P G.1 vwCl [(a0, .inr (7, [.ref a1, .ref a3, .ref a5, .int o_rco, .int o_rmo])), (a1, .inr (8, [.ref a2])), (a2, .inl (G.2.1, 80, .inl rf_1)), (a3, .inr (8, [.ref a4])), (a4, .inl (G.2.1, 5, .inl rf_3)), (a5, .inr (8, [.ref a6])), (a6, .inl (G.2.1, 5, .inl rf_5)), (b0, .inr (7, [.ref b1, .ref b3, .ref b5, .int o_rco, .int o_rmo])), (b1, .inr (8, [.ref b2])), (b2, .inl (G.2.1, 80, .inl o_rd)), (b3, .inr (8, [.ref b4])), (b4, .inl (G.2.1, 5, .inl o_rw)), (b5, .inr (8, [.ref b6])), (b6, .inl (G.2.1, 5, .inl o_rp))] H := hP
  have hD : va_D A [(a0, .inr (7, [.ref a1, .ref a3, .ref a5, .int o_rco, .int o_rmo])), (a1, .inr (8, [.ref a2])), (a2, .inl (G.2.1, 80, .inl rf_1)), (a3, .inr (8, [.ref a4])), (a4, .inl (G.2.1, 5, .inl rf_3)), (a5, .inr (8, [.ref a6])), (a6, .inl (G.2.1, 5, .inl rf_5)), (b0, .inr (7, [.ref b1, .ref b3, .ref b5, .int o_rco, .int o_rmo])), (b1, .inr (8, [.ref b2])), (b2, .inl (G.2.1, 80, .inl o_rd)), (b3, .inr (8, [.ref b4])), (b4, .inl (G.2.1, 5, .inl o_rw)), (b5, .inr (8, [.ref b6])), (b6, .inl (G.2.1, 5, .inl o_rp))] := hD
  cases hf
  exact wr_vret () hx hb hr hlk hP hD hS dX7_takeOver_49
def fX4_takeOver (md : Nat → Int32) (rd : Nat → Int32) (rw : Nat → Int32) (rp : Nat → Int32) (o_md : Nat → Int32) (o_mch : Int32) (o_fra : Int32) (o_fwe : Int32) (o_fof : Int32) (o_fsi : Int32) (o_csh : Int32) (o_cde : Int32) (o_csp : Int32) (o_rd : Nat → Int32) (o_rw : Nat → Int32) (o_rp : Nat → Int32) (o_rco : Int32) (o_rmo : Int32) (o_apa : Int32) (o_awo : Int32) (o_ash : Int32) (o_aja : Int32) (o_abu : Int32) (o_ltol : Int32) (o_lchi : Int32) (o_ljam : Int32)  : Option ((Nat → Int32) × Int32 × Int32 × Int32 × Int32 × Int32 × Int32 × Int32 × Int32 × (Nat → Int32) × (Nat → Int32) × (Nat → Int32) × Int32 × Int32 × Int32 × Int32 × Int32 × Int32 × Int32 × Int32 × Int32 × Int32) :=
  ((fX6_takeOver md o_md o_mch).bind fun (md_1, mch_2) => ((fX2_takeOver o_fra o_fwe o_fof o_fsi).bind fun (fra_4, fwe_5, fof_6, fsi_7) => ((fX1_takeOver o_csh o_cde o_csp).bind fun (csh_9, cde_10, csp_11) => ((fX7_takeOver rd rw rp o_rd o_rw o_rp o_rco o_rmo).bind fun (rd_13, rw_14, rp_15, rco_16, rmo_17) => ((fX0_takeOver o_apa o_awo o_ash o_aja o_abu).bind fun (apa_19, awo_20, ash_21, aja_22, abu_23) => (if (o_ljam = 0 ∨ o_ljam = 1) then some (md_1, mch_2, fra_4, fwe_5, fof_6, fsi_7, csh_9, cde_10, csp_11, rd_13, rw_14, rp_15, rco_16, rmo_17, apa_19, awo_20, ash_21, aja_22, abu_23, o_ltol, o_lchi, o_ljam) else none))))))
set_option maxHeartbeats 4000000 in
set_option maxRecDepth 100000 in
theorem kX4_takeOver (l : Launch) (G : GG) (a0 a1 a2 a3 a4 a5 a6 a7 a8 a9 a10 a11 a12 b0 b1 b2 b3 b4 b5 b6 b7 b8 b9 b10 b11 b12 : Nat) (md : Nat → Int32) (mch : Int32) (fra : Int32) (fwe : Int32) (fof : Int32) (fsi : Int32) (csh : Int32) (cde : Int32) (csp : Int32) (rd : Nat → Int32) (rw : Nat → Int32) (rp : Nat → Int32) (rco : Int32) (rmo : Int32) (apa : Int32) (awo : Int32) (ash : Int32) (aja : Int32) (abu : Int32) (ltol : Int32) (lchi : Int32) (ljam : Int32) (o_md : Nat → Int32) (o_mch : Int32) (o_fra : Int32) (o_fwe : Int32) (o_fof : Int32) (o_fsi : Int32) (o_csh : Int32) (o_cde : Int32) (o_csp : Int32) (o_rd : Nat → Int32) (o_rw : Nat → Int32) (o_rp : Nat → Int32) (o_rco : Int32) (o_rmo : Int32) (o_apa : Int32) (o_awo : Int32) (o_ash : Int32) (o_aja : Int32) (o_abu : Int32) (o_ltol : Int32) (o_lchi : Int32) (o_ljam : Int32)  (md_0 : Nat → Int32) (mch_0 : Int32) (fra_0 : Int32) (fwe_0 : Int32) (fof_0 : Int32) (fsi_0 : Int32) (csh_0 : Int32) (cde_0 : Int32) (csp_0 : Int32) (rd_0 : Nat → Int32) (rw_0 : Nat → Int32) (rp_0 : Nat → Int32) (rco_0 : Int32) (rmo_0 : Int32) (apa_0 : Int32) (awo_0 : Int32) (ash_0 : Int32) (aja_0 : Int32) (abu_0 : Int32) (ltol_0 : Int32) (lchi_0 : Int32) (ljam_0 : Int32) (hf : fX4_takeOver md rd rw rp o_md o_mch o_fra o_fwe o_fof o_fsi o_csh o_cde o_csp o_rd o_rw o_rp o_rco o_rmo o_apa o_awo o_ash o_aja o_abu o_ltol o_lchi o_ljam = some (md_0, mch_0, fra_0, fwe_0, fof_0, fsi_0, csh_0, cde_0, csp_0, rd_0, rw_0, rp_0, rco_0, rmo_0, apa_0, awo_0, ash_0, aja_0, abu_0, ltol_0, lchi_0, ljam_0)) : Wr l G yX4_takeOver cX4_takeOver 2 none 3 64 0 0 [.ref a0, .ref b0] [(a0, .inr (4, [.ref a1, .ref a3, .ref a4, .ref a5, .ref a12, .int ltol, .int lchi, .int ljam])), (a1, .inr (6, [.ref a2, .int mch])), (a2, .inl (G.2.1, 48, .inl md)), (a3, .inr (2, [.int fra, .int fwe, .int fof, .int fsi])), (a4, .inr (1, [.int csh, .int cde, .int csp])), (a5, .inr (7, [.ref a6, .ref a8, .ref a10, .int rco, .int rmo])), (a6, .inr (8, [.ref a7])), (a7, .inl (G.2.1, 80, .inl rd)), (a8, .inr (8, [.ref a9])), (a9, .inl (G.2.1, 5, .inl rw)), (a10, .inr (8, [.ref a11])), (a11, .inl (G.2.1, 5, .inl rp)), (a12, .inr (0, [.int apa, .int awo, .int ash, .int aja, .int abu])), (b0, .inr (4, [.ref b1, .ref b3, .ref b4, .ref b5, .ref b12, .int o_ltol, .int o_lchi, .int o_ljam])), (b1, .inr (6, [.ref b2, .int o_mch])), (b2, .inl (G.2.1, 48, .inl o_md)), (b3, .inr (2, [.int o_fra, .int o_fwe, .int o_fof, .int o_fsi])), (b4, .inr (1, [.int o_csh, .int o_cde, .int o_csp])), (b5, .inr (7, [.ref b6, .ref b8, .ref b10, .int o_rco, .int o_rmo])), (b6, .inr (8, [.ref b7])), (b7, .inl (G.2.1, 80, .inl o_rd)), (b8, .inr (8, [.ref b9])), (b9, .inl (G.2.1, 5, .inl o_rw)), (b10, .inr (8, [.ref b11])), (b11, .inl (G.2.1, 5, .inl o_rp)), (b12, .inr (0, [.int o_apa, .int o_awo, .int o_ash, .int o_aja, .int o_abu]))] (X := Unit) (fun _ => [(a0, .inr (4, [.ref a1, .ref a3, .ref a4, .ref a5, .ref a12, .int ltol_0, .int lchi_0, .int ljam_0])), (a1, .inr (6, [.ref a2, .int mch_0])), (a2, .inl (G.2.1, 48, .inl md_0)), (a3, .inr (2, [.int fra_0, .int fwe_0, .int fof_0, .int fsi_0])), (a4, .inr (1, [.int csh_0, .int cde_0, .int csp_0])), (a5, .inr (7, [.ref a6, .ref a8, .ref a10, .int rco_0, .int rmo_0])), (a6, .inr (8, [.ref a7])), (a7, .inl (G.2.1, 80, .inl rd_0)), (a8, .inr (8, [.ref a9])), (a9, .inl (G.2.1, 5, .inl rw_0)), (a10, .inr (8, [.ref a11])), (a11, .inl (G.2.1, 5, .inl rp_0)), (a12, .inr (0, [.int apa_0, .int awo_0, .int ash_0, .int aja_0, .int abu_0])), (b0, .inr (4, [.ref b1, .ref b3, .ref b4, .ref b5, .ref b12, .int o_ltol, .int o_lchi, .int o_ljam])), (b1, .inr (6, [.ref b2, .int o_mch])), (b2, .inl (G.2.1, 48, .inl o_md)), (b3, .inr (2, [.int o_fra, .int o_fwe, .int o_fof, .int o_fsi])), (b4, .inr (1, [.int o_csh, .int o_cde, .int o_csp])), (b5, .inr (7, [.ref b6, .ref b8, .ref b10, .int o_rco, .int o_rmo])), (b6, .inr (8, [.ref b7])), (b7, .inl (G.2.1, 80, .inl o_rd)), (b8, .inr (8, [.ref b9])), (b9, .inl (G.2.1, 5, .inl o_rw)), (b10, .inr (8, [.ref b11])), (b11, .inl (G.2.1, 5, .inl o_rp)), (b12, .inr (0, [.int o_apa, .int o_awo, .int o_ash, .int o_aja, .int o_abu]))]) none := by
  refine wr_of (by decide) (Nat.le_of_ble_eq_true rfl) ?_
  intro p e s m args below meth c ls A hx hb hr hml hown hlk hA hZ hP hD hS hA0 hin hl
  have hP : va_P G.1 vwCl [(a0, .inr (4, [.ref a1, .ref a3, .ref a4, .ref a5, .ref a12, .int ltol, .int lchi, .int ljam])), (a1, .inr (6, [.ref a2, .int mch])), (a2, .inl (G.2.1, 48, .inl md)), (a3, .inr (2, [.int fra, .int fwe, .int fof, .int fsi])), (a4, .inr (1, [.int csh, .int cde, .int csp])), (a5, .inr (7, [.ref a6, .ref a8, .ref a10, .int rco, .int rmo])), (a6, .inr (8, [.ref a7])), (a7, .inl (G.2.1, 80, .inl rd)), (a8, .inr (8, [.ref a9])), (a9, .inl (G.2.1, 5, .inl rw)), (a10, .inr (8, [.ref a11])), (a11, .inl (G.2.1, 5, .inl rp)), (a12, .inr (0, [.int apa, .int awo, .int ash, .int aja, .int abu])), (b0, .inr (4, [.ref b1, .ref b3, .ref b4, .ref b5, .ref b12, .int o_ltol, .int o_lchi, .int o_ljam])), (b1, .inr (6, [.ref b2, .int o_mch])), (b2, .inl (G.2.1, 48, .inl o_md)), (b3, .inr (2, [.int o_fra, .int o_fwe, .int o_fof, .int o_fsi])), (b4, .inr (1, [.int o_csh, .int o_cde, .int o_csp])), (b5, .inr (7, [.ref b6, .ref b8, .ref b10, .int o_rco, .int o_rmo])), (b6, .inr (8, [.ref b7])), (b7, .inl (G.2.1, 80, .inl o_rd)), (b8, .inr (8, [.ref b9])), (b9, .inl (G.2.1, 5, .inl o_rw)), (b10, .inr (8, [.ref b11])), (b11, .inl (G.2.1, 5, .inl o_rp)), (b12, .inr (0, [.int o_apa, .int o_awo, .int o_ash, .int o_aja, .int o_abu]))] s.heap := hP
  replace hown : s.vm.findClass RX4 = some m.cls := hown
  replace hl : lv_has ls 2 [(0, .ref a0), (1, .ref b0)] := hl
  unfold fX4_takeOver at hf
  refine lv_aload_n hx hb dX4_takeOver_0 rfl (lv_at hl 0 rfl) ?_
  refine gf_X4_12 hx hb hown hA hP 0 rfl rfl dX4_takeOver_1 ?_
  refine lv_aload_n hx hb dX4_takeOver_4 rfl (lv_at hl 1 rfl) ?_
  refine gf_X4_12 hx hb hown hA hP 13 rfl rfl dX4_takeOver_5 ?_
  obtain ⟨⟨md_1, mch_2⟩, q_3, hf⟩ := obd hf
  dsimp only at hf
  refine wr_v (n := 1) (As := [.ref b1]) (q0 := 0) (wr := [(a0, .inr (4, [.ref a1, .ref a3, .ref a4, .ref a5, .ref a12, .int ltol, .int lchi, .int ljam])), (a3, .inr (2, [.int fra, .int fwe, .int fof, .int fsi])), (a4, .inr (1, [.int csh, .int cde, .int csp])), (a5, .inr (7, [.ref a6, .ref a8, .ref a10, .int rco, .int rmo])), (a6, .inr (8, [.ref a7])), (a7, .inl (G.2.1, 80, .inl rd)), (a8, .inr (8, [.ref a9])), (a9, .inl (G.2.1, 5, .inl rw)), (a10, .inr (8, [.ref a11])), (a11, .inl (G.2.1, 5, .inl rp)), (a12, .inr (0, [.int apa, .int awo, .int ash, .int aja, .int abu])), (b0, .inr (4, [.ref b1, .ref b3, .ref b4, .ref b5, .ref b12, .int o_ltol, .int o_lchi, .int o_ljam])), (b3, .inr (2, [.int o_fra, .int o_fwe, .int o_fof, .int o_fsi])), (b4, .inr (1, [.int o_csh, .int o_cde, .int o_csp])), (b5, .inr (7, [.ref b6, .ref b8, .ref b10, .int o_rco, .int o_rmo])), (b6, .inr (8, [.ref b7])), (b7, .inl (G.2.1, 80, .inl o_rd)), (b8, .inr (8, [.ref b9])), (b9, .inl (G.2.1, 5, .inl o_rw)), (b10, .inr (8, [.ref b11])), (b11, .inl (G.2.1, 5, .inl o_rp)), (b12, .inr (0, [.int o_apa, .int o_awo, .int o_ash, .int o_aja, .int o_abu]))]) (w2 := fun _ => [(a0, .inr (4, [.ref a1, .ref a3, .ref a4, .ref a5, .ref a12, .int ltol, .int lchi, .int ljam])), (a1, .inr (6, [.ref a2, .int mch_2])), (a2, .inl (G.2.1, 48, .inl md_1)), (a3, .inr (2, [.int fra, .int fwe, .int fof, .int fsi])), (a4, .inr (1, [.int csh, .int cde, .int csp])), (a5, .inr (7, [.ref a6, .ref a8, .ref a10, .int rco, .int rmo])), (a6, .inr (8, [.ref a7])), (a7, .inl (G.2.1, 80, .inl rd)), (a8, .inr (8, [.ref a9])), (a9, .inl (G.2.1, 5, .inl rw)), (a10, .inr (8, [.ref a11])), (a11, .inl (G.2.1, 5, .inl rp)), (a12, .inr (0, [.int apa, .int awo, .int ash, .int aja, .int abu])), (b0, .inr (4, [.ref b1, .ref b3, .ref b4, .ref b5, .ref b12, .int o_ltol, .int o_lchi, .int o_ljam])), (b1, .inr (6, [.ref b2, .int o_mch])), (b2, .inl (G.2.1, 48, .inl o_md)), (b3, .inr (2, [.int o_fra, .int o_fwe, .int o_fof, .int o_fsi])), (b4, .inr (1, [.int o_csh, .int o_cde, .int o_csp])), (b5, .inr (7, [.ref b6, .ref b8, .ref b10, .int o_rco, .int o_rmo])), (b6, .inr (8, [.ref b7])), (b7, .inl (G.2.1, 80, .inl o_rd)), (b8, .inr (8, [.ref b9])), (b9, .inl (G.2.1, 5, .inl o_rw)), (b10, .inr (8, [.ref b11])), (b11, .inl (G.2.1, 5, .inl o_rp)), (b12, .inr (0, [.int o_apa, .int o_awo, .int o_ash, .int o_aja, .int o_abu]))]) hx hb hml hown hA (kX6_takeOver l G a1 a2 b1 b2 md mch o_md o_mch md_1 mch_2 q_3) g_X4_158 gd_X6_takeOver ⟨(Nat.le_of_ble_eq_true rfl), (Nat.le_of_ble_eq_true rfl)⟩ hZ hP hD hS hA0 rfl rfl [1, 2, 14, 15] [0, 3, 4, 5, 6, 7, 8, 9, 10, 11, 12, 13, 16, 17, 18, 19, 20, 21, 22, 23, 24, 25] [0, 22, 23, 1, 2, 3, 4, 5, 6, 7, 8, 9, 10, 11, 24, 25, 12, 13, 14, 15, 16, 17, 18, 19, 20, 21] rfl rfl rfl rfl (by decide) (fun _ => rfl) rfl rfl hl.1 (Nat.le_of_ble_eq_true rfl) ⟨(Nat.le_of_ble_eq_true rfl), (Nat.le_of_ble_eq_true rfl)⟩ dX4_takeOver_8 (fun _ H locs hP hD hS => ?_)
  refine W.eq (g2 := F0 m 11 ls []) rfl ?_
  refine lv_aload_n hx hb dX4_takeOver_11 rfl (lv_at hl 0 rfl) ?_
  refine gf_X4_21 hx hb hown hA hP 0 rfl rfl dX4_takeOver_12 ?_
  refine lv_aload_n hx hb dX4_takeOver_15 rfl (lv_at hl 1 rfl) ?_
  refine gf_X4_21 hx hb hown hA hP 13 rfl rfl dX4_takeOver_16 ?_
  obtain ⟨⟨fra_4, fwe_5, fof_6, fsi_7⟩, q_8, hf⟩ := obd hf
  dsimp only at hf
  refine wr_v (n := 1) (As := [.ref b3]) (q0 := 0) (wr := [(a0, .inr (4, [.ref a1, .ref a3, .ref a4, .ref a5, .ref a12, .int ltol, .int lchi, .int ljam])), (a1, .inr (6, [.ref a2, .int mch_2])), (a2, .inl (G.2.1, 48, .inl md_1)), (a4, .inr (1, [.int csh, .int cde, .int csp])), (a5, .inr (7, [.ref a6, .ref a8, .ref a10, .int rco, .int rmo])), (a6, .inr (8, [.ref a7])), (a7, .inl (G.2.1, 80, .inl rd)), (a8, .inr (8, [.ref a9])), (a9, .inl (G.2.1, 5, .inl rw)), (a10, .inr (8, [.ref a11])), (a11, .inl (G.2.1, 5, .inl rp)), (a12, .inr (0, [.int apa, .int awo, .int ash, .int aja, .int abu])), (b0, .inr (4, [.ref b1, .ref b3, .ref b4, .ref b5, .ref b12, .int o_ltol, .int o_lchi, .int o_ljam])), (b1, .inr (6, [.ref b2, .int o_mch])), (b2, .inl (G.2.1, 48, .inl o_md)), (b4, .inr (1, [.int o_csh, .int o_cde, .int o_csp])), (b5, .inr (7, [.ref b6, .ref b8, .ref b10, .int o_rco, .int o_rmo])), (b6, .inr (8, [.ref b7])), (b7, .inl (G.2.1, 80, .inl o_rd)), (b8, .inr (8, [.ref b9])), (b9, .inl (G.2.1, 5, .inl o_rw)), (b10, .inr (8, [.ref b11])), (b11, .inl (G.2.1, 5, .inl o_rp)), (b12, .inr (0, [.int o_apa, .int o_awo, .int o_ash, .int o_aja, .int o_abu]))]) (w2 := fun _ => [(a0, .inr (4, [.ref a1, .ref a3, .ref a4, .ref a5, .ref a12, .int ltol, .int lchi, .int ljam])), (a1, .inr (6, [.ref a2, .int mch_2])), (a2, .inl (G.2.1, 48, .inl md_1)), (a3, .inr (2, [.int fra_4, .int fwe_5, .int fof_6, .int fsi_7])), (a4, .inr (1, [.int csh, .int cde, .int csp])), (a5, .inr (7, [.ref a6, .ref a8, .ref a10, .int rco, .int rmo])), (a6, .inr (8, [.ref a7])), (a7, .inl (G.2.1, 80, .inl rd)), (a8, .inr (8, [.ref a9])), (a9, .inl (G.2.1, 5, .inl rw)), (a10, .inr (8, [.ref a11])), (a11, .inl (G.2.1, 5, .inl rp)), (a12, .inr (0, [.int apa, .int awo, .int ash, .int aja, .int abu])), (b0, .inr (4, [.ref b1, .ref b3, .ref b4, .ref b5, .ref b12, .int o_ltol, .int o_lchi, .int o_ljam])), (b1, .inr (6, [.ref b2, .int o_mch])), (b2, .inl (G.2.1, 48, .inl o_md)), (b3, .inr (2, [.int o_fra, .int o_fwe, .int o_fof, .int o_fsi])), (b4, .inr (1, [.int o_csh, .int o_cde, .int o_csp])), (b5, .inr (7, [.ref b6, .ref b8, .ref b10, .int o_rco, .int o_rmo])), (b6, .inr (8, [.ref b7])), (b7, .inl (G.2.1, 80, .inl o_rd)), (b8, .inr (8, [.ref b9])), (b9, .inl (G.2.1, 5, .inl o_rw)), (b10, .inr (8, [.ref b11])), (b11, .inl (G.2.1, 5, .inl o_rp)), (b12, .inr (0, [.int o_apa, .int o_awo, .int o_ash, .int o_aja, .int o_abu]))]) hx hb hml hown hA (kX2_takeOver l G a3 b3 fra fwe fof fsi o_fra o_fwe o_fof o_fsi fra_4 fwe_5 fof_6 fsi_7 q_8) g_X4_162 gd_X2_takeOver ⟨(Nat.le_of_ble_eq_true rfl), (Nat.le_of_ble_eq_true rfl)⟩ hZ hP hD hS hA0 rfl rfl [3, 16] [0, 1, 2, 4, 5, 6, 7, 8, 9, 10, 11, 12, 13, 14, 15, 17, 18, 19, 20, 21, 22, 23, 24, 25] [0, 1, 2, 24, 3, 4, 5, 6, 7, 8, 9, 10, 11, 12, 13, 14, 25, 15, 16, 17, 18, 19, 20, 21, 22, 23] rfl rfl rfl rfl (by decide) (fun _ => rfl) rfl rfl hl.1 (Nat.le_of_ble_eq_true rfl) ⟨(Nat.le_of_ble_eq_true rfl), (Nat.le_of_ble_eq_true rfl)⟩ dX4_takeOver_19 (fun _ H locs hP hD hS => ?_)
  refine W.eq (g2 := F0 m 22 ls []) rfl ?_
  refine lv_aload_n hx hb dX4_takeOver_22 rfl (lv_at hl 0 rfl) ?_
  refine gf_X4_28 hx hb hown hA hP 0 rfl rfl dX4_takeOver_23 ?_
  refine lv_aload_n hx hb dX4_takeOver_26 rfl (lv_at hl 1 rfl) ?_
  refine gf_X4_28 hx hb hown hA hP 13 rfl rfl dX4_takeOver_27 ?_
  obtain ⟨⟨csh_9, cde_10, csp_11⟩, q_12, hf⟩ := obd hf
  dsimp only at hf
  refine wr_v (n := 1) (As := [.ref b4]) (q0 := 0) (wr := [(a0, .inr (4, [.ref a1, .ref a3, .ref a4, .ref a5, .ref a12, .int ltol, .int lchi, .int ljam])), (a1, .inr (6, [.ref a2, .int mch_2])), (a2, .inl (G.2.1, 48, .inl md_1)), (a3, .inr (2, [.int fra_4, .int fwe_5, .int fof_6, .int fsi_7])), (a5, .inr (7, [.ref a6, .ref a8, .ref a10, .int rco, .int rmo])), (a6, .inr (8, [.ref a7])), (a7, .inl (G.2.1, 80, .inl rd)), (a8, .inr (8, [.ref a9])), (a9, .inl (G.2.1, 5, .inl rw)), (a10, .inr (8, [.ref a11])), (a11, .inl (G.2.1, 5, .inl rp)), (a12, .inr (0, [.int apa, .int awo, .int ash, .int aja, .int abu])), (b0, .inr (4, [.ref b1, .ref b3, .ref b4, .ref b5, .ref b12, .int o_ltol, .int o_lchi, .int o_ljam])), (b1, .inr (6, [.ref b2, .int o_mch])), (b2, .inl (G.2.1, 48, .inl o_md)), (b3, .inr (2, [.int o_fra, .int o_fwe, .int o_fof, .int o_fsi])), (b5, .inr (7, [.ref b6, .ref b8, .ref b10, .int o_rco, .int o_rmo])), (b6, .inr (8, [.ref b7])), (b7, .inl (G.2.1, 80, .inl o_rd)), (b8, .inr (8, [.ref b9])), (b9, .inl (G.2.1, 5, .inl o_rw)), (b10, .inr (8, [.ref b11])), (b11, .inl (G.2.1, 5, .inl o_rp)), (b12, .inr (0, [.int o_apa, .int o_awo, .int o_ash, .int o_aja, .int o_abu]))]) (w2 := fun _ => [(a0, .inr (4, [.ref a1, .ref a3, .ref a4, .ref a5, .ref a12, .int ltol, .int lchi, .int ljam])), (a1, .inr (6, [.ref a2, .int mch_2])), (a2, .inl (G.2.1, 48, .inl md_1)), (a3, .inr (2, [.int fra_4, .int fwe_5, .int fof_6, .int fsi_7])), (a4, .inr (1, [.int csh_9, .int cde_10, .int csp_11])), (a5, .inr (7, [.ref a6, .ref a8, .ref a10, .int rco, .int rmo])), (a6, .inr (8, [.ref a7])), (a7, .inl (G.2.1, 80, .inl rd)), (a8, .inr (8, [.ref a9])), (a9, .inl (G.2.1, 5, .inl rw)), (a10, .inr (8, [.ref a11])), (a11, .inl (G.2.1, 5, .inl rp)), (a12, .inr (0, [.int apa, .int awo, .int ash, .int aja, .int abu])), (b0, .inr (4, [.ref b1, .ref b3, .ref b4, .ref b5, .ref b12, .int o_ltol, .int o_lchi, .int o_ljam])), (b1, .inr (6, [.ref b2, .int o_mch])), (b2, .inl (G.2.1, 48, .inl o_md)), (b3, .inr (2, [.int o_fra, .int o_fwe, .int o_fof, .int o_fsi])), (b4, .inr (1, [.int o_csh, .int o_cde, .int o_csp])), (b5, .inr (7, [.ref b6, .ref b8, .ref b10, .int o_rco, .int o_rmo])), (b6, .inr (8, [.ref b7])), (b7, .inl (G.2.1, 80, .inl o_rd)), (b8, .inr (8, [.ref b9])), (b9, .inl (G.2.1, 5, .inl o_rw)), (b10, .inr (8, [.ref b11])), (b11, .inl (G.2.1, 5, .inl o_rp)), (b12, .inr (0, [.int o_apa, .int o_awo, .int o_ash, .int o_aja, .int o_abu]))]) hx hb hml hown hA (kX1_takeOver l G a4 b4 csh cde csp o_csh o_cde o_csp csh_9 cde_10 csp_11 q_12) g_X4_165 gd_X1_takeOver ⟨(Nat.le_of_ble_eq_true rfl), (Nat.le_of_ble_eq_true rfl)⟩ hZ hP hD hS hA0 rfl rfl [4, 17] [0, 1, 2, 3, 5, 6, 7, 8, 9, 10, 11, 12, 13, 14, 15, 16, 18, 19, 20, 21, 22, 23, 24, 25] [0, 1, 2, 3, 24, 4, 5, 6, 7, 8, 9, 10, 11, 12, 13, 14, 15, 25, 16, 17, 18, 19, 20, 21, 22, 23] rfl rfl rfl rfl (by decide) (fun _ => rfl) rfl rfl hl.1 (Nat.le_of_ble_eq_true rfl) ⟨(Nat.le_of_ble_eq_true rfl), (Nat.le_of_ble_eq_true rfl)⟩ dX4_takeOver_30 (fun _ H locs hP hD hS => ?_)
  refine W.eq (g2 := F0 m 33 ls []) rfl ?_
  refine lv_aload_n hx hb dX4_takeOver_33 rfl (lv_at hl 0 rfl) ?_
  refine gf_X4_35 hx hb hown hA hP 0 rfl rfl dX4_takeOver_34 ?_
  refine lv_aload_n hx hb dX4_takeOver_37 rfl (lv_at hl 1 rfl) ?_
  refine gf_X4_35 hx hb hown hA hP 13 rfl rfl dX4_takeOver_38 ?_
  obtain ⟨⟨rd_13, rw_14, rp_15, rco_16, rmo_17⟩, q_18, hf⟩ := obd hf
  dsimp only at hf
  refine wr_v (n := 1) (As := [.ref b5]) (q0 := 0) (wr := [(a0, .inr (4, [.ref a1, .ref a3, .ref a4, .ref a5, .ref a12, .int ltol, .int lchi, .int ljam])), (a1, .inr (6, [.ref a2, .int mch_2])), (a2, .inl (G.2.1, 48, .inl md_1)), (a3, .inr (2, [.int fra_4, .int fwe_5, .int fof_6, .int fsi_7])), (a4, .inr (1, [.int csh_9, .int cde_10, .int csp_11])), (a12, .inr (0, [.int apa, .int awo, .int ash, .int aja, .int abu])), (b0, .inr (4, [.ref b1, .ref b3, .ref b4, .ref b5, .ref b12, .int o_ltol, .int o_lchi, .int o_ljam])), (b1, .inr (6, [.ref b2, .int o_mch])), (b2, .inl (G.2.1, 48, .inl o_md)), (b3, .inr (2, [.int o_fra, .int o_fwe, .int o_fof, .int o_fsi])), (b4, .inr (1, [.int o_csh, .int o_cde, .int o_csp])), (b12, .inr (0, [.int o_apa, .int o_awo, .int o_ash, .int o_aja, .int o_abu]))]) (w2 := fun _ => [(a0, .inr (4, [.ref a1, .ref a3, .ref a4, .ref a5, .ref a12, .int ltol, .int lchi, .int ljam])), (a1, .inr (6, [.ref a2, .int mch_2])), (a2, .inl (G.2.1, 48, .inl md_1)), (a3, .inr (2, [.int fra_4, .int fwe_5, .int fof_6, .int fsi_7])), (a4, .inr (1, [.int csh_9, .int cde_10, .int csp_11])), (a5, .inr (7, [.ref a6, .ref a8, .ref a10, .int rco_16, .int rmo_17])), (a6, .inr (8, [.ref a7])), (a7, .inl (G.2.1, 80, .inl rd_13)), (a8, .inr (8, [.ref a9])), (a9, .inl (G.2.1, 5, .inl rw_14)), (a10, .inr (8, [.ref a11])), (a11, .inl (G.2.1, 5, .inl rp_15)), (a12, .inr (0, [.int apa, .int awo, .int ash, .int aja, .int abu])), (b0, .inr (4, [.ref b1, .ref b3, .ref b4, .ref b5, .ref b12, .int o_ltol, .int o_lchi, .int o_ljam])), (b1, .inr (6, [.ref b2, .int o_mch])), (b2, .inl (G.2.1, 48, .inl o_md)), (b3, .inr (2, [.int o_fra, .int o_fwe, .int o_fof, .int o_fsi])), (b4, .inr (1, [.int o_csh, .int o_cde, .int o_csp])), (b5, .inr (7, [.ref b6, .ref b8, .ref b10, .int o_rco, .int o_rmo])), (b6, .inr (8, [.ref b7])), (b7, .inl (G.2.1, 80, .inl o_rd)), (b8, .inr (8, [.ref b9])), (b9, .inl (G.2.1, 5, .inl o_rw)), (b10, .inr (8, [.ref b11])), (b11, .inl (G.2.1, 5, .inl o_rp)), (b12, .inr (0, [.int o_apa, .int o_awo, .int o_ash, .int o_aja, .int o_abu]))]) hx hb hml hown hA (kX7_takeOver l G a5 a6 a7 a8 a9 a10 a11 b5 b6 b7 b8 b9 b10 b11 rd rw rp rco rmo o_rd o_rw o_rp o_rco o_rmo rd_13 rw_14 rp_15 rco_16 rmo_17 q_18) g_X4_168 gd_X7_takeOver ⟨(Nat.le_of_ble_eq_true rfl), (Nat.le_of_ble_eq_true rfl)⟩ hZ hP hD hS hA0 rfl rfl [5, 6, 7, 8, 9, 10, 11, 18, 19, 20, 21, 22, 23, 24] [0, 1, 2, 3, 4, 12, 13, 14, 15, 16, 17, 25] [0, 1, 2, 3, 4, 12, 13, 14, 15, 16, 17, 18, 5, 6, 7, 8, 9, 10, 19, 20, 21, 22, 23, 24, 25, 11] rfl rfl rfl rfl (by decide) (fun _ => rfl) rfl rfl hl.1 (Nat.le_of_ble_eq_true rfl) ⟨(Nat.le_of_ble_eq_true rfl), (Nat.le_of_ble_eq_true rfl)⟩ dX4_takeOver_41 (fun _ H locs hP hD hS => ?_)
  refine W.eq (g2 := F0 m 44 ls []) rfl ?_
  refine lv_aload_n hx hb dX4_takeOver_44 rfl (lv_at hl 0 rfl) ?_
  refine gf_X4_42 hx hb hown hA hP 0 rfl rfl dX4_takeOver_45 ?_
  refine lv_aload_n hx hb dX4_takeOver_48 rfl (lv_at hl 1 rfl) ?_
  refine gf_X4_42 hx hb hown hA hP 13 rfl rfl dX4_takeOver_49 ?_
  obtain ⟨⟨apa_19, awo_20, ash_21, aja_22, abu_23⟩, q_24, hf⟩ := obd hf
  dsimp only at hf
  refine wr_v (n := 1) (As := [.ref b12]) (q0 := 0) (wr := [(a0, .inr (4, [.ref a1, .ref a3, .ref a4, .ref a5, .ref a12, .int ltol, .int lchi, .int ljam])), (a1, .inr (6, [.ref a2, .int mch_2])), (a2, .inl (G.2.1, 48, .inl md_1)), (a3, .inr (2, [.int fra_4, .int fwe_5, .int fof_6, .int fsi_7])), (a4, .inr (1, [.int csh_9, .int cde_10, .int csp_11])), (a5, .inr (7, [.ref a6, .ref a8, .ref a10, .int rco_16, .int rmo_17])), (a6, .inr (8, [.ref a7])), (a7, .inl (G.2.1, 80, .inl rd_13)), (a8, .inr (8, [.ref a9])), (a9, .inl (G.2.1, 5, .inl rw_14)), (a10, .inr (8, [.ref a11])), (a11, .inl (G.2.1, 5, .inl rp_15)), (b0, .inr (4, [.ref b1, .ref b3, .ref b4, .ref b5, .ref b12, .int o_ltol, .int o_lchi, .int o_ljam])), (b1, .inr (6, [.ref b2, .int o_mch])), (b2, .inl (G.2.1, 48, .inl o_md)), (b3, .inr (2, [.int o_fra, .int o_fwe, .int o_fof, .int o_fsi])), (b4, .inr (1, [.int o_csh, .int o_cde, .int o_csp])), (b5, .inr (7, [.ref b6, .ref b8, .ref b10, .int o_rco, .int o_rmo])), (b6, .inr (8, [.ref b7])), (b7, .inl (G.2.1, 80, .inl o_rd)), (b8, .inr (8, [.ref b9])), (b9, .inl (G.2.1, 5, .inl o_rw)), (b10, .inr (8, [.ref b11])), (b11, .inl (G.2.1, 5, .inl o_rp))]) (w2 := fun _ => [(a0, .inr (4, [.ref a1, .ref a3, .ref a4, .ref a5, .ref a12, .int ltol, .int lchi, .int ljam])), (a1, .inr (6, [.ref a2, .int mch_2])), (a2, .inl (G.2.1, 48, .inl md_1)), (a3, .inr (2, [.int fra_4, .int fwe_5, .int fof_6, .int fsi_7])), (a4, .inr (1, [.int csh_9, .int cde_10, .int csp_11])), (a5, .inr (7, [.ref a6, .ref a8, .ref a10, .int rco_16, .int rmo_17])), (a6, .inr (8, [.ref a7])), (a7, .inl (G.2.1, 80, .inl rd_13)), (a8, .inr (8, [.ref a9])), (a9, .inl (G.2.1, 5, .inl rw_14)), (a10, .inr (8, [.ref a11])), (a11, .inl (G.2.1, 5, .inl rp_15)), (a12, .inr (0, [.int apa_19, .int awo_20, .int ash_21, .int aja_22, .int abu_23])), (b0, .inr (4, [.ref b1, .ref b3, .ref b4, .ref b5, .ref b12, .int o_ltol, .int o_lchi, .int o_ljam])), (b1, .inr (6, [.ref b2, .int o_mch])), (b2, .inl (G.2.1, 48, .inl o_md)), (b3, .inr (2, [.int o_fra, .int o_fwe, .int o_fof, .int o_fsi])), (b4, .inr (1, [.int o_csh, .int o_cde, .int o_csp])), (b5, .inr (7, [.ref b6, .ref b8, .ref b10, .int o_rco, .int o_rmo])), (b6, .inr (8, [.ref b7])), (b7, .inl (G.2.1, 80, .inl o_rd)), (b8, .inr (8, [.ref b9])), (b9, .inl (G.2.1, 5, .inl o_rw)), (b10, .inr (8, [.ref b11])), (b11, .inl (G.2.1, 5, .inl o_rp)), (b12, .inr (0, [.int o_apa, .int o_awo, .int o_ash, .int o_aja, .int o_abu]))]) hx hb hml hown hA (kX0_takeOver l G a12 b12 apa awo ash aja abu o_apa o_awo o_ash o_aja o_abu apa_19 awo_20 ash_21 aja_22 abu_23 q_24) g_X4_171 gd_X0_takeOver ⟨(Nat.le_of_ble_eq_true rfl), (Nat.le_of_ble_eq_true rfl)⟩ hZ hP hD hS hA0 rfl rfl [12, 25] [0, 1, 2, 3, 4, 5, 6, 7, 8, 9, 10, 11, 13, 14, 15, 16, 17, 18, 19, 20, 21, 22, 23, 24] [0, 1, 2, 3, 4, 5, 6, 7, 8, 9, 10, 11, 24, 12, 13, 14, 15, 16, 17, 18, 19, 20, 21, 22, 23, 25] rfl rfl rfl rfl (by decide) (fun _ => rfl) rfl rfl hl.1 (Nat.le_of_ble_eq_true rfl) ⟨(Nat.le_of_ble_eq_true rfl), (Nat.le_of_ble_eq_true rfl)⟩ dX4_takeOver_52 (fun _ H locs hP hD hS => ?_)
  refine W.eq (g2 := F0 m 55 ls []) rfl ?_
  refine lv_aload_n hx hb dX4_takeOver_55 rfl (lv_at hl 0 rfl) ?_
  refine lv_aload_n hx hb dX4_takeOver_56 rfl (lv_at hl 1 rfl) ?_
  refine gf_X4_46 hx hb hown hA hP 13 rfl rfl dX4_takeOver_57 ?_
  refine pf_X4_46 hx hb hown hA hP hD hS 0 rfl (Nat.le_of_ble_eq_true rfl) dX4_takeOver_60 (fun H locs hP hD hS => ?_)
  have hP : va_P G.1 vwCl [(a0, .inr (4, [.ref a1, .ref a3, .ref a4, .ref a5, .ref a12, .int o_ltol, .int lchi, .int ljam])), (a1, .inr (6, [.ref a2, .int mch_2])), (a2, .inl (G.2.1, 48, .inl md_1)), (a3, .inr (2, [.int fra_4, .int fwe_5, .int fof_6, .int fsi_7])), (a4, .inr (1, [.int csh_9, .int cde_10, .int csp_11])), (a5, .inr (7, [.ref a6, .ref a8, .ref a10, .int rco_16, .int rmo_17])), (a6, .inr (8, [.ref a7])), (a7, .inl (G.2.1, 80, .inl rd_13)), (a8, .inr (8, [.ref a9])), (a9, .inl (G.2.1, 5, .inl rw_14)), (a10, .inr (8, [.ref a11])), (a11, .inl (G.2.1, 5, .inl rp_15)), (a12, .inr (0, [.int apa_19, .int awo_20, .int ash_21, .int aja_22, .int abu_23])), (b0, .inr (4, [.ref b1, .ref b3, .ref b4, .ref b5, .ref b12, .int o_ltol, .int o_lchi, .int o_ljam])), (b1, .inr (6, [.ref b2, .int o_mch])), (b2, .inl (G.2.1, 48, .inl o_md)), (b3, .inr (2, [.int o_fra, .int o_fwe, .int o_fof, .int o_fsi])), (b4, .inr (1, [.int o_csh, .int o_cde, .int o_csp])), (b5, .inr (7, [.ref b6, .ref b8, .ref b10, .int o_rco, .int o_rmo])), (b6, .inr (8, [.ref b7])), (b7, .inl (G.2.1, 80, .inl o_rd)), (b8, .inr (8, [.ref b9])), (b9, .inl (G.2.1, 5, .inl o_rw)), (b10, .inr (8, [.ref b11])), (b11, .inl (G.2.1, 5, .inl o_rp)), (b12, .inr (0, [.int o_apa, .int o_awo, .int o_ash, .int o_aja, .int o_abu]))] H := hP
  have hD : va_D A [(a0, .inr (4, [.ref a1, .ref a3, .ref a4, .ref a5, .ref a12, .int o_ltol, .int lchi, .int ljam])), (a1, .inr (6, [.ref a2, .int mch_2])), (a2, .inl (G.2.1, 48, .inl md_1)), (a3, .inr (2, [.int fra_4, .int fwe_5, .int fof_6, .int fsi_7])), (a4, .inr (1, [.int csh_9, .int cde_10, .int csp_11])), (a5, .inr (7, [.ref a6, .ref a8, .ref a10, .int rco_16, .int rmo_17])), (a6, .inr (8, [.ref a7])), (a7, .inl (G.2.1, 80, .inl rd_13)), (a8, .inr (8, [.ref a9])), (a9, .inl (G.2.1, 5, .inl rw_14)), (a10, .inr (8, [.ref a11])), (a11, .inl (G.2.1, 5, .inl rp_15)), (a12, .inr (0, [.int apa_19, .int awo_20, .int ash_21, .int aja_22, .int abu_23])), (b0, .inr (4, [.ref b1, .ref b3, .ref b4, .ref b5, .ref b12, .int o_ltol, .int o_lchi, .int o_ljam])), (b1, .inr (6, [.ref b2, .int o_mch])), (b2, .inl (G.2.1, 48, .inl o_md)), (b3, .inr (2, [.int o_fra, .int o_fwe, .int o_fof, .int o_fsi])), (b4, .inr (1, [.int o_csh, .int o_cde, .int o_csp])), (b5, .inr (7, [.ref b6, .ref b8, .ref b10, .int o_rco, .int o_rmo])), (b6, .inr (8, [.ref b7])), (b7, .inl (G.2.1, 80, .inl o_rd)), (b8, .inr (8, [.ref b9])), (b9, .inl (G.2.1, 5, .inl o_rw)), (b10, .inr (8, [.ref b11])), (b11, .inl (G.2.1, 5, .inl o_rp)), (b12, .inr (0, [.int o_apa, .int o_awo, .int o_ash, .int o_aja, .int o_abu]))] := hD
  refine lv_aload_n hx hb dX4_takeOver_63 rfl (lv_at hl 0 rfl) ?_
  refine lv_aload_n hx hb dX4_takeOver_64 rfl (lv_at hl 1 rfl) ?_
  refine gf_X4_135 hx hb hown hA hP 13 rfl rfl dX4_takeOver_65 ?_
  refine pf_X4_135 hx hb hown hA hP hD hS 0 rfl (Nat.le_of_ble_eq_true rfl) dX4_takeOver_68 (fun H locs hP hD hS => ?_)
  have hP : va_P G.1 vwCl [(a0, .inr (4, [.ref a1, .ref a3, .ref a4, .ref a5, .ref a12, .int o_ltol, .int o_lchi, .int ljam])), (a1, .inr (6, [.ref a2, .int mch_2])), (a2, .inl (G.2.1, 48, .inl md_1)), (a3, .inr (2, [.int fra_4, .int fwe_5, .int fof_6, .int fsi_7])), (a4, .inr (1, [.int csh_9, .int cde_10, .int csp_11])), (a5, .inr (7, [.ref a6, .ref a8, .ref a10, .int rco_16, .int rmo_17])), (a6, .inr (8, [.ref a7])), (a7, .inl (G.2.1, 80, .inl rd_13)), (a8, .inr (8, [.ref a9])), (a9, .inl (G.2.1, 5, .inl rw_14)), (a10, .inr (8, [.ref a11])), (a11, .inl (G.2.1, 5, .inl rp_15)), (a12, .inr (0, [.int apa_19, .int awo_20, .int ash_21, .int aja_22, .int abu_23])), (b0, .inr (4, [.ref b1, .ref b3, .ref b4, .ref b5, .ref b12, .int o_ltol, .int o_lchi, .int o_ljam])), (b1, .inr (6, [.ref b2, .int o_mch])), (b2, .inl (G.2.1, 48, .inl o_md)), (b3, .inr (2, [.int o_fra, .int o_fwe, .int o_fof, .int o_fsi])), (b4, .inr (1, [.int o_csh, .int o_cde, .int o_csp])), (b5, .inr (7, [.ref b6, .ref b8, .ref b10, .int o_rco, .int o_rmo])), (b6, .inr (8, [.ref b7])), (b7, .inl (G.2.1, 80, .inl o_rd)), (b8, .inr (8, [.ref b9])), (b9, .inl (G.2.1, 5, .inl o_rw)), (b10, .inr (8, [.ref b11])), (b11, .inl (G.2.1, 5, .inl o_rp)), (b12, .inr (0, [.int o_apa, .int o_awo, .int o_ash, .int o_aja, .int o_abu]))] H := hP
  have hD : va_D A [(a0, .inr (4, [.ref a1, .ref a3, .ref a4, .ref a5, .ref a12, .int o_ltol, .int o_lchi, .int ljam])), (a1, .inr (6, [.ref a2, .int mch_2])), (a2, .inl (G.2.1, 48, .inl md_1)), (a3, .inr (2, [.int fra_4, .int fwe_5, .int fof_6, .int fsi_7])), (a4, .inr (1, [.int csh_9, .int cde_10, .int csp_11])), (a5, .inr (7, [.ref a6, .ref a8, .ref a10, .int rco_16, .int rmo_17])), (a6, .inr (8, [.ref a7])), (a7, .inl (G.2.1, 80, .inl rd_13)), (a8, .inr (8, [.ref a9])), (a9, .inl (G.2.1, 5, .inl rw_14)), (a10, .inr (8, [.ref a11])), (a11, .inl (G.2.1, 5, .inl rp_15)), (a12, .inr (0, [.int apa_19, .int awo_20, .int ash_21, .int aja_22, .int abu_23])), (b0, .inr (4, [.ref b1, .ref b3, .ref b4, .ref b5, .ref b12, .int o_ltol, .int o_lchi, .int o_ljam])), (b1, .inr (6, [.ref b2, .int o_mch])), (b2, .inl (G.2.1, 48, .inl o_md)), (b3, .inr (2, [.int o_fra, .int o_fwe, .int o_fof, .int o_fsi])), (b4, .inr (1, [.int o_csh, .int o_cde, .int o_csp])), (b5, .inr (7, [.ref b6, .ref b8, .ref b10, .int o_rco, .int o_rmo])), (b6, .inr (8, [.ref b7])), (b7, .inl (G.2.1, 80, .inl o_rd)), (b8, .inr (8, [.ref b9])), (b9, .inl (G.2.1, 5, .inl o_rw)), (b10, .inr (8, [.ref b11])), (b11, .inl (G.2.1, 5, .inl o_rp)), (b12, .inr (0, [.int o_apa, .int o_awo, .int o_ash, .int o_aja, .int o_abu]))] := hD
  refine lv_aload_n hx hb dX4_takeOver_71 rfl (lv_at hl 0 rfl) ?_
  refine lv_aload_n hx hb dX4_takeOver_72 rfl (lv_at hl 1 rfl) ?_
  refine gf_X4_85 hx hb hown hA hP 13 rfl rfl dX4_takeOver_73 ?_
  obtain ⟨z_25, hf⟩ := ock hf
  refine pf_X4_85 hx hb hown hA hP hD hS 0 rfl (Nat.le_of_ble_eq_true rfl) z_25 dX4_takeOver_76 (fun H locs hP hD hS => ?_)
  have hP : va_P G.1 vwCl [(a0, .inr (4, [.ref a1, .ref a3, .ref a4, .ref a5, .ref a12, .int o_ltol, .int o_lchi, .int o_ljam])), (a1, .inr (6, [.ref a2, .int mch_2])), (a2, .inl (G.2.1, 48, .inl md_1)), (a3, .inr (2, [.int fra_4, .int fwe_5, .int fof_6, .int fsi_7])), (a4, .inr (1, [.int csh_9, .int cde_10, .int csp_11])), (a5, .inr (7, [.ref a6, .ref a8, .ref a10, .int rco_16, .int rmo_17])), (a6, .inr (8, [.ref a7])), (a7, .inl (G.2.1, 80, .inl rd_13)), (a8, .inr (8, [.ref a9])), (a9, .inl (G.2.1, 5, .inl rw_14)), (a10, .inr (8, [.ref a11])), (a11, .inl (G.2.1, 5, .inl rp_15)), (a12, .inr (0, [.int apa_19, .int awo_20, .int ash_21, .int aja_22, .int abu_23])), (b0, .inr (4, [.ref b1, .ref b3, .ref b4, .ref b5, .ref b12, .int o_ltol, .int o_lchi, .int o_ljam])), (b1, .inr (6, [.ref b2, .int o_mch])), (b2, .inl (G.2.1, 48, .inl o_md)), (b3, .inr (2, [.int o_fra, .int o_fwe, .int o_fof, .int o_fsi])), (b4, .inr (1, [.int o_csh, .int o_cde, .int o_csp])), (b5, .inr (7, [.ref b6, .ref b8, .ref b10, .int o_rco, .int o_rmo])), (b6, .inr (8, [.ref b7])), (b7, .inl (G.2.1, 80, .inl o_rd)), (b8, .inr (8, [.ref b9])), (b9, .inl (G.2.1, 5, .inl o_rw)), (b10, .inr (8, [.ref b11])), (b11, .inl (G.2.1, 5, .inl o_rp)), (b12, .inr (0, [.int o_apa, .int o_awo, .int o_ash, .int o_aja, .int o_abu]))] H := hP
  have hD : va_D A [(a0, .inr (4, [.ref a1, .ref a3, .ref a4, .ref a5, .ref a12, .int o_ltol, .int o_lchi, .int o_ljam])), (a1, .inr (6, [.ref a2, .int mch_2])), (a2, .inl (G.2.1, 48, .inl md_1)), (a3, .inr (2, [.int fra_4, .int fwe_5, .int fof_6, .int fsi_7])), (a4, .inr (1, [.int csh_9, .int cde_10, .int csp_11])), (a5, .inr (7, [.ref a6, .ref a8, .ref a10, .int rco_16, .int rmo_17])), (a6, .inr (8, [.ref a7])), (a7, .inl (G.2.1, 80, .inl rd_13)), (a8, .inr (8, [.ref a9])), (a9, .inl (G.2.1, 5, .inl rw_14)), (a10, .inr (8, [.ref a11])), (a11, .inl (G.2.1, 5, .inl rp_15)), (a12, .inr (0, [.int apa_19, .int awo_20, .int ash_21, .int aja_22, .int abu_23])), (b0, .inr (4, [.ref b1, .ref b3, .ref b4, .ref b5, .ref b12, .int o_ltol, .int o_lchi, .int o_ljam])), (b1, .inr (6, [.ref b2, .int o_mch])), (b2, .inl (G.2.1, 48, .inl o_md)), (b3, .inr (2, [.int o_fra, .int o_fwe, .int o_fof, .int o_fsi])), (b4, .inr (1, [.int o_csh, .int o_cde, .int o_csp])), (b5, .inr (7, [.ref b6, .ref b8, .ref b10, .int o_rco, .int o_rmo])), (b6, .inr (8, [.ref b7])), (b7, .inl (G.2.1, 80, .inl o_rd)), (b8, .inr (8, [.ref b9])), (b9, .inl (G.2.1, 5, .inl o_rw)), (b10, .inr (8, [.ref b11])), (b11, .inl (G.2.1, 5, .inl o_rp)), (b12, .inr (0, [.int o_apa, .int o_awo, .int o_ash, .int o_aja, .int o_abu]))] := hD
  cases hf
  exact wr_vret () hx hb hr hlk hP hD hS dX4_takeOver_79
def fX6_chosenAt (md : Nat → Int32) (mch : Int32) (i1 : Int32) : Option (Int32) :=
  ((fX6_at md mch i1).bind fun r_1 => some r_1)
set_option maxHeartbeats 4000000 in
set_option maxRecDepth 100000 in
theorem kX6_chosenAt (l : Launch) (G : GG) (a0 a1 : Nat) (md : Nat → Int32) (mch : Int32) (i1 : Int32) (r_0 : Int32) (hf : fX6_chosenAt md mch i1 = some r_0) : Ro l G yX6_chosenAt cX6_chosenAt 2 (some .int) 1 23 [.ref a0, .int i1] [(a0, .inr (6, [.ref a1, .int mch])), (a1, .inl (G.2.1, 48, .inl md))] (some (.int r_0)) := by
  refine ro_of (by decide) (Nat.le_of_ble_eq_true rfl) ?_
  intro p e s m args below meth c ls hx hb hr hml hown hlk hA hZ hP hl
  replace hown : s.vm.findClass RX6 = some m.cls := hown
  replace hl : lv_has ls 2 [(0, .ref a0), (1, .int i1)] := hl
  unfold fX6_chosenAt at hf
  refine lv_aload_n hx hb dX6_chosenAt_0 rfl (lv_at hl 0 rfl) ?_
  refine lv_aload_n hx hb dX6_chosenAt_1 rfl (lv_at hl 0 rfl) ?_
  refine gf_X6_15 hx hb hown hA hP 0 rfl rfl dX6_chosenAt_2 ?_
  refine lv_iload_n hx hb dX6_chosenAt_5 rfl (lv_at hl 1 rfl) ?_
  obtain ⟨r_1, q_2, hf⟩ := obd hf
  refine ro_v (n := 2) (As := [.int mch, .int i1]) (q0 := 0) hx hb hml hown hA (kX6_at l G a0 a1 md mch mch i1 r_1 q_2) g_X6_19 gd_X6_at ⟨(Nat.le_of_ble_eq_true rfl), (Nat.le_of_ble_eq_true rfl)⟩ hZ (hP.sub [0, 1] rfl) rfl rfl rfl hl.1 (Nat.le_of_ble_eq_true rfl) ⟨(Nat.le_of_ble_eq_true rfl), (Nat.le_of_ble_eq_true rfl)⟩ dX6_chosenAt_6 ?_
  refine W.eq (g2 := F0 m 9 ls [.int r_1]) rfl ?_
  cases hf
  exact ro_iret hx hb hr hlk dX6_chosenAt_9
def fX6_makeAlike_L5  (v1 : Int32) (v2 : Int32) : Nat → Int32 → Int32 → (Nat → Int32) → Option (Int32 × (Nat → Int32))
  | 0, _, _, _ => none
  | n9 + 1, v3, v4, md => (if 16 ≤ v4 then some (v3, md) else ((fX6_at md v1 v4).bind fun r_2 => ((fX6_at md v2 v4).bind fun r_4 => (if r_2 = r_4 then ((fX6_at md v1 v4).bind fun r_7 => ((fX6_put md v2 v4 r_7).bind fun md_9 => fX6_makeAlike_L5 v1 v2 n9 v3 (v4 + 1) md_9)) else ((fX6_at md v1 v4).bind fun r_11 => ((fX6_put md v2 v4 r_11).bind fun md_13 => fX6_makeAlike_L5 v1 v2 n9 (v3 + 1) (v4 + 1) md_13))))))
def fX6_makeAlike (md : Nat → Int32) (i1 : Int32) (i2 : Int32) : Option (Int32 × (Nat → Int32)) :=
  ((fX6_makeAlike_L5 i1 i2 2000 0 0 md).bind fun (x3_15, md_16) => some (x3_15, md_16))
set_option maxHeartbeats 4000000 in
set_option maxRecDepth 100000 in
theorem kX6_makeAlike (l : Launch) (G : GG) (a0 a1 : Nat) (md : Nat → Int32) (mch : Int32) (i1 : Int32) (i2 : Int32) (r_0 : Int32) (md_0 : Nat → Int32) (hf : fX6_makeAlike md i1 i2 = some (r_0, md_0)) : Wr l G yX6_makeAlike cX6_makeAlike 5 (some .int) 1 24 0 0 [.ref a0, .int i1, .int i2] [(a0, .inr (6, [.ref a1, .int mch])), (a1, .inl (G.2.1, 48, .inl md))] (X := Unit) (fun _ => [(a0, .inr (6, [.ref a1, .int mch])), (a1, .inl (G.2.1, 48, .inl md_0))]) (some (.int r_0)) := by
  refine wr_of (by decide) (Nat.le_of_ble_eq_true rfl) ?_
  intro p e s m args below meth c ls A hx hb hr hml hown hlk hA hZ hP hD hS hA0 hin hl
  have hP : va_P G.1 vwCl [(a0, .inr (6, [.ref a1, .int mch])), (a1, .inl (G.2.1, 48, .inl md))] s.heap := hP
  replace hown : s.vm.findClass RX6 = some m.cls := hown
  replace hl : lv_has ls 5 [(0, .ref a0), (1, .int i1), (2, .int i2)] := hl
  unfold fX6_makeAlike at hf
  refine lv_iconst (v := 0) hx hb dX6_makeAlike_0 (by decide) ?_
  refine lv_istore_n (lv' := [(3, .int 0), (0, .ref a0), (1, .int i1), (2, .int i2)]) hx hb dX6_makeAlike_1 rfl hl (by decide) rfl (fun ls hl => ?_)
  refine lv_iconst (v := 0) hx hb dX6_makeAlike_2 (by decide) ?_
  refine lv_istore (lv' := [(4, .int 0), (3, .int 0), (0, .ref a0), (1, .int i1), (2, .int i2)]) hx hb dX6_makeAlike_3 hl (by decide) rfl (fun ls hl => ?_)
  have lp5 : ∀ (v1 : Int32) (v2 : Int32)  (n : Nat) (v3 : Int32) (v4 : Int32) (md : Nat → Int32) (x3_15 : Int32) (md_16 : Nat → Int32) (Q : State → Prop), fX6_makeAlike_L5 v1 v2 n v3 v4 md = some (x3_15, md_16) → ∀ (H : Heap) (locs : List Loc), va_P G.1 vwCl [(a0, .inr (6, [.ref a1, .int mch])), (a1, .inl (G.2.1, 48, .inl md))] H → va_D A [(a0, .inr (6, [.ref a1, .int mch])), (a1, .inl (G.2.1, 48, .inl md))] → va_S A s.heap H locs → ∀ (ls : Array Slot), lv_has ls 5 [(0, .ref a0), (1, .int v1), (2, .int v2), (3, .int v3), (4, .int v4)] → (∀ (H : Heap) (locs : List Loc) (ls : Array Slot), va_P G.1 vwCl [(a0, .inr (6, [.ref a1, .int mch])), (a1, .inl (G.2.1, 48, .inl md_16))] H → va_D A [(a0, .inr (6, [.ref a1, .int mch])), (a1, .inl (G.2.1, 48, .inl md_16))] → va_S A s.heap H locs → lv_has ls 5 [(3, .int x3_15)] → W p l e { frames := 1, cells := 0, slots := 0, locals := 24 } s m args below meth c H locs 0 0 Q (F0 m 52 ls [])) → W p l e { frames := 1, cells := 0, slots := 0, locals := 24 } s m args below meth c H locs 0 0 Q (F0 m 5 ls []) := by
    intro v1 v2 n
    induction n with
    | zero => intro v3 v4 md x3_15 md_16 Q hf; rw [fX6_makeAlike_L5] at hf; cases hf
    | succ n ih =>
      intro v3 v4 md x3_15 md_16 Q hf H locs hP hD hS ls hl kk
      rw [fX6_makeAlike_L5] at hf
      refine lv_iload hx hb dX6_makeAlike_5 (lv_at hl 4 rfl) ?_
      refine lv_bipush (v := 16) hx hb dX6_makeAlike_7 (by decide) ?_
      refine lv_icmp_ge (tgt := 52) hx hb dX6_makeAlike_9 (by decide) (fun c_1 => ?_) (fun c_1 => ?_)
      · replace hf := ifp c_1 hf
        cases hf
        exact kk _ _ ls hP hD hS (lv_sub hl [3] rfl)
      · replace hf := ifn c_1 hf
        refine lv_aload_n hx hb dX6_makeAlike_12 rfl (lv_at hl 0 rfl) ?_
        refine lv_iload_n hx hb dX6_makeAlike_13 rfl (lv_at hl 1 rfl) ?_
        refine lv_iload hx hb dX6_makeAlike_14 (lv_at hl 4 rfl) ?_
        obtain ⟨r_2, q_3, hf⟩ := obd hf
        refine ro_v (n := 2) (As := [.int v1, .int v4]) (q0 := 0) hx hb hml hown hA (kX6_at l G a0 a1 md mch v1 v4 r_2 q_3) g_X6_19 gd_X6_at ⟨(Nat.le_of_ble_eq_true rfl), (Nat.le_of_ble_eq_true rfl)⟩ (hZ.at hS) (hP.sub [0, 1] rfl) rfl rfl rfl hl.1 (Nat.le_of_ble_eq_true rfl) ⟨(Nat.le_of_ble_eq_true rfl), (Nat.le_of_ble_eq_true rfl)⟩ dX6_makeAlike_16 ?_
        refine W.eq (g2 := F0 m 19 ls [.int r_2]) rfl ?_
        refine lv_aload_n hx hb dX6_makeAlike_19 rfl (lv_at hl 0 rfl) ?_
        refine lv_iload_n hx hb dX6_makeAlike_20 rfl (lv_at hl 2 rfl) ?_
        refine lv_iload hx hb dX6_makeAlike_21 (lv_at hl 4 rfl) ?_
        obtain ⟨r_4, q_5, hf⟩ := obd hf
        refine ro_v (n := 2) (As := [.int v2, .int v4]) (q0 := 0) hx hb hml hown hA (kX6_at l G a0 a1 md mch v2 v4 r_4 q_5) g_X6_19 gd_X6_at ⟨(Nat.le_of_ble_eq_true rfl), (Nat.le_of_ble_eq_true rfl)⟩ (hZ.at hS) (hP.sub [0, 1] rfl) rfl rfl rfl hl.1 (Nat.le_of_ble_eq_true rfl) ⟨(Nat.le_of_ble_eq_true rfl), (Nat.le_of_ble_eq_true rfl)⟩ dX6_makeAlike_23 ?_
        refine W.eq (g2 := F0 m 26 ls [.int r_4, .int r_2]) rfl ?_
        refine lv_icmp_eq (tgt := 32) hx hb dX6_makeAlike_26 (by decide) (fun c_6 => ?_) (fun c_6 => ?_)
        · replace hf := ifp c_6 hf
          refine lv_aload_n hx hb dX6_makeAlike_32 rfl (lv_at hl 0 rfl) ?_
          refine lv_iload_n hx hb dX6_makeAlike_33 rfl (lv_at hl 2 rfl) ?_
          refine lv_iload hx hb dX6_makeAlike_34 (lv_at hl 4 rfl) ?_
          refine lv_aload_n hx hb dX6_makeAlike_36 rfl (lv_at hl 0 rfl) ?_
          refine lv_iload_n hx hb dX6_makeAlike_37 rfl (lv_at hl 1 rfl) ?_
          refine lv_iload hx hb dX6_makeAlike_38 (lv_at hl 4 rfl) ?_
          obtain ⟨r_7, q_8, hf⟩ := obd hf
          refine ro_v (n := 2) (As := [.int v1, .int v4]) (q0 := 0) hx hb hml hown hA (kX6_at l G a0 a1 md mch v1 v4 r_7 q_8) g_X6_19 gd_X6_at ⟨(Nat.le_of_ble_eq_true rfl), (Nat.le_of_ble_eq_true rfl)⟩ (hZ.at hS) (hP.sub [0, 1] rfl) rfl rfl rfl hl.1 (Nat.le_of_ble_eq_true rfl) ⟨(Nat.le_of_ble_eq_true rfl), (Nat.le_of_ble_eq_true rfl)⟩ dX6_makeAlike_40 ?_
          refine W.eq (g2 := F0 m 43 ls [.int r_7, .int v4, .int v2, .ref a0]) rfl ?_
          obtain ⟨md_9, q_10, hf⟩ := obd hf
          refine wr_v (n := 3) (As := [.int v2, .int v4, .int r_7]) (q0 := 0) (wr := []) (w2 := fun _ => [(a0, .inr (6, [.ref a1, .int mch])), (a1, .inl (G.2.1, 48, .inl md_9))]) hx hb hml hown hA (kX6_put l G a0 a1 md mch v2 v4 r_7 md_9 q_10) g_X6_23 gd_X6_put ⟨(Nat.le_of_ble_eq_true rfl), (Nat.le_of_ble_eq_true rfl)⟩ hZ hP hD hS hA0 rfl rfl [0, 1] [] [0, 1] rfl rfl rfl rfl (by decide) (fun _ => rfl) rfl rfl hl.1 (Nat.le_of_ble_eq_true rfl) ⟨(Nat.le_of_ble_eq_true rfl), (Nat.le_of_ble_eq_true rfl)⟩ dX6_makeAlike_43 (fun _ H locs hP hD hS => ?_)
          refine W.eq (g2 := F0 m 46 ls []) rfl ?_
          refine lv_iinc (v := v4 + 1) (lv' := [(4, .int (v4 + 1)), (0, .ref a0), (1, .int v1), (2, .int v2), (3, .int v3)]) hx hb dX6_makeAlike_46 hl (k := 4) rfl rfl (by decide) rfl (fun ls hl => ?_)
          refine lv_goto (tgt := 5) hx hb dX6_makeAlike_49 (by decide) ?_
          exact ih _ _ _ _ _ _ hf _ _ hP hD hS ls (lv_sub hl [1, 2, 3, 4, 0] rfl) kk
        · replace hf := ifn c_6 hf
          refine lv_iinc (v := v3 + 1) (lv' := [(3, .int (v3 + 1)), (0, .ref a0), (1, .int v1), (2, .int v2), (4, .int v4)]) hx hb dX6_makeAlike_29 hl (k := 3) rfl rfl (by decide) rfl (fun ls hl => ?_)
          refine lv_aload_n hx hb dX6_makeAlike_32 rfl (lv_at hl 1 rfl) ?_
          refine lv_iload_n hx hb dX6_makeAlike_33 rfl (lv_at hl 3 rfl) ?_
          refine lv_iload hx hb dX6_makeAlike_34 (lv_at hl 4 rfl) ?_
          refine lv_aload_n hx hb dX6_makeAlike_36 rfl (lv_at hl 1 rfl) ?_
          refine lv_iload_n hx hb dX6_makeAlike_37 rfl (lv_at hl 2 rfl) ?_
          refine lv_iload hx hb dX6_makeAlike_38 (lv_at hl 4 rfl) ?_
          obtain ⟨r_11, q_12, hf⟩ := obd hf
          refine ro_v (n := 2) (As := [.int v1, .int v4]) (q0 := 0) hx hb hml hown hA (kX6_at l G a0 a1 md mch v1 v4 r_11 q_12) g_X6_19 gd_X6_at ⟨(Nat.le_of_ble_eq_true rfl), (Nat.le_of_ble_eq_true rfl)⟩ (hZ.at hS) (hP.sub [0, 1] rfl) rfl rfl rfl hl.1 (Nat.le_of_ble_eq_true rfl) ⟨(Nat.le_of_ble_eq_true rfl), (Nat.le_of_ble_eq_true rfl)⟩ dX6_makeAlike_40 ?_
          refine W.eq (g2 := F0 m 43 ls [.int r_11, .int v4, .int v2, .ref a0]) rfl ?_
          obtain ⟨md_13, q_14, hf⟩ := obd hf
          refine wr_v (n := 3) (As := [.int v2, .int v4, .int r_11]) (q0 := 0) (wr := []) (w2 := fun _ => [(a0, .inr (6, [.ref a1, .int mch])), (a1, .inl (G.2.1, 48, .inl md_13))]) hx hb hml hown hA (kX6_put l G a0 a1 md mch v2 v4 r_11 md_13 q_14) g_X6_23 gd_X6_put ⟨(Nat.le_of_ble_eq_true rfl), (Nat.le_of_ble_eq_true rfl)⟩ hZ hP hD hS hA0 rfl rfl [0, 1] [] [0, 1] rfl rfl rfl rfl (by decide) (fun _ => rfl) rfl rfl hl.1 (Nat.le_of_ble_eq_true rfl) ⟨(Nat.le_of_ble_eq_true rfl), (Nat.le_of_ble_eq_true rfl)⟩ dX6_makeAlike_43 (fun _ H locs hP hD hS => ?_)
          refine W.eq (g2 := F0 m 46 ls []) rfl ?_
          refine lv_iinc (v := v4 + 1) (lv' := [(4, .int (v4 + 1)), (3, .int (v3 + 1)), (0, .ref a0), (1, .int v1), (2, .int v2)]) hx hb dX6_makeAlike_46 hl (k := 4) rfl rfl (by decide) rfl (fun ls hl => ?_)
          refine lv_goto (tgt := 5) hx hb dX6_makeAlike_49 (by decide) ?_
          exact ih _ _ _ _ _ _ hf _ _ hP hD hS ls (lv_sub hl [2, 3, 4, 1, 0] rfl) kk
  obtain ⟨⟨x3_15, md_16⟩, q_17, hf⟩ := obd hf
  dsimp only at hf
  refine lp5 _ _ _ _ _ _ _ _ _ q_17 _ _ hP hD hS ls (lv_sub hl [2, 3, 4, 1, 0] rfl) (fun H locs ls hP hD hS hl => ?_)
  refine lv_iload_n hx hb dX6_makeAlike_52 rfl (lv_at hl 0 rfl) ?_
  cases hf
  exact wr_iret () hx hb hr hlk hP hD hS dX6_makeAlike_53
def fX6_turnRound_L4  (v1 : Int32) : Nat → Int32 → Int32 → (Nat → Int32) → Option (Int32 × (Nat → Int32))
  | 0, _, _, _ => none
  | n9 + 1, v2, v3, md => (if 8 ≤ v3 then some (v2, md) else ((fX6_at md v1 v3).bind fun r_2 => ((fX6_at md v1 (15 - v3)).bind fun r_4 => (if r_2 = r_4 then ((fX6_at md v1 (15 - v3)).bind fun r_7 => ((fX6_put md v1 v3 r_7).bind fun md_9 => ((fX6_put md_9 v1 (15 - v3) r_2).bind fun md_11 => fX6_turnRound_L4 v1 n9 v2 (v3 + 1) md_11))) else ((fX6_at md v1 (15 - v3)).bind fun r_13 => ((fX6_put md v1 v3 r_13).bind fun md_15 => ((fX6_put md_15 v1 (15 - v3) r_2).bind fun md_17 => fX6_turnRound_L4 v1 n9 (v2 + 2) (v3 + 1) md_17)))))))
def fX6_turnRound (md : Nat → Int32) (i1 : Int32) : Option (Int32 × (Nat → Int32)) :=
  ((fX6_turnRound_L4 i1 2000 0 0 md).bind fun (x2_19, md_20) => some (x2_19, md_20))
set_option maxHeartbeats 4000000 in
set_option maxRecDepth 100000 in
theorem kX6_turnRound (l : Launch) (G : GG) (a0 a1 : Nat) (md : Nat → Int32) (mch : Int32) (i1 : Int32) (r_0 : Int32) (md_0 : Nat → Int32) (hf : fX6_turnRound md i1 = some (r_0, md_0)) : Wr l G yX6_turnRound cX6_turnRound 6 (some .int) 1 24 0 0 [.ref a0, .int i1] [(a0, .inr (6, [.ref a1, .int mch])), (a1, .inl (G.2.1, 48, .inl md))] (X := Unit) (fun _ => [(a0, .inr (6, [.ref a1, .int mch])), (a1, .inl (G.2.1, 48, .inl md_0))]) (some (.int r_0)) := by
  refine wr_of (by decide) (Nat.le_of_ble_eq_true rfl) ?_
  intro p e s m args below meth c ls A hx hb hr hml hown hlk hA hZ hP hD hS hA0 hin hl
  have hP : va_P G.1 vwCl [(a0, .inr (6, [.ref a1, .int mch])), (a1, .inl (G.2.1, 48, .inl md))] s.heap := hP
  replace hown : s.vm.findClass RX6 = some m.cls := hown
  replace hl : lv_has ls 6 [(0, .ref a0), (1, .int i1)] := hl
  unfold fX6_turnRound at hf
  refine lv_iconst (v := 0) hx hb dX6_turnRound_0 (by decide) ?_
  refine lv_istore_n (lv' := [(2, .int 0), (0, .ref a0), (1, .int i1)]) hx hb dX6_turnRound_1 rfl hl (by decide) rfl (fun ls hl => ?_)
  refine lv_iconst (v := 0) hx hb dX6_turnRound_2 (by decide) ?_
  refine lv_istore_n (lv' := [(3, .int 0), (2, .int 0), (0, .ref a0), (1, .int i1)]) hx hb dX6_turnRound_3 rfl hl (by decide) rfl (fun ls hl => ?_)
  have lp4 : ∀ (v1 : Int32)  (n : Nat) (v2 : Int32) (v3 : Int32) (md : Nat → Int32) (x2_19 : Int32) (md_20 : Nat → Int32) (Q : State → Prop), fX6_turnRound_L4 v1 n v2 v3 md = some (x2_19, md_20) → ∀ (H : Heap) (locs : List Loc), va_P G.1 vwCl [(a0, .inr (6, [.ref a1, .int mch])), (a1, .inl (G.2.1, 48, .inl md))] H → va_D A [(a0, .inr (6, [.ref a1, .int mch])), (a1, .inl (G.2.1, 48, .inl md))] → va_S A s.heap H locs → ∀ (ls : Array Slot), lv_has ls 6 [(0, .ref a0), (1, .int v1), (2, .int v2), (3, .int v3)] → (∀ (H : Heap) (locs : List Loc) (ls : Array Slot), va_P G.1 vwCl [(a0, .inr (6, [.ref a1, .int mch])), (a1, .inl (G.2.1, 48, .inl md_20))] H → va_D A [(a0, .inr (6, [.ref a1, .int mch])), (a1, .inl (G.2.1, 48, .inl md_20))] → va_S A s.heap H locs → lv_has ls 6 [(2, .int x2_19)] → W p l e { frames := 1, cells := 0, slots := 0, locals := 24 } s m args below meth c H locs 0 0 Q (F0 m 67 ls [])) → W p l e { frames := 1, cells := 0, slots := 0, locals := 24 } s m args below meth c H locs 0 0 Q (F0 m 4 ls []) := by
    intro v1 n
    induction n with
    | zero => intro v2 v3 md x2_19 md_20 Q hf; rw [fX6_turnRound_L4] at hf; cases hf
    | succ n ih =>
      intro v2 v3 md x2_19 md_20 Q hf H locs hP hD hS ls hl kk
      rw [fX6_turnRound_L4] at hf
      refine lv_iload_n hx hb dX6_turnRound_4 rfl (lv_at hl 3 rfl) ?_
      refine lv_bipush (v := 8) hx hb dX6_turnRound_5 (by decide) ?_
      refine lv_icmp_ge (tgt := 67) hx hb dX6_turnRound_7 (by decide) (fun c_1 => ?_) (fun c_1 => ?_)
      · replace hf := ifp c_1 hf
        cases hf
        exact kk _ _ ls hP hD hS (lv_sub hl [2] rfl)
      · replace hf := ifn c_1 hf
        refine lv_bipush (v := 15) hx hb dX6_turnRound_10 (by decide) ?_
        refine lv_iload_n hx hb dX6_turnRound_12 rfl (lv_at hl 3 rfl) ?_
        refine lv_isub hx hb dX6_turnRound_13 ?_
        refine lv_istore (lv' := [(4, .int (15 - v3)), (0, .ref a0), (1, .int v1), (2, .int v2), (3, .int v3)]) hx hb dX6_turnRound_14 hl (by decide) rfl (fun ls hl => ?_)
        refine lv_aload_n hx hb dX6_turnRound_16 rfl (lv_at hl 1 rfl) ?_
        refine lv_iload_n hx hb dX6_turnRound_17 rfl (lv_at hl 2 rfl) ?_
        refine lv_iload_n hx hb dX6_turnRound_18 rfl (lv_at hl 4 rfl) ?_
        obtain ⟨r_2, q_3, hf⟩ := obd hf
        refine ro_v (n := 2) (As := [.int v1, .int v3]) (q0 := 0) hx hb hml hown hA (kX6_at l G a0 a1 md mch v1 v3 r_2 q_3) g_X6_19 gd_X6_at ⟨(Nat.le_of_ble_eq_true rfl), (Nat.le_of_ble_eq_true rfl)⟩ (hZ.at hS) (hP.sub [0, 1] rfl) rfl rfl rfl hl.1 (Nat.le_of_ble_eq_true rfl) ⟨(Nat.le_of_ble_eq_true rfl), (Nat.le_of_ble_eq_true rfl)⟩ dX6_turnRound_19 ?_
        refine W.eq (g2 := F0 m 22 ls [.int r_2]) rfl ?_
        refine lv_istore (lv' := [(5, .int r_2), (4, .int (15 - v3)), (0, .ref a0), (1, .int v1), (2, .int v2), (3, .int v3)]) hx hb dX6_turnRound_22 hl (by decide) rfl (fun ls hl => ?_)
        refine lv_iload hx hb dX6_turnRound_24 (lv_at hl 0 rfl) ?_
        refine lv_aload_n hx hb dX6_turnRound_26 rfl (lv_at hl 2 rfl) ?_
        refine lv_iload_n hx hb dX6_turnRound_27 rfl (lv_at hl 3 rfl) ?_
        refine lv_iload hx hb dX6_turnRound_28 (lv_at hl 1 rfl) ?_
        obtain ⟨r_4, q_5, hf⟩ := obd hf
        refine ro_v (n := 2) (As := [.int v1, .int (15 - v3)]) (q0 := 0) hx hb hml hown hA (kX6_at l G a0 a1 md mch v1 (15 - v3) r_4 q_5) g_X6_19 gd_X6_at ⟨(Nat.le_of_ble_eq_true rfl), (Nat.le_of_ble_eq_true rfl)⟩ (hZ.at hS) (hP.sub [0, 1] rfl) rfl rfl rfl hl.1 (Nat.le_of_ble_eq_true rfl) ⟨(Nat.le_of_ble_eq_true rfl), (Nat.le_of_ble_eq_true rfl)⟩ dX6_turnRound_30 ?_
        refine W.eq (g2 := F0 m 33 ls [.int r_4, .int r_2]) rfl ?_
        refine lv_icmp_eq (tgt := 39) hx hb dX6_turnRound_33 (by decide) (fun c_6 => ?_) (fun c_6 => ?_)
        · replace hf := ifp c_6 hf
          refine lv_aload_n hx hb dX6_turnRound_39 rfl (lv_at hl 2 rfl) ?_
          refine lv_iload_n hx hb dX6_turnRound_40 rfl (lv_at hl 3 rfl) ?_
          refine lv_iload_n hx hb dX6_turnRound_41 rfl (lv_at hl 5 rfl) ?_
          refine lv_aload_n hx hb dX6_turnRound_42 rfl (lv_at hl 2 rfl) ?_
          refine lv_iload_n hx hb dX6_turnRound_43 rfl (lv_at hl 3 rfl) ?_
          refine lv_iload hx hb dX6_turnRound_44 (lv_at hl 1 rfl) ?_
          obtain ⟨r_7, q_8, hf⟩ := obd hf
          refine ro_v (n := 2) (As := [.int v1, .int (15 - v3)]) (q0 := 0) hx hb hml hown hA (kX6_at l G a0 a1 md mch v1 (15 - v3) r_7 q_8) g_X6_19 gd_X6_at ⟨(Nat.le_of_ble_eq_true rfl), (Nat.le_of_ble_eq_true rfl)⟩ (hZ.at hS) (hP.sub [0, 1] rfl) rfl rfl rfl hl.1 (Nat.le_of_ble_eq_true rfl) ⟨(Nat.le_of_ble_eq_true rfl), (Nat.le_of_ble_eq_true rfl)⟩ dX6_turnRound_46 ?_
          refine W.eq (g2 := F0 m 49 ls [.int r_7, .int v3, .int v1, .ref a0]) rfl ?_
          obtain ⟨md_9, q_10, hf⟩ := obd hf
          refine wr_v (n := 3) (As := [.int v1, .int v3, .int r_7]) (q0 := 0) (wr := []) (w2 := fun _ => [(a0, .inr (6, [.ref a1, .int mch])), (a1, .inl (G.2.1, 48, .inl md_9))]) hx hb hml hown hA (kX6_put l G a0 a1 md mch v1 v3 r_7 md_9 q_10) g_X6_23 gd_X6_put ⟨(Nat.le_of_ble_eq_true rfl), (Nat.le_of_ble_eq_true rfl)⟩ hZ hP hD hS hA0 rfl rfl [0, 1] [] [0, 1] rfl rfl rfl rfl (by decide) (fun _ => rfl) rfl rfl hl.1 (Nat.le_of_ble_eq_true rfl) ⟨(Nat.le_of_ble_eq_true rfl), (Nat.le_of_ble_eq_true rfl)⟩ dX6_turnRound_49 (fun _ H locs hP hD hS => ?_)
          refine W.eq (g2 := F0 m 52 ls []) rfl ?_
          refine lv_aload_n hx hb dX6_turnRound_52 rfl (lv_at hl 2 rfl) ?_
          refine lv_iload_n hx hb dX6_turnRound_53 rfl (lv_at hl 3 rfl) ?_
          refine lv_iload hx hb dX6_turnRound_54 (lv_at hl 1 rfl) ?_
          refine lv_iload hx hb dX6_turnRound_56 (lv_at hl 0 rfl) ?_
          obtain ⟨md_11, q_12, hf⟩ := obd hf
          refine wr_v (n := 3) (As := [.int v1, .int (15 - v3), .int r_2]) (q0 := 0) (wr := []) (w2 := fun _ => [(a0, .inr (6, [.ref a1, .int mch])), (a1, .inl (G.2.1, 48, .inl md_11))]) hx hb hml hown hA (kX6_put l G a0 a1 md_9 mch v1 (15 - v3) r_2 md_11 q_12) g_X6_23 gd_X6_put ⟨(Nat.le_of_ble_eq_true rfl), (Nat.le_of_ble_eq_true rfl)⟩ hZ hP hD hS hA0 rfl rfl [0, 1] [] [0, 1] rfl rfl rfl rfl (by decide) (fun _ => rfl) rfl rfl hl.1 (Nat.le_of_ble_eq_true rfl) ⟨(Nat.le_of_ble_eq_true rfl), (Nat.le_of_ble_eq_true rfl)⟩ dX6_turnRound_58 (fun _ H locs hP hD hS => ?_)
          refine W.eq (g2 := F0 m 61 ls []) rfl ?_
          refine lv_iinc (v := v3 + 1) (lv' := [(3, .int (v3 + 1)), (5, .int r_2), (4, .int (15 - v3)), (0, .ref a0), (1, .int v1), (2, .int v2)]) hx hb dX6_turnRound_61 hl (k := 5) rfl rfl (by decide) rfl (fun ls hl => ?_)
          refine lv_goto (tgt := 4) hx hb dX6_turnRound_64 (by decide) ?_
          exact ih _ _ _ _ _ _ hf _ _ hP hD hS ls (lv_sub hl [3, 4, 5, 0] rfl) kk
        · replace hf := ifn c_6 hf
          refine lv_iinc (v := v2 + 2) (lv' := [(2, .int (v2 + 2)), (5, .int r_2), (4, .int (15 - v3)), (0, .ref a0), (1, .int v1), (3, .int v3)]) hx hb dX6_turnRound_36 hl (k := 4) rfl rfl (by decide) rfl (fun ls hl => ?_)
          refine lv_aload_n hx hb dX6_turnRound_39 rfl (lv_at hl 3 rfl) ?_
          refine lv_iload_n hx hb dX6_turnRound_40 rfl (lv_at hl 4 rfl) ?_
          refine lv_iload_n hx hb dX6_turnRound_41 rfl (lv_at hl 5 rfl) ?_
          refine lv_aload_n hx hb dX6_turnRound_42 rfl (lv_at hl 3 rfl) ?_
          refine lv_iload_n hx hb dX6_turnRound_43 rfl (lv_at hl 4 rfl) ?_
          refine lv_iload hx hb dX6_turnRound_44 (lv_at hl 2 rfl) ?_
          obtain ⟨r_13, q_14, hf⟩ := obd hf
          refine ro_v (n := 2) (As := [.int v1, .int (15 - v3)]) (q0 := 0) hx hb hml hown hA (kX6_at l G a0 a1 md mch v1 (15 - v3) r_13 q_14) g_X6_19 gd_X6_at ⟨(Nat.le_of_ble_eq_true rfl), (Nat.le_of_ble_eq_true rfl)⟩ (hZ.at hS) (hP.sub [0, 1] rfl) rfl rfl rfl hl.1 (Nat.le_of_ble_eq_true rfl) ⟨(Nat.le_of_ble_eq_true rfl), (Nat.le_of_ble_eq_true rfl)⟩ dX6_turnRound_46 ?_
          refine W.eq (g2 := F0 m 49 ls [.int r_13, .int v3, .int v1, .ref a0]) rfl ?_
          obtain ⟨md_15, q_16, hf⟩ := obd hf
          refine wr_v (n := 3) (As := [.int v1, .int v3, .int r_13]) (q0 := 0) (wr := []) (w2 := fun _ => [(a0, .inr (6, [.ref a1, .int mch])), (a1, .inl (G.2.1, 48, .inl md_15))]) hx hb hml hown hA (kX6_put l G a0 a1 md mch v1 v3 r_13 md_15 q_16) g_X6_23 gd_X6_put ⟨(Nat.le_of_ble_eq_true rfl), (Nat.le_of_ble_eq_true rfl)⟩ hZ hP hD hS hA0 rfl rfl [0, 1] [] [0, 1] rfl rfl rfl rfl (by decide) (fun _ => rfl) rfl rfl hl.1 (Nat.le_of_ble_eq_true rfl) ⟨(Nat.le_of_ble_eq_true rfl), (Nat.le_of_ble_eq_true rfl)⟩ dX6_turnRound_49 (fun _ H locs hP hD hS => ?_)
          refine W.eq (g2 := F0 m 52 ls []) rfl ?_
          refine lv_aload_n hx hb dX6_turnRound_52 rfl (lv_at hl 3 rfl) ?_
          refine lv_iload_n hx hb dX6_turnRound_53 rfl (lv_at hl 4 rfl) ?_
          refine lv_iload hx hb dX6_turnRound_54 (lv_at hl 2 rfl) ?_
          refine lv_iload hx hb dX6_turnRound_56 (lv_at hl 1 rfl) ?_
          obtain ⟨md_17, q_18, hf⟩ := obd hf
          refine wr_v (n := 3) (As := [.int v1, .int (15 - v3), .int r_2]) (q0 := 0) (wr := []) (w2 := fun _ => [(a0, .inr (6, [.ref a1, .int mch])), (a1, .inl (G.2.1, 48, .inl md_17))]) hx hb hml hown hA (kX6_put l G a0 a1 md_15 mch v1 (15 - v3) r_2 md_17 q_18) g_X6_23 gd_X6_put ⟨(Nat.le_of_ble_eq_true rfl), (Nat.le_of_ble_eq_true rfl)⟩ hZ hP hD hS hA0 rfl rfl [0, 1] [] [0, 1] rfl rfl rfl rfl (by decide) (fun _ => rfl) rfl rfl hl.1 (Nat.le_of_ble_eq_true rfl) ⟨(Nat.le_of_ble_eq_true rfl), (Nat.le_of_ble_eq_true rfl)⟩ dX6_turnRound_58 (fun _ H locs hP hD hS => ?_)
          refine W.eq (g2 := F0 m 61 ls []) rfl ?_
          refine lv_iinc (v := v3 + 1) (lv' := [(3, .int (v3 + 1)), (2, .int (v2 + 2)), (5, .int r_2), (4, .int (15 - v3)), (0, .ref a0), (1, .int v1)]) hx hb dX6_turnRound_61 hl (k := 5) rfl rfl (by decide) rfl (fun ls hl => ?_)
          refine lv_goto (tgt := 4) hx hb dX6_turnRound_64 (by decide) ?_
          exact ih _ _ _ _ _ _ hf _ _ hP hD hS ls (lv_sub hl [4, 5, 1, 0] rfl) kk
  obtain ⟨⟨x2_19, md_20⟩, q_21, hf⟩ := obd hf
  dsimp only at hf
  refine lp4 _ _ _ _ _ _ _ _ q_21 _ _ hP hD hS ls (lv_sub hl [2, 3, 1, 0] rfl) (fun H locs ls hP hD hS hl => ?_)
  refine lv_iload_n hx hb dX6_turnRound_67 rfl (lv_at hl 0 rfl) ?_
  cases hf
  exact wr_iret () hx hb hr hlk hP hD hS dX6_turnRound_68
def fX7_isTurning (rmo : Int32)  : Option (Int32) :=
  (if rmo = ((-1)) then some 0 else some 1)
set_option maxHeartbeats 4000000 in
set_option maxRecDepth 100000 in
theorem kX7_isTurning (l : Launch) (G : GG) (a0 a1 a2 a3 a4 a5 a6 : Nat) (rd : Nat → Int32) (rw : Nat → Int32) (rp : Nat → Int32) (rco : Int32) (rmo : Int32)  (r_0 : Int32) (hf : fX7_isTurning rmo = some r_0) : Ro l G yX7_isTurning cX7_isTurning 1 (some .boolean) 0 0 [.ref a0] [(a0, .inr (7, [.ref a1, .ref a3, .ref a5, .int rco, .int rmo])), (a1, .inr (8, [.ref a2])), (a2, .inl (G.2.1, 80, .inl rd)), (a3, .inr (8, [.ref a4])), (a4, .inl (G.2.1, 5, .inl rw)), (a5, .inr (8, [.ref a6])), (a6, .inl (G.2.1, 5, .inl rp))] (some (.int r_0)) := by
  refine ro_of (by decide) (Nat.le_of_ble_eq_true rfl) ?_
  intro p e s m args below meth c ls hx hb hr hml hown hlk hA hZ hP hl
  replace hown : s.vm.findClass RX7 = some m.cls := hown
  replace hl : lv_has ls 1 [(0, .ref a0)] := hl
  unfold fX7_isTurning at hf
  refine lv_aload_n hx hb dX7_isTurning_0 rfl (lv_at hl 0 rfl) ?_
  refine gf_X7_26 hx hb hown hA hP 0 rfl rfl dX7_isTurning_1 ?_
  refine lv_iconst (v := (-1)) hx hb dX7_isTurning_4 (by decide) ?_
  refine lv_icmp_eq (tgt := 12) hx hb dX7_isTurning_5 (by decide) (fun c_1 => ?_) (fun c_1 => ?_)
  · replace hf := ifp c_1 hf
    refine lv_iconst (v := 0) hx hb dX7_isTurning_12 (by decide) ?_
    cases hf
    exact ro_zret hx hb hr hlk (Or.inl rfl) dX7_isTurning_13
  · replace hf := ifn c_1 hf
    refine lv_iconst (v := 1) hx hb dX7_isTurning_8 (by decide) ?_
    refine lv_goto (tgt := 13) hx hb dX7_isTurning_9 (by decide) ?_
    cases hf
    exact ro_zret hx hb hr hlk (Or.inr rfl) dX7_isTurning_13
def fX7_sumOf_L4 (rd : Nat → Int32) (v1 : Int32) : Nat → Int32 → Int32 → Option (Int32)
  | 0, _, _ => none
  | n9 + 1, v2, v3 => (if 16 ≤ v3 then some v2 else ((fX7_at rd v1 v3).bind fun r_2 => fX7_sumOf_L4 rd v1 n9 (v2 + r_2) (v3 + 1)))
def fX7_sumOf (rd : Nat → Int32) (i1 : Int32) : Option (Int32) :=
  ((fX7_sumOf_L4 rd i1 2000 0 0).bind fun x2_4 => some x2_4)
set_option maxHeartbeats 4000000 in
set_option maxRecDepth 100000 in
theorem kX7_sumOf (l : Launch) (G : GG) (a0 a1 a2 a3 a4 a5 a6 : Nat) (rd : Nat → Int32) (rw : Nat → Int32) (rp : Nat → Int32) (rco : Int32) (rmo : Int32) (i1 : Int32) (r_0 : Int32) (hf : fX7_sumOf rd i1 = some r_0) : Ro l G yX7_sumOf cX7_sumOf 4 (some .int) 2 43 [.ref a0, .int i1] [(a0, .inr (7, [.ref a1, .ref a3, .ref a5, .int rco, .int rmo])), (a1, .inr (8, [.ref a2])), (a2, .inl (G.2.1, 80, .inl rd)), (a3, .inr (8, [.ref a4])), (a4, .inl (G.2.1, 5, .inl rw)), (a5, .inr (8, [.ref a6])), (a6, .inl (G.2.1, 5, .inl rp))] (some (.int r_0)) := by
  refine ro_of (by decide) (Nat.le_of_ble_eq_true rfl) ?_
  intro p e s m args below meth c ls hx hb hr hml hown hlk hA hZ hP hl
  replace hown : s.vm.findClass RX7 = some m.cls := hown
  replace hl : lv_has ls 4 [(0, .ref a0), (1, .int i1)] := hl
  unfold fX7_sumOf at hf
  refine lv_iconst (v := 0) hx hb dX7_sumOf_0 (by decide) ?_
  refine lv_istore_n (lv' := [(2, .int 0), (0, .ref a0), (1, .int i1)]) hx hb dX7_sumOf_1 rfl hl (by decide) rfl (fun ls hl => ?_)
  refine lv_iconst (v := 0) hx hb dX7_sumOf_2 (by decide) ?_
  refine lv_istore_n (lv' := [(3, .int 0), (2, .int 0), (0, .ref a0), (1, .int i1)]) hx hb dX7_sumOf_3 rfl hl (by decide) rfl (fun ls hl => ?_)
  have lp4 : ∀ (v1 : Int32)  (n : Nat) (v2 : Int32) (v3 : Int32)  (x2_4 : Int32) (Q : State → Prop), fX7_sumOf_L4 rd v1 n v2 v3 = some x2_4 → ∀ (ls : Array Slot), lv_has ls 4 [(0, .ref a0), (1, .int v1), (2, .int v2), (3, .int v3)] → (∀ (ls : Array Slot), lv_has ls 4 [(2, .int x2_4)] → W p l e { frames := 2, cells := 0, slots := 0, locals := 43 } s m args below meth c s.heap [] 0 0 Q (F0 m 25 ls [])) → W p l e { frames := 2, cells := 0, slots := 0, locals := 43 } s m args below meth c s.heap [] 0 0 Q (F0 m 4 ls []) := by
    intro v1 n
    induction n with
    | zero => intro v2 v3 x2_4 Q hf; rw [fX7_sumOf_L4] at hf; cases hf
    | succ n ih =>
      intro v2 v3 x2_4 Q hf ls hl kk
      rw [fX7_sumOf_L4] at hf
      refine lv_iload_n hx hb dX7_sumOf_4 rfl (lv_at hl 3 rfl) ?_
      refine lv_bipush (v := 16) hx hb dX7_sumOf_5 (by decide) ?_
      refine lv_icmp_ge (tgt := 25) hx hb dX7_sumOf_7 (by decide) (fun c_1 => ?_) (fun c_1 => ?_)
      · replace hf := ifp c_1 hf
        cases hf
        exact kk ls (lv_sub hl [2] rfl)
      · replace hf := ifn c_1 hf
        refine lv_iload_n hx hb dX7_sumOf_10 rfl (lv_at hl 2 rfl) ?_
        refine lv_aload_n hx hb dX7_sumOf_11 rfl (lv_at hl 0 rfl) ?_
        refine lv_iload_n hx hb dX7_sumOf_12 rfl (lv_at hl 1 rfl) ?_
        refine lv_iload_n hx hb dX7_sumOf_13 rfl (lv_at hl 3 rfl) ?_
        obtain ⟨r_2, q_3, hf⟩ := obd hf
        refine ro_v (n := 2) (As := [.int v1, .int v3]) (q0 := 0) hx hb hml hown hA (kX7_at l G a0 a1 a2 a3 a4 a5 a6 rd rw rp rco rmo v1 v3 r_2 q_3) g_X7_38 gd_X7_at ⟨(Nat.le_of_ble_eq_true rfl), (Nat.le_of_ble_eq_true rfl)⟩ hZ (hP.sub [0, 1, 2, 3, 4, 5, 6] rfl) rfl rfl rfl hl.1 (Nat.le_of_ble_eq_true rfl) ⟨(Nat.le_of_ble_eq_true rfl), (Nat.le_of_ble_eq_true rfl)⟩ dX7_sumOf_14 ?_
        refine W.eq (g2 := F0 m 17 ls [.int r_2, .int v2]) rfl ?_
        refine lv_iadd hx hb dX7_sumOf_17 ?_
        refine lv_istore_n (lv' := [(2, .int (v2 + r_2)), (0, .ref a0), (1, .int v1), (3, .int v3)]) hx hb dX7_sumOf_18 rfl hl (by decide) rfl (fun ls hl => ?_)
        refine lv_iinc (v := v3 + 1) (lv' := [(3, .int (v3 + 1)), (2, .int (v2 + r_2)), (0, .ref a0), (1, .int v1)]) hx hb dX7_sumOf_19 hl (k := 3) rfl rfl (by decide) rfl (fun ls hl => ?_)
        refine lv_goto (tgt := 4) hx hb dX7_sumOf_22 (by decide) ?_
        exact ih _ _ _ _ hf ls (lv_sub hl [2, 3, 1, 0] rfl) kk
  obtain ⟨x2_4, q_5, hf⟩ := obd hf
  refine lp4 _ _ _ _ _ _ q_5 ls (lv_sub hl [2, 3, 1, 0] rfl) (fun ls hl => ?_)
  refine lv_iload_n hx hb dX7_sumOf_25 rfl (lv_at hl 0 rfl) ?_
  cases hf
  exact ro_iret hx hb hr hlk dX7_sumOf_26
def fX7_add_L26  (v2 : Int32) (v3 : Int32) : Nat → Int32 → (Nat → Int32) → Option ((Nat → Int32))
  | 0, _, _ => none
  | n9 + 1, v4, rd => (if 16 ≤ v4 then some rd else ((fX8_put 80 rd ((v3 * 16) + v4) v2).bind fun rf_6 => fX7_add_L26 v2 v3 n9 (v4 + 1) rf_6))
def fX7_add (rd : Nat → Int32) (rw : Nat → Int32) (rp : Nat → Int32) (rco : Int32) (i1 : Int32) (i2 : Int32) : Option (Int32 × (Nat → Int32) × (Nat → Int32) × (Nat → Int32) × Int32) :=
  ((fX8_put 5 rw rco i1).bind fun rf_1 => ((fX8_put 5 rp rco 0).bind fun rf_3 => ((fX7_add_L26 i2 rco 2000 0 rd).bind fun rd_8 => some (rco, rd_8, rf_1, rf_3, rco + 1))))
set_option maxHeartbeats 4000000 in
set_option maxRecDepth 100000 in
theorem kX7_add (l : Launch) (G : GG) (a0 a1 a2 a3 a4 a5 a6 : Nat) (rd : Nat → Int32) (rw : Nat → Int32) (rp : Nat → Int32) (rco : Int32) (rmo : Int32) (i1 : Int32) (i2 : Int32) (r_0 : Int32) (rd_0 : Nat → Int32) (rw_0 : Nat → Int32) (rp_0 : Nat → Int32) (rco_0 : Int32) (hf : fX7_add rd rw rp rco i1 i2 = some (r_0, rd_0, rw_0, rp_0, rco_0)) : Wr l G yX7_add cX7_add 5 (some .int) 1 22 0 0 [.ref a0, .int i1, .int i2] [(a0, .inr (7, [.ref a1, .ref a3, .ref a5, .int rco, .int rmo])), (a1, .inr (8, [.ref a2])), (a2, .inl (G.2.1, 80, .inl rd)), (a3, .inr (8, [.ref a4])), (a4, .inl (G.2.1, 5, .inl rw)), (a5, .inr (8, [.ref a6])), (a6, .inl (G.2.1, 5, .inl rp))] (X := Unit) (fun _ => [(a0, .inr (7, [.ref a1, .ref a3, .ref a5, .int rco_0, .int rmo])), (a1, .inr (8, [.ref a2])), (a2, .inl (G.2.1, 80, .inl rd_0)), (a3, .inr (8, [.ref a4])), (a4, .inl (G.2.1, 5, .inl rw_0)), (a5, .inr (8, [.ref a6])), (a6, .inl (G.2.1, 5, .inl rp_0))]) (some (.int r_0)) := by
  refine wr_of (by decide) (Nat.le_of_ble_eq_true rfl) ?_
  intro p e s m args below meth c ls A hx hb hr hml hown hlk hA hZ hP hD hS hA0 hin hl
  have hP : va_P G.1 vwCl [(a0, .inr (7, [.ref a1, .ref a3, .ref a5, .int rco, .int rmo])), (a1, .inr (8, [.ref a2])), (a2, .inl (G.2.1, 80, .inl rd)), (a3, .inr (8, [.ref a4])), (a4, .inl (G.2.1, 5, .inl rw)), (a5, .inr (8, [.ref a6])), (a6, .inl (G.2.1, 5, .inl rp))] s.heap := hP
  replace hown : s.vm.findClass RX7 = some m.cls := hown
  replace hl : lv_has ls 5 [(0, .ref a0), (1, .int i1), (2, .int i2)] := hl
  unfold fX7_add at hf
  refine lv_aload_n hx hb dX7_add_0 rfl (lv_at hl 0 rfl) ?_
  refine gf_X7_51 hx hb hown hA hP 0 rfl rfl dX7_add_1 ?_
  refine lv_istore_n (lv' := [(3, .int rco), (0, .ref a0), (1, .int i1), (2, .int i2)]) hx hb dX7_add_4 rfl hl (by decide) rfl (fun ls hl => ?_)
  refine lv_aload_n hx hb dX7_add_5 rfl (lv_at hl 1 rfl) ?_
  refine gf_X7_20 hx hb hown hA hP 0 rfl rfl dX7_add_6 ?_
  refine lv_iload_n hx hb dX7_add_9 rfl (lv_at hl 0 rfl) ?_
  refine lv_iload_n hx hb dX7_add_10 rfl (lv_at hl 2 rfl) ?_
  obtain ⟨rf_1, q_2, hf⟩ := obd hf
  refine wr_v (n := 2) (As := [.int rco, .int i1]) (q0 := 0) (wr := [(a0, .inr (7, [.ref a1, .ref a3, .ref a5, .int rco, .int rmo])), (a1, .inr (8, [.ref a2])), (a2, .inl (G.2.1, 80, .inl rd)), (a5, .inr (8, [.ref a6])), (a6, .inl (G.2.1, 5, .inl rp))]) (w2 := fun _ => [(a0, .inr (7, [.ref a1, .ref a3, .ref a5, .int rco, .int rmo])), (a1, .inr (8, [.ref a2])), (a2, .inl (G.2.1, 80, .inl rd)), (a3, .inr (8, [.ref a4])), (a4, .inl (G.2.1, 5, .inl rf_1)), (a5, .inr (8, [.ref a6])), (a6, .inl (G.2.1, 5, .inl rp))]) hx hb hml hown hA (kX8_put l G a3 a4 5 rw rco i1 rf_1 q_2 (by decide)) g_X7_54 gd_X8_put ⟨(Nat.le_of_ble_eq_true rfl), (Nat.le_of_ble_eq_true rfl)⟩ hZ hP hD hS hA0 rfl rfl [3, 4] [0, 1, 2, 5, 6] [0, 1, 2, 5, 6, 3, 4] rfl rfl rfl rfl (by decide) (fun _ => rfl) rfl rfl hl.1 (Nat.le_of_ble_eq_true rfl) ⟨(Nat.le_of_ble_eq_true rfl), (Nat.le_of_ble_eq_true rfl)⟩ dX7_add_11 (fun _ H locs hP hD hS => ?_)
  refine W.eq (g2 := F0 m 14 ls []) rfl ?_
  refine lv_aload_n hx hb dX7_add_14 rfl (lv_at hl 1 rfl) ?_
  refine gf_X7_23 hx hb hown hA hP 0 rfl rfl dX7_add_15 ?_
  refine lv_iload_n hx hb dX7_add_18 rfl (lv_at hl 0 rfl) ?_
  refine lv_iconst (v := 0) hx hb dX7_add_19 (by decide) ?_
  obtain ⟨rf_3, q_4, hf⟩ := obd hf
  refine wr_v (n := 2) (As := [.int rco, .int 0]) (q0 := 0) (wr := [(a0, .inr (7, [.ref a1, .ref a3, .ref a5, .int rco, .int rmo])), (a1, .inr (8, [.ref a2])), (a2, .inl (G.2.1, 80, .inl rd)), (a3, .inr (8, [.ref a4])), (a4, .inl (G.2.1, 5, .inl rf_1))]) (w2 := fun _ => [(a0, .inr (7, [.ref a1, .ref a3, .ref a5, .int rco, .int rmo])), (a1, .inr (8, [.ref a2])), (a2, .inl (G.2.1, 80, .inl rd)), (a3, .inr (8, [.ref a4])), (a4, .inl (G.2.1, 5, .inl rf_1)), (a5, .inr (8, [.ref a6])), (a6, .inl (G.2.1, 5, .inl rf_3))]) hx hb hml hown hA (kX8_put l G a5 a6 5 rp rco 0 rf_3 q_4 (by decide)) g_X7_54 gd_X8_put ⟨(Nat.le_of_ble_eq_true rfl), (Nat.le_of_ble_eq_true rfl)⟩ hZ hP hD hS hA0 rfl rfl [5, 6] [0, 1, 2, 3, 4] [0, 1, 2, 3, 4, 5, 6] rfl rfl rfl rfl (by decide) (fun _ => rfl) rfl rfl hl.1 (Nat.le_of_ble_eq_true rfl) ⟨(Nat.le_of_ble_eq_true rfl), (Nat.le_of_ble_eq_true rfl)⟩ dX7_add_20 (fun _ H locs hP hD hS => ?_)
  refine W.eq (g2 := F0 m 23 ls []) rfl ?_
  refine lv_iconst (v := 0) hx hb dX7_add_23 (by decide) ?_
  refine lv_istore (lv' := [(4, .int 0), (3, .int rco), (0, .ref a0), (1, .int i1), (2, .int i2)]) hx hb dX7_add_24 hl (by decide) rfl (fun ls hl => ?_)
  have lp26 : ∀ (v2 : Int32) (v3 : Int32) (rw : Nat → Int32) (rp : Nat → Int32) (rco : Int32) (n : Nat) (v4 : Int32) (rd : Nat → Int32) (rd_8 : Nat → Int32) (Q : State → Prop), fX7_add_L26 v2 v3 n v4 rd = some rd_8 → ∀ (H : Heap) (locs : List Loc), va_P G.1 vwCl [(a0, .inr (7, [.ref a1, .ref a3, .ref a5, .int rco, .int rmo])), (a1, .inr (8, [.ref a2])), (a2, .inl (G.2.1, 80, .inl rd)), (a3, .inr (8, [.ref a4])), (a4, .inl (G.2.1, 5, .inl rw)), (a5, .inr (8, [.ref a6])), (a6, .inl (G.2.1, 5, .inl rp))] H → va_D A [(a0, .inr (7, [.ref a1, .ref a3, .ref a5, .int rco, .int rmo])), (a1, .inr (8, [.ref a2])), (a2, .inl (G.2.1, 80, .inl rd)), (a3, .inr (8, [.ref a4])), (a4, .inl (G.2.1, 5, .inl rw)), (a5, .inr (8, [.ref a6])), (a6, .inl (G.2.1, 5, .inl rp))] → va_S A s.heap H locs → ∀ (ls : Array Slot), lv_has ls 5 [(0, .ref a0), (2, .int v2), (3, .int v3), (4, .int v4)] → (∀ (H : Heap) (locs : List Loc) (ls : Array Slot), va_P G.1 vwCl [(a0, .inr (7, [.ref a1, .ref a3, .ref a5, .int rco, .int rmo])), (a1, .inr (8, [.ref a2])), (a2, .inl (G.2.1, 80, .inl rd_8)), (a3, .inr (8, [.ref a4])), (a4, .inl (G.2.1, 5, .inl rw)), (a5, .inr (8, [.ref a6])), (a6, .inl (G.2.1, 5, .inl rp))] H → va_D A [(a0, .inr (7, [.ref a1, .ref a3, .ref a5, .int rco, .int rmo])), (a1, .inr (8, [.ref a2])), (a2, .inl (G.2.1, 80, .inl rd_8)), (a3, .inr (8, [.ref a4])), (a4, .inl (G.2.1, 5, .inl rw)), (a5, .inr (8, [.ref a6])), (a6, .inl (G.2.1, 5, .inl rp))] → va_S A s.heap H locs → lv_has ls 5 [(0, .ref a0), (3, .int v3)] → W p l e { frames := 1, cells := 0, slots := 0, locals := 22 } s m args below meth c H locs 0 0 Q (F0 m 54 ls [])) → W p l e { frames := 1, cells := 0, slots := 0, locals := 22 } s m args below meth c H locs 0 0 Q (F0 m 26 ls []) := by
    intro v2 v3 rw rp rco n
    induction n with
    | zero => intro v4 rd rd_8 Q hf; rw [fX7_add_L26] at hf; cases hf
    | succ n ih =>
      intro v4 rd rd_8 Q hf H locs hP hD hS ls hl kk
      rw [fX7_add_L26] at hf
      refine lv_iload hx hb dX7_add_26 (lv_at hl 3 rfl) ?_
      refine lv_bipush (v := 16) hx hb dX7_add_28 (by decide) ?_
      refine lv_icmp_ge (tgt := 54) hx hb dX7_add_30 (by decide) (fun c_5 => ?_) (fun c_5 => ?_)
      · replace hf := ifp c_5 hf
        cases hf
        exact kk _ _ ls hP hD hS (lv_sub hl [0, 2] rfl)
      · replace hf := ifn c_5 hf
        refine lv_aload_n hx hb dX7_add_33 rfl (lv_at hl 0 rfl) ?_
        refine gf_X7_14 hx hb hown hA hP 0 rfl rfl dX7_add_34 ?_
        refine lv_iload_n hx hb dX7_add_37 rfl (lv_at hl 2 rfl) ?_
        refine lv_bipush (v := 16) hx hb dX7_add_38 (by decide) ?_
        refine lv_imul hx hb dX7_add_40 ?_
        refine lv_iload hx hb dX7_add_41 (lv_at hl 3 rfl) ?_
        refine lv_iadd hx hb dX7_add_43 ?_
        refine lv_iload_n hx hb dX7_add_44 rfl (lv_at hl 1 rfl) ?_
        obtain ⟨rf_6, q_7, hf⟩ := obd hf
        refine wr_v (n := 2) (As := [.int ((v3 * 16) + v4), .int v2]) (q0 := 0) (wr := [(a0, .inr (7, [.ref a1, .ref a3, .ref a5, .int rco, .int rmo])), (a3, .inr (8, [.ref a4])), (a4, .inl (G.2.1, 5, .inl rw)), (a5, .inr (8, [.ref a6])), (a6, .inl (G.2.1, 5, .inl rp))]) (w2 := fun _ => [(a0, .inr (7, [.ref a1, .ref a3, .ref a5, .int rco, .int rmo])), (a1, .inr (8, [.ref a2])), (a2, .inl (G.2.1, 80, .inl rf_6)), (a3, .inr (8, [.ref a4])), (a4, .inl (G.2.1, 5, .inl rw)), (a5, .inr (8, [.ref a6])), (a6, .inl (G.2.1, 5, .inl rp))]) hx hb hml hown hA (kX8_put l G a1 a2 80 rd ((v3 * 16) + v4) v2 rf_6 q_7 (by decide)) g_X7_54 gd_X8_put ⟨(Nat.le_of_ble_eq_true rfl), (Nat.le_of_ble_eq_true rfl)⟩ hZ hP hD hS hA0 rfl rfl [1, 2] [0, 3, 4, 5, 6] [0, 5, 6, 1, 2, 3, 4] rfl rfl rfl rfl (by decide) (fun _ => rfl) rfl rfl hl.1 (Nat.le_of_ble_eq_true rfl) ⟨(Nat.le_of_ble_eq_true rfl), (Nat.le_of_ble_eq_true rfl)⟩ dX7_add_45 (fun _ H locs hP hD hS => ?_)
        refine W.eq (g2 := F0 m 48 ls []) rfl ?_
        refine lv_iinc (v := v4 + 1) (lv' := [(4, .int (v4 + 1)), (0, .ref a0), (2, .int v2), (3, .int v3)]) hx hb dX7_add_48 hl (k := 3) rfl rfl (by decide) rfl (fun ls hl => ?_)
        refine lv_goto (tgt := 26) hx hb dX7_add_51 (by decide) ?_
        exact ih _ _ _ _ hf _ _ hP hD hS ls (lv_sub hl [1, 2, 3, 0] rfl) kk
  obtain ⟨rd_8, q_9, hf⟩ := obd hf
  refine lp26 _ _ _ _ _ _ _ _ _ _ q_9 _ _ hP hD hS ls (lv_sub hl [2, 4, 1, 0] rfl) (fun H locs ls hP hD hS hl => ?_)
  refine lv_aload_n hx hb dX7_add_54 rfl (lv_at hl 0 rfl) ?_
  refine lv_dup hx hb dX7_add_55 rfl ?_
  refine gf_X7_51 hx hb hown hA hP 0 rfl rfl dX7_add_56 ?_
  refine lv_iconst (v := 1) hx hb dX7_add_59 (by decide) ?_
  refine lv_iadd hx hb dX7_add_60 ?_
  refine pf_X7_51 hx hb hown hA hP hD hS 0 rfl (Nat.le_of_ble_eq_true rfl) dX7_add_61 (fun H locs hP hD hS => ?_)
  have hP : va_P G.1 vwCl [(a0, .inr (7, [.ref a1, .ref a3, .ref a5, .int (rco + 1), .int rmo])), (a1, .inr (8, [.ref a2])), (a2, .inl (G.2.1, 80, .inl rd_8)), (a3, .inr (8, [.ref a4])), (a4, .inl (G.2.1, 5, .inl rf_1)), (a5, .inr (8, [.ref a6])), (a6, .inl (G.2.1, 5, .inl rf_3))] H := hP
  have hD : va_D A [(a0, .inr (7, [.ref a1, .ref a3, .ref a5, .int (rco + 1), .int rmo])), (a1, .inr (8, [.ref a2])), (a2, .inl (G.2.1, 80, .inl rd_8)), (a3, .inr (8, [.ref a4])), (a4, .inl (G.2.1, 5, .inl rf_1)), (a5, .inr (8, [.ref a6])), (a6, .inl (G.2.1, 5, .inl rf_3))] := hD
  refine lv_iload_n hx hb dX7_add_64 rfl (lv_at hl 1 rfl) ?_
  cases hf
  exact wr_iret () hx hb hr hlk hP hD hS dX7_add_65
def fX7_moveUp_L38  (v1 : Int32) : Nat → Int32 → (Nat → Int32) → Option ((Nat → Int32))
  | 0, _, _ => none
  | n9 + 1, v2, rd => (if 16 ≤ v2 then some rd else ((fX7_at rd v1 v2).bind fun r_10 => ((fX8_put 80 rd (((v1 - 1) * 16) + v2) r_10).bind fun rf_12 => fX7_moveUp_L38 v1 n9 (v2 + 1) rf_12)))
def fX7_moveUp (rd : Nat → Int32) (rw : Nat → Int32) (rp : Nat → Int32) (i1 : Int32) : Option ((Nat → Int32) × (Nat → Int32) × (Nat → Int32)) :=
  ((fX8_at 5 rw i1).bind fun r_1 => ((fX8_put 5 rw (i1 - 1) r_1).bind fun rf_3 => ((fX8_at 5 rp i1).bind fun r_5 => ((fX8_put 5 rp (i1 - 1) r_5).bind fun rf_7 => ((fX7_moveUp_L38 i1 2000 0 rd).bind fun rd_14 => some (rd_14, rf_3, rf_7))))))
set_option maxHeartbeats 4000000 in
set_option maxRecDepth 100000 in
theorem kX7_moveUp (l : Launch) (G : GG) (a0 a1 a2 a3 a4 a5 a6 : Nat) (rd : Nat → Int32) (rw : Nat → Int32) (rp : Nat → Int32) (rco : Int32) (rmo : Int32) (i1 : Int32) (rd_0 : Nat → Int32) (rw_0 : Nat → Int32) (rp_0 : Nat → Int32) (hf : fX7_moveUp rd rw rp i1 = some (rd_0, rw_0, rp_0)) : Wr l G yX7_moveUp cX7_moveUp 3 none 2 43 0 0 [.ref a0, .int i1] [(a0, .inr (7, [.ref a1, .ref a3, .ref a5, .int rco, .int rmo])), (a1, .inr (8, [.ref a2])), (a2, .inl (G.2.1, 80, .inl rd)), (a3, .inr (8, [.ref a4])), (a4, .inl (G.2.1, 5, .inl rw)), (a5, .inr (8, [.ref a6])), (a6, .inl (G.2.1, 5, .inl rp))] (X := Unit) (fun _ => [(a0, .inr (7, [.ref a1, .ref a3, .ref a5, .int rco, .int rmo])), (a1, .inr (8, [.ref a2])), (a2, .inl (G.2.1, 80, .inl rd_0)), (a3, .inr (8, [.ref a4])), (a4, .inl (G.2.1, 5, .inl rw_0)), (a5, .inr (8, [.ref a6])), (a6, .inl (G.2.1, 5, .inl rp_0))]) none := by
  refine wr_of (by decide) (Nat.le_of_ble_eq_true rfl) ?_
  intro p e s m args below meth c ls A hx hb hr hml hown hlk hA hZ hP hD hS hA0 hin hl
  have hP : va_P G.1 vwCl [(a0, .inr (7, [.ref a1, .ref a3, .ref a5, .int rco, .int rmo])), (a1, .inr (8, [.ref a2])), (a2, .inl (G.2.1, 80, .inl rd)), (a3, .inr (8, [.ref a4])), (a4, .inl (G.2.1, 5, .inl rw)), (a5, .inr (8, [.ref a6])), (a6, .inl (G.2.1, 5, .inl rp))] s.heap := hP
  replace hown : s.vm.findClass RX7 = some m.cls := hown
  replace hl : lv_has ls 3 [(0, .ref a0), (1, .int i1)] := hl
  unfold fX7_moveUp at hf
  refine lv_aload_n hx hb dX7_moveUp_0 rfl (lv_at hl 0 rfl) ?_
  refine gf_X7_20 hx hb hown hA hP 0 rfl rfl dX7_moveUp_1 ?_
  refine lv_iload_n hx hb dX7_moveUp_4 rfl (lv_at hl 1 rfl) ?_
  refine lv_iconst (v := 1) hx hb dX7_moveUp_5 (by decide) ?_
  refine lv_isub hx hb dX7_moveUp_6 ?_
  refine lv_aload_n hx hb dX7_moveUp_7 rfl (lv_at hl 0 rfl) ?_
  refine gf_X7_20 hx hb hown hA hP 0 rfl rfl dX7_moveUp_8 ?_
  refine lv_iload_n hx hb dX7_moveUp_11 rfl (lv_at hl 1 rfl) ?_
  obtain ⟨r_1, q_2, hf⟩ := obd hf
  refine ro_v (n := 1) (As := [.int i1]) (q0 := 0) hx hb hml hown hA (kX8_at l G a3 a4 5 rw i1 r_1 q_2 (by decide)) g_X7_30 gd_X8_at ⟨(Nat.le_of_ble_eq_true rfl), (Nat.le_of_ble_eq_true rfl)⟩ (hZ.at hS) (hP.sub [3, 4] rfl) rfl rfl rfl hl.1 (Nat.le_of_ble_eq_true rfl) ⟨(Nat.le_of_ble_eq_true rfl), (Nat.le_of_ble_eq_true rfl)⟩ dX7_moveUp_12 ?_
  refine W.eq (g2 := F0 m 15 ls [.int r_1, .int (i1 - 1), .ref a3]) rfl ?_
  obtain ⟨rf_3, q_4, hf⟩ := obd hf
  refine wr_v (n := 2) (As := [.int (i1 - 1), .int r_1]) (q0 := 0) (wr := [(a0, .inr (7, [.ref a1, .ref a3, .ref a5, .int rco, .int rmo])), (a1, .inr (8, [.ref a2])), (a2, .inl (G.2.1, 80, .inl rd)), (a5, .inr (8, [.ref a6])), (a6, .inl (G.2.1, 5, .inl rp))]) (w2 := fun _ => [(a0, .inr (7, [.ref a1, .ref a3, .ref a5, .int rco, .int rmo])), (a1, .inr (8, [.ref a2])), (a2, .inl (G.2.1, 80, .inl rd)), (a3, .inr (8, [.ref a4])), (a4, .inl (G.2.1, 5, .inl rf_3)), (a5, .inr (8, [.ref a6])), (a6, .inl (G.2.1, 5, .inl rp))]) hx hb hml hown hA (kX8_put l G a3 a4 5 rw (i1 - 1) r_1 rf_3 q_4 (by decide)) g_X7_54 gd_X8_put ⟨(Nat.le_of_ble_eq_true rfl), (Nat.le_of_ble_eq_true rfl)⟩ hZ hP hD hS hA0 rfl rfl [3, 4] [0, 1, 2, 5, 6] [0, 1, 2, 5, 6, 3, 4] rfl rfl rfl rfl (by decide) (fun _ => rfl) rfl rfl hl.1 (Nat.le_of_ble_eq_true rfl) ⟨(Nat.le_of_ble_eq_true rfl), (Nat.le_of_ble_eq_true rfl)⟩ dX7_moveUp_15 (fun _ H locs hP hD hS => ?_)
  refine W.eq (g2 := F0 m 18 ls []) rfl ?_
  refine lv_aload_n hx hb dX7_moveUp_18 rfl (lv_at hl 0 rfl) ?_
  refine gf_X7_23 hx hb hown hA hP 0 rfl rfl dX7_moveUp_19 ?_
  refine lv_iload_n hx hb dX7_moveUp_22 rfl (lv_at hl 1 rfl) ?_
  refine lv_iconst (v := 1) hx hb dX7_moveUp_23 (by decide) ?_
  refine lv_isub hx hb dX7_moveUp_24 ?_
  refine lv_aload_n hx hb dX7_moveUp_25 rfl (lv_at hl 0 rfl) ?_
  refine gf_X7_23 hx hb hown hA hP 0 rfl rfl dX7_moveUp_26 ?_
  refine lv_iload_n hx hb dX7_moveUp_29 rfl (lv_at hl 1 rfl) ?_
  obtain ⟨r_5, q_6, hf⟩ := obd hf
  refine ro_v (n := 1) (As := [.int i1]) (q0 := 0) hx hb hml hown hA (kX8_at l G a5 a6 5 rp i1 r_5 q_6 (by decide)) g_X7_30 gd_X8_at ⟨(Nat.le_of_ble_eq_true rfl), (Nat.le_of_ble_eq_true rfl)⟩ (hZ.at hS) (hP.sub [5, 6] rfl) rfl rfl rfl hl.1 (Nat.le_of_ble_eq_true rfl) ⟨(Nat.le_of_ble_eq_true rfl), (Nat.le_of_ble_eq_true rfl)⟩ dX7_moveUp_30 ?_
  refine W.eq (g2 := F0 m 33 ls [.int r_5, .int (i1 - 1), .ref a5]) rfl ?_
  obtain ⟨rf_7, q_8, hf⟩ := obd hf
  refine wr_v (n := 2) (As := [.int (i1 - 1), .int r_5]) (q0 := 0) (wr := [(a0, .inr (7, [.ref a1, .ref a3, .ref a5, .int rco, .int rmo])), (a1, .inr (8, [.ref a2])), (a2, .inl (G.2.1, 80, .inl rd)), (a3, .inr (8, [.ref a4])), (a4, .inl (G.2.1, 5, .inl rf_3))]) (w2 := fun _ => [(a0, .inr (7, [.ref a1, .ref a3, .ref a5, .int rco, .int rmo])), (a1, .inr (8, [.ref a2])), (a2, .inl (G.2.1, 80, .inl rd)), (a3, .inr (8, [.ref a4])), (a4, .inl (G.2.1, 5, .inl rf_3)), (a5, .inr (8, [.ref a6])), (a6, .inl (G.2.1, 5, .inl rf_7))]) hx hb hml hown hA (kX8_put l G a5 a6 5 rp (i1 - 1) r_5 rf_7 q_8 (by decide)) g_X7_54 gd_X8_put ⟨(Nat.le_of_ble_eq_true rfl), (Nat.le_of_ble_eq_true rfl)⟩ hZ hP hD hS hA0 rfl rfl [5, 6] [0, 1, 2, 3, 4] [0, 1, 2, 3, 4, 5, 6] rfl rfl rfl rfl (by decide) (fun _ => rfl) rfl rfl hl.1 (Nat.le_of_ble_eq_true rfl) ⟨(Nat.le_of_ble_eq_true rfl), (Nat.le_of_ble_eq_true rfl)⟩ dX7_moveUp_33 (fun _ H locs hP hD hS => ?_)
  refine W.eq (g2 := F0 m 36 ls []) rfl ?_
  refine lv_iconst (v := 0) hx hb dX7_moveUp_36 (by decide) ?_
  refine lv_istore_n (lv' := [(2, .int 0), (0, .ref a0), (1, .int i1)]) hx hb dX7_moveUp_37 rfl hl (by decide) rfl (fun ls hl => ?_)
  have lp38 : ∀ (v1 : Int32) (rw : Nat → Int32) (rp : Nat → Int32) (n : Nat) (v2 : Int32) (rd : Nat → Int32) (rd_14 : Nat → Int32) (Q : State → Prop), fX7_moveUp_L38 v1 n v2 rd = some rd_14 → ∀ (H : Heap) (locs : List Loc), va_P G.1 vwCl [(a0, .inr (7, [.ref a1, .ref a3, .ref a5, .int rco, .int rmo])), (a1, .inr (8, [.ref a2])), (a2, .inl (G.2.1, 80, .inl rd)), (a3, .inr (8, [.ref a4])), (a4, .inl (G.2.1, 5, .inl rw)), (a5, .inr (8, [.ref a6])), (a6, .inl (G.2.1, 5, .inl rp))] H → va_D A [(a0, .inr (7, [.ref a1, .ref a3, .ref a5, .int rco, .int rmo])), (a1, .inr (8, [.ref a2])), (a2, .inl (G.2.1, 80, .inl rd)), (a3, .inr (8, [.ref a4])), (a4, .inl (G.2.1, 5, .inl rw)), (a5, .inr (8, [.ref a6])), (a6, .inl (G.2.1, 5, .inl rp))] → va_S A s.heap H locs → ∀ (ls : Array Slot), lv_has ls 3 [(0, .ref a0), (1, .int v1), (2, .int v2)] → (∀ (H : Heap) (locs : List Loc) (ls : Array Slot), va_P G.1 vwCl [(a0, .inr (7, [.ref a1, .ref a3, .ref a5, .int rco, .int rmo])), (a1, .inr (8, [.ref a2])), (a2, .inl (G.2.1, 80, .inl rd_14)), (a3, .inr (8, [.ref a4])), (a4, .inl (G.2.1, 5, .inl rw)), (a5, .inr (8, [.ref a6])), (a6, .inl (G.2.1, 5, .inl rp))] H → va_D A [(a0, .inr (7, [.ref a1, .ref a3, .ref a5, .int rco, .int rmo])), (a1, .inr (8, [.ref a2])), (a2, .inl (G.2.1, 80, .inl rd_14)), (a3, .inr (8, [.ref a4])), (a4, .inl (G.2.1, 5, .inl rw)), (a5, .inr (8, [.ref a6])), (a6, .inl (G.2.1, 5, .inl rp))] → va_S A s.heap H locs → lv_has ls 3 [] → W p l e { frames := 2, cells := 0, slots := 0, locals := 43 } s m args below meth c H locs 0 0 Q (F0 m 71 ls [])) → W p l e { frames := 2, cells := 0, slots := 0, locals := 43 } s m args below meth c H locs 0 0 Q (F0 m 38 ls []) := by
    intro v1 rw rp n
    induction n with
    | zero => intro v2 rd rd_14 Q hf; rw [fX7_moveUp_L38] at hf; cases hf
    | succ n ih =>
      intro v2 rd rd_14 Q hf H locs hP hD hS ls hl kk
      rw [fX7_moveUp_L38] at hf
      refine lv_iload_n hx hb dX7_moveUp_38 rfl (lv_at hl 2 rfl) ?_
      refine lv_bipush (v := 16) hx hb dX7_moveUp_39 (by decide) ?_
      refine lv_icmp_ge (tgt := 71) hx hb dX7_moveUp_41 (by decide) (fun c_9 => ?_) (fun c_9 => ?_)
      · replace hf := ifp c_9 hf
        cases hf
        exact kk _ _ ls hP hD hS (lv_sub hl [] rfl)
      · replace hf := ifn c_9 hf
        refine lv_aload_n hx hb dX7_moveUp_44 rfl (lv_at hl 0 rfl) ?_
        refine gf_X7_14 hx hb hown hA hP 0 rfl rfl dX7_moveUp_45 ?_
        refine lv_iload_n hx hb dX7_moveUp_48 rfl (lv_at hl 1 rfl) ?_
        refine lv_iconst (v := 1) hx hb dX7_moveUp_49 (by decide) ?_
        refine lv_isub hx hb dX7_moveUp_50 ?_
        refine lv_bipush (v := 16) hx hb dX7_moveUp_51 (by decide) ?_
        refine lv_imul hx hb dX7_moveUp_53 ?_
        refine lv_iload_n hx hb dX7_moveUp_54 rfl (lv_at hl 2 rfl) ?_
        refine lv_iadd hx hb dX7_moveUp_55 ?_
        refine lv_aload_n hx hb dX7_moveUp_56 rfl (lv_at hl 0 rfl) ?_
        refine lv_iload_n hx hb dX7_moveUp_57 rfl (lv_at hl 1 rfl) ?_
        refine lv_iload_n hx hb dX7_moveUp_58 rfl (lv_at hl 2 rfl) ?_
        obtain ⟨r_10, q_11, hf⟩ := obd hf
        refine ro_v (n := 2) (As := [.int v1, .int v2]) (q0 := 0) hx hb hml hown hA (kX7_at l G a0 a1 a2 a3 a4 a5 a6 rd rw rp rco rmo v1 v2 r_10 q_11) g_X7_38 gd_X7_at ⟨(Nat.le_of_ble_eq_true rfl), (Nat.le_of_ble_eq_true rfl)⟩ (hZ.at hS) (hP.sub [0, 1, 2, 3, 4, 5, 6] rfl) rfl rfl rfl hl.1 (Nat.le_of_ble_eq_true rfl) ⟨(Nat.le_of_ble_eq_true rfl), (Nat.le_of_ble_eq_true rfl)⟩ dX7_moveUp_59 ?_
        refine W.eq (g2 := F0 m 62 ls [.int r_10, .int (((v1 - 1) * 16) + v2), .ref a1]) rfl ?_
        obtain ⟨rf_12, q_13, hf⟩ := obd hf
        refine wr_v (n := 2) (As := [.int (((v1 - 1) * 16) + v2), .int r_10]) (q0 := 0) (wr := [(a0, .inr (7, [.ref a1, .ref a3, .ref a5, .int rco, .int rmo])), (a3, .inr (8, [.ref a4])), (a4, .inl (G.2.1, 5, .inl rw)), (a5, .inr (8, [.ref a6])), (a6, .inl (G.2.1, 5, .inl rp))]) (w2 := fun _ => [(a0, .inr (7, [.ref a1, .ref a3, .ref a5, .int rco, .int rmo])), (a1, .inr (8, [.ref a2])), (a2, .inl (G.2.1, 80, .inl rf_12)), (a3, .inr (8, [.ref a4])), (a4, .inl (G.2.1, 5, .inl rw)), (a5, .inr (8, [.ref a6])), (a6, .inl (G.2.1, 5, .inl rp))]) hx hb hml hown hA (kX8_put l G a1 a2 80 rd (((v1 - 1) * 16) + v2) r_10 rf_12 q_13 (by decide)) g_X7_54 gd_X8_put ⟨(Nat.le_of_ble_eq_true rfl), (Nat.le_of_ble_eq_true rfl)⟩ hZ hP hD hS hA0 rfl rfl [1, 2] [0, 3, 4, 5, 6] [0, 5, 6, 1, 2, 3, 4] rfl rfl rfl rfl (by decide) (fun _ => rfl) rfl rfl hl.1 (Nat.le_of_ble_eq_true rfl) ⟨(Nat.le_of_ble_eq_true rfl), (Nat.le_of_ble_eq_true rfl)⟩ dX7_moveUp_62 (fun _ H locs hP hD hS => ?_)
        refine W.eq (g2 := F0 m 65 ls []) rfl ?_
        refine lv_iinc (v := v2 + 1) (lv' := [(2, .int (v2 + 1)), (0, .ref a0), (1, .int v1)]) hx hb dX7_moveUp_65 hl (k := 2) rfl rfl (by decide) rfl (fun ls hl => ?_)
        refine lv_goto (tgt := 38) hx hb dX7_moveUp_68 (by decide) ?_
        exact ih _ _ _ _ hf _ _ hP hD hS ls (lv_sub hl [1, 2, 0] rfl) kk
  obtain ⟨rd_14, q_15, hf⟩ := obd hf
  refine lp38 _ _ _ _ _ _ _ _ q_15 _ _ hP hD hS ls (lv_sub hl [1, 2, 0] rfl) (fun H locs ls hP hD hS hl => ?_)
  cases hf
  exact wr_vret () hx hb hr hlk hP hD hS dX7_moveUp_71
def fX7_drop_L4 (rco : Int32)  : Nat → Int32 → (Nat → Int32) → (Nat → Int32) → (Nat → Int32) → Option ((Nat → Int32) × (Nat → Int32) × (Nat → Int32))
  | 0, _, _, _, _ => none
  | n9 + 1, v2, rd, rw, rp => (if rco ≤ v2 then some (rd, rw, rp) else ((fX7_moveUp rd rw rp v2).bind fun (rd_2, rw_3, rp_4) => fX7_drop_L4 rco n9 (v2 + 1) rd_2 rw_3 rp_4))
def fX7_drop (rd : Nat → Int32) (rw : Nat → Int32) (rp : Nat → Int32) (rco : Int32) (rmo : Int32) (i1 : Int32) : Option ((Nat → Int32) × (Nat → Int32) × (Nat → Int32) × Int32 × Int32) :=
  ((fX7_drop_L4 rco 2000 (i1 + 1) rd rw rp).bind fun (rd_6, rw_7, rp_8) => (if rmo ≤ i1 then some (rd_6, rw_7, rp_8, rco - 1, rmo) else some (rd_6, rw_7, rp_8, rco - 1, rmo - 1)))
set_option maxHeartbeats 4000000 in
set_option maxRecDepth 100000 in
theorem kX7_drop (l : Launch) (G : GG) (a0 a1 a2 a3 a4 a5 a6 : Nat) (rd : Nat → Int32) (rw : Nat → Int32) (rp : Nat → Int32) (rco : Int32) (rmo : Int32) (i1 : Int32) (rd_0 : Nat → Int32) (rw_0 : Nat → Int32) (rp_0 : Nat → Int32) (rco_0 : Int32) (rmo_0 : Int32) (hf : fX7_drop rd rw rp rco rmo i1 = some (rd_0, rw_0, rp_0, rco_0, rmo_0)) : Wr l G yX7_drop cX7_drop 3 none 3 65 0 0 [.ref a0, .int i1] [(a0, .inr (7, [.ref a1, .ref a3, .ref a5, .int rco, .int rmo])), (a1, .inr (8, [.ref a2])), (a2, .inl (G.2.1, 80, .inl rd)), (a3, .inr (8, [.ref a4])), (a4, .inl (G.2.1, 5, .inl rw)), (a5, .inr (8, [.ref a6])), (a6, .inl (G.2.1, 5, .inl rp))] (X := Unit) (fun _ => [(a0, .inr (7, [.ref a1, .ref a3, .ref a5, .int rco_0, .int rmo_0])), (a1, .inr (8, [.ref a2])), (a2, .inl (G.2.1, 80, .inl rd_0)), (a3, .inr (8, [.ref a4])), (a4, .inl (G.2.1, 5, .inl rw_0)), (a5, .inr (8, [.ref a6])), (a6, .inl (G.2.1, 5, .inl rp_0))]) none := by
  refine wr_of (by decide) (Nat.le_of_ble_eq_true rfl) ?_
  intro p e s m args below meth c ls A hx hb hr hml hown hlk hA hZ hP hD hS hA0 hin hl
  have hP : va_P G.1 vwCl [(a0, .inr (7, [.ref a1, .ref a3, .ref a5, .int rco, .int rmo])), (a1, .inr (8, [.ref a2])), (a2, .inl (G.2.1, 80, .inl rd)), (a3, .inr (8, [.ref a4])), (a4, .inl (G.2.1, 5, .inl rw)), (a5, .inr (8, [.ref a6])), (a6, .inl (G.2.1, 5, .inl rp))] s.heap := hP
  replace hown : s.vm.findClass RX7 = some m.cls := hown
  replace hl : lv_has ls 3 [(0, .ref a0), (1, .int i1)] := hl
  unfold fX7_drop at hf
  refine lv_iload_n hx hb dX7_drop_0 rfl (lv_at hl 1 rfl) ?_
  refine lv_iconst (v := 1) hx hb dX7_drop_1 (by decide) ?_
  refine lv_iadd hx hb dX7_drop_2 ?_
  refine lv_istore_n (lv' := [(2, .int (i1 + 1)), (0, .ref a0), (1, .int i1)]) hx hb dX7_drop_3 rfl hl (by decide) rfl (fun ls hl => ?_)
  have lp4 : ∀ (v1 : Int32) (rco : Int32) (rmo : Int32) (n : Nat) (v2 : Int32) (rd : Nat → Int32) (rw : Nat → Int32) (rp : Nat → Int32) (rd_6 : Nat → Int32) (rw_7 : Nat → Int32) (rp_8 : Nat → Int32) (Q : State → Prop), fX7_drop_L4 rco n v2 rd rw rp = some (rd_6, rw_7, rp_8) → ∀ (H : Heap) (locs : List Loc), va_P G.1 vwCl [(a0, .inr (7, [.ref a1, .ref a3, .ref a5, .int rco, .int rmo])), (a1, .inr (8, [.ref a2])), (a2, .inl (G.2.1, 80, .inl rd)), (a3, .inr (8, [.ref a4])), (a4, .inl (G.2.1, 5, .inl rw)), (a5, .inr (8, [.ref a6])), (a6, .inl (G.2.1, 5, .inl rp))] H → va_D A [(a0, .inr (7, [.ref a1, .ref a3, .ref a5, .int rco, .int rmo])), (a1, .inr (8, [.ref a2])), (a2, .inl (G.2.1, 80, .inl rd)), (a3, .inr (8, [.ref a4])), (a4, .inl (G.2.1, 5, .inl rw)), (a5, .inr (8, [.ref a6])), (a6, .inl (G.2.1, 5, .inl rp))] → va_S A s.heap H locs → ∀ (ls : Array Slot), lv_has ls 3 [(0, .ref a0), (1, .int v1), (2, .int v2)] → (∀ (H : Heap) (locs : List Loc) (ls : Array Slot), va_P G.1 vwCl [(a0, .inr (7, [.ref a1, .ref a3, .ref a5, .int rco, .int rmo])), (a1, .inr (8, [.ref a2])), (a2, .inl (G.2.1, 80, .inl rd_6)), (a3, .inr (8, [.ref a4])), (a4, .inl (G.2.1, 5, .inl rw_7)), (a5, .inr (8, [.ref a6])), (a6, .inl (G.2.1, 5, .inl rp_8))] H → va_D A [(a0, .inr (7, [.ref a1, .ref a3, .ref a5, .int rco, .int rmo])), (a1, .inr (8, [.ref a2])), (a2, .inl (G.2.1, 80, .inl rd_6)), (a3, .inr (8, [.ref a4])), (a4, .inl (G.2.1, 5, .inl rw_7)), (a5, .inr (8, [.ref a6])), (a6, .inl (G.2.1, 5, .inl rp_8))] → va_S A s.heap H locs → lv_has ls 3 [(0, .ref a0), (1, .int v1)] → W p l e { frames := 3, cells := 0, slots := 0, locals := 65 } s m args below meth c H locs 0 0 Q (F0 m 23 ls [])) → W p l e { frames := 3, cells := 0, slots := 0, locals := 65 } s m args below meth c H locs 0 0 Q (F0 m 4 ls []) := by
    intro v1 rco rmo n
    induction n with
    | zero => intro v2 rd rw rp rd_6 rw_7 rp_8 Q hf; rw [fX7_drop_L4] at hf; cases hf
    | succ n ih =>
      intro v2 rd rw rp rd_6 rw_7 rp_8 Q hf H locs hP hD hS ls hl kk
      rw [fX7_drop_L4] at hf
      refine lv_iload_n hx hb dX7_drop_4 rfl (lv_at hl 2 rfl) ?_
      refine lv_aload_n hx hb dX7_drop_5 rfl (lv_at hl 0 rfl) ?_
      refine gf_X7_51 hx hb hown hA hP 0 rfl rfl dX7_drop_6 ?_
      refine lv_icmp_ge (tgt := 23) hx hb dX7_drop_9 (by decide) (fun c_1 => ?_) (fun c_1 => ?_)
      · replace hf := ifp c_1 hf
        cases hf
        exact kk _ _ ls hP hD hS (lv_sub hl [0, 1] rfl)
      · replace hf := ifn c_1 hf
        refine lv_aload_n hx hb dX7_drop_12 rfl (lv_at hl 0 rfl) ?_
        refine lv_iload_n hx hb dX7_drop_13 rfl (lv_at hl 2 rfl) ?_
        obtain ⟨⟨rd_2, rw_3, rp_4⟩, q_5, hf⟩ := obd hf
        dsimp only at hf
        refine wr_v (n := 1) (As := [.int v2]) (q0 := 0) (wr := []) (w2 := fun _ => [(a0, .inr (7, [.ref a1, .ref a3, .ref a5, .int rco, .int rmo])), (a1, .inr (8, [.ref a2])), (a2, .inl (G.2.1, 80, .inl rd_2)), (a3, .inr (8, [.ref a4])), (a4, .inl (G.2.1, 5, .inl rw_3)), (a5, .inr (8, [.ref a6])), (a6, .inl (G.2.1, 5, .inl rp_4))]) hx hb hml hown hA (kX7_moveUp l G a0 a1 a2 a3 a4 a5 a6 rd rw rp rco rmo v2 rd_2 rw_3 rp_4 q_5) g_X7_57 gd_X7_moveUp ⟨(Nat.le_of_ble_eq_true rfl), (Nat.le_of_ble_eq_true rfl)⟩ hZ hP hD hS hA0 rfl rfl [0, 1, 2, 3, 4, 5, 6] [] [0, 1, 2, 3, 4, 5, 6] rfl rfl rfl rfl (by decide) (fun _ => rfl) rfl rfl hl.1 (Nat.le_of_ble_eq_true rfl) ⟨(Nat.le_of_ble_eq_true rfl), (Nat.le_of_ble_eq_true rfl)⟩ dX7_drop_14 (fun _ H locs hP hD hS => ?_)
        refine W.eq (g2 := F0 m 17 ls []) rfl ?_
        refine lv_iinc (v := v2 + 1) (lv' := [(2, .int (v2 + 1)), (0, .ref a0), (1, .int v1)]) hx hb dX7_drop_17 hl (k := 2) rfl rfl (by decide) rfl (fun ls hl => ?_)
        refine lv_goto (tgt := 4) hx hb dX7_drop_20 (by decide) ?_
        exact ih _ _ _ _ _ _ _ _ hf _ _ hP hD hS ls (lv_sub hl [1, 2, 0] rfl) kk
  obtain ⟨⟨rd_6, rw_7, rp_8⟩, q_9, hf⟩ := obd hf
  dsimp only at hf
  refine lp4 _ _ _ _ _ _ _ _ _ _ _ _ q_9 _ _ hP hD hS ls (lv_sub hl [1, 2, 0] rfl) (fun H locs ls hP hD hS hl => ?_)
  refine lv_aload_n hx hb dX7_drop_23 rfl (lv_at hl 0 rfl) ?_
  refine lv_dup hx hb dX7_drop_24 rfl ?_
  refine gf_X7_51 hx hb hown hA hP 0 rfl rfl dX7_drop_25 ?_
  refine lv_iconst (v := 1) hx hb dX7_drop_28 (by decide) ?_
  refine lv_isub hx hb dX7_drop_29 ?_
  refine pf_X7_51 hx hb hown hA hP hD hS 0 rfl (Nat.le_of_ble_eq_true rfl) dX7_drop_30 (fun H locs hP hD hS => ?_)
  have hP : va_P G.1 vwCl [(a0, .inr (7, [.ref a1, .ref a3, .ref a5, .int (rco - 1), .int rmo])), (a1, .inr (8, [.ref a2])), (a2, .inl (G.2.1, 80, .inl rd_6)), (a3, .inr (8, [.ref a4])), (a4, .inl (G.2.1, 5, .inl rw_7)), (a5, .inr (8, [.ref a6])), (a6, .inl (G.2.1, 5, .inl rp_8))] H := hP
  have hD : va_D A [(a0, .inr (7, [.ref a1, .ref a3, .ref a5, .int (rco - 1), .int rmo])), (a1, .inr (8, [.ref a2])), (a2, .inl (G.2.1, 80, .inl rd_6)), (a3, .inr (8, [.ref a4])), (a4, .inl (G.2.1, 5, .inl rw_7)), (a5, .inr (8, [.ref a6])), (a6, .inl (G.2.1, 5, .inl rp_8))] := hD
  refine lv_aload_n hx hb dX7_drop_33 rfl (lv_at hl 0 rfl) ?_
  refine gf_X7_26 hx hb hown hA hP 0 rfl rfl dX7_drop_34 ?_
  refine lv_iload_n hx hb dX7_drop_37 rfl (lv_at hl 1 rfl) ?_
  refine lv_icmp_le (tgt := 51) hx hb dX7_drop_38 (by decide) (fun c_10 => ?_) (fun c_10 => ?_)
  · replace hf := ifp c_10 hf
    cases hf
    exact wr_vret () hx hb hr hlk hP hD hS dX7_drop_51
  · replace hf := ifn c_10 hf
    refine lv_aload_n hx hb dX7_drop_41 rfl (lv_at hl 0 rfl) ?_
    refine lv_dup hx hb dX7_drop_42 rfl ?_
    refine gf_X7_26 hx hb hown hA hP 0 rfl rfl dX7_drop_43 ?_
    refine lv_iconst (v := 1) hx hb dX7_drop_46 (by decide) ?_
    refine lv_isub hx hb dX7_drop_47 ?_
    refine pf_X7_26 hx hb hown hA hP hD hS 0 rfl (Nat.le_of_ble_eq_true rfl) dX7_drop_48 (fun H locs hP hD hS => ?_)
    have hP : va_P G.1 vwCl [(a0, .inr (7, [.ref a1, .ref a3, .ref a5, .int (rco - 1), .int (rmo - 1)])), (a1, .inr (8, [.ref a2])), (a2, .inl (G.2.1, 80, .inl rd_6)), (a3, .inr (8, [.ref a4])), (a4, .inl (G.2.1, 5, .inl rw_7)), (a5, .inr (8, [.ref a6])), (a6, .inl (G.2.1, 5, .inl rp_8))] H := hP
    have hD : va_D A [(a0, .inr (7, [.ref a1, .ref a3, .ref a5, .int (rco - 1), .int (rmo - 1)])), (a1, .inr (8, [.ref a2])), (a2, .inl (G.2.1, 80, .inl rd_6)), (a3, .inr (8, [.ref a4])), (a4, .inl (G.2.1, 5, .inl rw_7)), (a5, .inr (8, [.ref a6])), (a6, .inl (G.2.1, 5, .inl rp_8))] := hD
    cases hf
    exact wr_vret () hx hb hr hlk hP hD hS dX7_drop_51
def fX8_greatest_L4 (ln : Nat) (rf : Nat → Int32)  : Nat → Int32 → Int32 → Option (Int32)
  | 0, _, _ => none
  | n9 + 1, v1, v2 => (if (Int32.ofNat ln) ≤ v2 then some v1 else (if ¬ (v2 < 0 ∨ ln ≤ v2.toNatClampNeg) then fX8_greatest_L4 ln rf n9 (mxI v1 (rf v2.toNatClampNeg)) (v2 + 1) else none))
def fX8_greatest (ln : Nat) (rf : Nat → Int32)  : Option (Int32) :=
  ((fX8_greatest_L4 ln rf 2000 0 0).bind fun x1_3 => some x1_3)
set_option maxHeartbeats 4000000 in
set_option maxRecDepth 100000 in
theorem kX8_greatest (l : Launch) (G : GG) (a0 a1 : Nat) (ln : Nat) (rf : Nat → Int32)  (r_0 : Int32) (hf : fX8_greatest ln rf = some r_0) (hln : ln < 2147483648) : Ro l G yX8_greatest cX8_greatest 3 (some .int) 1 13 [.ref a0] [(a0, .inr (8, [.ref a1])), (a1, .inl (G.2.1, ln, .inl rf))] (some (.int r_0)) := by
  refine ro_of (by decide) (Nat.le_of_ble_eq_true rfl) ?_
  intro p e s m args below meth c ls hx hb hr hml hown hlk hA hZ hP hl
  replace hown : s.vm.findClass RX8 = some m.cls := hown
  replace hl : lv_has ls 3 [(0, .ref a0)] := hl
  unfold fX8_greatest at hf
  refine lv_iconst (v := 0) hx hb dX8_greatest_0 (by decide) ?_
  refine lv_istore_n (lv' := [(1, .int 0), (0, .ref a0)]) hx hb dX8_greatest_1 rfl hl (by decide) rfl (fun ls hl => ?_)
  refine lv_iconst (v := 0) hx hb dX8_greatest_2 (by decide) ?_
  refine lv_istore_n (lv' := [(2, .int 0), (1, .int 0), (0, .ref a0)]) hx hb dX8_greatest_3 rfl hl (by decide) rfl (fun ls hl => ?_)
  have lp4 : ∀   (n : Nat) (v1 : Int32) (v2 : Int32)  (x1_3 : Int32) (Q : State → Prop), fX8_greatest_L4 ln rf n v1 v2 = some x1_3 → ∀ (ls : Array Slot), lv_has ls 3 [(0, .ref a0), (1, .int v1), (2, .int v2)] → (∀ (ls : Array Slot), lv_has ls 3 [(1, .int x1_3)] → W p l e { frames := 1, cells := 0, slots := 0, locals := 13 } s m args below meth c s.heap [] 0 0 Q (F0 m 30 ls [])) → W p l e { frames := 1, cells := 0, slots := 0, locals := 13 } s m args below meth c s.heap [] 0 0 Q (F0 m 4 ls []) := by
    intro  n
    induction n with
    | zero => intro v1 v2 x1_3 Q hf; rw [fX8_greatest_L4] at hf; cases hf
    | succ n ih =>
      intro v1 v2 x1_3 Q hf ls hl kk
      rw [fX8_greatest_L4] at hf
      refine lv_iload_n hx hb dX8_greatest_4 rfl (lv_at hl 2 rfl) ?_
      refine lv_aload_n hx hb dX8_greatest_5 rfl (lv_at hl 0 rfl) ?_
      refine gf_X8_13 hx hb hown hA hP 0 rfl rfl dX8_greatest_6 ?_
      refine va_alen hx hb hA.K hP 1 0 rfl rfl (v := Int32.ofNat ln) rfl dX8_greatest_9 ?_
      refine lv_icmp_ge (tgt := 30) hx hb dX8_greatest_10 (by decide) (fun c_1 => ?_) (fun c_1 => ?_)
      · replace hf := ifp c_1 hf
        cases hf
        exact kk ls (lv_sub hl [1] rfl)
      · replace hf := ifn c_1 hf
        refine lv_iload_n hx hb dX8_greatest_13 rfl (lv_at hl 1 rfl) ?_
        refine lv_aload_n hx hb dX8_greatest_14 rfl (lv_at hl 0 rfl) ?_
        refine gf_X8_13 hx hb hown hA hP 0 rfl rfl dX8_greatest_15 ?_
        refine lv_iload_n hx hb dX8_greatest_18 rfl (lv_at hl 2 rfl) ?_
        obtain ⟨z_2, hf⟩ := ock hf
        refine va_iald hx hb hA.K hP 1 0 rfl rfl z_2 dX8_greatest_19 ?_
        refine va_mmax hx hb (hml.trans hl.1.symm) hown (hA.hts _ wd_52) (hA.hts _ wd_23) (hA.hts _ wd_24) (hA.hts _ wd_25) (Nat.le_of_ble_eq_true rfl) (Nat.le_of_ble_eq_true rfl) (Nat.le_of_ble_eq_true rfl) (Nat.le_of_ble_eq_true rfl) dX8_greatest_20 ?_
        refine lv_istore_n (lv' := [(1, .int (mxI v1 (rf v2.toNatClampNeg))), (0, .ref a0), (2, .int v2)]) hx hb dX8_greatest_23 rfl hl (by decide) rfl (fun ls hl => ?_)
        refine lv_iinc (v := v2 + 1) (lv' := [(2, .int (v2 + 1)), (1, .int (mxI v1 (rf v2.toNatClampNeg))), (0, .ref a0)]) hx hb dX8_greatest_24 hl (k := 2) rfl rfl (by decide) rfl (fun ls hl => ?_)
        refine lv_goto (tgt := 4) hx hb dX8_greatest_27 (by decide) ?_
        exact ih _ _ _ _ hf ls (lv_sub hl [2, 1, 0] rfl) kk
  obtain ⟨x1_3, q_4, hf⟩ := obd hf
  refine lp4 _ _ _ _ _ q_4 ls (lv_sub hl [2, 1, 0] rfl) (fun ls hl => ?_)
  refine lv_iload_n hx hb dX8_greatest_30 rfl (lv_at hl 0 rfl) ?_
  cases hf
  exact ro_iret hx hb hr hlk dX8_greatest_31
