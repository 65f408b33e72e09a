
section GEN
variable {p : Program} {l : Launch} {e : Env} {R : Room} {s : State} {m : MethodId} {args : Array Value} {below : List Frame} {meth : Method} {c : Code} {H : Heap} {locs : List Loc} {cells slots : Nat} {Q : State → Prop} {G : GG} {cc : ByteArray} {pc a : Nat} {rest fs : List Value} {w : va_W} {ls : Array Slot} {A : Nat → Prop} {H0 : Heap}
theorem gf_X3_24 (hx : p.tables.exec = Jvm.exec) (hb : c.code = cc) (hown : s.vm.findClass RX3 = some m.cls) (hA : Am G s) (hP : va_P G.1 vwCl w H) (q0 : Nat) (he : w[q0]? = some (a, .inr (3, fs))) {v : Value} (hv : fs[2]? = some v) (hdg : decode cc pc = .ok (.getfield 24, 3)) (kk : W p l e R s m args below meth c H locs cells slots Q (F0 m (pc + 3) ls (v :: rest))) : W p l e R s m args below meth c H locs cells slots Q (F0 m pc ls (.ref a :: rest)) :=
  va_get (D := G.1) (ci := 3) (C := RX3) (T := TX3) (N := 4) hx hb hA.hts wdx_3 hown hA.K hP q0 he rfl 2 (by decide) (hA.hts _ wd_45) (fun _ h9 => h9) hv hdg kk
theorem gf_X3_20 (hx : p.tables.exec = Jvm.exec) (hb : c.code = cc) (hown : s.vm.findClass RX3 = some m.cls) (hA : Am G s) (hP : va_P G.1 vwCl w H) (q0 : Nat) (he : w[q0]? = some (a, .inr (3, fs))) {v : Value} (hv : fs[3]? = some v) (hdg : decode cc pc = .ok (.getfield 20, 3)) (kk : W p l e R s m args below meth c H locs cells slots Q (F0 m (pc + 3) ls (v :: rest))) : W p l e R s m args below meth c H locs cells slots Q (F0 m pc ls (.ref a :: rest)) :=
  va_get (D := G.1) (ci := 3) (C := RX3) (T := TX3) (N := 4) hx hb hA.hts wdx_3 hown hA.K hP q0 he rfl 3 (by decide) (hA.hts _ wd_46) (fun _ h9 => h9) hv hdg kk
theorem gf_X9_19 (hx : p.tables.exec = Jvm.exec) (hb : c.code = cc) (hown : s.vm.findClass RX9 = some m.cls) (hA : Am G s) (hP : va_P G.1 vwCl w H) (q0 : Nat) (he : w[q0]? = some (a, .inr (9, fs))) {v : Value} (hv : fs[1]? = some v) (hdg : decode cc pc = .ok (.getfield 19, 3)) (kk : W p l e R s m args below meth c H locs cells slots Q (F0 m (pc + 3) ls (v :: rest))) : W p l e R s m args below meth c H locs cells slots Q (F0 m pc ls (.ref a :: rest)) :=
  va_get (D := G.1) (ci := 9) (C := RX9) (T := TX9) (N := 5) hx hb hA.hts wdx_9 hown hA.K hP q0 he rfl 1 (by decide) (hA.hts _ wd_252) (fun _ h9 => h9) hv hdg kk
theorem gf_X9_224 (hx : p.tables.exec = Jvm.exec) (hb : c.code = cc) (hown : s.vm.findClass RX9 = some m.cls) (hA : Am G s) (hP : va_P G.1 vwCl w H) (q0 : Nat) (he : w[q0]? = some (a, .inr (3, fs))) {v : Value} (hv : fs[3]? = some v) (hdg : decode cc pc = .ok (.getfield 224, 3)) (kk : W p l e R s m args below meth c H locs cells slots Q (F0 m (pc + 3) ls (v :: rest))) : W p l e R s m args below meth c H locs cells slots Q (F0 m pc ls (.ref a :: rest)) :=
  va_getN (D := G.1) (ci := 3) (C := RX3) (T := TX3) (N := 4) hx hb hA.hts wdx_3 hown hA.K hP q0 he rfl 3 (by decide) (hA.nf ("LatheCopies", 224, "LatheCopies$History", "count", "I") nf_34) (fun _ h9 => h9) hv hdg kk
theorem gf_X9_10 (hx : p.tables.exec = Jvm.exec) (hb : c.code = cc) (hown : s.vm.findClass RX9 = some m.cls) (hA : Am G s) (hP : va_P G.1 vwCl w H) (q0 : Nat) (he : w[q0]? = some (a, .inr (9, fs))) {v : Value} (hv : fs[0]? = some v) (hdg : decode cc pc = .ok (.getfield 10, 3)) (kk : W p l e R s m args below meth c H locs cells slots Q (F0 m (pc + 3) ls (v :: rest))) : W p l e R s m args below meth c H locs cells slots Q (F0 m pc ls (.ref a :: rest)) :=
  va_get (D := G.1) (ci := 9) (C := RX9) (T := TX9) (N := 5) hx hb hA.hts wdx_9 hown hA.K hP q0 he rfl 0 (by decide) (hA.hts _ wd_249) (fun _ h9 => h9) hv hdg kk
theorem gf_X9_56 (hx : p.tables.exec = Jvm.exec) (hb : c.code = cc) (hown : s.vm.findClass RX9 = some m.cls) (hA : Am G s) (hP : va_P G.1 vwCl w H) (q0 : Nat) (he : w[q0]? = some (a, .inr (4, fs))) {v : Value} (hv : fs[0]? = some v) (hdg : decode cc pc = .ok (.getfield 56, 3)) (kk : W p l e R s m args below meth c H locs cells slots Q (F0 m (pc + 3) ls (v :: rest))) : W p l e R s m args below meth c H locs cells slots Q (F0 m pc ls (.ref a :: rest)) :=
  va_getN (D := G.1) (ci := 4) (C := RX4) (T := TX4) (N := 8) hx hb hA.hts wdx_4 hown hA.K hP q0 he rfl 0 (by decide) (hA.nf ("LatheCopies", 56, "LatheCopies$Lathe", "masters", "LLatheCopies$Masters;") nf_26) (fun _ h9 => h9) hv hdg kk
theorem gf_X9_76 (hx : p.tables.exec = Jvm.exec) (hb : c.code = cc) (hown : s.vm.findClass RX9 = some m.cls) (hA : Am G s) (hP : va_P G.1 vwCl w H) (q0 : Nat) (he : w[q0]? = some (a, .inr (6, fs))) {v : Value} (hv : fs[1]? = some v) (hdg : decode cc pc = .ok (.getfield 76, 3)) (kk : W p l e R s m args below meth c H locs cells slots Q (F0 m (pc + 3) ls (v :: rest))) : W p l e R s m args below meth c H locs cells slots Q (F0 m pc ls (.ref a :: rest)) :=
  va_getN (D := G.1) (ci := 6) (C := RX6) (T := TX6) (N := 2) hx hb hA.hts wdx_6 hown hA.K hP q0 he rfl 1 (by decide) (hA.nf ("LatheCopies", 76, "LatheCopies$Masters", "chosen", "I") nf_1) (fun _ h9 => h9) hv hdg kk
theorem gf_X9_80 (hx : p.tables.exec = Jvm.exec) (hb : c.code = cc) (hown : s.vm.findClass RX9 = some m.cls) (hA : Am G s) (hP : va_P G.1 vwCl w H) (q0 : Nat) (he : w[q0]? = some (a, .inr (4, fs))) {v : Value} (hv : fs[1]? = some v) (hdg : decode cc pc = .ok (.getfield 80, 3)) (kk : W p l e R s m args below meth c H locs cells slots Q (F0 m (pc + 3) ls (v :: rest))) : W p l e R s m args below meth c H locs cells slots Q (F0 m pc ls (.ref a :: rest)) :=
  va_getN (D := G.1) (ci := 4) (C := RX4) (T := TX4) (N := 8) hx hb hA.hts wdx_4 hown hA.K hP q0 he rfl 1 (by decide) (hA.nf ("LatheCopies", 80, "LatheCopies$Lathe", "follower", "LLatheCopies$Follower;") nf_27) (fun _ h9 => h9) hv hdg kk
theorem gf_X9_228 (hx : p.tables.exec = Jvm.exec) (hb : c.code = cc) (hown : s.vm.findClass RX9 = some m.cls) (hA : Am G s) (hP : va_P G.1 vwCl w H) (q0 : Nat) (he : w[q0]? = some (a, .inr (2, fs))) {v : Value} (hv : fs[0]? = some v) (hdg : decode cc pc = .ok (.getfield 228, 3)) (kk : W p l e R s m args below meth c H locs cells slots Q (F0 m (pc + 3) ls (v :: rest))) : W p l e R s m args below meth c H locs cells slots Q (F0 m pc ls (.ref a :: rest)) :=
  va_getN (D := G.1) (ci := 2) (C := RX2) (T := TX2) (N := 4) hx hb hA.hts wdx_2 hown hA.K hP q0 he rfl 0 (by decide) (hA.nf ("LatheCopies", 228, "LatheCopies$Follower", "radius", "I") nf_3) (fun _ h9 => h9) hv hdg kk
theorem gf_X9_84 (hx : p.tables.exec = Jvm.exec) (hb : c.code = cc) (hown : s.vm.findClass RX9 = some m.cls) (hA : Am G s) (hP : va_P G.1 vwCl w H) (q0 : Nat) (he : w[q0]? = some (a, .inr (2, fs))) {v : Value} (hv : fs[1]? = some v) (hdg : decode cc pc = .ok (.getfield 84, 3)) (kk : W p l e R s m args below meth c H locs cells slots Q (F0 m (pc + 3) ls (v :: rest))) : W p l e R s m args below meth c H locs cells slots Q (F0 m pc ls (.ref a :: rest)) :=
  va_getN (D := G.1) (ci := 2) (C := RX2) (T := TX2) (N := 4) hx hb hA.hts wdx_2 hown hA.K hP q0 he rfl 1 (by decide) (hA.nf ("LatheCopies", 84, "LatheCopies$Follower", "wear", "I") nf_5) (fun _ h9 => h9) hv hdg kk
theorem gf_X9_92 (hx : p.tables.exec = Jvm.exec) (hb : c.code = cc) (hown : s.vm.findClass RX9 = some m.cls) (hA : Am G s) (hP : va_P G.1 vwCl w H) (q0 : Nat) (he : w[q0]? = some (a, .inr (2, fs))) {v : Value} (hv : fs[2]? = some v) (hdg : decode cc pc = .ok (.getfield 92, 3)) (kk : W p l e R s m args below meth c H locs cells slots Q (F0 m (pc + 3) ls (v :: rest))) : W p l e R s m args below meth c H locs cells slots Q (F0 m pc ls (.ref a :: rest)) :=
  va_getN (D := G.1) (ci := 2) (C := RX2) (T := TX2) (N := 4) hx hb hA.hts wdx_2 hown hA.K hP q0 he rfl 2 (by decide) (hA.nf ("LatheCopies", 92, "LatheCopies$Follower", "offset", "I") nf_7) (fun _ h9 => h9) hv hdg kk
theorem gf_X9_95 (hx : p.tables.exec = Jvm.exec) (hb : c.code = cc) (hown : s.vm.findClass RX9 = some m.cls) (hA : Am G s) (hP : va_P G.1 vwCl w H) (q0 : Nat) (he : w[q0]? = some (a, .inr (4, fs))) {v : Value} (hv : fs[2]? = some v) (hdg : decode cc pc = .ok (.getfield 95, 3)) (kk : W p l e R s m args below meth c H locs cells slots Q (F0 m (pc + 3) ls (v :: rest))) : W p l e R s m args below meth c H locs cells slots Q (F0 m pc ls (.ref a :: rest)) :=
  va_getN (D := G.1) (ci := 4) (C := RX4) (T := TX4) (N := 8) hx hb hA.hts wdx_4 hown hA.K hP q0 he rfl 2 (by decide) (hA.nf ("LatheCopies", 95, "LatheCopies$Lathe", "cutter", "LLatheCopies$Cutter;") nf_28) (fun _ h9 => h9) hv hdg kk
theorem gf_X9_99 (hx : p.tables.exec = Jvm.exec) (hb : c.code = cc) (hown : s.vm.findClass RX9 = some m.cls) (hA : Am G s) (hP : va_P G.1 vwCl w H) (q0 : Nat) (he : w[q0]? = some (a, .inr (1, fs))) {v : Value} (hv : fs[0]? = some v) (hdg : decode cc pc = .ok (.getfield 99, 3)) (kk : W p l e R s m args below meth c H locs cells slots Q (F0 m (pc + 3) ls (v :: rest))) : W p l e R s m args below meth c H locs cells slots Q (F0 m pc ls (.ref a :: rest)) :=
  va_getN (D := G.1) (ci := 1) (C := RX1) (T := TX1) (N := 3) hx hb hA.hts wdx_1 hown hA.K hP q0 he rfl 0 (by decide) (hA.nf ("LatheCopies", 99, "LatheCopies$Cutter", "sharpness", "I") nf_8) (fun _ h9 => h9) hv hdg kk
theorem gf_X9_113 (hx : p.tables.exec = Jvm.exec) (hb : c.code = cc) (hown : s.vm.findClass RX9 = some m.cls) (hA : Am G s) (hP : va_P G.1 vwCl w H) (q0 : Nat) (he : w[q0]? = some (a, .inr (1, fs))) {v : Value} (hv : fs[1]? = some v) (hdg : decode cc pc = .ok (.getfield 113, 3)) (kk : W p l e R s m args below meth c H locs cells slots Q (F0 m (pc + 3) ls (v :: rest))) : W p l e R s m args below meth c H locs cells slots Q (F0 m pc ls (.ref a :: rest)) :=
  va_getN (D := G.1) (ci := 1) (C := RX1) (T := TX1) (N := 3) hx hb hA.hts wdx_1 hown hA.K hP q0 he rfl 1 (by decide) (hA.nf ("LatheCopies", 113, "LatheCopies$Cutter", "depth", "I") nf_9) (fun _ h9 => h9) hv hdg kk
theorem gf_X9_116 (hx : p.tables.exec = Jvm.exec) (hb : c.code = cc) (hown : s.vm.findClass RX9 = some m.cls) (hA : Am G s) (hP : va_P G.1 vwCl w H) (q0 : Nat) (he : w[q0]? = some (a, .inr (1, fs))) {v : Value} (hv : fs[2]? = some v) (hdg : decode cc pc = .ok (.getfield 116, 3)) (kk : W p l e R s m args below meth c H locs cells slots Q (F0 m (pc + 3) ls (v :: rest))) : W p l e R s m args below meth c H locs cells slots Q (F0 m pc ls (.ref a :: rest)) :=
  va_getN (D := G.1) (ci := 1) (C := RX1) (T := TX1) (N := 3) hx hb hA.hts wdx_1 hown hA.K hP q0 he rfl 2 (by decide) (hA.nf ("LatheCopies", 116, "LatheCopies$Cutter", "speed", "I") nf_11) (fun _ h9 => h9) hv hdg kk
theorem gf_X9_119 (hx : p.tables.exec = Jvm.exec) (hb : c.code = cc) (hown : s.vm.findClass RX9 = some m.cls) (hA : Am G s) (hP : va_P G.1 vwCl w H) (q0 : Nat) (he : w[q0]? = some (a, .inr (4, fs))) {v : Value} (hv : fs[5]? = some v) (hdg : decode cc pc = .ok (.getfield 119, 3)) (kk : W p l e R s m args below meth c H locs cells slots Q (F0 m (pc + 3) ls (v :: rest))) : W p l e R s m args below meth c H locs cells slots Q (F0 m pc ls (.ref a :: rest)) :=
  va_getN (D := G.1) (ci := 4) (C := RX4) (T := TX4) (N := 8) hx hb hA.hts wdx_4 hown hA.K hP q0 he rfl 5 (by decide) (hA.nf ("LatheCopies", 119, "LatheCopies$Lathe", "tolerance", "I") nf_31) (fun _ h9 => h9) hv hdg kk
theorem gf_X9_122 (hx : p.tables.exec = Jvm.exec) (hb : c.code = cc) (hown : s.vm.findClass RX9 = some m.cls) (hA : Am G s) (hP : va_P G.1 vwCl w H) (q0 : Nat) (he : w[q0]? = some (a, .inr (4, fs))) {v : Value} (hv : fs[6]? = some v) (hdg : decode cc pc = .ok (.getfield 122, 3)) (kk : W p l e R s m args below meth c H locs cells slots Q (F0 m (pc + 3) ls (v :: rest))) : W p l e R s m args below meth c H locs cells slots Q (F0 m pc ls (.ref a :: rest)) :=
  va_getN (D := G.1) (ci := 4) (C := RX4) (T := TX4) (N := 8) hx hb hA.hts wdx_4 hown hA.K hP q0 he rfl 6 (by decide) (hA.nf ("LatheCopies", 122, "LatheCopies$Lathe", "chips", "I") nf_32) (fun _ h9 => h9) hv hdg kk
theorem gf_X9_125 (hx : p.tables.exec = Jvm.exec) (hb : c.code = cc) (hown : s.vm.findClass RX9 = some m.cls) (hA : Am G s) (hP : va_P G.1 vwCl w H) (q0 : Nat) (he : w[q0]? = some (a, .inr (4, fs))) {v : Value} (hv : fs[7]? = some v) (hdg : decode cc pc = .ok (.getfield 125, 3)) (kk : W p l e R s m args below meth c H locs cells slots Q (F0 m (pc + 3) ls (v :: rest))) : W p l e R s m args below meth c H locs cells slots Q (F0 m pc ls (.ref a :: rest)) :=
  va_getN (D := G.1) (ci := 4) (C := RX4) (T := TX4) (N := 8) hx hb hA.hts wdx_4 hown hA.K hP q0 he rfl 7 (by decide) (hA.nf ("LatheCopies", 125, "LatheCopies$Lathe", "jammed", "Z") nf_33) (fun _ h9 => h9) hv hdg kk
theorem gf_X9_133 (hx : p.tables.exec = Jvm.exec) (hb : c.code = cc) (hown : s.vm.findClass RX9 = some m.cls) (hA : Am G s) (hP : va_P G.1 vwCl w H) (q0 : Nat) (he : w[q0]? = some (a, .inr (4, fs))) {v : Value} (hv : fs[3]? = some v) (hdg : decode cc pc = .ok (.getfield 133, 3)) (kk : W p l e R s m args below meth c H locs cells slots Q (F0 m (pc + 3) ls (v :: rest))) : W p l e R s m args below meth c H locs cells slots Q (F0 m pc ls (.ref a :: rest)) :=
  va_getN (D := G.1) (ci := 4) (C := RX4) (T := TX4) (N := 8) hx hb hA.hts wdx_4 hown hA.K hP q0 he rfl 3 (by decide) (hA.nf ("LatheCopies", 133, "LatheCopies$Lathe", "rack", "LLatheCopies$Rack;") nf_29) (fun _ h9 => h9) hv hdg kk
theorem gf_X9_137 (hx : p.tables.exec = Jvm.exec) (hb : c.code = cc) (hown : s.vm.findClass RX9 = some m.cls) (hA : Am G s) (hP : va_P G.1 vwCl w H) (q0 : Nat) (he : w[q0]? = some (a, .inr (7, fs))) {v : Value} (hv : fs[3]? = some v) (hdg : decode cc pc = .ok (.getfield 137, 3)) (kk : W p l e R s m args below meth c H locs cells slots Q (F0 m (pc + 3) ls (v :: rest))) : W p l e R s m args below meth c H locs cells slots Q (F0 m pc ls (.ref a :: rest)) :=
  va_getN (D := G.1) (ci := 7) (C := RX7) (T := TX7) (N := 5) hx hb hA.hts wdx_7 hown hA.K hP q0 he rfl 3 (by decide) (hA.nf ("LatheCopies", 137, "LatheCopies$Rack", "count", "I") nf_15) (fun _ h9 => h9) hv hdg kk
theorem gf_X9_234 (hx : p.tables.exec = Jvm.exec) (hb : c.code = cc) (hown : s.vm.findClass RX9 = some m.cls) (hA : Am G s) (hP : va_P G.1 vwCl w H) (q0 : Nat) (he : w[q0]? = some (a, .inr (7, fs))) {v : Value} (hv : fs[1]? = some v) (hdg : decode cc pc = .ok (.getfield 234, 3)) (kk : W p l e R s m args below meth c H locs cells slots Q (F0 m (pc + 3) ls (v :: rest))) : W p l e R s m args below meth c H locs cells slots Q (F0 m pc ls (.ref a :: rest)) :=
  va_getN (D := G.1) (ci := 7) (C := RX7) (T := TX7) (N := 5) hx hb hA.hts wdx_7 hown hA.K hP q0 he rfl 1 (by decide) (hA.nf ("LatheCopies", 234, "LatheCopies$Rack", "woods", "LLatheCopies$Row;") nf_12) (fun _ h9 => h9) hv hdg kk
theorem gf_X9_238 (hx : p.tables.exec = Jvm.exec) (hb : c.code = cc) (hown : s.vm.findClass RX9 = some m.cls) (hA : Am G s) (hP : va_P G.1 vwCl w H) (q0 : Nat) (he : w[q0]? = some (a, .inr (7, fs))) {v : Value} (hv : fs[2]? = some v) (hdg : decode cc pc = .ok (.getfield 238, 3)) (kk : W p l e R s m args below meth c H locs cells slots Q (F0 m (pc + 3) ls (v :: rest))) : W p l e R s m args below meth c H locs cells slots Q (F0 m pc ls (.ref a :: rest)) :=
  va_getN (D := G.1) (ci := 7) (C := RX7) (T := TX7) (N := 5) hx hb hA.hts wdx_7 hown hA.K hP q0 he rfl 2 (by decide) (hA.nf ("LatheCopies", 238, "LatheCopies$Rack", "passesDone", "LLatheCopies$Row;") nf_14) (fun _ h9 => h9) hv hdg kk
theorem gf_X9_152 (hx : p.tables.exec = Jvm.exec) (hb : c.code = cc) (hown : s.vm.findClass RX9 = some m.cls) (hA : Am G s) (hP : va_P G.1 vwCl w H) (q0 : Nat) (he : w[q0]? = some (a, .inr (7, fs))) {v : Value} (hv : fs[4]? = some v) (hdg : decode cc pc = .ok (.getfield 152, 3)) (kk : W p l e R s m args below meth c H locs cells slots Q (F0 m (pc + 3) ls (v :: rest))) : W p l e R s m args below meth c H locs cells slots Q (F0 m pc ls (.ref a :: rest)) :=
  va_getN (D := G.1) (ci := 7) (C := RX7) (T := TX7) (N := 5) hx hb hA.hts wdx_7 hown hA.K hP q0 he rfl 4 (by decide) (hA.nf ("LatheCopies", 152, "LatheCopies$Rack", "mounted", "I") nf_17) (fun _ h9 => h9) hv hdg kk
theorem gf_X9_104 (hx : p.tables.exec = Jvm.exec) (hb : c.code = cc) (hown : s.vm.findClass RX9 = some m.cls) (hA : Am G s) (hP : va_P G.1 vwCl w H) (q0 : Nat) (he : w[q0]? = some (a, .inr (4, fs))) {v : Value} (hv : fs[4]? = some v) (hdg : decode cc pc = .ok (.getfield 104, 3)) (kk : W p l e R s m args below meth c H locs cells slots Q (F0 m (pc + 3) ls (v :: rest))) : W p l e R s m args below meth c H locs cells slots Q (F0 m pc ls (.ref a :: rest)) :=
  va_getN (D := G.1) (ci := 4) (C := RX4) (T := TX4) (N := 8) hx hb hA.hts wdx_4 hown hA.K hP q0 he rfl 4 (by decide) (hA.nf ("LatheCopies", 104, "LatheCopies$Lathe", "accounts", "LLatheCopies$Accounts;") nf_30) (fun _ h9 => h9) hv hdg kk
theorem gf_X9_244 (hx : p.tables.exec = Jvm.exec) (hb : c.code = cc) (hown : s.vm.findClass RX9 = some m.cls) (hA : Am G s) (hP : va_P G.1 vwCl w H) (q0 : Nat) (he : w[q0]? = some (a, .inr (0, fs))) {v : Value} (hv : fs[0]? = some v) (hdg : decode cc pc = .ok (.getfield 244, 3)) (kk : W p l e R s m args below meth c H locs cells slots Q (F0 m (pc + 3) ls (v :: rest))) : W p l e R s m args below meth c H locs cells slots Q (F0 m pc ls (.ref a :: rest)) :=
  va_getN (D := G.1) (ci := 0) (C := RX0) (T := TX0) (N := 5) hx hb hA.hts wdx_0 hown hA.K hP q0 he rfl 0 (by decide) (hA.nf ("LatheCopies", 244, "LatheCopies$Accounts", "passes", "I") nf_19) (fun _ h9 => h9) hv hdg kk
theorem gf_X9_247 (hx : p.tables.exec = Jvm.exec) (hb : c.code = cc) (hown : s.vm.findClass RX9 = some m.cls) (hA : Am G s) (hP : va_P G.1 vwCl w H) (q0 : Nat) (he : w[q0]? = some (a, .inr (0, fs))) {v : Value} (hv : fs[1]? = some v) (hdg : decode cc pc = .ok (.getfield 247, 3)) (kk : W p l e R s m args below meth c H locs cells slots Q (F0 m (pc + 3) ls (v :: rest))) : W p l e R s m args below meth c H locs cells slots Q (F0 m pc ls (.ref a :: rest)) :=
  va_getN (D := G.1) (ci := 0) (C := RX0) (T := TX0) (N := 5) hx hb hA.hts wdx_0 hown hA.K hP q0 he rfl 1 (by decide) (hA.nf ("LatheCopies", 247, "LatheCopies$Accounts", "woodTaken", "I") nf_21) (fun _ h9 => h9) hv hdg kk
theorem gf_X9_108 (hx : p.tables.exec = Jvm.exec) (hb : c.code = cc) (hown : s.vm.findClass RX9 = some m.cls) (hA : Am G s) (hP : va_P G.1 vwCl w H) (q0 : Nat) (he : w[q0]? = some (a, .inr (0, fs))) {v : Value} (hv : fs[2]? = some v) (hdg : decode cc pc = .ok (.getfield 108, 3)) (kk : W p l e R s m args below meth c H locs cells slots Q (F0 m (pc + 3) ls (v :: rest))) : W p l e R s m args below meth c H locs cells slots Q (F0 m pc ls (.ref a :: rest)) :=
  va_getN (D := G.1) (ci := 0) (C := RX0) (T := TX0) (N := 5) hx hb hA.hts wdx_0 hown hA.K hP q0 he rfl 2 (by decide) (hA.nf ("LatheCopies", 108, "LatheCopies$Accounts", "sharpenings", "I") nf_22) (fun _ h9 => h9) hv hdg kk
theorem gf_X9_250 (hx : p.tables.exec = Jvm.exec) (hb : c.code = cc) (hown : s.vm.findClass RX9 = some m.cls) (hA : Am G s) (hP : va_P G.1 vwCl w H) (q0 : Nat) (he : w[q0]? = some (a, .inr (0, fs))) {v : Value} (hv : fs[3]? = some v) (hdg : decode cc pc = .ok (.getfield 250, 3)) (kk : W p l e R s m args below meth c H locs cells slots Q (F0 m (pc + 3) ls (v :: rest))) : W p l e R s m args below meth c H locs cells slots Q (F0 m pc ls (.ref a :: rest)) :=
  va_getN (D := G.1) (ci := 0) (C := RX0) (T := TX0) (N := 5) hx hb hA.hts wdx_0 hown hA.K hP q0 he rfl 3 (by decide) (hA.nf ("LatheCopies", 250, "LatheCopies$Accounts", "jams", "I") nf_24) (fun _ h9 => h9) hv hdg kk
theorem gf_X9_158 (hx : p.tables.exec = Jvm.exec) (hb : c.code = cc) (hown : s.vm.findClass RX9 = some m.cls) (hA : Am G s) (hP : va_P G.1 vwCl w H) (q0 : Nat) (he : w[q0]? = some (a, .inr (0, fs))) {v : Value} (hv : fs[4]? = some v) (hdg : decode cc pc = .ok (.getfield 158, 3)) (kk : W p l e R s m args below meth c H locs cells slots Q (F0 m (pc + 3) ls (v :: rest))) : W p l e R s m args below meth c H locs cells slots Q (F0 m pc ls (.ref a :: rest)) :=
  va_getN (D := G.1) (ci := 0) (C := RX0) (T := TX0) (N := 5) hx hb hA.hts wdx_0 hown hA.K hP q0 he rfl 4 (by decide) (hA.nf ("LatheCopies", 158, "LatheCopies$Accounts", "burnt", "I") nf_25) (fun _ h9 => h9) hv hdg kk
theorem gf_X9_35 (hx : p.tables.exec = Jvm.exec) (hb : c.code = cc) (hown : s.vm.findClass RX9 = some m.cls) (hA : Am G s) (hP : va_P G.1 vwCl w H) (q0 : Nat) (he : w[q0]? = some (a, .inr (9, fs))) {v : Value} (hv : fs[3]? = some v) (hdg : decode cc pc = .ok (.getfield 35, 3)) (kk : W p l e R s m args below meth c H locs cells slots Q (F0 m (pc + 3) ls (v :: rest))) : W p l e R s m args below meth c H locs cells slots Q (F0 m pc ls (.ref a :: rest)) :=
  va_get (D := G.1) (ci := 9) (C := RX9) (T := TX9) (N := 5) hx hb hA.hts wdx_9 hown hA.K hP q0 he rfl 3 (by decide) (hA.hts _ wd_258) (fun _ h9 => h9) hv hdg kk
theorem gf_X9_39 (hx : p.tables.exec = Jvm.exec) (hb : c.code = cc) (hown : s.vm.findClass RX9 = some m.cls) (hA : Am G s) (hP : va_P G.1 vwCl w H) (q0 : Nat) (he : w[q0]? = some (a, .inr (9, fs))) {v : Value} (hv : fs[4]? = some v) (hdg : decode cc pc = .ok (.getfield 39, 3)) (kk : W p l e R s m args below meth c H locs cells slots Q (F0 m (pc + 3) ls (v :: rest))) : W p l e R s m args below meth c H locs cells slots Q (F0 m pc ls (.ref a :: rest)) :=
  va_get (D := G.1) (ci := 9) (C := RX9) (T := TX9) (N := 5) hx hb hA.hts wdx_9 hown hA.K hP q0 he rfl 4 (by decide) (hA.hts _ wd_259) (fun _ h9 => h9) hv hdg kk
end GEN
theorem g_X9_209 : GoodIn Wd (wsS RX9 209 yX9_isIndex [.code yX9_isIndex cX9_isIndex 2 (some .boolean)]) := gS wd_268 wd_269 wd_270 wd_264
theorem gd_X9_isIndex : Gd yX9_isIndex RX9 2 := by decide +kernel
theorem g_X9_129 : GoodIn Wd (wsS RX9 129 yX9_checkIndex [.code yX9_checkIndex cX9_checkIndex 2 none]) := gS wd_272 wd_273 wd_270 wd_265
theorem gd_X9_checkIndex : Gd yX9_checkIndex RX9 2 := by decide +kernel
theorem g_X9_42 : GoodIn Wd (wsS RX9 42 yX9_checkMaster [.code yX9_checkMaster cX9_checkMaster 1 none]) := gS wd_281 wd_282 wd_270 wd_271
theorem gd_X9_checkMaster : Gd yX9_checkMaster RX9 1 := by decide +kernel
theorem g_X9_45 : GoodIn Wd (wsS RX9 45 yX9_checkStep [.code yX9_checkStep cX9_checkStep 1 none]) := gS wd_283 wd_284 wd_270 wd_274
theorem gd_X9_checkStep : Gd yX9_checkStep RX9 1 := by decide +kernel
theorem g_X9_60 : GoodIn Wd (wsV RX9 60 RX6 yX6_at [.code yX6_at cX6_at 4 (some .int)]) := gV wd_290 wd_98 wd_99 wd_68 wd_93
theorem g_X9_231 : GoodIn Wd (wsV RX9 231 RX1 yX1_reach [.code yX1_reach cX1_reach 1 (some .int)]) := gV wd_370 wd_189 wd_190 wd_20 wd_16
theorem g_X9_149 : GoodIn Wd (wsV RX9 149 RX9 yX9_checkPiece [.code yX9_checkPiece cX9_checkPiece 2 none]) := gV wd_322 wd_323 wd_324 wd_270 wd_321
theorem gd_X9_checkPiece : Gd yX9_checkPiece RX9 1 := by decide +kernel
theorem g_X9_204 : GoodIn Wd (wsV RX9 204 RX8 yX8_at [.code yX8_at cX8_at 2 (some .int)]) := gV wd_378 wd_106 wd_107 wd_58 wd_103
theorem g_X9_237 : GoodIn Wd (wsV RX9 237 RX7 yX7_at [.code yX7_at cX7_at 3 (some .int)]) := gV wd_379 wd_160 wd_161 wd_79 wd_157
theorem g_X9_161 : GoodIn Wd (wsV RX9 161 RX7 yX7_isTurning [.code yX7_isTurning cX7_isTurning 1 (some .boolean)]) := gV wd_329 wd_330 wd_331 wd_79 wd_236
theorem gd_X7_isTurning : Gd yX7_isTurning RX7 0 := by decide +kernel
theorem g_X9_142 : GoodIn Wd (wsS RX9 142 yX9_checkState [.code yX9_checkState cX9_checkState 1 none]) := gS wd_315 wd_316 wd_270 wd_312
theorem gd_X9_checkState : Gd yX9_checkState RX9 1 := by decide +kernel
theorem g_X9_165 : GoodIn Wd (wsV RX9 165 RX9 yX9_checkMounted [.code yX9_checkMounted cX9_checkMounted 1 none]) := gV wd_334 wd_335 wd_336 wd_270 wd_333
theorem gd_X9_checkMounted : Gd yX9_checkMounted RX9 0 := by decide +kernel
theorem g_X9_253 : GoodIn Wd (wsV RX9 253 RX4 yX4_reading [.code yX4_reading cX4_reading 5 (some .int)]) := gV wd_389 wd_155 wd_156 wd_132 wd_149
theorem g_X9_262 : GoodIn Wd (wsV RX9 262 RX6 yX6_chosenAt [.code yX6_chosenAt cX6_chosenAt 2 (some .int)]) := gV wd_392 wd_393 wd_394 wd_68 wd_233
theorem gd_X6_chosenAt : Gd yX6_chosenAt RX6 1 := by decide +kernel
theorem g_X9_354 : GoodIn Wd (wsV RX9 354 RX9 yX9_isNotThicker [.code yX9_isNotThicker cX9_isNotThicker 3 (some .boolean)]) := gV wd_395 wd_396 wd_397 wd_270 wd_391
theorem gd_X9_isNotThicker : Gd yX9_isNotThicker RX9 2 := by decide +kernel
theorem g_X9_357 : GoodIn Wd (wsV RX9 357 RX8 yX8_put [.code yX8_put cX8_put 3 none]) := gV wd_398 wd_182 wd_183 wd_58 wd_179
theorem g_X9_256 : GoodIn Wd (wsV RX9 256 RX9 yX9_firstWaiting [.code yX9_firstWaiting cX9_firstWaiting 7 (some .int)]) := gV wd_400 wd_401 wd_402 wd_270 wd_399
theorem gd_X9_firstWaiting : Gd yX9_firstWaiting RX9 1 := by decide +kernel
theorem g_X9_259 : GoodIn Wd (wsV RX9 259 RX4 yX4_target [.code yX4_target cX4_target 2 (some .int)]) := gV wd_404 wd_163 wd_164 wd_132 wd_153
theorem g_X9_268 : GoodIn Wd (wsV RX9 268 RX4 yX4_difference [.code yX4_difference cX4_difference 4 (some .int)]) := gV wd_408 wd_216 wd_217 wd_132 wd_211
theorem g_X9_277 : GoodIn Wd (wsV RX9 277 RX4 yX4_faults [.code yX4_faults cX4_faults 4 (some .int)]) := gV wd_411 wd_221 wd_222 wd_132 wd_219
theorem g_X9_280 : GoodIn Wd (wsV RX9 280 RX4 yX4_differences [.code yX4_differences cX4_differences 5 (some .int)]) := gV wd_414 wd_224 wd_225 wd_132 wd_218
theorem g_X9_283 : GoodIn Wd (wsV RX9 283 RX4 yX4_isBetter [.code yX4_isBetter cX4_isBetter 5 (some .boolean)]) := gV wd_416 wd_417 wd_418 wd_132 wd_226
theorem gd_X4_isBetter : Gd yX4_isBetter RX4 2 := by decide +kernel
theorem g_X9_178 : GoodIn Wd (wsV RX9 178 RX4 yX4_mostAbove [.code yX4_mostAbove cX4_mostAbove 4 (some .int)]) := gV wd_349 wd_350 wd_351 wd_132 wd_169
theorem gd_X4_mostAbove : Gd yX4_mostAbove RX4 1 := by decide +kernel
theorem g_X9_175 : GoodIn Wd (wsV RX9 175 RX4 yX4_canRun [.code yX4_canRun cX4_canRun 1 (some .boolean)]) := gV wd_338 wd_339 wd_340 wd_132 wd_171
theorem gd_X4_canRun : Gd yX4_canRun RX4 0 := by decide +kernel
theorem g_X9_168 : GoodIn Wd (wsV RX9 168 RX9 yX9_checkReady [.code yX9_checkReady cX9_checkReady 1 none]) := gV wd_342 wd_343 wd_344 wd_270 wd_341
theorem gd_X9_checkReady : Gd yX9_checkReady RX9 0 := by decide +kernel
theorem g_X9_286 : GoodIn Wd (wsV RX9 286 RX4 yX4_wouldCut [.code yX4_wouldCut cX4_wouldCut 4 (some .int)]) := gV wd_421 wd_422 wd_423 wd_132 wd_209
theorem gd_X4_wouldCut : Gd yX4_wouldCut RX4 0 := by decide +kernel
theorem g_X9_359 : GoodIn Wd (wsV RX9 359 RX4 yX4_above [.code yX4_above cX4_above 3 (some .int)]) := gV wd_425 wd_167 wd_168 wd_132 wd_165
theorem g_X9_362 : GoodIn Wd (wsV RX9 362 RX8 yX8_greatest [.code yX8_greatest cX8_greatest 3 (some .int)]) := gV wd_426 wd_427 wd_428 wd_58 wd_246
theorem gd_X8_greatest : Gd yX8_greatest RX8 0 := by decide +kernel
theorem g_X9_289 : GoodIn Wd (wsV RX9 289 RX1 yX1_isSharp [.code yX1_isSharp cX1_isSharp 1 (some .boolean)]) := gV wd_430 wd_18 wd_19 wd_20 wd_15
theorem g_X9_292 : GoodIn Wd (wsV RX9 292 RX9 yX9_countPasses [.code yX9_countPasses cX9_countPasses 3 (some .int)]) := gV wd_431 wd_432 wd_433 wd_270 wd_429
theorem gd_X9_countPasses : Gd yX9_countPasses RX9 0 := by decide +kernel
theorem g_X9_295 : GoodIn Wd (wsS RX9 295 yX9_dividedUp [.code yX9_dividedUp cX9_dividedUp 2 (some .int)]) := gS wd_436 wd_437 wd_270 wd_435
theorem gd_X9_dividedUp : Gd yX9_dividedUp RX9 2 := by decide +kernel
theorem g_X9_298 : GoodIn Wd (wsV RX9 298 RX4 yX4_blunting [.code yX4_blunting cX4_blunting 1 (some .int)]) := gV wd_439 wd_200 wd_201 wd_132 wd_175
theorem g_X9_301 : GoodIn Wd (wsV RX9 301 RX4 yX4_allAbove [.code yX4_allAbove cX4_allAbove 4 (some .int)]) := gV wd_441 wd_442 wd_443 wd_132 wd_170
theorem gd_X4_allAbove : Gd yX4_allAbove RX4 1 := by decide +kernel
theorem g_X9_304 : GoodIn Wd (wsV RX9 304 RX7 yX7_sumOf [.code yX7_sumOf cX7_sumOf 4 (some .int)]) := gV wd_446 wd_447 wd_448 wd_79 wd_237
theorem gd_X7_sumOf : Gd yX7_sumOf RX7 1 := by decide +kernel
theorem g_X9_198 : GoodIn Wd (wsS RX9 198 yX9_checkArgument [.code yX9_checkArgument cX9_checkArgument 1 none]) := gS wd_279 wd_280 wd_270 wd_275
theorem gd_X9_checkArgument : Gd yX9_checkArgument RX9 1 := by decide +kernel
def fX3_latest (ho : Int32) (hcn : Int32)  : Option (Int32) :=
  some (((ho + hcn) - 1) - ((ho + hcn) - 1) / 6 * 6)
set_option maxHeartbeats 4000000 in
set_option maxRecDepth 100000 in
theorem kX3_latest (l : Launch) (G : GG) (aH0 aHS aHL : Nat) (ho : Int32) (hcn : Int32)  (r_0 : Int32) (hf : fX3_latest ho hcn = some r_0) : Ro l G yX3_latest cX3_latest 1 (some .int) 0 0 [.ref aH0] [(aH0, .inr (3, [.ref aHS, .ref aHL, .int ho, .int hcn]))] (some (.int r_0)) := by
  refine ro_of (by decide) (Nat.le_of_ble_eq_true rfl) ?_
  intro p e s m args below meth c ls hx hb hr hml hown hlk hA hZ hP hl
  replace hown : s.vm.findClass RX3 = some m.cls := hown
  replace hl : lv_has ls 1 [(0, .ref aH0)] := hl
  unfold fX3_latest at hf
  refine lv_aload_n hx hb dX3_latest_0 rfl (lv_at hl 0 rfl) ?_
  refine gf_X3_24 hx hb hown hA hP 0 rfl rfl dX3_latest_1 ?_
  refine lv_aload_n hx hb dX3_latest_4 rfl (lv_at hl 0 rfl) ?_
  refine gf_X3_20 hx hb hown hA hP 0 rfl rfl dX3_latest_5 ?_
  refine lv_iadd hx hb dX3_latest_8 ?_
  refine lv_iconst (v := 1) hx hb dX3_latest_9 (by decide) ?_
  refine lv_isub hx hb dX3_latest_10 ?_
  refine lv_bipush (v := 6) hx hb dX3_latest_11 (by decide) ?_
  refine lv_irem hx hb dX3_latest_13 (by decide) ?_
  cases hf
  exact ro_iret hx hb hr hlk dX3_latest_14
def fX9_savedStates (hcn : Int32)  : Option (Int32) :=
  some hcn
set_option maxHeartbeats 4000000 in
set_option maxRecDepth 100000 in
theorem kX9_savedStates (l : Launch) (G : GG) (a0 aH0 aL0 aT0 aW0 aE0 aHS aHL : Nat) (ho : Int32) (hcn : Int32)  (r_0 : Int32) (hf : fX9_savedStates hcn = some r_0) : Ro l G yX9_savedStates cX9_savedStates 1 (some .int) 0 0 [.ref a0] [(a0, .inr (9, [.ref aL0, .ref aH0, .ref aT0, .ref aW0, .ref aE0])), (aH0, .inr (3, [.ref aHS, .ref aHL, .int ho, .int hcn]))] (some (.int r_0)) := by
  refine ro_of (by decide) (Nat.le_of_ble_eq_true rfl) ?_
  intro p e s m args below meth c ls hx hb hr hml hown hlk hA hZ hP hl
  replace hown : s.vm.findClass RX9 = some m.cls := hown
  replace hl : lv_has ls 1 [(0, .ref a0)] := hl
  unfold fX9_savedStates at hf
  refine lv_aload_n hx hb dX9_savedStates_0 rfl (lv_at hl 0 rfl) ?_
  refine gf_X9_19 hx hb hown hA hP 0 rfl rfl dX9_savedStates_1 ?_
  refine gf_X9_224 hx hb hown hA hP 1 rfl rfl dX9_savedStates_4 ?_
  cases hf
  exact ro_iret hx hb hr hlk dX9_savedStates_7
def fX9_isIndex  (i1 : Int32) (i2 : Int32) : Option (Int32) :=
  (if i1 < 0 then some 0 else (if i2 ≤ i1 then some 0 else some 1))
set_option maxHeartbeats 4000000 in
set_option maxRecDepth 100000 in
theorem kX9_isIndex (l : Launch) (G : GG)  (i1 : Int32) (i2 : Int32) (r_0 : Int32) (hf : fX9_isIndex i1 i2 = some r_0) : Ro l G yX9_isIndex cX9_isIndex 2 (some .boolean) 0 0 [.int i1, .int i2] [] (some (.int r_0)) := by
  refine ro_of (by decide) (Nat.le_of_ble_eq_true rfl) ?_
  intro p e s m args below meth c ls hx hb hr hml hown hlk hA hZ hP hl
  replace hown : s.vm.findClass RX9 = some m.cls := hown
  replace hl : lv_has ls 2 [(0, .int i1), (1, .int i2)] := hl
  unfold fX9_isIndex at hf
  refine lv_iload_n hx hb dX9_isIndex_0 rfl (lv_at hl 0 rfl) ?_
  refine lv_if_lt (tgt := 13) hx hb dX9_isIndex_1 (by decide) (fun c_1 => ?_) (fun c_1 => ?_)
  · replace hf := ifp c_1 hf
    refine lv_iconst (v := 0) hx hb dX9_isIndex_13 (by decide) ?_
    cases hf
    exact ro_zret hx hb hr hlk (Or.inl rfl) dX9_isIndex_14
  · replace hf := ifn c_1 hf
    refine lv_iload_n hx hb dX9_isIndex_4 rfl (lv_at hl 0 rfl) ?_
    refine lv_iload_n hx hb dX9_isIndex_5 rfl (lv_at hl 1 rfl) ?_
    refine lv_icmp_ge (tgt := 13) hx hb dX9_isIndex_6 (by decide) (fun c_2 => ?_) (fun c_2 => ?_)
    · replace hf := ifp c_2 hf
      refine lv_iconst (v := 0) hx hb dX9_isIndex_13 (by decide) ?_
      cases hf
      exact ro_zret hx hb hr hlk (Or.inl rfl) dX9_isIndex_14
    · replace hf := ifn c_2 hf
      refine lv_iconst (v := 1) hx hb dX9_isIndex_9 (by decide) ?_
      refine lv_goto (tgt := 14) hx hb dX9_isIndex_10 (by decide) ?_
      cases hf
      exact ro_zret hx hb hr hlk (Or.inr rfl) dX9_isIndex_14
def fX9_checkIndex  (i1 : Int32) (i2 : Int32) : Option (Nat ⊕ (Unit)) :=
  ((fX9_isIndex i1 i2).bind fun r_1 => (if r_1 = 0 then some (.inl 0) else (Option.map Sum.inr (some ()))))
set_option maxHeartbeats 4000000 in
set_option maxRecDepth 100000 in
theorem kX9_checkIndex (l : Launch) (G : GG)  (i1 : Int32) (i2 : Int32)  (hf : fX9_checkIndex i1 i2 = some (.inr ())) : Ro l G yX9_checkIndex cX9_checkIndex 2 none 6 81 [.int i1, .int i2] [] none := by
  refine ro_of (by decide) (Nat.le_of_ble_eq_true rfl) ?_
  intro p e s m args below meth c ls hx hb hr hml hown hlk hA hZ hP hl
  replace hown : s.vm.findClass RX9 = some m.cls := hown
  replace hl : lv_has ls 2 [(0, .int i1), (1, .int i2)] := hl
  unfold fX9_checkIndex at hf
  refine lv_iload_n hx hb dX9_checkIndex_0 rfl (lv_at hl 0 rfl) ?_
  refine lv_iload_n hx hb dX9_checkIndex_1 rfl (lv_at hl 1 rfl) ?_
  obtain ⟨r_1, q_2, hf⟩ := obd hf
  refine ro_s (n := 2) (As := [.int i1, .int i2]) hx hb hml hown hA (kX9_isIndex l G i1 i2 r_1 q_2) g_X9_209 gd_X9_isIndex ⟨(Nat.le_of_ble_eq_true rfl), (Nat.le_of_ble_eq_true rfl)⟩ hZ (fun _ _ h => by simp at h) rfl hl.1 (Nat.le_of_ble_eq_true rfl) ⟨(Nat.le_of_ble_eq_true rfl), (Nat.le_of_ble_eq_true rfl)⟩ dX9_checkIndex_2 ?_
  refine W.eq (g2 := F0 m 5 ls [.int r_1]) rfl ?_
  refine lv_if_ne (tgt := 16) hx hb dX9_checkIndex_5 (by decide) (fun c_3 => ?_) (fun c_3 => ?_)
  · replace hf := ifn c_3 hf
    replace hf := omr hf
    cases hf
    exact ro_vret hx hb hr hlk dX9_checkIndex_16
  · replace hf := ifp c_3 hf
    cases hf
def fX9_checkMaster  (i1 : Int32) : Option (Nat ⊕ (Unit)) :=
  ((fX9_checkIndex i1 3).bind fun z => match z with | .inl e => some (.inl e) | .inr _ => (Option.map Sum.inr (some ())))
set_option maxHeartbeats 4000000 in
set_option maxRecDepth 100000 in
theorem kX9_checkMaster (l : Launch) (G : GG)  (i1 : Int32)  (hf : fX9_checkMaster i1 = some (.inr ())) : Ro l G yX9_checkMaster cX9_checkMaster 1 none 7 102 [.int i1] [] none := by
  refine ro_of (by decide) (Nat.le_of_ble_eq_true rfl) ?_
  intro p e s m args below meth c ls hx hb hr hml hown hlk hA hZ hP hl
  replace hown : s.vm.findClass RX9 = some m.cls := hown
  replace hl : lv_has ls 1 [(0, .int i1)] := hl
  unfold fX9_checkMaster at hf
  refine lv_iload_n hx hb dX9_checkMaster_0 rfl (lv_at hl 0 rfl) ?_
  refine lv_iconst (v := 3) hx hb dX9_checkMaster_1 (by decide) ?_
  obtain ⟨e9 | u9, q_1, hf⟩ := obd hf
  · dsimp only at hf
    cases hf
  dsimp only at hf
  replace hf := omr hf
  refine ro_s (n := 2) (As := [.int i1, .int 3]) hx hb hml hown hA (kX9_checkIndex l G i1 3 q_1) g_X9_129 gd_X9_checkIndex ⟨(Nat.le_of_ble_eq_true rfl), (Nat.le_of_ble_eq_true rfl)⟩ hZ (fun _ _ h => by simp at h) rfl hl.1 (Nat.le_of_ble_eq_true rfl) ⟨(Nat.le_of_ble_eq_true rfl), (Nat.le_of_ble_eq_true rfl)⟩ dX9_checkMaster_2 ?_
  refine W.eq (g2 := F0 m 5 ls []) rfl ?_
  cases hf
  exact ro_vret hx hb hr hlk dX9_checkMaster_5
def fX9_checkStep  (i1 : Int32) : Option (Nat ⊕ (Unit)) :=
  ((fX9_checkIndex i1 16).bind fun z => match z with | .inl e => some (.inl e) | .inr _ => (Option.map Sum.inr (some ())))
set_option maxHeartbeats 4000000 in
set_option maxRecDepth 100000 in
theorem kX9_checkStep (l : Launch) (G : GG)  (i1 : Int32)  (hf : fX9_checkStep i1 = some (.inr ())) : Ro l G yX9_checkStep cX9_checkStep 1 none 7 102 [.int i1] [] none := by
  refine ro_of (by decide) (Nat.le_of_ble_eq_true rfl) ?_
  intro p e s m args below meth c ls hx hb hr hml hown hlk hA hZ hP hl
  replace hown : s.vm.findClass RX9 = some m.cls := hown
  replace hl : lv_has ls 1 [(0, .int i1)] := hl
  unfold fX9_checkStep at hf
  refine lv_iload_n hx hb dX9_checkStep_0 rfl (lv_at hl 0 rfl) ?_
  refine lv_bipush (v := 16) hx hb dX9_checkStep_1 (by decide) ?_
  obtain ⟨e9 | u9, q_1, hf⟩ := obd hf
  · dsimp only at hf
    cases hf
  dsimp only at hf
  replace hf := omr hf
  refine ro_s (n := 2) (As := [.int i1, .int 16]) hx hb hml hown hA (kX9_checkIndex l G i1 16 q_1) g_X9_129 gd_X9_checkIndex ⟨(Nat.le_of_ble_eq_true rfl), (Nat.le_of_ble_eq_true rfl)⟩ hZ (fun _ _ h => by simp at h) rfl hl.1 (Nat.le_of_ble_eq_true rfl) ⟨(Nat.le_of_ble_eq_true rfl), (Nat.le_of_ble_eq_true rfl)⟩ dX9_checkStep_3 ?_
  refine W.eq (g2 := F0 m 6 ls []) rfl ?_
  cases hf
  exact ro_vret hx hb hr hlk dX9_checkStep_6
def fX9_masterAt (md : Nat → Int32) (i1 : Int32) (i2 : Int32) : Option (Nat ⊕ (Int32)) :=
  ((fX9_checkMaster i1).bind fun z => match z with | .inl e => some (.inl e) | .inr _ => ((fX9_checkStep i2).bind fun z => match z with | .inl e => some (.inl e) | .inr _ => (Option.map Sum.inr (((fX6_at md i1 i2).bind fun r_3 => some r_3)))))
set_option maxHeartbeats 4000000 in
set_option maxRecDepth 100000 in
theorem kX9_masterAt (l : Launch) (G : GG) (a0 aL0 aL1 aL2 aL3 aL4 aL5 aL6 aL7 aL8 aL9 aL10 aL11 aL12 aH0 aT0 aW0 aE0 : Nat) (md : Nat → Int32) (mch : Int32) (fra : Int32) (fwe : Int32) (fof : Int32) (fsi : Int32) (csh : Int32) (cde : Int32) (csp : Int32) (rd : Nat → Int32) (rw : Nat → Int32) (rp : Nat → Int32) (rco : Int32) (rmo : Int32) (apa : Int32) (awo : Int32) (ash : Int32) (aja : Int32) (abu : Int32) (ltol : Int32) (lchi : Int32) (ljam : Int32) (i1 : Int32) (i2 : Int32) (r_0 : Int32) (hf : fX9_masterAt md i1 i2 = some (.inr r_0)) : Ro l G yX9_masterAt cX9_masterAt 3 (some .int) 8 122 [.ref a0, .int i1, .int i2] [(a0, .inr (9, [.ref aL0, .ref aH0, .ref aT0, .ref aW0, .ref aE0])), (aL0, .inr (4, [.ref aL1, .ref aL3, .ref aL4, .ref aL5, .ref aL12, .int ltol, .int lchi, .int ljam])), (aL1, .inr (6, [.ref aL2, .int mch])), (aL2, .inl (G.2.1, 48, .inl md)), (aL3, .inr (2, [.int fra, .int fwe, .int fof, .int fsi])), (aL4, .inr (1, [.int csh, .int cde, .int csp])), (aL5, .inr (7, [.ref aL6, .ref aL8, .ref aL10, .int rco, .int rmo])), (aL6, .inr (8, [.ref aL7])), (aL7, .inl (G.2.1, 80, .inl rd)), (aL8, .inr (8, [.ref aL9])), (aL9, .inl (G.2.1, 5, .inl rw)), (aL10, .inr (8, [.ref aL11])), (aL11, .inl (G.2.1, 5, .inl rp)), (aL12, .inr (0, [.int apa, .int awo, .int ash, .int aja, .int abu]))] (some (.int r_0)) := by
  refine ro_of (by decide) (Nat.le_of_ble_eq_true rfl) ?_
  intro p e s m args below meth c ls hx hb hr hml hown hlk hA hZ hP hl
  replace hown : s.vm.findClass RX9 = some m.cls := hown
  replace hl : lv_has ls 3 [(0, .ref a0), (1, .int i1), (2, .int i2)] := hl
  unfold fX9_masterAt at hf
  refine lv_iload_n hx hb dX9_masterAt_0 rfl (lv_at hl 1 rfl) ?_
  obtain ⟨e9 | u9, q_1, hf⟩ := obd hf
  · dsimp only at hf
    cases hf
  dsimp only at hf
  refine ro_s (n := 1) (As := [.int i1]) hx hb hml hown hA (kX9_checkMaster l G i1 q_1) g_X9_42 gd_X9_checkMaster ⟨(Nat.le_of_ble_eq_true rfl), (Nat.le_of_ble_eq_true rfl)⟩ hZ (fun _ _ h => by simp at h) rfl hl.1 (Nat.le_of_ble_eq_true rfl) ⟨(Nat.le_of_ble_eq_true rfl), (Nat.le_of_ble_eq_true rfl)⟩ dX9_masterAt_1 ?_
  refine W.eq (g2 := F0 m 4 ls []) rfl ?_
  refine lv_iload_n hx hb dX9_masterAt_4 rfl (lv_at hl 2 rfl) ?_
  obtain ⟨e9 | u9, q_2, hf⟩ := obd hf
  · dsimp only at hf
    cases hf
  dsimp only at hf
  replace hf := omr hf
  refine ro_s (n := 1) (As := [.int i2]) hx hb hml hown hA (kX9_checkStep l G i2 q_2) g_X9_45 gd_X9_checkStep ⟨(Nat.le_of_ble_eq_true rfl), (Nat.le_of_ble_eq_true rfl)⟩ hZ (fun _ _ h => by simp at h) rfl hl.1 (Nat.le_of_ble_eq_true rfl) ⟨(Nat.le_of_ble_eq_true rfl), (Nat.le_of_ble_eq_true rfl)⟩ dX9_masterAt_5 ?_
  refine W.eq (g2 := F0 m 8 ls []) rfl ?_
  refine lv_aload_n hx hb dX9_masterAt_8 rfl (lv_at hl 0 rfl) ?_
  refine gf_X9_10 hx hb hown hA hP 0 rfl rfl dX9_masterAt_9 ?_
  refine gf_X9_56 hx hb hown hA hP 1 rfl rfl dX9_masterAt_12 ?_
  refine lv_iload_n hx hb dX9_masterAt_15 rfl (lv_at hl 1 rfl) ?_
  refine lv_iload_n hx hb dX9_masterAt_16 rfl (lv_at hl 2 rfl) ?_
  obtain ⟨r_3, q_4, hf⟩ := obd hf
  refine ro_v (n := 2) (As := [.int i1, .int i2]) (q0 := 0) hx hb hml hown hA (kX6_at l G aL1 aL2 md mch i1 i2 r_3 q_4) g_X9_60 gd_X6_at ⟨(Nat.le_of_ble_eq_true rfl), (Nat.le_of_ble_eq_true rfl)⟩ hZ (hP.sub [2, 3] rfl) rfl rfl rfl hl.1 (Nat.le_of_ble_eq_true rfl) ⟨(Nat.le_of_ble_eq_true rfl), (Nat.le_of_ble_eq_true rfl)⟩ dX9_masterAt_17 ?_
  refine W.eq (g2 := F0 m 20 ls [.int r_3]) rfl ?_
  cases hf
  exact ro_iret hx hb hr hlk dX9_masterAt_20
def fX9_chosenMaster (mch : Int32)  : Option (Int32) :=
  some mch
set_option maxHeartbeats 4000000 in
set_option maxRecDepth 100000 in
theorem kX9_chosenMaster (l : Launch) (G : GG) (a0 aL0 aL1 aL2 aL3 aL4 aL5 aL6 aL7 aL8 aL9 aL10 aL11 aL12 aH0 aT0 aW0 aE0 : Nat) (md : Nat → Int32) (mch : Int32) (fra : Int32) (fwe : Int32) (fof : Int32) (fsi : Int32) (csh : Int32) (cde : Int32) (csp : Int32) (rd : Nat → Int32) (rw : Nat → Int32) (rp : Nat → Int32) (rco : Int32) (rmo : Int32) (apa : Int32) (awo : Int32) (ash : Int32) (aja : Int32) (abu : Int32) (ltol : Int32) (lchi : Int32) (ljam : Int32)  (r_0 : Int32) (hf : fX9_chosenMaster mch = some r_0) : Ro l G yX9_chosenMaster cX9_chosenMaster 1 (some .int) 0 0 [.ref a0] [(a0, .inr (9, [.ref aL0, .ref aH0, .ref aT0, .ref aW0, .ref aE0])), (aL0, .inr (4, [.ref aL1, .ref aL3, .ref aL4, .ref aL5, .ref aL12, .int ltol, .int lchi, .int ljam])), (aL1, .inr (6, [.ref aL2, .int mch])), (aL2, .inl (G.2.1, 48, .inl md)), (aL3, .inr (2, [.int fra, .int fwe, .int fof, .int fsi])), (aL4, .inr (1, [.int csh, .int cde, .int csp])), (aL5, .inr (7, [.ref aL6, .ref aL8, .ref aL10, .int rco, .int rmo])), (aL6, .inr (8, [.ref aL7])), (aL7, .inl (G.2.1, 80, .inl rd)), (aL8, .inr (8, [.ref aL9])), (aL9, .inl (G.2.1, 5, .inl rw)), (aL10, .inr (8, [.ref aL11])), (aL11, .inl (G.2.1, 5, .inl rp)), (aL12, .inr (0, [.int apa, .int awo, .int ash, .int aja, .int abu]))] (some (.int r_0)) := by
  refine ro_of (by decide) (Nat.le_of_ble_eq_true rfl) ?_
  intro p e s m args below meth c ls hx hb hr hml hown hlk hA hZ hP hl
  replace hown : s.vm.findClass RX9 = some m.cls := hown
  replace hl : lv_has ls 1 [(0, .ref a0)] := hl
  unfold fX9_chosenMaster at hf
  refine lv_aload_n hx hb dX9_chosenMaster_0 rfl (lv_at hl 0 rfl) ?_
  refine gf_X9_10 hx hb hown hA hP 0 rfl rfl dX9_chosenMaster_1 ?_
  refine gf_X9_56 hx hb hown hA hP 1 rfl rfl dX9_chosenMaster_4 ?_
  refine gf_X9_76 hx hb hown hA hP 2 rfl rfl dX9_chosenMaster_7 ?_
  cases hf
  exact ro_iret hx hb hr hlk dX9_chosenMaster_10
def fX9_radius (fra : Int32)  : Option (Int32) :=
  some fra
set_option maxHeartbeats 4000000 in
set_option maxRecDepth 100000 in
theorem kX9_radius (l : Launch) (G : GG) (a0 aL0 aL1 aL2 aL3 aL4 aL5 aL6 aL7 aL8 aL9 aL10 aL11 aL12 aH0 aT0 aW0 aE0 : Nat) (md : Nat → Int32) (mch : Int32) (fra : Int32) (fwe : Int32) (fof : Int32) (fsi : Int32) (csh : Int32) (cde : Int32) (csp : Int32) (rd : Nat → Int32) (rw : Nat → Int32) (rp : Nat → Int32) (rco : Int32) (rmo : Int32) (apa : Int32) (awo : Int32) (ash : Int32) (aja : Int32) (abu : Int32) (ltol : Int32) (lchi : Int32) (ljam : Int32)  (r_0 : Int32) (hf : fX9_radius fra = some r_0) : Ro l G yX9_radius cX9_radius 1 (some .int) 0 0 [.ref a0] [(a0, .inr (9, [.ref aL0, .ref aH0, .ref aT0, .ref aW0, .ref aE0])), (aL0, .inr (4, [.ref aL1, .ref aL3, .ref aL4, .ref aL5, .ref aL12, .int ltol, .int lchi, .int ljam])), (aL1, .inr (6, [.ref aL2, .int mch])), (aL2, .inl (G.2.1, 48, .inl md)), (aL3, .inr (2, [.int fra, .int fwe, .int fof, .int fsi])), (aL4, .inr (1, [.int csh, .int cde, .int csp])), (aL5, .inr (7, [.ref aL6, .ref aL8, .ref aL10, .int rco, .int rmo])), (aL6, .inr (8, [.ref aL7])), (aL7, .inl (G.2.1, 80, .inl rd)), (aL8, .inr (8, [.ref aL9])), (aL9, .inl (G.2.1, 5, .inl rw)), (aL10, .inr (8, [.ref aL11])), (aL11, .inl (G.2.1, 5, .inl rp)), (aL12, .inr (0, [.int apa, .int awo, .int ash, .int aja, .int abu]))] (some (.int r_0)) := by
  refine ro_of (by decide) (Nat.le_of_ble_eq_true rfl) ?_
  intro p e s m args below meth c ls hx hb hr hml hown hlk hA hZ hP hl
  replace hown : s.vm.findClass RX9 = some m.cls := hown
  replace hl : lv_has ls 1 [(0, .ref a0)] := hl
  unfold fX9_radius at hf
  refine lv_aload_n hx hb dX9_radius_0 rfl (lv_at hl 0 rfl) ?_
  refine gf_X9_10 hx hb hown hA hP 0 rfl rfl dX9_radius_1 ?_
  refine gf_X9_80 hx hb hown hA hP 1 rfl rfl dX9_radius_4 ?_
  refine gf_X9_228 hx hb hown hA hP 4 rfl rfl dX9_radius_7 ?_
  cases hf
  exact ro_iret hx hb hr hlk dX9_radius_10
def fX9_wear (fwe : Int32)  : Option (Int32) :=
  some fwe
set_option maxHeartbeats 4000000 in
set_option maxRecDepth 100000 in
theorem kX9_wear (l : Launch) (G : GG) (a0 aL0 aL1 aL2 aL3 aL4 aL5 aL6 aL7 aL8 aL9 aL10 aL11 aL12 aH0 aT0 aW0 aE0 : Nat) (md : Nat → Int32) (mch : Int32) (fra : Int32) (fwe : Int32) (fof : Int32) (fsi : Int32) (csh : Int32) (cde : Int32) (csp : Int32) (rd : Nat → Int32) (rw : Nat → Int32) (rp : Nat → Int32) (rco : Int32) (rmo : Int32) (apa : Int32) (awo : Int32) (ash : Int32) (aja : Int32) (abu : Int32) (ltol : Int32) (lchi : Int32) (ljam : Int32)  (r_0 : Int32) (hf : fX9_wear fwe = some r_0) : Ro l G yX9_wear cX9_wear 1 (some .int) 0 0 [.ref a0] [(a0, .inr (9, [.ref aL0, .ref aH0, .ref aT0, .ref aW0, .ref aE0])), (aL0, .inr (4, [.ref aL1, .ref aL3, .ref aL4, .ref aL5, .ref aL12, .int ltol, .int lchi, .int ljam])), (aL1, .inr (6, [.ref aL2, .int mch])), (aL2, .inl (G.2.1, 48, .inl md)), (aL3, .inr (2, [.int fra, .int fwe, .int fof, .int fsi])), (aL4, .inr (1, [.int csh, .int cde, .int csp])), (aL5, .inr (7, [.ref aL6, .ref aL8, .ref aL10, .int rco, .int rmo])), (aL6, .inr (8, [.ref aL7])), (aL7, .inl (G.2.1, 80, .inl rd)), (aL8, .inr (8, [.ref aL9])), (aL9, .inl (G.2.1, 5, .inl rw)), (aL10, .inr (8, [.ref aL11])), (aL11, .inl (G.2.1, 5, .inl rp)), (aL12, .inr (0, [.int apa, .int awo, .int ash, .int aja, .int abu]))] (some (.int r_0)) := by
  refine ro_of (by decide) (Nat.le_of_ble_eq_true rfl) ?_
  intro p e s m args below meth c ls hx hb hr hml hown hlk hA hZ hP hl
  replace hown : s.vm.findClass RX9 = some m.cls := hown
  replace hl : lv_has ls 1 [(0, .ref a0)] := hl
  unfold fX9_wear at hf
  refine lv_aload_n hx hb dX9_wear_0 rfl (lv_at hl 0 rfl) ?_
  refine gf_X9_10 hx hb hown hA hP 0 rfl rfl dX9_wear_1 ?_
  refine gf_X9_80 hx hb hown hA hP 1 rfl rfl dX9_wear_4 ?_
  refine gf_X9_84 hx hb hown hA hP 4 rfl rfl dX9_wear_7 ?_
  cases hf
  exact ro_iret hx hb hr hlk dX9_wear_10
def fX9_offset (fof : Int32)  : Option (Int32) :=
  some fof
set_option maxHeartbeats 4000000 in
set_option maxRecDepth 100000 in
theorem kX9_offset (l : Launch) (G : GG) (a0 aL0 aL1 aL2 aL3 aL4 aL5 aL6 aL7 aL8 aL9 aL10 aL11 aL12 aH0 aT0 aW0 aE0 : Nat) (md : Nat → Int32) (mch : Int32) (fra : Int32) (fwe : Int32) (fof : Int32) (fsi : Int32) (csh : Int32) (cde : Int32) (csp : Int32) (rd : Nat → Int32) (rw : Nat → Int32) (rp : Nat → Int32) (rco : Int32) (rmo : Int32) (apa : Int32) (awo : Int32) (ash : Int32) (aja : Int32) (abu : Int32) (ltol : Int32) (lchi : Int32) (ljam : Int32)  (r_0 : Int32) (hf : fX9_offset fof = some r_0) : Ro l G yX9_offset cX9_offset 1 (some .int) 0 0 [.ref a0] [(a0, .inr (9, [.ref aL0, .ref aH0, .ref aT0, .ref aW0, .ref aE0])), (aL0, .inr (4, [.ref aL1, .ref aL3, .ref aL4, .ref aL5, .ref aL12, .int ltol, .int lchi, .int ljam])), (aL1, .inr (6, [.ref aL2, .int mch])), (aL2, .inl (G.2.1, 48, .inl md)), (aL3, .inr (2, [.int fra, .int fwe, .int fof, .int fsi])), (aL4, .inr (1, [.int csh, .int cde, .int csp])), (aL5, .inr (7, [.ref aL6, .ref aL8, .ref aL10, .int rco, .int rmo])), (aL6, .inr (8, [.ref aL7])), (aL7, .inl (G.2.1, 80, .inl rd)), (aL8, .inr (8, [.ref aL9])), (aL9, .inl (G.2.1, 5, .inl rw)), (aL10, .inr (8, [.ref aL11])), (aL11, .inl (G.2.1, 5, .inl rp)), (aL12, .inr (0, [.int apa, .int awo, .int ash, .int aja, .int abu]))] (some (.int r_0)) := by
  refine ro_of (by decide) (Nat.le_of_ble_eq_true rfl) ?_
  intro p e s m args below meth c ls hx hb hr hml hown hlk hA hZ hP hl
  replace hown : s.vm.findClass RX9 = some m.cls := hown
  replace hl : lv_has ls 1 [(0, .ref a0)] := hl
  unfold fX9_offset at hf
  refine lv_aload_n hx hb dX9_offset_0 rfl (lv_at hl 0 rfl) ?_
  refine gf_X9_10 hx hb hown hA hP 0 rfl rfl dX9_offset_1 ?_
  refine gf_X9_80 hx hb hown hA hP 1 rfl rfl dX9_offset_4 ?_
  refine gf_X9_92 hx hb hown hA hP 4 rfl rfl dX9_offset_7 ?_
  cases hf
  exact ro_iret hx hb hr hlk dX9_offset_10
def fX9_sharpness (csh : Int32)  : Option (Int32) :=
  some csh
set_option maxHeartbeats 4000000 in
set_option maxRecDepth 100000 in
theorem kX9_sharpness (l : Launch) (G : GG) (a0 aL0 aL1 aL2 aL3 aL4 aL5 aL6 aL7 aL8 aL9 aL10 aL11 aL12 aH0 aT0 aW0 aE0 : Nat) (md : Nat → Int32) (mch : Int32) (fra : Int32) (fwe : Int32) (fof : Int32) (fsi : Int32) (csh : Int32) (cde : Int32) (csp : Int32) (rd : Nat → Int32) (rw : Nat → Int32) (rp : Nat → Int32) (rco : Int32) (rmo : Int32) (apa : Int32) (awo : Int32) (ash : Int32) (aja : Int32) (abu : Int32) (ltol : Int32) (lchi : Int32) (ljam : Int32)  (r_0 : Int32) (hf : fX9_sharpness csh = some r_0) : Ro l G yX9_sharpness cX9_sharpness 1 (some .int) 0 0 [.ref a0] [(a0, .inr (9, [.ref aL0, .ref aH0, .ref aT0, .ref aW0, .ref aE0])), (aL0, .inr (4, [.ref aL1, .ref aL3, .ref aL4, .ref aL5, .ref aL12, .int ltol, .int lchi, .int ljam])), (aL1, .inr (6, [.ref aL2, .int mch])), (aL2, .inl (G.2.1, 48, .inl md)), (aL3, .inr (2, [.int fra, .int fwe, .int fof, .int fsi])), (aL4, .inr (1, [.int csh, .int cde, .int csp])), (aL5, .inr (7, [.ref aL6, .ref aL8, .ref aL10, .int rco, .int rmo])), (aL6, .inr (8, [.ref aL7])), (aL7, .inl (G.2.1, 80, .inl rd)), (aL8, .inr (8, [.ref aL9])), (aL9, .inl (G.2.1, 5, .inl rw)), (aL10, .inr (8, [.ref aL11])), (aL11, .inl (G.2.1, 5, .inl rp)), (aL12, .inr (0, [.int apa, .int awo, .int ash, .int aja, .int abu]))] (some (.int r_0)) := by
  refine ro_of (by decide) (Nat.le_of_ble_eq_true rfl) ?_
  intro p e s m args below meth c ls hx hb hr hml hown hlk hA hZ hP hl
  replace hown : s.vm.findClass RX9 = some m.cls := hown
  replace hl : lv_has ls 1 [(0, .ref a0)] := hl
  unfold fX9_sharpness at hf
  refine lv_aload_n hx hb dX9_sharpness_0 rfl (lv_at hl 0 rfl) ?_
  refine gf_X9_10 hx hb hown hA hP 0 rfl rfl dX9_sharpness_1 ?_
  refine gf_X9_95 hx hb hown hA hP 1 rfl rfl dX9_sharpness_4 ?_
  refine gf_X9_99 hx hb hown hA hP 5 rfl rfl dX9_sharpness_7 ?_
  cases hf
  exact ro_iret hx hb hr hlk dX9_sharpness_10
def fX9_depth (cde : Int32)  : Option (Int32) :=
  some cde
set_option maxHeartbeats 4000000 in
set_option maxRecDepth 100000 in
theorem kX9_depth (l : Launch) (G : GG) (a0 aL0 aL1 aL2 aL3 aL4 aL5 aL6 aL7 aL8 aL9 aL10 aL11 aL12 aH0 aT0 aW0 aE0 : Nat) (md : Nat → Int32) (mch : Int32) (fra : Int32) (fwe : Int32) (fof : Int32) (fsi : Int32) (csh : Int32) (cde : Int32) (csp : Int32) (rd : Nat → Int32) (rw : Nat → Int32) (rp : Nat → Int32) (rco : Int32) (rmo : Int32) (apa : Int32) (awo : Int32) (ash : Int32) (aja : Int32) (abu : Int32) (ltol : Int32) (lchi : Int32) (ljam : Int32)  (r_0 : Int32) (hf : fX9_depth cde = some r_0) : Ro l G yX9_depth cX9_depth 1 (some .int) 0 0 [.ref a0] [(a0, .inr (9, [.ref aL0, .ref aH0, .ref aT0, .ref aW0, .ref aE0])), (aL0, .inr (4, [.ref aL1, .ref aL3, .ref aL4, .ref aL5, .ref aL12, .int ltol, .int lchi, .int ljam])), (aL1, .inr (6, [.ref aL2, .int mch])), (aL2, .inl (G.2.1, 48, .inl md)), (aL3, .inr (2, [.int fra, .int fwe, .int fof, .int fsi])), (aL4, .inr (1, [.int csh, .int cde, .int csp])), (aL5, .inr (7, [.ref aL6, .ref aL8, .ref aL10, .int rco, .int rmo])), (aL6, .inr (8, [.ref aL7])), (aL7, .inl (G.2.1, 80, .inl rd)), (aL8, .inr (8, [.ref aL9])), (aL9, .inl (G.2.1, 5, .inl rw)), (aL10, .inr (8, [.ref aL11])), (aL11, .inl (G.2.1, 5, .inl rp)), (aL12, .inr (0, [.int apa, .int awo, .int ash, .int aja, .int abu]))] (some (.int r_0)) := by
  refine ro_of (by decide) (Nat.le_of_ble_eq_true rfl) ?_
  intro p e s m args below meth c ls hx hb hr hml hown hlk hA hZ hP hl
  replace hown : s.vm.findClass RX9 = some m.cls := hown
  replace hl : lv_has ls 1 [(0, .ref a0)] := hl
  unfold fX9_depth at hf
  refine lv_aload_n hx hb dX9_depth_0 rfl (lv_at hl 0 rfl) ?_
  refine gf_X9_10 hx hb hown hA hP 0 rfl rfl dX9_depth_1 ?_
  refine gf_X9_95 hx hb hown hA hP 1 rfl rfl dX9_depth_4 ?_
  refine gf_X9_113 hx hb hown hA hP 5 rfl rfl dX9_depth_7 ?_
  cases hf
  exact ro_iret hx hb hr hlk dX9_depth_10
def fX9_cutDepth (csh : Int32) (cde : Int32)  : Option (Int32) :=
  ((fX1_reach csh cde).bind fun r_1 => some r_1)
set_option maxHeartbeats 4000000 in
set_option maxRecDepth 100000 in
theorem kX9_cutDepth (l : Launch) (G : GG) (a0 aL0 aL1 aL2 aL3 aL4 aL5 aL6 aL7 aL8 aL9 aL10 aL11 aL12 aH0 aT0 aW0 aE0 : Nat) (md : Nat → Int32) (mch : Int32) (fra : Int32) (fwe : Int32) (fof : Int32) (fsi : Int32) (csh : Int32) (cde : Int32) (csp : Int32) (rd : Nat → Int32) (rw : Nat → Int32) (rp : Nat → Int32) (rco : Int32) (rmo : Int32) (apa : Int32) (awo : Int32) (ash : Int32) (aja : Int32) (abu : Int32) (ltol : Int32) (lchi : Int32) (ljam : Int32)  (r_0 : Int32) (hf : fX9_cutDepth csh cde = some r_0) : Ro l G yX9_cutDepth cX9_cutDepth 1 (some .int) 2 40 [.ref a0] [(a0, .inr (9, [.ref aL0, .ref aH0, .ref aT0, .ref aW0, .ref aE0])), (aL0, .inr (4, [.ref aL1, .ref aL3, .ref aL4, .ref aL5, .ref aL12, .int ltol, .int lchi, .int ljam])), (aL1, .inr (6, [.ref aL2, .int mch])), (aL2, .inl (G.2.1, 48, .inl md)), (aL3, .inr (2, [.int fra, .int fwe, .int fof, .int fsi])), (aL4, .inr (1, [.int csh, .int cde, .int csp])), (aL5, .inr (7, [.ref aL6, .ref aL8, .ref aL10, .int rco, .int rmo])), (aL6, .inr (8, [.ref aL7])), (aL7, .inl (G.2.1, 80, .inl rd)), (aL8, .inr (8, [.ref aL9])), (aL9, .inl (G.2.1, 5, .inl rw)), (aL10, .inr (8, [.ref aL11])), (aL11, .inl (G.2.1, 5, .inl rp)), (aL12, .inr (0, [.int apa, .int awo, .int ash, .int aja, .int abu]))] (some (.int r_0)) := by
  refine ro_of (by decide) (Nat.le_of_ble_eq_true rfl) ?_
  intro p e s m args below meth c ls hx hb hr hml hown hlk hA hZ hP hl
  replace hown : s.vm.findClass RX9 = some m.cls := hown
  replace hl : lv_has ls 1 [(0, .ref a0)] := hl
  unfold fX9_cutDepth at hf
  refine lv_aload_n hx hb dX9_cutDepth_0 rfl (lv_at hl 0 rfl) ?_
  refine gf_X9_10 hx hb hown hA hP 0 rfl rfl dX9_cutDepth_1 ?_
  refine gf_X9_95 hx hb hown hA hP 1 rfl rfl dX9_cutDepth_4 ?_
  obtain ⟨r_1, q_2, hf⟩ := obd hf
  refine ro_v (n := 0) (As := []) (q0 := 0) hx hb hml hown hA (kX1_reach l G aL4 csh cde csp r_1 q_2) g_X9_231 gd_X1_reach ⟨(Nat.le_of_ble_eq_true rfl), (Nat.le_of_ble_eq_true rfl)⟩ hZ (hP.sub [5] rfl) rfl rfl rfl hl.1 (Nat.le_of_ble_eq_true rfl) ⟨(Nat.le_of_ble_eq_true rfl), (Nat.le_of_ble_eq_true rfl)⟩ dX9_cutDepth_7 ?_
  refine W.eq (g2 := F0 m 10 ls [.int r_1]) rfl ?_
  cases hf
  exact ro_iret hx hb hr hlk dX9_cutDepth_10
def fX9_speed (csp : Int32)  : Option (Int32) :=
  some csp
set_option maxHeartbeats 4000000 in
set_option maxRecDepth 100000 in
theorem kX9_speed (l : Launch) (G : GG) (a0 aL0 aL1 aL2 aL3 aL4 aL5 aL6 aL7 aL8 aL9 aL10 aL11 aL12 aH0 aT0 aW0 aE0 : Nat) (md : Nat → Int32) (mch : Int32) (fra : Int32) (fwe : Int32) (fof : Int32) (fsi : Int32) (csh : Int32) (cde : Int32) (csp : Int32) (rd : Nat → Int32) (rw : Nat → Int32) (rp : Nat → Int32) (rco : Int32) (rmo : Int32) (apa : Int32) (awo : Int32) (ash : Int32) (aja : Int32) (abu : Int32) (ltol : Int32) (lchi : Int32) (ljam : Int32)  (r_0 : Int32) (hf : fX9_speed csp = some r_0) : Ro l G yX9_speed cX9_speed 1 (some .int) 0 0 [.ref a0] [(a0, .inr (9, [.ref aL0, .ref aH0, .ref aT0, .ref aW0, .ref aE0])), (aL0, .inr (4, [.ref aL1, .ref aL3, .ref aL4, .ref aL5, .ref aL12, .int ltol, .int lchi, .int ljam])), (aL1, .inr (6, [.ref aL2, .int mch])), (aL2, .inl (G.2.1, 48, .inl md)), (aL3, .inr (2, [.int fra, .int fwe, .int fof, .int fsi])), (aL4, .inr (1, [.int csh, .int cde, .int csp])), (aL5, .inr (7, [.ref aL6, .ref aL8, .ref aL10, .int rco, .int rmo])), (aL6, .inr (8, [.ref aL7])), (aL7, .inl (G.2.1, 80, .inl rd)), (aL8, .inr (8, [.ref aL9])), (aL9, .inl (G.2.1, 5, .inl rw)), (aL10, .inr (8, [.ref aL11])), (aL11, .inl (G.2.1, 5, .inl rp)), (aL12, .inr (0, [.int apa, .int awo, .int ash, .int aja, .int abu]))] (some (.int r_0)) := by
  refine ro_of (by decide) (Nat.le_of_ble_eq_true rfl) ?_
  intro p e s m args below meth c ls hx hb hr hml hown hlk hA hZ hP hl
  replace hown : s.vm.findClass RX9 = some m.cls := hown
  replace hl : lv_has ls 1 [(0, .ref a0)] := hl
  unfold fX9_speed at hf
  refine lv_aload_n hx hb dX9_speed_0 rfl (lv_at hl 0 rfl) ?_
  refine gf_X9_10 hx hb hown hA hP 0 rfl rfl dX9_speed_1 ?_
  refine gf_X9_95 hx hb hown hA hP 1 rfl rfl dX9_speed_4 ?_
  refine gf_X9_116 hx hb hown hA hP 5 rfl rfl dX9_speed_7 ?_
  cases hf
  exact ro_iret hx hb hr hlk dX9_speed_10
def fX9_tolerance (ltol : Int32)  : Option (Int32) :=
  some ltol
set_option maxHeartbeats 4000000 in
set_option maxRecDepth 100000 in
theorem kX9_tolerance (l : Launch) (G : GG) (a0 aL0 aL1 aL2 aL3 aL4 aL5 aL6 aL7 aL8 aL9 aL10 aL11 aL12 aH0 aT0 aW0 aE0 : Nat) (md : Nat → Int32) (mch : Int32) (fra : Int32) (fwe : Int32) (fof : Int32) (fsi : Int32) (csh : Int32) (cde : Int32) (csp : Int32) (rd : Nat → Int32) (rw : Nat → Int32) (rp : Nat → Int32) (rco : Int32) (rmo : Int32) (apa : Int32) (awo : Int32) (ash : Int32) (aja : Int32) (abu : Int32) (ltol : Int32) (lchi : Int32) (ljam : Int32)  (r_0 : Int32) (hf : fX9_tolerance ltol = some r_0) : Ro l G yX9_tolerance cX9_tolerance 1 (some .int) 0 0 [.ref a0] [(a0, .inr (9, [.ref aL0, .ref aH0, .ref aT0, .ref aW0, .ref aE0])), (aL0, .inr (4, [.ref aL1, .ref aL3, .ref aL4, .ref aL5, .ref aL12, .int ltol, .int lchi, .int ljam])), (aL1, .inr (6, [.ref aL2, .int mch])), (aL2, .inl (G.2.1, 48, .inl md)), (aL3, .inr (2, [.int fra, .int fwe, .int fof, .int fsi])), (aL4, .inr (1, [.int csh, .int cde, .int csp])), (aL5, .inr (7, [.ref aL6, .ref aL8, .ref aL10, .int rco, .int rmo])), (aL6, .inr (8, [.ref aL7])), (aL7, .inl (G.2.1, 80, .inl rd)), (aL8, .inr (8, [.ref aL9])), (aL9, .inl (G.2.1, 5, .inl rw)), (aL10, .inr (8, [.ref aL11])), (aL11, .inl (G.2.1, 5, .inl rp)), (aL12, .inr (0, [.int apa, .int awo, .int ash, .int aja, .int abu]))] (some (.int r_0)) := by
  refine ro_of (by decide) (Nat.le_of_ble_eq_true rfl) ?_
  intro p e s m args below meth c ls hx hb hr hml hown hlk hA hZ hP hl
  replace hown : s.vm.findClass RX9 = some m.cls := hown
  replace hl : lv_has ls 1 [(0, .ref a0)] := hl
  unfold fX9_tolerance at hf
  refine lv_aload_n hx hb dX9_tolerance_0 rfl (lv_at hl 0 rfl) ?_
  refine gf_X9_10 hx hb hown hA hP 0 rfl rfl dX9_tolerance_1 ?_
  refine gf_X9_119 hx hb hown hA hP 1 rfl rfl dX9_tolerance_4 ?_
  cases hf
  exact ro_iret hx hb hr hlk dX9_tolerance_7
def fX9_chips (lchi : Int32)  : Option (Int32) :=
  some lchi
set_option maxHeartbeats 4000000 in
set_option maxRecDepth 100000 in
theorem kX9_chips (l : Launch) (G : GG) (a0 aL0 aL1 aL2 aL3 aL4 aL5 aL6 aL7 aL8 aL9 aL10 aL11 aL12 aH0 aT0 aW0 aE0 : Nat) (md : Nat → Int32) (mch : Int32) (fra : Int32) (fwe : Int32) (fof : Int32) (fsi : Int32) (csh : Int32) (cde : Int32) (csp : Int32) (rd : Nat → Int32) (rw : Nat → Int32) (rp : Nat → Int32) (rco : Int32) (rmo : Int32) (apa : Int32) (awo : Int32) (ash : Int32) (aja : Int32) (abu : Int32) (ltol : Int32) (lchi : Int32) (ljam : Int32)  (r_0 : Int32) (hf : fX9_chips lchi = some r_0) : Ro l G yX9_chips cX9_chips 1 (some .int) 0 0 [.ref a0] [(a0, .inr (9, [.ref aL0, .ref aH0, .ref aT0, .ref aW0, .ref aE0])), (aL0, .inr (4, [.ref aL1, .ref aL3, .ref aL4, .ref aL5, .ref aL12, .int ltol, .int lchi, .int ljam])), (aL1, .inr (6, [.ref aL2, .int mch])), (aL2, .inl (G.2.1, 48, .inl md)), (aL3, .inr (2, [.int fra, .int fwe, .int fof, .int fsi])), (aL4, .inr (1, [.int csh, .int cde, .int csp])), (aL5, .inr (7, [.ref aL6, .ref aL8, .ref aL10, .int rco, .int rmo])), (aL6, .inr (8, [.ref aL7])), (aL7, .inl (G.2.1, 80, .inl rd)), (aL8, .inr (8, [.ref aL9])), (aL9, .inl (G.2.1, 5, .inl rw)), (aL10, .inr (8, [.ref aL11])), (aL11, .inl (G.2.1, 5, .inl rp)), (aL12, .inr (0, [.int apa, .int awo, .int ash, .int aja, .int abu]))] (some (.int r_0)) := by
  refine ro_of (by decide) (Nat.le_of_ble_eq_true rfl) ?_
  intro p e s m args below meth c ls hx hb hr hml hown hlk hA hZ hP hl
  replace hown : s.vm.findClass RX9 = some m.cls := hown
  replace hl : lv_has ls 1 [(0, .ref a0)] := hl
  unfold fX9_chips at hf
  refine lv_aload_n hx hb dX9_chips_0 rfl (lv_at hl 0 rfl) ?_
  refine gf_X9_10 hx hb hown hA hP 0 rfl rfl dX9_chips_1 ?_
  refine gf_X9_122 hx hb hown hA hP 1 rfl rfl dX9_chips_4 ?_
  cases hf
  exact ro_iret hx hb hr hlk dX9_chips_7
def fX9_roomForChips (lchi : Int32)  : Option (Int32) :=
  some (200 - lchi)
set_option maxHeartbeats 4000000 in
set_option maxRecDepth 100000 in
theorem kX9_roomForChips (l : Launch) (G : GG) (a0 aL0 aL1 aL2 aL3 aL4 aL5 aL6 aL7 aL8 aL9 aL10 aL11 aL12 aH0 aT0 aW0 aE0 : Nat) (md : Nat → Int32) (mch : Int32) (fra : Int32) (fwe : Int32) (fof : Int32) (fsi : Int32) (csh : Int32) (cde : Int32) (csp : Int32) (rd : Nat → Int32) (rw : Nat → Int32) (rp : Nat → Int32) (rco : Int32) (rmo : Int32) (apa : Int32) (awo : Int32) (ash : Int32) (aja : Int32) (abu : Int32) (ltol : Int32) (lchi : Int32) (ljam : Int32)  (r_0 : Int32) (hf : fX9_roomForChips lchi = some r_0) : Ro l G yX9_roomForChips cX9_roomForChips 1 (some .int) 0 0 [.ref a0] [(a0, .inr (9, [.ref aL0, .ref aH0, .ref aT0, .ref aW0, .ref aE0])), (aL0, .inr (4, [.ref aL1, .ref aL3, .ref aL4, .ref aL5, .ref aL12, .int ltol, .int lchi, .int ljam])), (aL1, .inr (6, [.ref aL2, .int mch])), (aL2, .inl (G.2.1, 48, .inl md)), (aL3, .inr (2, [.int fra, .int fwe, .int fof, .int fsi])), (aL4, .inr (1, [.int csh, .int cde, .int csp])), (aL5, .inr (7, [.ref aL6, .ref aL8, .ref aL10, .int rco, .int rmo])), (aL6, .inr (8, [.ref aL7])), (aL7, .inl (G.2.1, 80, .inl rd)), (aL8, .inr (8, [.ref aL9])), (aL9, .inl (G.2.1, 5, .inl rw)), (aL10, .inr (8, [.ref aL11])), (aL11, .inl (G.2.1, 5, .inl rp)), (aL12, .inr (0, [.int apa, .int awo, .int ash, .int aja, .int abu]))] (some (.int r_0)) := by
  refine ro_of (by decide) (Nat.le_of_ble_eq_true rfl) ?_
  intro p e s m args below meth c ls hx hb hr hml hown hlk hA hZ hP hl
  replace hown : s.vm.findClass RX9 = some m.cls := hown
  replace hl : lv_has ls 1 [(0, .ref a0)] := hl
  unfold fX9_roomForChips at hf
  refine lv_sipush (v := 200) hx hb dX9_roomForChips_0 (by decide) ?_
  refine lv_aload_n hx hb dX9_roomForChips_3 rfl (lv_at hl 0 rfl) ?_
  refine gf_X9_10 hx hb hown hA hP 0 rfl rfl dX9_roomForChips_4 ?_
  refine gf_X9_122 hx hb hown hA hP 1 rfl rfl dX9_roomForChips_7 ?_
  refine lv_isub hx hb dX9_roomForChips_10 ?_
  cases hf
  exact ro_iret hx hb hr hlk dX9_roomForChips_11
def fX9_isJammed (ljam : Int32)  : Option (Int32) :=
  (if (ljam = 0 ∨ ljam = 1) then some ljam else none)
set_option maxHeartbeats 4000000 in
set_option maxRecDepth 100000 in
theorem kX9_isJammed (l : Launch) (G : GG) (a0 aL0 aL1 aL2 aL3 aL4 aL5 aL6 aL7 aL8 aL9 aL10 aL11 aL12 aH0 aT0 aW0 aE0 : Nat) (md : Nat → Int32) (mch : Int32) (fra : Int32) (fwe : Int32) (fof : Int32) (fsi : Int32) (csh : Int32) (cde : Int32) (csp : Int32) (rd : Nat → Int32) (rw : Nat → Int32) (rp : Nat → Int32) (rco : Int32) (rmo : Int32) (apa : Int32) (awo : Int32) (ash : Int32) (aja : Int32) (abu : Int32) (ltol : Int32) (lchi : Int32) (ljam : Int32)  (r_0 : Int32) (hf : fX9_isJammed ljam = some r_0) : Ro l G yX9_isJammed cX9_isJammed 1 (some .boolean) 0 0 [.ref a0] [(a0, .inr (9, [.ref aL0, .ref aH0, .ref aT0, .ref aW0, .ref aE0])), (aL0, .inr (4, [.ref aL1, .ref aL3, .ref aL4, .ref aL5, .ref aL12, .int ltol, .int lchi, .int ljam])), (aL1, .inr (6, [.ref aL2, .int mch])), (aL2, .inl (G.2.1, 48, .inl md)), (aL3, .inr (2, [.int fra, .int fwe, .int fof, .int fsi])), (aL4, .inr (1, [.int csh, .int cde, .int csp])), (aL5, .inr (7, [.ref aL6, .ref aL8, .ref aL10, .int rco, .int rmo])), (aL6, .inr (8, [.ref aL7])), (aL7, .inl (G.2.1, 80, .inl rd)), (aL8, .inr (8, [.ref aL9])), (aL9, .inl (G.2.1, 5, .inl rw)), (aL10, .inr (8, [.ref aL11])), (aL11, .inl (G.2.1, 5, .inl rp)), (aL12, .inr (0, [.int apa, .int awo, .int ash, .int aja, .int abu]))] (some (.int r_0)) := by
  refine ro_of (by decide) (Nat.le_of_ble_eq_true rfl) ?_
  intro p e s m args below meth c ls hx hb hr hml hown hlk hA hZ hP hl
  replace hown : s.vm.findClass RX9 = some m.cls := hown
  replace hl : lv_has ls 1 [(0, .ref a0)] := hl
  unfold fX9_isJammed at hf
  refine lv_aload_n hx hb dX9_isJammed_0 rfl (lv_at hl 0 rfl) ?_
  refine gf_X9_10 hx hb hown hA hP 0 rfl rfl dX9_isJammed_1 ?_
  refine gf_X9_125 hx hb hown hA hP 1 rfl rfl dX9_isJammed_4 ?_
  obtain ⟨z_1, hf⟩ := ock hf
  cases hf
  exact ro_zret hx hb hr hlk z_1 dX9_isJammed_7
def fX9_pieces (rco : Int32)  : Option (Int32) :=
  some rco
set_option maxHeartbeats 4000000 in
set_option maxRecDepth 100000 in
theorem kX9_pieces (l : Launch) (G : GG) (a0 aL0 aL1 aL2 aL3 aL4 aL5 aL6 aL7 aL8 aL9 aL10 aL11 aL12 aH0 aT0 aW0 aE0 : Nat) (md : Nat → Int32) (mch : Int32) (fra : Int32) (fwe : Int32) (fof : Int32) (fsi : Int32) (csh : Int32) (cde : Int32) (csp : Int32) (rd : Nat → Int32) (rw : Nat → Int32) (rp : Nat → Int32) (rco : Int32) (rmo : Int32) (apa : Int32) (awo : Int32) (ash : Int32) (aja : Int32) (abu : Int32) (ltol : Int32) (lchi : Int32) (ljam : Int32)  (r_0 : Int32) (hf : fX9_pieces rco = some r_0) : Ro l G yX9_pieces cX9_pieces 1 (some .int) 0 0 [.ref a0] [(a0, .inr (9, [.ref aL0, .ref aH0, .ref aT0, .ref aW0, .ref aE0])), (aL0, .inr (4, [.ref aL1, .ref aL3, .ref aL4, .ref aL5, .ref aL12, .int ltol, .int lchi, .int ljam])), (aL1, .inr (6, [.ref aL2, .int mch])), (aL2, .inl (G.2.1, 48, .inl md)), (aL3, .inr (2, [.int fra, .int fwe, .int fof, .int fsi])), (aL4, .inr (1, [.int csh, .int cde, .int csp])), (aL5, .inr (7, [.ref aL6, .ref aL8, .ref aL10, .int rco, .int rmo])), (aL6, .inr (8, [.ref aL7])), (aL7, .inl (G.2.1, 80, .inl rd)), (aL8, .inr (8, [.ref aL9])), (aL9, .inl (G.2.1, 5, .inl rw)), (aL10, .inr (8, [.ref aL11])), (aL11, .inl (G.2.1, 5, .inl rp)), (aL12, .inr (0, [.int apa, .int awo, .int ash, .int aja, .int abu]))] (some (.int r_0)) := by
  refine ro_of (by decide) (Nat.le_of_ble_eq_true rfl) ?_
  intro p e s m args below meth c ls hx hb hr hml hown hlk hA hZ hP hl
  replace hown : s.vm.findClass RX9 = some m.cls := hown
  replace hl : lv_has ls 1 [(0, .ref a0)] := hl
  unfold fX9_pieces at hf
  refine lv_aload_n hx hb dX9_pieces_0 rfl (lv_at hl 0 rfl) ?_
  refine gf_X9_10 hx hb hown hA hP 0 rfl rfl dX9_pieces_1 ?_
  refine gf_X9_133 hx hb hown hA hP 1 rfl rfl dX9_pieces_4 ?_
  refine gf_X9_137 hx hb hown hA hP 6 rfl rfl dX9_pieces_7 ?_
  cases hf
  exact ro_iret hx hb hr hlk dX9_pieces_10
def fX9_checkPiece (rco : Int32) (i1 : Int32) : Option (Nat ⊕ (Unit)) :=
  ((fX9_checkIndex i1 rco).bind fun z => match z with | .inl e => some (.inl e) | .inr _ => (Option.map Sum.inr (some ())))
set_option maxHeartbeats 4000000 in
set_option maxRecDepth 100000 in
theorem kX9_checkPiece (l : Launch) (G : GG) (a0 aL0 aL1 aL2 aL3 aL4 aL5 aL6 aL7 aL8 aL9 aL10 aL11 aL12 aH0 aT0 aW0 aE0 : Nat) (md : Nat → Int32) (mch : Int32) (fra : Int32) (fwe : Int32) (fof : Int32) (fsi : Int32) (csh : Int32) (cde : Int32) (csp : Int32) (rd : Nat → Int32) (rw : Nat → Int32) (rp : Nat → Int32) (rco : Int32) (rmo : Int32) (apa : Int32) (awo : Int32) (ash : Int32) (aja : Int32) (abu : Int32) (ltol : Int32) (lchi : Int32) (ljam : Int32) (i1 : Int32)  (hf : fX9_checkPiece rco i1 = some (.inr ())) : Ro l G yX9_checkPiece cX9_checkPiece 2 none 7 102 [.ref a0, .int i1] [(a0, .inr (9, [.ref aL0, .ref aH0, .ref aT0, .ref aW0, .ref aE0])), (aL0, .inr (4, [.ref aL1, .ref aL3, .ref aL4, .ref aL5, .ref aL12, .int ltol, .int lchi, .int ljam])), (aL1, .inr (6, [.ref aL2, .int mch])), (aL2, .inl (G.2.1, 48, .inl md)), (aL3, .inr (2, [.int fra, .int fwe, .int fof, .int fsi])), (aL4, .inr (1, [.int csh, .int cde, .int csp])), (aL5, .inr (7, [.ref aL6, .ref aL8, .ref aL10, .int rco, .int rmo])), (aL6, .inr (8, [.ref aL7])), (aL7, .inl (G.2.1, 80, .inl rd)), (aL8, .inr (8, [.ref aL9])), (aL9, .inl (G.2.1, 5, .inl rw)), (aL10, .inr (8, [.ref aL11])), (aL11, .inl (G.2.1, 5, .inl rp)), (aL12, .inr (0, [.int apa, .int awo, .int ash, .int aja, .int abu]))] none := by
  refine ro_of (by decide) (Nat.le_of_ble_eq_true rfl) ?_
  intro p e s m args below meth c ls hx hb hr hml hown hlk hA hZ hP hl
  replace hown : s.vm.findClass RX9 = some m.cls := hown
  replace hl : lv_has ls 2 [(0, .ref a0), (1, .int i1)] := hl
  unfold fX9_checkPiece at hf
  refine lv_iload_n hx hb dX9_checkPiece_0 rfl (lv_at hl 1 rfl) ?_
  refine lv_aload_n hx hb dX9_checkPiece_1 rfl (lv_at hl 0 rfl) ?_
  refine gf_X9_10 hx hb hown hA hP 0 rfl rfl dX9_checkPiece_2 ?_
  refine gf_X9_133 hx hb hown hA hP 1 rfl rfl dX9_checkPiece_5 ?_
  refine gf_X9_137 hx hb hown hA hP 6 rfl rfl dX9_checkPiece_8 ?_
  obtain ⟨e9 | u9, q_1, hf⟩ := obd hf
  · dsimp only at hf
    cases hf
  dsimp only at hf
  replace hf := omr hf
  refine ro_s (n := 2) (As := [.int i1, .int rco]) hx hb hml hown hA (kX9_checkIndex l G i1 rco q_1) g_X9_129 gd_X9_checkIndex ⟨(Nat.le_of_ble_eq_true rfl), (Nat.le_of_ble_eq_true rfl)⟩ hZ (fun _ _ h => by simp at h) rfl hl.1 (Nat.le_of_ble_eq_true rfl) ⟨(Nat.le_of_ble_eq_true rfl), (Nat.le_of_ble_eq_true rfl)⟩ dX9_checkPiece_11 ?_
  refine W.eq (g2 := F0 m 14 ls []) rfl ?_
  cases hf
  exact ro_vret hx hb hr hlk dX9_checkPiece_14
def fX9_woodOf (rw : Nat → Int32) (rco : Int32) (i1 : Int32) : Option (Nat ⊕ (Int32)) :=
  ((fX9_checkPiece rco i1).bind fun z => match z with | .inl e => some (.inl e) | .inr _ => (Option.map Sum.inr (((fX8_at 5 rw i1).bind fun r_2 => some r_2))))
set_option maxHeartbeats 4000000 in
set_option maxRecDepth 100000 in
theorem kX9_woodOf (l : Launch) (G : GG) (a0 aL0 aL1 aL2 aL3 aL4 aL5 aL6 aL7 aL8 aL9 aL10 aL11 aL12 aH0 aT0 aW0 aE0 : Nat) (md : Nat → Int32) (mch : Int32) (fra : Int32) (fwe : Int32) (fof : Int32) (fsi : Int32) (csh : Int32) (cde : Int32) (csp : Int32) (rd : Nat → Int32) (rw : Nat → Int32) (rp : Nat → Int32) (rco : Int32) (rmo : Int32) (apa : Int32) (awo : Int32) (ash : Int32) (aja : Int32) (abu : Int32) (ltol : Int32) (lchi : Int32) (ljam : Int32) (i1 : Int32) (r_0 : Int32) (hf : fX9_woodOf rw rco i1 = some (.inr r_0)) : Ro l G yX9_woodOf cX9_woodOf 2 (some .int) 8 123 [.ref a0, .int i1] [(a0, .inr (9, [.ref aL0, .ref aH0, .ref aT0, .ref aW0, .ref aE0])), (aL0, .inr (4, [.ref aL1, .ref aL3, .ref aL4, .ref aL5, .ref aL12, .int ltol, .int lchi, .int ljam])), (aL1, .inr (6, [.ref aL2, .int mch])), (aL2, .inl (G.2.1, 48, .inl md)), (aL3, .inr (2, [.int fra, .int fwe, .int fof, .int fsi])), (aL4, .inr (1, [.int csh, .int cde, .int csp])), (aL5, .inr (7, [.ref aL6, .ref aL8, .ref aL10, .int rco, .int rmo])), (aL6, .inr (8, [.ref aL7])), (aL7, .inl (G.2.1, 80, .inl rd)), (aL8, .inr (8, [.ref aL9])), (aL9, .inl (G.2.1, 5, .inl rw)), (aL10, .inr (8, [.ref aL11])), (aL11, .inl (G.2.1, 5, .inl rp)), (aL12, .inr (0, [.int apa, .int awo, .int ash, .int aja, .int abu]))] (some (.int r_0)) := by
  refine ro_of (by decide) (Nat.le_of_ble_eq_true rfl) ?_
  intro p e s m args below meth c ls hx hb hr hml hown hlk hA hZ hP hl
  replace hown : s.vm.findClass RX9 = some m.cls := hown
  replace hl : lv_has ls 2 [(0, .ref a0), (1, .int i1)] := hl
  unfold fX9_woodOf at hf
  refine lv_aload_n hx hb dX9_woodOf_0 rfl (lv_at hl 0 rfl) ?_
  refine lv_iload_n hx hb dX9_woodOf_1 rfl (lv_at hl 1 rfl) ?_
  obtain ⟨e9 | u9, q_1, hf⟩ := obd hf
  · dsimp only at hf
    cases hf
  dsimp only at hf
  replace hf := omr hf
  refine ro_v (n := 1) (As := [.int i1]) (q0 := 0) hx hb hml hown hA (kX9_checkPiece l G a0 aL0 aL1 aL2 aL3 aL4 aL5 aL6 aL7 aL8 aL9 aL10 aL11 aL12 aH0 aT0 aW0 aE0 md mch fra fwe fof fsi csh cde csp rd rw rp rco rmo apa awo ash aja abu ltol lchi ljam i1 q_1) g_X9_149 gd_X9_checkPiece ⟨(Nat.le_of_ble_eq_true rfl), (Nat.le_of_ble_eq_true rfl)⟩ hZ (hP.sub [0, 1, 2, 3, 4, 5, 6, 7, 8, 9, 10, 11, 12, 13] rfl) rfl rfl rfl hl.1 (Nat.le_of_ble_eq_true rfl) ⟨(Nat.le_of_ble_eq_true rfl), (Nat.le_of_ble_eq_true rfl)⟩ dX9_woodOf_2 ?_
  refine W.eq (g2 := F0 m 5 ls []) rfl ?_
  refine lv_aload_n hx hb dX9_woodOf_5 rfl (lv_at hl 0 rfl) ?_
  refine gf_X9_10 hx hb hown hA hP 0 rfl rfl dX9_woodOf_6 ?_
  refine gf_X9_133 hx hb hown hA hP 1 rfl rfl dX9_woodOf_9 ?_
  refine gf_X9_234 hx hb hown hA hP 6 rfl rfl dX9_woodOf_12 ?_
  refine lv_iload_n hx hb dX9_woodOf_15 rfl (lv_at hl 1 rfl) ?_
  obtain ⟨r_2, q_3, hf⟩ := obd hf
  refine ro_v (n := 1) (As := [.int i1]) (q0 := 0) hx hb hml hown hA (kX8_at l G aL8 aL9 5 rw i1 r_2 q_3 (by decide)) g_X9_204 gd_X8_at ⟨(Nat.le_of_ble_eq_true rfl), (Nat.le_of_ble_eq_true rfl)⟩ hZ (hP.sub [9, 10] rfl) rfl rfl rfl hl.1 (Nat.le_of_ble_eq_true rfl) ⟨(Nat.le_of_ble_eq_true rfl), (Nat.le_of_ble_eq_true rfl)⟩ dX9_woodOf_16 ?_
  refine W.eq (g2 := F0 m 19 ls [.int r_2]) rfl ?_
  cases hf
  exact ro_iret hx hb hr hlk dX9_woodOf_19
def fX9_diameterAt (rd : Nat → Int32) (rco : Int32) (i1 : Int32) (i2 : Int32) : Option (Nat ⊕ (Int32)) :=
  ((fX9_checkPiece rco i1).bind fun z => match z with | .inl e => some (.inl e) | .inr _ => ((fX9_checkStep i2).bind fun z => match z with | .inl e => some (.inl e) | .inr _ => (Option.map Sum.inr (((fX7_at rd i1 i2).bind fun r_3 => some r_3)))))
set_option maxHeartbeats 4000000 in
set_option maxRecDepth 100000 in
theorem kX9_diameterAt (l : Launch) (G : GG) (a0 aL0 aL1 aL2 aL3 aL4 aL5 aL6 aL7 aL8 aL9 aL10 aL11 aL12 aH0 aT0 aW0 aE0 : Nat) (md : Nat → Int32) (mch : Int32) (fra : Int32) (fwe : Int32) (fof : Int32) (fsi : Int32) (csh : Int32) (cde : Int32) (csp : Int32) (rd : Nat → Int32) (rw : Nat → Int32) (rp : Nat → Int32) (rco : Int32) (rmo : Int32) (apa : Int32) (awo : Int32) (ash : Int32) (aja : Int32) (abu : Int32) (ltol : Int32) (lchi : Int32) (ljam : Int32) (i1 : Int32) (i2 : Int32) (r_0 : Int32) (hf : fX9_diameterAt rd rco i1 i2 = some (.inr r_0)) : Ro l G yX9_diameterAt cX9_diameterAt 3 (some .int) 8 123 [.ref a0, .int i1, .int i2] [(a0, .inr (9, [.ref aL0, .ref aH0, .ref aT0, .ref aW0, .ref aE0])), (aL0, .inr (4, [.ref aL1, .ref aL3, .ref aL4, .ref aL5, .ref aL12, .int ltol, .int lchi, .int ljam])), (aL1, .inr (6, [.ref aL2, .int mch])), (aL2, .inl (G.2.1, 48, .inl md)), (aL3, .inr (2, [.int fra, .int fwe, .int fof, .int fsi])), (aL4, .inr (1, [.int csh, .int cde, .int csp])), (aL5, .inr (7, [.ref aL6, .ref aL8, .ref aL10, .int rco, .int rmo])), (aL6, .inr (8, [.ref aL7])), (aL7, .inl (G.2.1, 80, .inl rd)), (aL8, .inr (8, [.ref aL9])), (aL9, .inl (G.2.1, 5, .inl rw)), (aL10, .inr (8, [.ref aL11])), (aL11, .inl (G.2.1, 5, .inl rp)), (aL12, .inr (0, [.int apa, .int awo, .int ash, .int aja, .int abu]))] (some (.int r_0)) := by
  refine ro_of (by decide) (Nat.le_of_ble_eq_true rfl) ?_
  intro p e s m args below meth c ls hx hb hr hml hown hlk hA hZ hP hl
  replace hown : s.vm.findClass RX9 = some m.cls := hown
  replace hl : lv_has ls 3 [(0, .ref a0), (1, .int i1), (2, .int i2)] := hl
  unfold fX9_diameterAt at hf
  refine lv_aload_n hx hb dX9_diameterAt_0 rfl (lv_at hl 0 rfl) ?_
  refine lv_iload_n hx hb dX9_diameterAt_1 rfl (lv_at hl 1 rfl) ?_
  obtain ⟨e9 | u9, q_1, hf⟩ := obd hf
  · dsimp only at hf
    cases hf
  dsimp only at hf
  refine ro_v (n := 1) (As := [.int i1]) (q0 := 0) hx hb hml hown hA (kX9_checkPiece l G a0 aL0 aL1 aL2 aL3 aL4 aL5 aL6 aL7 aL8 aL9 aL10 aL11 aL12 aH0 aT0 aW0 aE0 md mch fra fwe fof fsi csh cde csp rd rw rp rco rmo apa awo ash aja abu ltol lchi ljam i1 q_1) g_X9_149 gd_X9_checkPiece ⟨(Nat.le_of_ble_eq_true rfl), (Nat.le_of_ble_eq_true rfl)⟩ hZ (hP.sub [0, 1, 2, 3, 4, 5, 6, 7, 8, 9, 10, 11, 12, 13] rfl) rfl rfl rfl hl.1 (Nat.le_of_ble_eq_true rfl) ⟨(Nat.le_of_ble_eq_true rfl), (Nat.le_of_ble_eq_true rfl)⟩ dX9_diameterAt_2 ?_
  refine W.eq (g2 := F0 m 5 ls []) rfl ?_
  refine lv_iload_n hx hb dX9_diameterAt_5 rfl (lv_at hl 2 rfl) ?_
  obtain ⟨e9 | u9, q_2, hf⟩ := obd hf
  · dsimp only at hf
    cases hf
  dsimp only at hf
  replace hf := omr hf
  refine ro_s (n := 1) (As := [.int i2]) hx hb hml hown hA (kX9_checkStep l G i2 q_2) g_X9_45 gd_X9_checkStep ⟨(Nat.le_of_ble_eq_true rfl), (Nat.le_of_ble_eq_true rfl)⟩ hZ (fun _ _ h => by simp at h) rfl hl.1 (Nat.le_of_ble_eq_true rfl) ⟨(Nat.le_of_ble_eq_true rfl), (Nat.le_of_ble_eq_true rfl)⟩ dX9_diameterAt_6 ?_
  refine W.eq (g2 := F0 m 9 ls []) rfl ?_
  refine lv_aload_n hx hb dX9_diameterAt_9 rfl (lv_at hl 0 rfl) ?_
  refine gf_X9_10 hx hb hown hA hP 0 rfl rfl dX9_diameterAt_10 ?_
  refine gf_X9_133 hx hb hown hA hP 1 rfl rfl dX9_diameterAt_13 ?_
  refine lv_iload_n hx hb dX9_diameterAt_16 rfl (lv_at hl 1 rfl) ?_
  refine lv_iload_n hx hb dX9_diameterAt_17 rfl (lv_at hl 2 rfl) ?_
  obtain ⟨r_3, q_4, hf⟩ := obd hf
  refine ro_v (n := 2) (As := [.int i1, .int i2]) (q0 := 0) hx hb hml hown hA (kX7_at l G aL5 aL6 aL7 aL8 aL9 aL10 aL11 rd rw rp rco rmo i1 i2 r_3 q_4) g_X9_237 gd_X7_at ⟨(Nat.le_of_ble_eq_true rfl), (Nat.le_of_ble_eq_true rfl)⟩ hZ (hP.sub [6, 7, 8, 9, 10, 11, 12] rfl) rfl rfl rfl hl.1 (Nat.le_of_ble_eq_true rfl) ⟨(Nat.le_of_ble_eq_true rfl), (Nat.le_of_ble_eq_true rfl)⟩ dX9_diameterAt_18 ?_
  refine W.eq (g2 := F0 m 21 ls [.int r_3]) rfl ?_
  cases hf
  exact ro_iret hx hb hr hlk dX9_diameterAt_21
def fX9_passesOn (rp : Nat → Int32) (rco : Int32) (i1 : Int32) : Option (Nat ⊕ (Int32)) :=
  ((fX9_checkPiece rco i1).bind fun z => match z with | .inl e => some (.inl e) | .inr _ => (Option.map Sum.inr (((fX8_at 5 rp i1).bind fun r_2 => some r_2))))
set_option maxHeartbeats 4000000 in
set_option maxRecDepth 100000 in
theorem kX9_passesOn (l : Launch) (G : GG) (a0 aL0 aL1 aL2 aL3 aL4 aL5 aL6 aL7 aL8 aL9 aL10 aL11 aL12 aH0 aT0 aW0 aE0 : Nat) (md : Nat → Int32) (mch : Int32) (fra : Int32) (fwe : Int32) (fof : Int32) (fsi : Int32) (csh : Int32) (cde : Int32) (csp : Int32) (rd : Nat → Int32) (rw : Nat → Int32) (rp : Nat → Int32) (rco : Int32) (rmo : Int32) (apa : Int32) (awo : Int32) (ash : Int32) (aja : Int32) (abu : Int32) (ltol : Int32) (lchi : Int32) (ljam : Int32) (i1 : Int32) (r_0 : Int32) (hf : fX9_passesOn rp rco i1 = some (.inr r_0)) : Ro l G yX9_passesOn cX9_passesOn 2 (some .int) 8 123 [.ref a0, .int i1] [(a0, .inr (9, [.ref aL0, .ref aH0, .ref aT0, .ref aW0, .ref aE0])), (aL0, .inr (4, [.ref aL1, .ref aL3, .ref aL4, .ref aL5, .ref aL12, .int ltol, .int lchi, .int ljam])), (aL1, .inr (6, [.ref aL2, .int mch])), (aL2, .inl (G.2.1, 48, .inl md)), (aL3, .inr (2, [.int fra, .int fwe, .int fof, .int fsi])), (aL4, .inr (1, [.int csh, .int cde, .int csp])), (aL5, .inr (7, [.ref aL6, .ref aL8, .ref aL10, .int rco, .int rmo])), (aL6, .inr (8, [.ref aL7])), (aL7, .inl (G.2.1, 80, .inl rd)), (aL8, .inr (8, [.ref aL9])), (aL9, .inl (G.2.1, 5, .inl rw)), (aL10, .inr (8, [.ref aL11])), (aL11, .inl (G.2.1, 5, .inl rp)), (aL12, .inr (0, [.int apa, .int awo, .int ash, .int aja, .int abu]))] (some (.int r_0)) := by
  refine ro_of (by decide) (Nat.le_of_ble_eq_true rfl) ?_
  intro p e s m args below meth c ls hx hb hr hml hown hlk hA hZ hP hl
  replace hown : s.vm.findClass RX9 = some m.cls := hown
  replace hl : lv_has ls 2 [(0, .ref a0), (1, .int i1)] := hl
  unfold fX9_passesOn at hf
  refine lv_aload_n hx hb dX9_passesOn_0 rfl (lv_at hl 0 rfl) ?_
  refine lv_iload_n hx hb dX9_passesOn_1 rfl (lv_at hl 1 rfl) ?_
  obtain ⟨e9 | u9, q_1, hf⟩ := obd hf
  · dsimp only at hf
    cases hf
  dsimp only at hf
  replace hf := omr hf
  refine ro_v (n := 1) (As := [.int i1]) (q0 := 0) hx hb hml hown hA (kX9_checkPiece l G a0 aL0 aL1 aL2 aL3 aL4 aL5 aL6 aL7 aL8 aL9 aL10 aL11 aL12 aH0 aT0 aW0 aE0 md mch fra fwe fof fsi csh cde csp rd rw rp rco rmo apa awo ash aja abu ltol lchi ljam i1 q_1) g_X9_149 gd_X9_checkPiece ⟨(Nat.le_of_ble_eq_true rfl), (Nat.le_of_ble_eq_true rfl)⟩ hZ (hP.sub [0, 1, 2, 3, 4, 5, 6, 7, 8, 9, 10, 11, 12, 13] rfl) rfl rfl rfl hl.1 (Nat.le_of_ble_eq_true rfl) ⟨(Nat.le_of_ble_eq_true rfl), (Nat.le_of_ble_eq_true rfl)⟩ dX9_passesOn_2 ?_
  refine W.eq (g2 := F0 m 5 ls []) rfl ?_
  refine lv_aload_n hx hb dX9_passesOn_5 rfl (lv_at hl 0 rfl) ?_
  refine gf_X9_10 hx hb hown hA hP 0 rfl rfl dX9_passesOn_6 ?_
  refine gf_X9_133 hx hb hown hA hP 1 rfl rfl dX9_passesOn_9 ?_
  refine gf_X9_238 hx hb hown hA hP 6 rfl rfl dX9_passesOn_12 ?_
  refine lv_iload_n hx hb dX9_passesOn_15 rfl (lv_at hl 1 rfl) ?_
  obtain ⟨r_2, q_3, hf⟩ := obd hf
  refine ro_v (n := 1) (As := [.int i1]) (q0 := 0) hx hb hml hown hA (kX8_at l G aL10 aL11 5 rp i1 r_2 q_3 (by decide)) g_X9_204 gd_X8_at ⟨(Nat.le_of_ble_eq_true rfl), (Nat.le_of_ble_eq_true rfl)⟩ hZ (hP.sub [11, 12] rfl) rfl rfl rfl hl.1 (Nat.le_of_ble_eq_true rfl) ⟨(Nat.le_of_ble_eq_true rfl), (Nat.le_of_ble_eq_true rfl)⟩ dX9_passesOn_16 ?_
  refine W.eq (g2 := F0 m 19 ls [.int r_2]) rfl ?_
  cases hf
  exact ro_iret hx hb hr hlk dX9_passesOn_19
def fX9_hasMounted (rmo : Int32)  : Option (Int32) :=
  ((fX7_isTurning rmo).bind fun r_1 => (if (r_1 = 0 ∨ r_1 = 1) then some r_1 else none))
set_option maxHeartbeats 4000000 in
set_option maxRecDepth 100000 in
theorem kX9_hasMounted (l : Launch) (G : GG) (a0 aL0 aL1 aL2 aL3 aL4 aL5 aL6 aL7 aL8 aL9 aL10 aL11 aL12 aH0 aT0 aW0 aE0 : Nat) (md : Nat → Int32) (mch : Int32) (fra : Int32) (fwe : Int32) (fof : Int32) (fsi : Int32) (csh : Int32) (cde : Int32) (csp : Int32) (rd : Nat → Int32) (rw : Nat → Int32) (rp : Nat → Int32) (rco : Int32) (rmo : Int32) (apa : Int32) (awo : Int32) (ash : Int32) (aja : Int32) (abu : Int32) (ltol : Int32) (lchi : Int32) (ljam : Int32)  (r_0 : Int32) (hf : fX9_hasMounted rmo = some r_0) : Ro l G yX9_hasMounted cX9_hasMounted 1 (some .boolean) 1 20 [.ref a0] [(a0, .inr (9, [.ref aL0, .ref aH0, .ref aT0, .ref aW0, .ref aE0])), (aL0, .inr (4, [.ref aL1, .ref aL3, .ref aL4, .ref aL5, .ref aL12, .int ltol, .int lchi, .int ljam])), (aL1, .inr (6, [.ref aL2, .int mch])), (aL2, .inl (G.2.1, 48, .inl md)), (aL3, .inr (2, [.int fra, .int fwe, .int fof, .int fsi])), (aL4, .inr (1, [.int csh, .int cde, .int csp])), (aL5, .inr (7, [.ref aL6, .ref aL8, .ref aL10, .int rco, .int rmo])), (aL6, .inr (8, [.ref aL7])), (aL7, .inl (G.2.1, 80, .inl rd)), (aL8, .inr (8, [.ref aL9])), (aL9, .inl (G.2.1, 5, .inl rw)), (aL10, .inr (8, [.ref aL11])), (aL11, .inl (G.2.1, 5, .inl rp)), (aL12, .inr (0, [.int apa, .int awo, .int ash, .int aja, .int abu]))] (some (.int r_0)) := by
  refine ro_of (by decide) (Nat.le_of_ble_eq_true rfl) ?_
  intro p e s m args below meth c ls hx hb hr hml hown hlk hA hZ hP hl
  replace hown : s.vm.findClass RX9 = some m.cls := hown
  replace hl : lv_has ls 1 [(0, .ref a0)] := hl
  unfold fX9_hasMounted at hf
  refine lv_aload_n hx hb dX9_hasMounted_0 rfl (lv_at hl 0 rfl) ?_
  refine gf_X9_10 hx hb hown hA hP 0 rfl rfl dX9_hasMounted_1 ?_
  refine gf_X9_133 hx hb hown hA hP 1 rfl rfl dX9_hasMounted_4 ?_
  obtain ⟨r_1, q_2, hf⟩ := obd hf
  refine ro_v (n := 0) (As := []) (q0 := 0) hx hb hml hown hA (kX7_isTurning l G aL5 aL6 aL7 aL8 aL9 aL10 aL11 rd rw rp rco rmo r_1 q_2) g_X9_161 gd_X7_isTurning ⟨(Nat.le_of_ble_eq_true rfl), (Nat.le_of_ble_eq_true rfl)⟩ hZ (hP.sub [6, 7, 8, 9, 10, 11, 12] rfl) rfl rfl rfl hl.1 (Nat.le_of_ble_eq_true rfl) ⟨(Nat.le_of_ble_eq_true rfl), (Nat.le_of_ble_eq_true rfl)⟩ dX9_hasMounted_7 ?_
  refine W.eq (g2 := F0 m 10 ls [.int r_1]) rfl ?_
  obtain ⟨z_3, hf⟩ := ock hf
  cases hf
  exact ro_zret hx hb hr hlk z_3 dX9_hasMounted_10
def fX9_checkState  (i1 : Int32) : Option (Nat ⊕ (Unit)) :=
  (if i1 = 0 then some (.inl 2) else (Option.map Sum.inr (some ())))
set_option maxHeartbeats 4000000 in
set_option maxRecDepth 100000 in
theorem kX9_checkState (l : Launch) (G : GG)  (i1 : Int32)  (hf : fX9_checkState i1 = some (.inr ())) : Ro l G yX9_checkState cX9_checkState 1 none 6 81 [.int i1] [] none := by
  refine ro_of (by decide) (Nat.le_of_ble_eq_true rfl) ?_
  intro p e s m args below meth c ls hx hb hr hml hown hlk hA hZ hP hl
  replace hown : s.vm.findClass RX9 = some m.cls := hown
  replace hl : lv_has ls 1 [(0, .int i1)] := hl
  unfold fX9_checkState at hf
  refine lv_iload_n hx hb dX9_checkState_0 rfl (lv_at hl 0 rfl) ?_
  refine lv_if_ne (tgt := 12) hx hb dX9_checkState_1 (by decide) (fun c_1 => ?_) (fun c_1 => ?_)
  · replace hf := ifn c_1 hf
    replace hf := omr hf
    cases hf
    exact ro_vret hx hb hr hlk dX9_checkState_12
  · replace hf := ifp c_1 hf
    cases hf
def fX9_checkMounted (rmo : Int32)  : Option (Nat ⊕ (Unit)) :=
  ((fX7_isTurning rmo).bind fun r_1 => ((fX9_checkState r_1).bind fun z => match z with | .inl e => some (.inl e) | .inr _ => (Option.map Sum.inr (some ()))))
set_option maxHeartbeats 4000000 in
set_option maxRecDepth 100000 in
theorem kX9_checkMounted (l : Launch) (G : GG) (a0 aL0 aL1 aL2 aL3 aL4 aL5 aL6 aL7 aL8 aL9 aL10 aL11 aL12 aH0 aT0 aW0 aE0 : Nat) (md : Nat → Int32) (mch : Int32) (fra : Int32) (fwe : Int32) (fof : Int32) (fsi : Int32) (csh : Int32) (cde : Int32) (csp : Int32) (rd : Nat → Int32) (rw : Nat → Int32) (rp : Nat → Int32) (rco : Int32) (rmo : Int32) (apa : Int32) (awo : Int32) (ash : Int32) (aja : Int32) (abu : Int32) (ltol : Int32) (lchi : Int32) (ljam : Int32)   (hf : fX9_checkMounted rmo = some (.inr ())) : Ro l G yX9_checkMounted cX9_checkMounted 1 none 7 101 [.ref a0] [(a0, .inr (9, [.ref aL0, .ref aH0, .ref aT0, .ref aW0, .ref aE0])), (aL0, .inr (4, [.ref aL1, .ref aL3, .ref aL4, .ref aL5, .ref aL12, .int ltol, .int lchi, .int ljam])), (aL1, .inr (6, [.ref aL2, .int mch])), (aL2, .inl (G.2.1, 48, .inl md)), (aL3, .inr (2, [.int fra, .int fwe, .int fof, .int fsi])), (aL4, .inr (1, [.int csh, .int cde, .int csp])), (aL5, .inr (7, [.ref aL6, .ref aL8, .ref aL10, .int rco, .int rmo])), (aL6, .inr (8, [.ref aL7])), (aL7, .inl (G.2.1, 80, .inl rd)), (aL8, .inr (8, [.ref aL9])), (aL9, .inl (G.2.1, 5, .inl rw)), (aL10, .inr (8, [.ref aL11])), (aL11, .inl (G.2.1, 5, .inl rp)), (aL12, .inr (0, [.int apa, .int awo, .int ash, .int aja, .int abu]))] none := by
  refine ro_of (by decide) (Nat.le_of_ble_eq_true rfl) ?_
  intro p e s m args below meth c ls hx hb hr hml hown hlk hA hZ hP hl
  replace hown : s.vm.findClass RX9 = some m.cls := hown
  replace hl : lv_has ls 1 [(0, .ref a0)] := hl
  unfold fX9_checkMounted at hf
  refine lv_aload_n hx hb dX9_checkMounted_0 rfl (lv_at hl 0 rfl) ?_
  refine gf_X9_10 hx hb hown hA hP 0 rfl rfl dX9_checkMounted_1 ?_
  refine gf_X9_133 hx hb hown hA hP 1 rfl rfl dX9_checkMounted_4 ?_
  obtain ⟨r_1, q_2, hf⟩ := obd hf
  refine ro_v (n := 0) (As := []) (q0 := 0) hx hb hml hown hA (kX7_isTurning l G aL5 aL6 aL7 aL8 aL9 aL10 aL11 rd rw rp rco rmo r_1 q_2) g_X9_161 gd_X7_isTurning ⟨(Nat.le_of_ble_eq_true rfl), (Nat.le_of_ble_eq_true rfl)⟩ hZ (hP.sub [6, 7, 8, 9, 10, 11, 12] rfl) rfl rfl rfl hl.1 (Nat.le_of_ble_eq_true rfl) ⟨(Nat.le_of_ble_eq_true rfl), (Nat.le_of_ble_eq_true rfl)⟩ dX9_checkMounted_7 ?_
  refine W.eq (g2 := F0 m 10 ls [.int r_1]) rfl ?_
  obtain ⟨e9 | u9, q_3, hf⟩ := obd hf
  · dsimp only at hf
    cases hf
  dsimp only at hf
  replace hf := omr hf
  refine ro_s (n := 1) (As := [.int r_1]) hx hb hml hown hA (kX9_checkState l G r_1 q_3) g_X9_142 gd_X9_checkState ⟨(Nat.le_of_ble_eq_true rfl), (Nat.le_of_ble_eq_true rfl)⟩ hZ (fun _ _ h => by simp at h) rfl hl.1 (Nat.le_of_ble_eq_true rfl) ⟨(Nat.le_of_ble_eq_true rfl), (Nat.le_of_ble_eq_true rfl)⟩ dX9_checkMounted_10 ?_
  refine W.eq (g2 := F0 m 13 ls []) rfl ?_
  cases hf
  exact ro_vret hx hb hr hlk dX9_checkMounted_13
def fX9_mounted (rmo : Int32)  : Option (Nat ⊕ (Int32)) :=
  ((fX9_checkMounted rmo).bind fun z => match z with | .inl e => some (.inl e) | .inr _ => (Option.map Sum.inr (some rmo)))
set_option maxHeartbeats 4000000 in
set_option maxRecDepth 100000 in
theorem kX9_mounted (l : Launch) (G : GG) (a0 aL0 aL1 aL2 aL3 aL4 aL5 aL6 aL7 aL8 aL9 aL10 aL11 aL12 aH0 aT0 aW0 aE0 : Nat) (md : Nat → Int32) (mch : Int32) (fra : Int32) (fwe : Int32) (fof : Int32) (fsi : Int32) (csh : Int32) (cde : Int32) (csp : Int32) (rd : Nat → Int32) (rw : Nat → Int32) (rp : Nat → Int32) (rco : Int32) (rmo : Int32) (apa : Int32) (awo : Int32) (ash : Int32) (aja : Int32) (abu : Int32) (ltol : Int32) (lchi : Int32) (ljam : Int32)  (r_0 : Int32) (hf : fX9_mounted rmo = some (.inr r_0)) : Ro l G yX9_mounted cX9_mounted 1 (some .int) 8 121 [.ref a0] [(a0, .inr (9, [.ref aL0, .ref aH0, .ref aT0, .ref aW0, .ref aE0])), (aL0, .inr (4, [.ref aL1, .ref aL3, .ref aL4, .ref aL5, .ref aL12, .int ltol, .int lchi, .int ljam])), (aL1, .inr (6, [.ref aL2, .int mch])), (aL2, .inl (G.2.1, 48, .inl md)), (aL3, .inr (2, [.int fra, .int fwe, .int fof, .int fsi])), (aL4, .inr (1, [.int csh, .int cde, .int csp])), (aL5, .inr (7, [.ref aL6, .ref aL8, .ref aL10, .int rco, .int rmo])), (aL6, .inr (8, [.ref aL7])), (aL7, .inl (G.2.1, 80, .inl rd)), (aL8, .inr (8, [.ref aL9])), (aL9, .inl (G.2.1, 5, .inl rw)), (aL10, .inr (8, [.ref aL11])), (aL11, .inl (G.2.1, 5, .inl rp)), (aL12, .inr (0, [.int apa, .int awo, .int ash, .int aja, .int abu]))] (some (.int r_0)) := by
  refine ro_of (by decide) (Nat.le_of_ble_eq_true rfl) ?_
  intro p e s m args below meth c ls hx hb hr hml hown hlk hA hZ hP hl
  replace hown : s.vm.findClass RX9 = some m.cls := hown
  replace hl : lv_has ls 1 [(0, .ref a0)] := hl
  unfold fX9_mounted at hf
  refine lv_aload_n hx hb dX9_mounted_0 rfl (lv_at hl 0 rfl) ?_
  obtain ⟨e9 | u9, q_1, hf⟩ := obd hf
  · dsimp only at hf
    cases hf
  dsimp only at hf
  replace hf := omr hf
  refine ro_v (n := 0) (As := []) (q0 := 0) hx hb hml hown hA (kX9_checkMounted l G a0 aL0 aL1 aL2 aL3 aL4 aL5 aL6 aL7 aL8 aL9 aL10 aL11 aL12 aH0 aT0 aW0 aE0 md mch fra fwe fof fsi csh cde csp rd rw rp rco rmo apa awo ash aja abu ltol lchi ljam q_1) g_X9_165 gd_X9_checkMounted ⟨(Nat.le_of_ble_eq_true rfl), (Nat.le_of_ble_eq_true rfl)⟩ hZ (hP.sub [0, 1, 2, 3, 4, 5, 6, 7, 8, 9, 10, 11, 12, 13] rfl) rfl rfl rfl hl.1 (Nat.le_of_ble_eq_true rfl) ⟨(Nat.le_of_ble_eq_true rfl), (Nat.le_of_ble_eq_true rfl)⟩ dX9_mounted_1 ?_
  refine W.eq (g2 := F0 m 4 ls []) rfl ?_
  refine lv_aload_n hx hb dX9_mounted_4 rfl (lv_at hl 0 rfl) ?_
  refine gf_X9_10 hx hb hown hA hP 0 rfl rfl dX9_mounted_5 ?_
  refine gf_X9_133 hx hb hown hA hP 1 rfl rfl dX9_mounted_8 ?_
  refine gf_X9_152 hx hb hown hA hP 6 rfl rfl dX9_mounted_11 ?_
  cases hf
  exact ro_iret hx hb hr hlk dX9_mounted_14
def fX9_passes (apa : Int32)  : Option (Int32) :=
  some apa
set_option maxHeartbeats 4000000 in
set_option maxRecDepth 100000 in
theorem kX9_passes (l : Launch) (G : GG) (a0 aL0 aL1 aL2 aL3 aL4 aL5 aL6 aL7 aL8 aL9 aL10 aL11 aL12 aH0 aT0 aW0 aE0 : Nat) (md : Nat → Int32) (mch : Int32) (fra : Int32) (fwe : Int32) (fof : Int32) (fsi : Int32) (csh : Int32) (cde : Int32) (csp : Int32) (rd : Nat → Int32) (rw : Nat → Int32) (rp : Nat → Int32) (rco : Int32) (rmo : Int32) (apa : Int32) (awo : Int32) (ash : Int32) (aja : Int32) (abu : Int32) (ltol : Int32) (lchi : Int32) (ljam : Int32)  (r_0 : Int32) (hf : fX9_passes apa = some r_0) : Ro l G yX9_passes cX9_passes 1 (some .int) 0 0 [.ref a0] [(a0, .inr (9, [.ref aL0, .ref aH0, .ref aT0, .ref aW0, .ref aE0])), (aL0, .inr (4, [.ref aL1, .ref aL3, .ref aL4, .ref aL5, .ref aL12, .int ltol, .int lchi, .int ljam])), (aL1, .inr (6, [.ref aL2, .int mch])), (aL2, .inl (G.2.1, 48, .inl md)), (aL3, .inr (2, [.int fra, .int fwe, .int fof, .int fsi])), (aL4, .inr (1, [.int csh, .int cde, .int csp])), (aL5, .inr (7, [.ref aL6, .ref aL8, .ref aL10, .int rco, .int rmo])), (aL6, .inr (8, [.ref aL7])), (aL7, .inl (G.2.1, 80, .inl rd)), (aL8, .inr (8, [.ref aL9])), (aL9, .inl (G.2.1, 5, .inl rw)), (aL10, .inr (8, [.ref aL11])), (aL11, .inl (G.2.1, 5, .inl rp)), (aL12, .inr (0, [.int apa, .int awo, .int ash, .int aja, .int abu]))] (some (.int r_0)) := by
  refine ro_of (by decide) (Nat.le_of_ble_eq_true rfl) ?_
  intro p e s m args below meth c ls hx hb hr hml hown hlk hA hZ hP hl
  replace hown : s.vm.findClass RX9 = some m.cls := hown
  replace hl : lv_has ls 1 [(0, .ref a0)] := hl
  unfold fX9_passes at hf
  refine lv_aload_n hx hb dX9_passes_0 rfl (lv_at hl 0 rfl) ?_
  refine gf_X9_10 hx hb hown hA hP 0 rfl rfl dX9_passes_1 ?_
  refine gf_X9_104 hx hb hown hA hP 1 rfl rfl dX9_passes_4 ?_
  refine gf_X9_244 hx hb hown hA hP 13 rfl rfl dX9_passes_7 ?_
  cases hf
  exact ro_iret hx hb hr hlk dX9_passes_10
def fX9_woodTaken (awo : Int32)  : Option (Int32) :=
  some awo
set_option maxHeartbeats 4000000 in
set_option maxRecDepth 100000 in
theorem kX9_woodTaken (l : Launch) (G : GG) (a0 aL0 aL1 aL2 aL3 aL4 aL5 aL6 aL7 aL8 aL9 aL10 aL11 aL12 aH0 aT0 aW0 aE0 : Nat) (md : Nat → Int32) (mch : Int32) (fra : Int32) (fwe : Int32) (fof : Int32) (fsi : Int32) (csh : Int32) (cde : Int32) (csp : Int32) (rd : Nat → Int32) (rw : Nat → Int32) (rp : Nat → Int32) (rco : Int32) (rmo : Int32) (apa : Int32) (awo : Int32) (ash : Int32) (aja : Int32) (abu : Int32) (ltol : Int32) (lchi : Int32) (ljam : Int32)  (r_0 : Int32) (hf : fX9_woodTaken awo = some r_0) : Ro l G yX9_woodTaken cX9_woodTaken 1 (some .int) 0 0 [.ref a0] [(a0, .inr (9, [.ref aL0, .ref aH0, .ref aT0, .ref aW0, .ref aE0])), (aL0, .inr (4, [.ref aL1, .ref aL3, .ref aL4, .ref aL5, .ref aL12, .int ltol, .int lchi, .int ljam])), (aL1, .inr (6, [.ref aL2, .int mch])), (aL2, .inl (G.2.1, 48, .inl md)), (aL3, .inr (2, [.int fra, .int fwe, .int fof, .int fsi])), (aL4, .inr (1, [.int csh, .int cde, .int csp])), (aL5, .inr (7, [.ref aL6, .ref aL8, .ref aL10, .int rco, .int rmo])), (aL6, .inr (8, [.ref aL7])), (aL7, .inl (G.2.1, 80, .inl rd)), (aL8, .inr (8, [.ref aL9])), (aL9, .inl (G.2.1, 5, .inl rw)), (aL10, .inr (8, [.ref aL11])), (aL11, .inl (G.2.1, 5, .inl rp)), (aL12, .inr (0, [.int apa, .int awo, .int ash, .int aja, .int abu]))] (some (.int r_0)) := by
  refine ro_of (by decide) (Nat.le_of_ble_eq_true rfl) ?_
  intro p e s m args below meth c ls hx hb hr hml hown hlk hA hZ hP hl
  replace hown : s.vm.findClass RX9 = some m.cls := hown
  replace hl : lv_has ls 1 [(0, .ref a0)] := hl
  unfold fX9_woodTaken at hf
  refine lv_aload_n hx hb dX9_woodTaken_0 rfl (lv_at hl 0 rfl) ?_
  refine gf_X9_10 hx hb hown hA hP 0 rfl rfl dX9_woodTaken_1 ?_
  refine gf_X9_104 hx hb hown hA hP 1 rfl rfl dX9_woodTaken_4 ?_
  refine gf_X9_247 hx hb hown hA hP 13 rfl rfl dX9_woodTaken_7 ?_
  cases hf
  exact ro_iret hx hb hr hlk dX9_woodTaken_10
def fX9_sharpenings (ash : Int32)  : Option (Int32) :=
  some ash
set_option maxHeartbeats 4000000 in
set_option maxRecDepth 100000 in
theorem kX9_sharpenings (l : Launch) (G : GG) (a0 aL0 aL1 aL2 aL3 aL4 aL5 aL6 aL7 aL8 aL9 aL10 aL11 aL12 aH0 aT0 aW0 aE0 : Nat) (md : Nat → Int32) (mch : Int32) (fra : Int32) (fwe : Int32) (fof : Int32) (fsi : Int32) (csh : Int32) (cde : Int32) (csp : Int32) (rd : Nat → Int32) (rw : Nat → Int32) (rp : Nat → Int32) (rco : Int32) (rmo : Int32) (apa : Int32) (awo : Int32) (ash : Int32) (aja : Int32) (abu : Int32) (ltol : Int32) (lchi : Int32) (ljam : Int32)  (r_0 : Int32) (hf : fX9_sharpenings ash = some r_0) : Ro l G yX9_sharpenings cX9_sharpenings 1 (some .int) 0 0 [.ref a0] [(a0, .inr (9, [.ref aL0, .ref aH0, .ref aT0, .ref aW0, .ref aE0])), (aL0, .inr (4, [.ref aL1, .ref aL3, .ref aL4, .ref aL5, .ref aL12, .int ltol, .int lchi, .int ljam])), (aL1, .inr (6, [.ref aL2, .int mch])), (aL2, .inl (G.2.1, 48, .inl md)), (aL3, .inr (2, [.int fra, .int fwe, .int fof, .int fsi])), (aL4, .inr (1, [.int csh, .int cde, .int csp])), (aL5, .inr (7, [.ref aL6, .ref aL8, .ref aL10, .int rco, .int rmo])), (aL6, .inr (8, [.ref aL7])), (aL7, .inl (G.2.1, 80, .inl rd)), (aL8, .inr (8, [.ref aL9])), (aL9, .inl (G.2.1, 5, .inl rw)), (aL10, .inr (8, [.ref aL11])), (aL11, .inl (G.2.1, 5, .inl rp)), (aL12, .inr (0, [.int apa, .int awo, .int ash, .int aja, .int abu]))] (some (.int r_0)) := by
  refine ro_of (by decide) (Nat.le_of_ble_eq_true rfl) ?_
  intro p e s m args below meth c ls hx hb hr hml hown hlk hA hZ hP hl
  replace hown : s.vm.findClass RX9 = some m.cls := hown
  replace hl : lv_has ls 1 [(0, .ref a0)] := hl
  unfold fX9_sharpenings at hf
  refine lv_aload_n hx hb dX9_sharpenings_0 rfl (lv_at hl 0 rfl) ?_
  refine gf_X9_10 hx hb hown hA hP 0 rfl rfl dX9_sharpenings_1 ?_
  refine gf_X9_104 hx hb hown hA hP 1 rfl rfl dX9_sharpenings_4 ?_
  refine gf_X9_108 hx hb hown hA hP 13 rfl rfl dX9_sharpenings_7 ?_
  cases hf
  exact ro_iret hx hb hr hlk dX9_sharpenings_10
def fX9_jams (aja : Int32)  : Option (Int32) :=
  some aja
set_option maxHeartbeats 4000000 in
set_option maxRecDepth 100000 in
theorem kX9_jams (l : Launch) (G : GG) (a0 aL0 aL1 aL2 aL3 aL4 aL5 aL6 aL7 aL8 aL9 aL10 aL11 aL12 aH0 aT0 aW0 aE0 : Nat) (md : Nat → Int32) (mch : Int32) (fra : Int32) (fwe : Int32) (fof : Int32) (fsi : Int32) (csh : Int32) (cde : Int32) (csp : Int32) (rd : Nat → Int32) (rw : Nat → Int32) (rp : Nat → Int32) (rco : Int32) (rmo : Int32) (apa : Int32) (awo : Int32) (ash : Int32) (aja : Int32) (abu : Int32) (ltol : Int32) (lchi : Int32) (ljam : Int32)  (r_0 : Int32) (hf : fX9_jams aja = some r_0) : Ro l G yX9_jams cX9_jams 1 (some .int) 0 0 [.ref a0] [(a0, .inr (9, [.ref aL0, .ref aH0, .ref aT0, .ref aW0, .ref aE0])), (aL0, .inr (4, [.ref aL1, .ref aL3, .ref aL4, .ref aL5, .ref aL12, .int ltol, .int lchi, .int ljam])), (aL1, .inr (6, [.ref aL2, .int mch])), (aL2, .inl (G.2.1, 48, .inl md)), (aL3, .inr (2, [.int fra, .int fwe, .int fof, .int fsi])), (aL4, .inr (1, [.int csh, .int cde, .int csp])), (aL5, .inr (7, [.ref aL6, .ref aL8, .ref aL10, .int rco, .int rmo])), (aL6, .inr (8, [.ref aL7])), (aL7, .inl (G.2.1, 80, .inl rd)), (aL8, .inr (8, [.ref aL9])), (aL9, .inl (G.2.1, 5, .inl rw)), (aL10, .inr (8, [.ref aL11])), (aL11, .inl (G.2.1, 5, .inl rp)), (aL12, .inr (0, [.int apa, .int awo, .int ash, .int aja, .int abu]))] (some (.int r_0)) := by
  refine ro_of (by decide) (Nat.le_of_ble_eq_true rfl) ?_
  intro p e s m args below meth c ls hx hb hr hml hown hlk hA hZ hP hl
  replace hown : s.vm.findClass RX9 = some m.cls := hown
  replace hl : lv_has ls 1 [(0, .ref a0)] := hl
  unfold fX9_jams at hf
  refine lv_aload_n hx hb dX9_jams_0 rfl (lv_at hl 0 rfl) ?_
  refine gf_X9_10 hx hb hown hA hP 0 rfl rfl dX9_jams_1 ?_
  refine gf_X9_104 hx hb hown hA hP 1 rfl rfl dX9_jams_4 ?_
  refine gf_X9_250 hx hb hown hA hP 13 rfl rfl dX9_jams_7 ?_
  cases hf
  exact ro_iret hx hb hr hlk dX9_jams_10
def fX9_burnt (abu : Int32)  : Option (Int32) :=
  some abu
set_option maxHeartbeats 4000000 in
set_option maxRecDepth 100000 in
theorem kX9_burnt (l : Launch) (G : GG) (a0 aL0 aL1 aL2 aL3 aL4 aL5 aL6 aL7 aL8 aL9 aL10 aL11 aL12 aH0 aT0 aW0 aE0 : Nat) (md : Nat → Int32) (mch : Int32) (fra : Int32) (fwe : Int32) (fof : Int32) (fsi : Int32) (csh : Int32) (cde : Int32) (csp : Int32) (rd : Nat → Int32) (rw : Nat → Int32) (rp : Nat → Int32) (rco : Int32) (rmo : Int32) (apa : Int32) (awo : Int32) (ash : Int32) (aja : Int32) (abu : Int32) (ltol : Int32) (lchi : Int32) (ljam : Int32)  (r_0 : Int32) (hf : fX9_burnt abu = some r_0) : Ro l G yX9_burnt cX9_burnt 1 (some .int) 0 0 [.ref a0] [(a0, .inr (9, [.ref aL0, .ref aH0, .ref aT0, .ref aW0, .ref aE0])), (aL0, .inr (4, [.ref aL1, .ref aL3, .ref aL4, .ref aL5, .ref aL12, .int ltol, .int lchi, .int ljam])), (aL1, .inr (6, [.ref aL2, .int mch])), (aL2, .inl (G.2.1, 48, .inl md)), (aL3, .inr (2, [.int fra, .int fwe, .int fof, .int fsi])), (aL4, .inr (1, [.int csh, .int cde, .int csp])), (aL5, .inr (7, [.ref aL6, .ref aL8, .ref aL10, .int rco, .int rmo])), (aL6, .inr (8, [.ref aL7])), (aL7, .inl (G.2.1, 80, .inl rd)), (aL8, .inr (8, [.ref aL9])), (aL9, .inl (G.2.1, 5, .inl rw)), (aL10, .inr (8, [.ref aL11])), (aL11, .inl (G.2.1, 5, .inl rp)), (aL12, .inr (0, [.int apa, .int awo, .int ash, .int aja, .int abu]))] (some (.int r_0)) := by
  refine ro_of (by decide) (Nat.le_of_ble_eq_true rfl) ?_
  intro p e s m args below meth c ls hx hb hr hml hown hlk hA hZ hP hl
  replace hown : s.vm.findClass RX9 = some m.cls := hown
  replace hl : lv_has ls 1 [(0, .ref a0)] := hl
  unfold fX9_burnt at hf
  refine lv_aload_n hx hb dX9_burnt_0 rfl (lv_at hl 0 rfl) ?_
  refine gf_X9_10 hx hb hown hA hP 0 rfl rfl dX9_burnt_1 ?_
  refine gf_X9_104 hx hb hown hA hP 1 rfl rfl dX9_burnt_4 ?_
  refine gf_X9_158 hx hb hown hA hP 13 rfl rfl dX9_burnt_7 ?_
  cases hf
  exact ro_iret hx hb hr hlk dX9_burnt_10
def fX9_readingByLooking (md : Nat → Int32) (mch : Int32) (fra : Int32) (i1 : Int32) : Option (Nat ⊕ (Int32)) :=
  ((fX9_checkStep i1).bind fun z => match z with | .inl e => some (.inl e) | .inr _ => (Option.map Sum.inr (((fX4_reading md mch fra i1).bind fun r_2 => some r_2))))
set_option maxHeartbeats 4000000 in
set_option maxRecDepth 100000 in
theorem kX9_readingByLooking (l : Launch) (G : GG) (a0 aL0 aL1 aL2 aL3 aL4 aL5 aL6 aL7 aL8 aL9 aL10 aL11 aL12 aH0 aT0 aW0 aE0 : Nat) (md : Nat → Int32) (mch : Int32) (fra : Int32) (fwe : Int32) (fof : Int32) (fsi : Int32) (csh : Int32) (cde : Int32) (csp : Int32) (rd : Nat → Int32) (rw : Nat → Int32) (rp : Nat → Int32) (rco : Int32) (rmo : Int32) (apa : Int32) (awo : Int32) (ash : Int32) (aja : Int32) (abu : Int32) (ltol : Int32) (lchi : Int32) (ljam : Int32) (i1 : Int32) (r_0 : Int32) (hf : fX9_readingByLooking md mch fra i1 = some (.inr r_0)) : Ro l G yX9_readingByLooking cX9_readingByLooking 2 (some .int) 8 122 [.ref a0, .int i1] [(a0, .inr (9, [.ref aL0, .ref aH0, .ref aT0, .ref aW0, .ref aE0])), (aL0, .inr (4, [.ref aL1, .ref aL3, .ref aL4, .ref aL5, .ref aL12, .int ltol, .int lchi, .int ljam])), (aL1, .inr (6, [.ref aL2, .int mch])), (aL2, .inl (G.2.1, 48, .inl md)), (aL3, .inr (2, [.int fra, .int fwe, .int fof, .int fsi])), (aL4, .inr (1, [.int csh, .int cde, .int csp])), (aL5, .inr (7, [.ref aL6, .ref aL8, .ref aL10, .int rco, .int rmo])), (aL6, .inr (8, [.ref aL7])), (aL7, .inl (G.2.1, 80, .inl rd)), (aL8, .inr (8, [.ref aL9])), (aL9, .inl (G.2.1, 5, .inl rw)), (aL10, .inr (8, [.ref aL11])), (aL11, .inl (G.2.1, 5, .inl rp)), (aL12, .inr (0, [.int apa, .int awo, .int ash, .int aja, .int abu]))] (some (.int r_0)) := by
  refine ro_of (by decide) (Nat.le_of_ble_eq_true rfl) ?_
  intro p e s m args below meth c ls hx hb hr hml hown hlk hA hZ hP hl
  replace hown : s.vm.findClass RX9 = some m.cls := hown
  replace hl : lv_has ls 2 [(0, .ref a0), (1, .int i1)] := hl
  unfold fX9_readingByLooking at hf
  refine lv_iload_n hx hb dX9_readingByLooking_0 rfl (lv_at hl 1 rfl) ?_
  obtain ⟨e9 | u9, q_1, hf⟩ := obd hf
  · dsimp only at hf
    cases hf
  dsimp only at hf
  replace hf := omr hf
  refine ro_s (n := 1) (As := [.int i1]) hx hb hml hown hA (kX9_checkStep l G i1 q_1) g_X9_45 gd_X9_checkStep ⟨(Nat.le_of_ble_eq_true rfl), (Nat.le_of_ble_eq_true rfl)⟩ hZ (fun _ _ h => by simp at h) rfl hl.1 (Nat.le_of_ble_eq_true rfl) ⟨(Nat.le_of_ble_eq_true rfl), (Nat.le_of_ble_eq_true rfl)⟩ dX9_readingByLooking_1 ?_
  refine W.eq (g2 := F0 m 4 ls []) rfl ?_
  refine lv_aload_n hx hb dX9_readingByLooking_4 rfl (lv_at hl 0 rfl) ?_
  refine gf_X9_10 hx hb hown hA hP 0 rfl rfl dX9_readingByLooking_5 ?_
  refine lv_iload_n hx hb dX9_readingByLooking_8 rfl (lv_at hl 1 rfl) ?_
  obtain ⟨r_2, q_3, hf⟩ := obd hf
  refine ro_v (n := 1) (As := [.int i1]) (q0 := 0) hx hb hml hown hA (kX4_reading l G aL0 aL1 aL2 aL3 aL4 aL5 aL6 aL7 aL8 aL9 aL10 aL11 aL12 md mch fra fwe fof fsi csh cde csp rd rw rp rco rmo apa awo ash aja abu ltol lchi ljam i1 r_2 q_3) g_X9_253 gd_X4_reading ⟨(Nat.le_of_ble_eq_true rfl), (Nat.le_of_ble_eq_true rfl)⟩ hZ (hP.sub [1, 2, 3, 4, 5, 6, 7, 8, 9, 10, 11, 12, 13] rfl) rfl rfl rfl hl.1 (Nat.le_of_ble_eq_true rfl) ⟨(Nat.le_of_ble_eq_true rfl), (Nat.le_of_ble_eq_true rfl)⟩ dX9_readingByLooking_9 ?_
  refine W.eq (g2 := F0 m 12 ls [.int r_2]) rfl ?_
  cases hf
  exact ro_iret hx hb hr hlk dX9_readingByLooking_12
def fX9_isNotThicker (md : Nat → Int32) (mch : Int32) (i1 : Int32) (i2 : Int32) : Option (Int32) :=
  ((fX6_chosenAt md mch i1).bind fun r_1 => ((fX6_chosenAt md mch i2).bind fun r_3 => (if r_3 < r_1 then some 0 else some 1)))
set_option maxHeartbeats 4000000 in
set_option maxRecDepth 100000 in
theorem kX9_isNotThicker (l : Launch) (G : GG) (a0 aL0 aL1 aL2 aL3 aL4 aL5 aL6 aL7 aL8 aL9 aL10 aL11 aL12 aH0 aT0 aW0 aE0 : Nat) (md : Nat → Int32) (mch : Int32) (fra : Int32) (fwe : Int32) (fof : Int32) (fsi : Int32) (csh : Int32) (cde : Int32) (csp : Int32) (rd : Nat → Int32) (rw : Nat → Int32) (rp : Nat → Int32) (rco : Int32) (rmo : Int32) (apa : Int32) (awo : Int32) (ash : Int32) (aja : Int32) (abu : Int32) (ltol : Int32) (lchi : Int32) (ljam : Int32) (i1 : Int32) (i2 : Int32) (r_0 : Int32) (hf : fX9_isNotThicker md mch i1 i2 = some r_0) : Ro l G yX9_isNotThicker cX9_isNotThicker 3 (some .boolean) 2 44 [.ref a0, .int i1, .int i2] [(a0, .inr (9, [.ref aL0, .ref aH0, .ref aT0, .ref aW0, .ref aE0])), (aL0, .inr (4, [.ref aL1, .ref aL3, .ref aL4, .ref aL5, .ref aL12, .int ltol, .int lchi, .int ljam])), (aL1, .inr (6, [.ref aL2, .int mch])), (aL2, .inl (G.2.1, 48, .inl md)), (aL3, .inr (2, [.int fra, .int fwe, .int fof, .int fsi])), (aL4, .inr (1, [.int csh, .int cde, .int csp])), (aL5, .inr (7, [.ref aL6, .ref aL8, .ref aL10, .int rco, .int rmo])), (aL6, .inr (8, [.ref aL7])), (aL7, .inl (G.2.1, 80, .inl rd)), (aL8, .inr (8, [.ref aL9])), (aL9, .inl (G.2.1, 5, .inl rw)), (aL10, .inr (8, [.ref aL11])), (aL11, .inl (G.2.1, 5, .inl rp)), (aL12, .inr (0, [.int apa, .int awo, .int ash, .int aja, .int abu]))] (some (.int r_0)) := by
  refine ro_of (by decide) (Nat.le_of_ble_eq_true rfl) ?_
  intro p e s m args below meth c ls hx hb hr hml hown hlk hA hZ hP hl
  replace hown : s.vm.findClass RX9 = some m.cls := hown
  replace hl : lv_has ls 3 [(0, .ref a0), (1, .int i1), (2, .int i2)] := hl
  unfold fX9_isNotThicker at hf
  refine lv_aload_n hx hb dX9_isNotThicker_0 rfl (lv_at hl 0 rfl) ?_
  refine gf_X9_10 hx hb hown hA hP 0 rfl rfl dX9_isNotThicker_1 ?_
  refine gf_X9_56 hx hb hown hA hP 1 rfl rfl dX9_isNotThicker_4 ?_
  refine lv_iload_n hx hb dX9_isNotThicker_7 rfl (lv_at hl 1 rfl) ?_
  obtain ⟨r_1, q_2, hf⟩ := obd hf
  refine ro_v (n := 1) (As := [.int i1]) (q0 := 0) hx hb hml hown hA (kX6_chosenAt l G aL1 aL2 md mch i1 r_1 q_2) g_X9_262 gd_X6_chosenAt ⟨(Nat.le_of_ble_eq_true rfl), (Nat.le_of_ble_eq_true rfl)⟩ hZ (hP.sub [2, 3] rfl) rfl rfl rfl hl.1 (Nat.le_of_ble_eq_true rfl) ⟨(Nat.le_of_ble_eq_true rfl), (Nat.le_of_ble_eq_true rfl)⟩ dX9_isNotThicker_8 ?_
  refine W.eq (g2 := F0 m 11 ls [.int r_1]) rfl ?_
  refine lv_aload_n hx hb dX9_isNotThicker_11 rfl (lv_at hl 0 rfl) ?_
  refine gf_X9_10 hx hb hown hA hP 0 rfl rfl dX9_isNotThicker_12 ?_
  refine gf_X9_56 hx hb hown hA hP 1 rfl rfl dX9_isNotThicker_15 ?_
  refine lv_iload_n hx hb dX9_isNotThicker_18 rfl (lv_at hl 2 rfl) ?_
  obtain ⟨r_3, q_4, hf⟩ := obd hf
  refine ro_v (n := 1) (As := [.int i2]) (q0 := 0) hx hb hml hown hA (kX6_chosenAt l G aL1 aL2 md mch i2 r_3 q_4) g_X9_262 gd_X6_chosenAt ⟨(Nat.le_of_ble_eq_true rfl), (Nat.le_of_ble_eq_true rfl)⟩ hZ (hP.sub [2, 3] rfl) rfl rfl rfl hl.1 (Nat.le_of_ble_eq_true rfl) ⟨(Nat.le_of_ble_eq_true rfl), (Nat.le_of_ble_eq_true rfl)⟩ dX9_isNotThicker_19 ?_
  refine W.eq (g2 := F0 m 22 ls [.int r_3, .int r_1]) rfl ?_
  refine lv_icmp_gt (tgt := 29) hx hb dX9_isNotThicker_22 (by decide) (fun c_5 => ?_) (fun c_5 => ?_)
  · replace hf := ifp c_5 hf
    refine lv_iconst (v := 0) hx hb dX9_isNotThicker_29 (by decide) ?_
    cases hf
    exact ro_zret hx hb hr hlk (Or.inl rfl) dX9_isNotThicker_30
  · replace hf := ifn c_5 hf
    refine lv_iconst (v := 1) hx hb dX9_isNotThicker_25 (by decide) ?_
    refine lv_goto (tgt := 30) hx hb dX9_isNotThicker_26 (by decide) ?_
    cases hf
    exact ro_zret hx hb hr hlk (Or.inr rfl) dX9_isNotThicker_30
def fX9_firstWaiting_L85 (wa : Nat → Int32) (v2 : Int32) (v4 : Int32) (v5 : Int32) : Nat → Int32 → Option (Int32)
  | 0, _ => none
  | n9 + 1, v3 => (if v4 ≤ v3 then some v3 else ((fX8_at 16 wa v3).bind fun r_4 => (if (v5 - v2) ≤ r_4 then some v3 else fX9_firstWaiting_L85 wa v2 v4 v5 n9 (v3 + 1))))
def fX9_firstWaiting_L39 (md : Nat → Int32) (mch : Int32) (wa : Nat → Int32) (v3 : Int32) (v6 : Int32) : Nat → Int32 → Option (Int32)
  | 0, _ => none
  | n9 + 1, v4 => (if v4 ≤ v3 then some v4 else ((fX8_at 16 wa (v4 - 1)).bind fun r_10 => ((fX9_isNotThicker md mch r_10 v6).bind fun r_12 => (if r_12 = 0 then some v4 else fX9_firstWaiting_L39 md mch wa v3 v6 n9 (v4 + (-1))))))
def fX9_firstWaiting_L20 (md : Nat → Int32) (mch : Int32) (v1 : Int32) (v2 : Int32) : Nat → Int32 → Int32 → Int32 → (Nat → Int32) → Option (Int32 × (Nat → Int32))
  | 0, _, _, _, _ => none
  | n9 + 1, v3, v4, v5, wa => (if v1 < v5 then some (v3, wa) else (if 16 ≤ (v5 + v2) then ((fX9_firstWaiting_L85 wa v2 v4 v5 2000 v3).bind fun x3_7 => fX9_firstWaiting_L20 md mch v1 v2 n9 x3_7 v4 (v5 + 1) wa) else ((fX9_firstWaiting_L39 md mch wa v3 (v5 + v2) 2000 v4).bind fun x4_15 => ((fX8_put 16 wa x4_15 (v5 + v2)).bind fun rf_17 => ((fX9_firstWaiting_L85 rf_17 v2 (x4_15 + 1) v5 2000 v3).bind fun x3_23 => fX9_firstWaiting_L20 md mch v1 v2 n9 x3_23 (x4_15 + 1) (v5 + 1) rf_17)))))
def fX9_firstWaiting (md : Nat → Int32) (mch : Int32) (fra : Int32) (wa : Nat → Int32) (i1 : Int32) : Option (Int32 × (Nat → Int32)) :=
  ((fX9_firstWaiting_L20 md mch i1 fra 2000 0 0 (-fra) wa).bind fun (x3_25, wa_26) => ((fX8_at 16 wa_26 x3_25).bind fun r_28 => ((fX6_chosenAt md mch r_28).bind fun r_30 => some (r_30, wa_26))))
set_option maxHeartbeats 4000000 in
set_option maxRecDepth 100000 in
theorem kX9_firstWaiting (l : Launch) (G : GG) (a0 aL0 aL1 aL2 aL3 aL4 aL5 aL6 aL7 aL8 aL9 aL10 aL11 aL12 aW0 aW1 aH0 aT0 aE0 : Nat) (md : Nat → Int32) (mch : Int32) (fra : Int32) (fwe : Int32) (fof : Int32) (fsi : Int32) (csh : Int32) (cde : Int32) (csp : Int32) (rd : Nat → Int32) (rw : Nat → Int32) (rp : Nat → Int32) (rco : Int32) (rmo : Int32) (apa : Int32) (awo : Int32) (ash : Int32) (aja : Int32) (abu : Int32) (ltol : Int32) (lchi : Int32) (ljam : Int32) (wa : Nat → Int32) (i1 : Int32) (r_0 : Int32) (wa_0 : Nat → Int32) (hf : fX9_firstWaiting md mch fra wa i1 = some (r_0, wa_0)) : Wr l G yX9_firstWaiting cX9_firstWaiting 7 (some .int) 3 66 0 0 [.ref a0, .int i1] [(a0, .inr (9, [.ref aL0, .ref aH0, .ref aT0, .ref aW0, .ref aE0])), (aL0, .inr (4, [.ref aL1, .ref aL3, .ref aL4, .ref aL5, .ref aL12, .int ltol, .int lchi, .int ljam])), (aL1, .inr (6, [.ref aL2, .int mch])), (aL2, .inl (G.2.1, 48, .inl md)), (aL3, .inr (2, [.int fra, .int fwe, .int fof, .int fsi])), (aL4, .inr (1, [.int csh, .int cde, .int csp])), (aL5, .inr (7, [.ref aL6, .ref aL8, .ref aL10, .int rco, .int rmo])), (aL6, .inr (8, [.ref aL7])), (aL7, .inl (G.2.1, 80, .inl rd)), (aL8, .inr (8, [.ref aL9])), (aL9, .inl (G.2.1, 5, .inl rw)), (aL10, .inr (8, [.ref aL11])), (aL11, .inl (G.2.1, 5, .inl rp)), (aL12, .inr (0, [.int apa, .int awo, .int ash, .int aja, .int abu])), (aW0, .inr (8, [.ref aW1])), (aW1, .inl (G.2.1, 16, .inl wa))] (X := Unit) (fun _ => [(a0, .inr (9, [.ref aL0, .ref aH0, .ref aT0, .ref aW0, .ref aE0])), (aL0, .inr (4, [.ref aL1, .ref aL3, .ref aL4, .ref aL5, .ref aL12, .int ltol, .int lchi, .int ljam])), (aL1, .inr (6, [.ref aL2, .int mch])), (aL2, .inl (G.2.1, 48, .inl md)), (aL3, .inr (2, [.int fra, .int fwe, .int fof, .int fsi])), (aL4, .inr (1, [.int csh, .int cde, .int csp])), (aL5, .inr (7, [.ref aL6, .ref aL8, .ref aL10, .int rco, .int rmo])), (aL6, .inr (8, [.ref aL7])), (aL7, .inl (G.2.1, 80, .inl rd)), (aL8, .inr (8, [.ref aL9])), (aL9, .inl (G.2.1, 5, .inl rw)), (aL10, .inr (8, [.ref aL11])), (aL11, .inl (G.2.1, 5, .inl rp)), (aL12, .inr (0, [.int apa, .int awo, .int ash, .int aja, .int abu])), (aW0, .inr (8, [.ref aW1])), (aW1, .inl (G.2.1, 16, .inl wa_0))]) (some (.int r_0)) := by
  refine wr_of (by decide) (Nat.le_of_ble_eq_true rfl) ?_
  intro p e s m args below meth c ls A hx hb hr hml hown hlk hA hZ hP hD hS hA0 hin hl
  have hP : va_P G.1 vwCl [(a0, .inr (9, [.ref aL0, .ref aH0, .ref aT0, .ref aW0, .ref aE0])), (aL0, .inr (4, [.ref aL1, .ref aL3, .ref aL4, .ref aL5, .ref aL12, .int ltol, .int lchi, .int ljam])), (aL1, .inr (6, [.ref aL2, .int mch])), (aL2, .inl (G.2.1, 48, .inl md)), (aL3, .inr (2, [.int fra, .int fwe, .int fof, .int fsi])), (aL4, .inr (1, [.int csh, .int cde, .int csp])), (aL5, .inr (7, [.ref aL6, .ref aL8, .ref aL10, .int rco, .int rmo])), (aL6, .inr (8, [.ref aL7])), (aL7, .inl (G.2.1, 80, .inl rd)), (aL8, .inr (8, [.ref aL9])), (aL9, .inl (G.2.1, 5, .inl rw)), (aL10, .inr (8, [.ref aL11])), (aL11, .inl (G.2.1, 5, .inl rp)), (aL12, .inr (0, [.int apa, .int awo, .int ash, .int aja, .int abu])), (aW0, .inr (8, [.ref aW1])), (aW1, .inl (G.2.1, 16, .inl wa))] s.heap := hP
  replace hown : s.vm.findClass RX9 = some m.cls := hown
  replace hl : lv_has ls 7 [(0, .ref a0), (1, .int i1)] := hl
  unfold fX9_firstWaiting at hf
  refine lv_aload_n hx hb dX9_firstWaiting_0 rfl (lv_at hl 0 rfl) ?_
  refine gf_X9_10 hx hb hown hA hP 0 rfl rfl dX9_firstWaiting_1 ?_
  refine gf_X9_80 hx hb hown hA hP 1 rfl rfl dX9_firstWaiting_4 ?_
  refine gf_X9_228 hx hb hown hA hP 4 rfl rfl dX9_firstWaiting_7 ?_
  refine lv_istore_n (lv' := [(2, .int fra), (0, .ref a0), (1, .int i1)]) hx hb dX9_firstWaiting_10 rfl hl (by decide) rfl (fun ls hl => ?_)
  refine lv_iconst (v := 0) hx hb dX9_firstWaiting_11 (by decide) ?_
  refine lv_istore_n (lv' := [(3, .int 0), (2, .int fra), (0, .ref a0), (1, .int i1)]) hx hb dX9_firstWaiting_12 rfl hl (by decide) rfl (fun ls hl => ?_)
  refine lv_iconst (v := 0) hx hb dX9_firstWaiting_13 (by decide) ?_
  refine lv_istore (lv' := [(4, .int 0), (3, .int 0), (2, .int fra), (0, .ref a0), (1, .int i1)]) hx hb dX9_firstWaiting_14 hl (by decide) rfl (fun ls hl => ?_)
  refine lv_iload_n hx hb dX9_firstWaiting_16 rfl (lv_at hl 2 rfl) ?_
  refine lv_ineg hx hb dX9_firstWaiting_17 ?_
  refine lv_istore (lv' := [(5, .int (-fra)), (4, .int 0), (3, .int 0), (2, .int fra), (0, .ref a0), (1, .int i1)]) hx hb dX9_firstWaiting_18 hl (by decide) rfl (fun ls hl => ?_)
  have lp20 : ∀ (v1 : Int32) (v2 : Int32)  (n : Nat) (v3 : Int32) (v4 : Int32) (v5 : Int32) (wa : Nat → Int32) (x3_25 : Int32) (wa_26 : Nat → Int32) (Q : State → Prop), fX9_firstWaiting_L20 md mch v1 v2 n v3 v4 v5 wa = some (x3_25, wa_26) → ∀ (H : Heap) (locs : List Loc), va_P G.1 vwCl [(a0, .inr (9, [.ref aL0, .ref aH0, .ref aT0, .ref aW0, .ref aE0])), (aL0, .inr (4, [.ref aL1, .ref aL3, .ref aL4, .ref aL5, .ref aL12, .int ltol, .int lchi, .int ljam])), (aL1, .inr (6, [.ref aL2, .int mch])), (aL2, .inl (G.2.1, 48, .inl md)), (aL3, .inr (2, [.int fra, .int fwe, .int fof, .int fsi])), (aL4, .inr (1, [.int csh, .int cde, .int csp])), (aL5, .inr (7, [.ref aL6, .ref aL8, .ref aL10, .int rco, .int rmo])), (aL6, .inr (8, [.ref aL7])), (aL7, .inl (G.2.1, 80, .inl rd)), (aL8, .inr (8, [.ref aL9])), (aL9, .inl (G.2.1, 5, .inl rw)), (aL10, .inr (8, [.ref aL11])), (aL11, .inl (G.2.1, 5, .inl rp)), (aL12, .inr (0, [.int apa, .int awo, .int ash, .int aja, .int abu])), (aW0, .inr (8, [.ref aW1])), (aW1, .inl (G.2.1, 16, .inl wa))] H → va_D A [(a0, .inr (9, [.ref aL0, .ref aH0, .ref aT0, .ref aW0, .ref aE0])), (aL0, .inr (4, [.ref aL1, .ref aL3, .ref aL4, .ref aL5, .ref aL12, .int ltol, .int lchi, .int ljam])), (aL1, .inr (6, [.ref aL2, .int mch])), (aL2, .inl (G.2.1, 48, .inl md)), (aL3, .inr (2, [.int fra, .int fwe, .int fof, .int fsi])), (aL4, .inr (1, [.int csh, .int cde, .int csp])), (aL5, .inr (7, [.ref aL6, .ref aL8, .ref aL10, .int rco, .int rmo])), (aL6, .inr (8, [.ref aL7])), (aL7, .inl (G.2.1, 80, .inl rd)), (aL8, .inr (8, [.ref aL9])), (aL9, .inl (G.2.1, 5, .inl rw)), (aL10, .inr (8, [.ref aL11])), (aL11, .inl (G.2.1, 5, .inl rp)), (aL12, .inr (0, [.int apa, .int awo, .int ash, .int aja, .int abu])), (aW0, .inr (8, [.ref aW1])), (aW1, .inl (G.2.1, 16, .inl wa))] → va_S A s.heap H locs → ∀ (ls : Array Slot), lv_has ls 7 [(0, .ref a0), (1, .int v1), (2, .int v2), (3, .int v3), (4, .int v4), (5, .int v5)] → (∀ (H : Heap) (locs : List Loc) (ls : Array Slot), va_P G.1 vwCl [(a0, .inr (9, [.ref aL0, .ref aH0, .ref aT0, .ref aW0, .ref aE0])), (aL0, .inr (4, [.ref aL1, .ref aL3, .ref aL4, .ref aL5, .ref aL12, .int ltol, .int lchi, .int ljam])), (aL1, .inr (6, [.ref aL2, .int mch])), (aL2, .inl (G.2.1, 48, .inl md)), (aL3, .inr (2, [.int fra, .int fwe, .int fof, .int fsi])), (aL4, .inr (1, [.int csh, .int cde, .int csp])), (aL5, .inr (7, [.ref aL6, .ref aL8, .ref aL10, .int rco, .int rmo])), (aL6, .inr (8, [.ref aL7])), (aL7, .inl (G.2.1, 80, .inl rd)), (aL8, .inr (8, [.ref aL9])), (aL9, .inl (G.2.1, 5, .inl rw)), (aL10, .inr (8, [.ref aL11])), (aL11, .inl (G.2.1, 5, .inl rp)), (aL12, .inr (0, [.int apa, .int awo, .int ash, .int aja, .int abu])), (aW0, .inr (8, [.ref aW1])), (aW1, .inl (G.2.1, 16, .inl wa_26))] H → va_D A [(a0, .inr (9, [.ref aL0, .ref aH0, .ref aT0, .ref aW0, .ref aE0])), (aL0, .inr (4, [.ref aL1, .ref aL3, .ref aL4, .ref aL5, .ref aL12, .int ltol, .int lchi, .int ljam])), (aL1, .inr (6, [.ref aL2, .int mch])), (aL2, .inl (G.2.1, 48, .inl md)), (aL3, .inr (2, [.int fra, .int fwe, .int fof, .int fsi])), (aL4, .inr (1, [.int csh, .int cde, .int csp])), (aL5, .inr (7, [.ref aL6, .ref aL8, .ref aL10, .int rco, .int rmo])), (aL6, .inr (8, [.ref aL7])), (aL7, .inl (G.2.1, 80, .inl rd)), (aL8, .inr (8, [.ref aL9])), (aL9, .inl (G.2.1, 5, .inl rw)), (aL10, .inr (8, [.ref aL11])), (aL11, .inl (G.2.1, 5, .inl rp)), (aL12, .inr (0, [.int apa, .int awo, .int ash, .int aja, .int abu])), (aW0, .inr (8, [.ref aW1])), (aW1, .inl (G.2.1, 16, .inl wa_26))] → va_S A s.heap H locs → lv_has ls 7 [(0, .ref a0), (3, .int x3_25)] → W p l e { frames := 3, cells := 0, slots := 0, locals := 66 } s m args below meth c H locs 0 0 Q (F0 m 118 ls [])) → W p l e { frames := 3, cells := 0, slots := 0, locals := 66 } s m args below meth c H locs 0 0 Q (F0 m 20 ls []) := by
    intro v1 v2 n
    induction n with
    | zero => intro v3 v4 v5 wa x3_25 wa_26 Q hf; rw [fX9_firstWaiting_L20] at hf; cases hf
    | succ n ih =>
      intro v3 v4 v5 wa x3_25 wa_26 Q hf H locs hP hD hS ls hl kk
      rw [fX9_firstWaiting_L20] at hf
      refine lv_iload hx hb dX9_firstWaiting_20 (lv_at hl 5 rfl) ?_
      refine lv_iload_n hx hb dX9_firstWaiting_22 rfl (lv_at hl 1 rfl) ?_
      refine lv_icmp_gt (tgt := 118) hx hb dX9_firstWaiting_23 (by decide) (fun c_1 => ?_) (fun c_1 => ?_)
      · replace hf := ifp c_1 hf
        cases hf
        exact kk _ _ ls hP hD hS (lv_sub hl [0, 3] rfl)
      · replace hf := ifn c_1 hf
        refine lv_iload hx hb dX9_firstWaiting_26 (lv_at hl 5 rfl) ?_
        refine lv_iload_n hx hb dX9_firstWaiting_28 rfl (lv_at hl 2 rfl) ?_
        refine lv_iadd hx hb dX9_firstWaiting_29 ?_
        refine lv_istore (lv' := [(6, .int (v5 + v2)), (0, .ref a0), (1, .int v1), (2, .int v2), (3, .int v3), (4, .int v4), (5, .int v5)]) hx hb dX9_firstWaiting_30 hl (by decide) rfl (fun ls hl => ?_)
        refine lv_iload hx hb dX9_firstWaiting_32 (lv_at hl 0 rfl) ?_
        refine lv_bipush (v := 16) hx hb dX9_firstWaiting_34 (by decide) ?_
        refine lv_icmp_ge (tgt := 85) hx hb dX9_firstWaiting_36 (by decide) (fun c_2 => ?_) (fun c_2 => ?_)
        · replace hf := ifp c_2 hf
          have lp85 : ∀ (v1 : Int32) (v2 : Int32) (v4 : Int32) (v5 : Int32) (wa : Nat → Int32) (n : Nat) (v3 : Int32)  (x3_7 : Int32) (Q : State → Prop), fX9_firstWaiting_L85 wa v2 v4 v5 n v3 = some x3_7 → ∀ (H : Heap) (locs : List Loc), va_P G.1 vwCl [(a0, .inr (9, [.ref aL0, .ref aH0, .ref aT0, .ref aW0, .ref aE0])), (aL0, .inr (4, [.ref aL1, .ref aL3, .ref aL4, .ref aL5, .ref aL12, .int ltol, .int lchi, .int ljam])), (aL1, .inr (6, [.ref aL2, .int mch])), (aL2, .inl (G.2.1, 48, .inl md)), (aL3, .inr (2, [.int fra, .int fwe, .int fof, .int fsi])), (aL4, .inr (1, [.int csh, .int cde, .int csp])), (aL5, .inr (7, [.ref aL6, .ref aL8, .ref aL10, .int rco, .int rmo])), (aL6, .inr (8, [.ref aL7])), (aL7, .inl (G.2.1, 80, .inl rd)), (aL8, .inr (8, [.ref aL9])), (aL9, .inl (G.2.1, 5, .inl rw)), (aL10, .inr (8, [.ref aL11])), (aL11, .inl (G.2.1, 5, .inl rp)), (aL12, .inr (0, [.int apa, .int awo, .int ash, .int aja, .int abu])), (aW0, .inr (8, [.ref aW1])), (aW1, .inl (G.2.1, 16, .inl wa))] H → va_D A [(a0, .inr (9, [.ref aL0, .ref aH0, .ref aT0, .ref aW0, .ref aE0])), (aL0, .inr (4, [.ref aL1, .ref aL3, .ref aL4, .ref aL5, .ref aL12, .int ltol, .int lchi, .int ljam])), (aL1, .inr (6, [.ref aL2, .int mch])), (aL2, .inl (G.2.1, 48, .inl md)), (aL3, .inr (2, [.int fra, .int fwe, .int fof, .int fsi])), (aL4, .inr (1, [.int csh, .int cde, .int csp])), (aL5, .inr (7, [.ref aL6, .ref aL8, .ref aL10, .int rco, .int rmo])), (aL6, .inr (8, [.ref aL7])), (aL7, .inl (G.2.1, 80, .inl rd)), (aL8, .inr (8, [.ref aL9])), (aL9, .inl (G.2.1, 5, .inl rw)), (aL10, .inr (8, [.ref aL11])), (aL11, .inl (G.2.1, 5, .inl rp)), (aL12, .inr (0, [.int apa, .int awo, .int ash, .int aja, .int abu])), (aW0, .inr (8, [.ref aW1])), (aW1, .inl (G.2.1, 16, .inl wa))] → va_S A s.heap H locs → ∀ (ls : Array Slot), lv_has ls 7 [(0, .ref a0), (1, .int v1), (2, .int v2), (3, .int v3), (4, .int v4), (5, .int v5)] → (∀ (H : Heap) (locs : List Loc) (ls : Array Slot), va_P G.1 vwCl [(a0, .inr (9, [.ref aL0, .ref aH0, .ref aT0, .ref aW0, .ref aE0])), (aL0, .inr (4, [.ref aL1, .ref aL3, .ref aL4, .ref aL5, .ref aL12, .int ltol, .int lchi, .int ljam])), (aL1, .inr (6, [.ref aL2, .int mch])), (aL2, .inl (G.2.1, 48, .inl md)), (aL3, .inr (2, [.int fra, .int fwe, .int fof, .int fsi])), (aL4, .inr (1, [.int csh, .int cde, .int csp])), (aL5, .inr (7, [.ref aL6, .ref aL8, .ref aL10, .int rco, .int rmo])), (aL6, .inr (8, [.ref aL7])), (aL7, .inl (G.2.1, 80, .inl rd)), (aL8, .inr (8, [.ref aL9])), (aL9, .inl (G.2.1, 5, .inl rw)), (aL10, .inr (8, [.ref aL11])), (aL11, .inl (G.2.1, 5, .inl rp)), (aL12, .inr (0, [.int apa, .int awo, .int ash, .int aja, .int abu])), (aW0, .inr (8, [.ref aW1])), (aW1, .inl (G.2.1, 16, .inl wa))] H → va_D A [(a0, .inr (9, [.ref aL0, .ref aH0, .ref aT0, .ref aW0, .ref aE0])), (aL0, .inr (4, [.ref aL1, .ref aL3, .ref aL4, .ref aL5, .ref aL12, .int ltol, .int lchi, .int ljam])), (aL1, .inr (6, [.ref aL2, .int mch])), (aL2, .inl (G.2.1, 48, .inl md)), (aL3, .inr (2, [.int fra, .int fwe, .int fof, .int fsi])), (aL4, .inr (1, [.int csh, .int cde, .int csp])), (aL5, .inr (7, [.ref aL6, .ref aL8, .ref aL10, .int rco, .int rmo])), (aL6, .inr (8, [.ref aL7])), (aL7, .inl (G.2.1, 80, .inl rd)), (aL8, .inr (8, [.ref aL9])), (aL9, .inl (G.2.1, 5, .inl rw)), (aL10, .inr (8, [.ref aL11])), (aL11, .inl (G.2.1, 5, .inl rp)), (aL12, .inr (0, [.int apa, .int awo, .int ash, .int aja, .int abu])), (aW0, .inr (8, [.ref aW1])), (aW1, .inl (G.2.1, 16, .inl wa))] → va_S A s.heap H locs → lv_has ls 7 [(0, .ref a0), (1, .int v1), (2, .int v2), (3, .int x3_7), (4, .int v4), (5, .int v5)] → W p l e { frames := 3, cells := 0, slots := 0, locals := 66 } s m args below meth c H locs 0 0 Q (F0 m 112 ls [])) → W p l e { frames := 3, cells := 0, slots := 0, locals := 66 } s m args below meth c H locs 0 0 Q (F0 m 85 ls []) := by
            intro v1 v2 v4 v5 wa n
            induction n with
            | zero => intro v3 x3_7 Q hf; rw [fX9_firstWaiting_L85] at hf; cases hf
            | succ n ih =>
              intro v3 x3_7 Q hf H locs hP hD hS ls hl kk
              rw [fX9_firstWaiting_L85] at hf
              refine lv_iload_n hx hb dX9_firstWaiting_85 rfl (lv_at hl 3 rfl) ?_
              refine lv_iload hx hb dX9_firstWaiting_86 (lv_at hl 4 rfl) ?_
              refine lv_icmp_ge (tgt := 112) hx hb dX9_firstWaiting_88 (by decide) (fun c_3 => ?_) (fun c_3 => ?_)
              · replace hf := ifp c_3 hf
                cases hf
                exact kk _ _ ls hP hD hS (lv_sub hl [0, 1, 2, 3, 4, 5] rfl)
              · replace hf := ifn c_3 hf
                refine lv_aload_n hx hb dX9_firstWaiting_91 rfl (lv_at hl 0 rfl) ?_
                refine gf_X9_35 hx hb hown hA hP 0 rfl rfl dX9_firstWaiting_92 ?_
                refine lv_iload_n hx hb dX9_firstWaiting_95 rfl (lv_at hl 3 rfl) ?_
                obtain ⟨r_4, q_5, hf⟩ := obd hf
                refine ro_v (n := 1) (As := [.int v3]) (q0 := 0) hx hb hml hown hA (kX8_at l G aW0 aW1 16 wa v3 r_4 q_5 (by decide)) g_X9_204 gd_X8_at ⟨(Nat.le_of_ble_eq_true rfl), (Nat.le_of_ble_eq_true rfl)⟩ (hZ.at hS) (hP.sub [14, 15] rfl) rfl rfl rfl hl.1 (Nat.le_of_ble_eq_true rfl) ⟨(Nat.le_of_ble_eq_true rfl), (Nat.le_of_ble_eq_true rfl)⟩ dX9_firstWaiting_96 ?_
                refine W.eq (g2 := F0 m 99 ls [.int r_4]) rfl ?_
                refine lv_iload hx hb dX9_firstWaiting_99 (lv_at hl 5 rfl) ?_
                refine lv_iload_n hx hb dX9_firstWaiting_101 rfl (lv_at hl 2 rfl) ?_
                refine lv_isub hx hb dX9_firstWaiting_102 ?_
                refine lv_icmp_ge (tgt := 112) hx hb dX9_firstWaiting_103 (by decide) (fun c_6 => ?_) (fun c_6 => ?_)
                · replace hf := ifp c_6 hf
                  cases hf
                  exact kk _ _ ls hP hD hS (lv_sub hl [0, 1, 2, 3, 4, 5] rfl)
                · replace hf := ifn c_6 hf
                  refine lv_iinc (v := v3 + 1) (lv' := [(3, .int (v3 + 1)), (0, .ref a0), (1, .int v1), (2, .int v2), (4, .int v4), (5, .int v5)]) hx hb dX9_firstWaiting_106 hl (k := 3) rfl rfl (by decide) rfl (fun ls hl => ?_)
                  refine lv_goto (tgt := 85) hx hb dX9_firstWaiting_109 (by decide) ?_
                  exact ih _ _ _ hf _ _ hP hD hS ls (lv_sub hl [1, 2, 3, 0, 4, 5] rfl) kk
          obtain ⟨x3_7, q_8, hf⟩ := obd hf
          refine lp85 _ _ _ _ _ _ _ _ _ q_8 _ _ hP hD hS ls (lv_sub hl [1, 2, 3, 4, 5, 6] rfl) (fun H locs ls hP hD hS hl => ?_)
          refine lv_iinc (v := v5 + 1) (lv' := [(5, .int (v5 + 1)), (0, .ref a0), (1, .int v1), (2, .int v2), (3, .int x3_7), (4, .int v4)]) hx hb dX9_firstWaiting_112 hl (k := 5) rfl rfl (by decide) rfl (fun ls hl => ?_)
          refine lv_goto (tgt := 20) hx hb dX9_firstWaiting_115 (by decide) ?_
          exact ih _ _ _ _ _ _ _ hf _ _ hP hD hS ls (lv_sub hl [1, 2, 3, 4, 5, 0] rfl) kk
        · replace hf := ifn c_2 hf
          have lp39 : ∀ (v1 : Int32) (v2 : Int32) (v3 : Int32) (v5 : Int32) (v6 : Int32) (wa : Nat → Int32) (n : Nat) (v4 : Int32)  (x4_15 : Int32) (Q : State → Prop), fX9_firstWaiting_L39 md mch wa v3 v6 n v4 = some x4_15 → ∀ (H : Heap) (locs : List Loc), va_P G.1 vwCl [(a0, .inr (9, [.ref aL0, .ref aH0, .ref aT0, .ref aW0, .ref aE0])), (aL0, .inr (4, [.ref aL1, .ref aL3, .ref aL4, .ref aL5, .ref aL12, .int ltol, .int lchi, .int ljam])), (aL1, .inr (6, [.ref aL2, .int mch])), (aL2, .inl (G.2.1, 48, .inl md)), (aL3, .inr (2, [.int fra, .int fwe, .int fof, .int fsi])), (aL4, .inr (1, [.int csh, .int cde, .int csp])), (aL5, .inr (7, [.ref aL6, .ref aL8, .ref aL10, .int rco, .int rmo])), (aL6, .inr (8, [.ref aL7])), (aL7, .inl (G.2.1, 80, .inl rd)), (aL8, .inr (8, [.ref aL9])), (aL9, .inl (G.2.1, 5, .inl rw)), (aL10, .inr (8, [.ref aL11])), (aL11, .inl (G.2.1, 5, .inl rp)), (aL12, .inr (0, [.int apa, .int awo, .int ash, .int aja, .int abu])), (aW0, .inr (8, [.ref aW1])), (aW1, .inl (G.2.1, 16, .inl wa))] H → va_D A [(a0, .inr (9, [.ref aL0, .ref aH0, .ref aT0, .ref aW0, .ref aE0])), (aL0, .inr (4, [.ref aL1, .ref aL3, .ref aL4, .ref aL5, .ref aL12, .int ltol, .int lchi, .int ljam])), (aL1, .inr (6, [.ref aL2, .int mch])), (aL2, .inl (G.2.1, 48, .inl md)), (aL3, .inr (2, [.int fra, .int fwe, .int fof, .int fsi])), (aL4, .inr (1, [.int csh, .int cde, .int csp])), (aL5, .inr (7, [.ref aL6, .ref aL8, .ref aL10, .int rco, .int rmo])), (aL6, .inr (8, [.ref aL7])), (aL7, .inl (G.2.1, 80, .inl rd)), (aL8, .inr (8, [.ref aL9])), (aL9, .inl (G.2.1, 5, .inl rw)), (aL10, .inr (8, [.ref aL11])), (aL11, .inl (G.2.1, 5, .inl rp)), (aL12, .inr (0, [.int apa, .int awo, .int ash, .int aja, .int abu])), (aW0, .inr (8, [.ref aW1])), (aW1, .inl (G.2.1, 16, .inl wa))] → va_S A s.heap H locs → ∀ (ls : Array Slot), lv_has ls 7 [(0, .ref a0), (1, .int v1), (2, .int v2), (3, .int v3), (4, .int v4), (5, .int v5), (6, .int v6)] → (∀ (H : Heap) (locs : List Loc) (ls : Array Slot), va_P G.1 vwCl [(a0, .inr (9, [.ref aL0, .ref aH0, .ref aT0, .ref aW0, .ref aE0])), (aL0, .inr (4, [.ref aL1, .ref aL3, .ref aL4, .ref aL5, .ref aL12, .int ltol, .int lchi, .int ljam])), (aL1, .inr (6, [.ref aL2, .int mch])), (aL2, .inl (G.2.1, 48, .inl md)), (aL3, .inr (2, [.int fra, .int fwe, .int fof, .int fsi])), (aL4, .inr (1, [.int csh, .int cde, .int csp])), (aL5, .inr (7, [.ref aL6, .ref aL8, .ref aL10, .int rco, .int rmo])), (aL6, .inr (8, [.ref aL7])), (aL7, .inl (G.2.1, 80, .inl rd)), (aL8, .inr (8, [.ref aL9])), (aL9, .inl (G.2.1, 5, .inl rw)), (aL10, .inr (8, [.ref aL11])), (aL11, .inl (G.2.1, 5, .inl rp)), (aL12, .inr (0, [.int apa, .int awo, .int ash, .int aja, .int abu])), (aW0, .inr (8, [.ref aW1])), (aW1, .inl (G.2.1, 16, .inl wa))] H → va_D A [(a0, .inr (9, [.ref aL0, .ref aH0, .ref aT0, .ref aW0, .ref aE0])), (aL0, .inr (4, [.ref aL1, .ref aL3, .ref aL4, .ref aL5, .ref aL12, .int ltol, .int lchi, .int ljam])), (aL1, .inr (6, [.ref aL2, .int mch])), (aL2, .inl (G.2.1, 48, .inl md)), (aL3, .inr (2, [.int fra, .int fwe, .int fof, .int fsi])), (aL4, .inr (1, [.int csh, .int cde, .int csp])), (aL5, .inr (7, [.ref aL6, .ref aL8, .ref aL10, .int rco, .int rmo])), (aL6, .inr (8, [.ref aL7])), (aL7, .inl (G.2.1, 80, .inl rd)), (aL8, .inr (8, [.ref aL9])), (aL9, .inl (G.2.1, 5, .inl rw)), (aL10, .inr (8, [.ref aL11])), (aL11, .inl (G.2.1, 5, .inl rp)), (aL12, .inr (0, [.int apa, .int awo, .int ash, .int aja, .int abu])), (aW0, .inr (8, [.ref aW1])), (aW1, .inl (G.2.1, 16, .inl wa))] → va_S A s.heap H locs → lv_has ls 7 [(0, .ref a0), (1, .int v1), (2, .int v2), (3, .int v3), (4, .int x4_15), (5, .int v5), (6, .int v6)] → W p l e { frames := 3, cells := 0, slots := 0, locals := 66 } s m args below meth c H locs 0 0 Q (F0 m 71 ls [])) → W p l e { frames := 3, cells := 0, slots := 0, locals := 66 } s m args below meth c H locs 0 0 Q (F0 m 39 ls []) := by
            intro v1 v2 v3 v5 v6 wa n
            induction n with
            | zero => intro v4 x4_15 Q hf; rw [fX9_firstWaiting_L39] at hf; cases hf
            | succ n ih =>
              intro v4 x4_15 Q hf H locs hP hD hS ls hl kk
              rw [fX9_firstWaiting_L39] at hf
              refine lv_iload hx hb dX9_firstWaiting_39 (lv_at hl 4 rfl) ?_
              refine lv_iload_n hx hb dX9_firstWaiting_41 rfl (lv_at hl 3 rfl) ?_
              refine lv_icmp_le (tgt := 71) hx hb dX9_firstWaiting_42 (by decide) (fun c_9 => ?_) (fun c_9 => ?_)
              · replace hf := ifp c_9 hf
                cases hf
                exact kk _ _ ls hP hD hS (lv_sub hl [0, 1, 2, 3, 4, 5, 6] rfl)
              · replace hf := ifn c_9 hf
                refine lv_aload_n hx hb dX9_firstWaiting_45 rfl (lv_at hl 0 rfl) ?_
                refine lv_aload_n hx hb dX9_firstWaiting_46 rfl (lv_at hl 0 rfl) ?_
                refine gf_X9_35 hx hb hown hA hP 0 rfl rfl dX9_firstWaiting_47 ?_
                refine lv_iload hx hb dX9_firstWaiting_50 (lv_at hl 4 rfl) ?_
                refine lv_iconst (v := 1) hx hb dX9_firstWaiting_52 (by decide) ?_
                refine lv_isub hx hb dX9_firstWaiting_53 ?_
                obtain ⟨r_10, q_11, hf⟩ := obd hf
                refine ro_v (n := 1) (As := [.int (v4 - 1)]) (q0 := 0) hx hb hml hown hA (kX8_at l G aW0 aW1 16 wa (v4 - 1) r_10 q_11 (by decide)) g_X9_204 gd_X8_at ⟨(Nat.le_of_ble_eq_true rfl), (Nat.le_of_ble_eq_true rfl)⟩ (hZ.at hS) (hP.sub [14, 15] rfl) rfl rfl rfl hl.1 (Nat.le_of_ble_eq_true rfl) ⟨(Nat.le_of_ble_eq_true rfl), (Nat.le_of_ble_eq_true rfl)⟩ dX9_firstWaiting_54 ?_
                refine W.eq (g2 := F0 m 57 ls [.int r_10, .ref a0]) rfl ?_
                refine lv_iload hx hb dX9_firstWaiting_57 (lv_at hl 6 rfl) ?_
                obtain ⟨r_12, q_13, hf⟩ := obd hf
                refine ro_v (n := 2) (As := [.int r_10, .int v6]) (q0 := 0) hx hb hml hown hA (kX9_isNotThicker l G a0 aL0 aL1 aL2 aL3 aL4 aL5 aL6 aL7 aL8 aL9 aL10 aL11 aL12 aH0 aT0 aW0 aE0 md mch fra fwe fof fsi csh cde csp rd rw rp rco rmo apa awo ash aja abu ltol lchi ljam r_10 v6 r_12 q_13) g_X9_354 gd_X9_isNotThicker ⟨(Nat.le_of_ble_eq_true rfl), (Nat.le_of_ble_eq_true rfl)⟩ (hZ.at hS) (hP.sub [0, 1, 2, 3, 4, 5, 6, 7, 8, 9, 10, 11, 12, 13] rfl) rfl rfl rfl hl.1 (Nat.le_of_ble_eq_true rfl) ⟨(Nat.le_of_ble_eq_true rfl), (Nat.le_of_ble_eq_true rfl)⟩ dX9_firstWaiting_59 ?_
                refine W.eq (g2 := F0 m 62 ls [.int r_12]) rfl ?_
                refine lv_if_eq (tgt := 71) hx hb dX9_firstWaiting_62 (by decide) (fun c_14 => ?_) (fun c_14 => ?_)
                · replace hf := ifp c_14 hf
                  cases hf
                  exact kk _ _ ls hP hD hS (lv_sub hl [0, 1, 2, 3, 4, 5, 6] rfl)
                · replace hf := ifn c_14 hf
                  refine lv_iinc (v := v4 + (-1)) (lv' := [(4, .int (v4 + (-1))), (0, .ref a0), (1, .int v1), (2, .int v2), (3, .int v3), (5, .int v5), (6, .int v6)]) hx hb dX9_firstWaiting_65 hl (k := 4) rfl rfl (by decide) rfl (fun ls hl => ?_)
                  refine lv_goto (tgt := 39) hx hb dX9_firstWaiting_68 (by decide) ?_
                  exact ih _ _ _ hf _ _ hP hD hS ls (lv_sub hl [1, 2, 3, 4, 0, 5, 6] rfl) kk
          obtain ⟨x4_15, q_16, hf⟩ := obd hf
          refine lp39 _ _ _ _ _ _ _ _ _ _ q_16 _ _ hP hD hS ls (lv_sub hl [1, 2, 3, 4, 5, 6, 0] rfl) (fun H locs ls hP hD hS hl => ?_)
          refine lv_aload_n hx hb dX9_firstWaiting_71 rfl (lv_at hl 0 rfl) ?_
          refine gf_X9_35 hx hb hown hA hP 0 rfl rfl dX9_firstWaiting_72 ?_
          refine lv_iload hx hb dX9_firstWaiting_75 (lv_at hl 4 rfl) ?_
          refine lv_iload hx hb dX9_firstWaiting_77 (lv_at hl 6 rfl) ?_
          obtain ⟨rf_17, q_18, hf⟩ := obd hf
          refine wr_v (n := 2) (As := [.int x4_15, .int (v5 + v2)]) (q0 := 0) (wr := [(a0, .inr (9, [.ref aL0, .ref aH0, .ref aT0, .ref aW0, .ref aE0])), (aL0, .inr (4, [.ref aL1, .ref aL3, .ref aL4, .ref aL5, .ref aL12, .int ltol, .int lchi, .int ljam])), (aL1, .inr (6, [.ref aL2, .int mch])), (aL2, .inl (G.2.1, 48, .inl md)), (aL3, .inr (2, [.int fra, .int fwe, .int fof, .int fsi])), (aL4, .inr (1, [.int csh, .int cde, .int csp])), (aL5, .inr (7, [.ref aL6, .ref aL8, .ref aL10, .int rco, .int rmo])), (aL6, .inr (8, [.ref aL7])), (aL7, .inl (G.2.1, 80, .inl rd)), (aL8, .inr (8, [.ref aL9])), (aL9, .inl (G.2.1, 5, .inl rw)), (aL10, .inr (8, [.ref aL11])), (aL11, .inl (G.2.1, 5, .inl rp)), (aL12, .inr (0, [.int apa, .int awo, .int ash, .int aja, .int abu]))]) (w2 := fun _ => [(a0, .inr (9, [.ref aL0, .ref aH0, .ref aT0, .ref aW0, .ref aE0])), (aL0, .inr (4, [.ref aL1, .ref aL3, .ref aL4, .ref aL5, .ref aL12, .int ltol, .int lchi, .int ljam])), (aL1, .inr (6, [.ref aL2, .int mch])), (aL2, .inl (G.2.1, 48, .inl md)), (aL3, .inr (2, [.int fra, .int fwe, .int fof, .int fsi])), (aL4, .inr (1, [.int csh, .int cde, .int csp])), (aL5, .inr (7, [.ref aL6, .ref aL8, .ref aL10, .int rco, .int rmo])), (aL6, .inr (8, [.ref aL7])), (aL7, .inl (G.2.1, 80, .inl rd)), (aL8, .inr (8, [.ref aL9])), (aL9, .inl (G.2.1, 5, .inl rw)), (aL10, .inr (8, [.ref aL11])), (aL11, .inl (G.2.1, 5, .inl rp)), (aL12, .inr (0, [.int apa, .int awo, .int ash, .int aja, .int abu])), (aW0, .inr (8, [.ref aW1])), (aW1, .inl (G.2.1, 16, .inl rf_17))]) hx hb hml hown hA (kX8_put l G aW0 aW1 16 wa x4_15 (v5 + v2) rf_17 q_18 (by decide)) g_X9_357 gd_X8_put ⟨(Nat.le_of_ble_eq_true rfl), (Nat.le_of_ble_eq_true rfl)⟩ hZ hP hD hS hA0 rfl rfl [14, 15] [0, 1, 2, 3, 4, 5, 6, 7, 8, 9, 10, 11, 12, 13] [0, 1, 2, 3, 4, 5, 6, 7, 8, 9, 10, 11, 12, 13, 14, 15] rfl rfl rfl rfl (by decide) (fun _ => rfl) rfl rfl hl.1 (Nat.le_of_ble_eq_true rfl) ⟨(Nat.le_of_ble_eq_true rfl), (Nat.le_of_ble_eq_true rfl)⟩ dX9_firstWaiting_79 (fun _ H locs hP hD hS => ?_)
          refine W.eq (g2 := F0 m 82 ls []) rfl ?_
          refine lv_iinc (v := x4_15 + 1) (lv' := [(4, .int (x4_15 + 1)), (0, .ref a0), (1, .int v1), (2, .int v2), (3, .int v3), (5, .int v5), (6, .int (v5 + v2))]) hx hb dX9_firstWaiting_82 hl (k := 4) rfl rfl (by decide) rfl (fun ls hl => ?_)
          have lp85 : ∀ (v1 : Int32) (v2 : Int32) (v4 : Int32) (v5 : Int32) (wa : Nat → Int32) (n : Nat) (v3 : Int32)  (x3_23 : Int32) (Q : State → Prop), fX9_firstWaiting_L85 wa v2 v4 v5 n v3 = some x3_23 → ∀ (H : Heap) (locs : List Loc), va_P G.1 vwCl [(a0, .inr (9, [.ref aL0, .ref aH0, .ref aT0, .ref aW0, .ref aE0])), (aL0, .inr (4, [.ref aL1, .ref aL3, .ref aL4, .ref aL5, .ref aL12, .int ltol, .int lchi, .int ljam])), (aL1, .inr (6, [.ref aL2, .int mch])), (aL2, .inl (G.2.1, 48, .inl md)), (aL3, .inr (2, [.int fra, .int fwe, .int fof, .int fsi])), (aL4, .inr (1, [.int csh, .int cde, .int csp])), (aL5, .inr (7, [.ref aL6, .ref aL8, .ref aL10, .int rco, .int rmo])), (aL6, .inr (8, [.ref aL7])), (aL7, .inl (G.2.1, 80, .inl rd)), (aL8, .inr (8, [.ref aL9])), (aL9, .inl (G.2.1, 5, .inl rw)), (aL10, .inr (8, [.ref aL11])), (aL11, .inl (G.2.1, 5, .inl rp)), (aL12, .inr (0, [.int apa, .int awo, .int ash, .int aja, .int abu])), (aW0, .inr (8, [.ref aW1])), (aW1, .inl (G.2.1, 16, .inl wa))] H → va_D A [(a0, .inr (9, [.ref aL0, .ref aH0, .ref aT0, .ref aW0, .ref aE0])), (aL0, .inr (4, [.ref aL1, .ref aL3, .ref aL4, .ref aL5, .ref aL12, .int ltol, .int lchi, .int ljam])), (aL1, .inr (6, [.ref aL2, .int mch])), (aL2, .inl (G.2.1, 48, .inl md)), (aL3, .inr (2, [.int fra, .int fwe, .int fof, .int fsi])), (aL4, .inr (1, [.int csh, .int cde, .int csp])), (aL5, .inr (7, [.ref aL6, .ref aL8, .ref aL10, .int rco, .int rmo])), (aL6, .inr (8, [.ref aL7])), (aL7, .inl (G.2.1, 80, .inl rd)), (aL8, .inr (8, [.ref aL9])), (aL9, .inl (G.2.1, 5, .inl rw)), (aL10, .inr (8, [.ref aL11])), (aL11, .inl (G.2.1, 5, .inl rp)), (aL12, .inr (0, [.int apa, .int awo, .int ash, .int aja, .int abu])), (aW0, .inr (8, [.ref aW1])), (aW1, .inl (G.2.1, 16, .inl wa))] → va_S A s.heap H locs → ∀ (ls : Array Slot), lv_has ls 7 [(0, .ref a0), (1, .int v1), (2, .int v2), (3, .int v3), (4, .int v4), (5, .int v5)] → (∀ (H : Heap) (locs : List Loc) (ls : Array Slot), va_P G.1 vwCl [(a0, .inr (9, [.ref aL0, .ref aH0, .ref aT0, .ref aW0, .ref aE0])), (aL0, .inr (4, [.ref aL1, .ref aL3, .ref aL4, .ref aL5, .ref aL12, .int ltol, .int lchi, .int ljam])), (aL1, .inr (6, [.ref aL2, .int mch])), (aL2, .inl (G.2.1, 48, .inl md)), (aL3, .inr (2, [.int fra, .int fwe, .int fof, .int fsi])), (aL4, .inr (1, [.int csh, .int cde, .int csp])), (aL5, .inr (7, [.ref aL6, .ref aL8, .ref aL10, .int rco, .int rmo])), (aL6, .inr (8, [.ref aL7])), (aL7, .inl (G.2.1, 80, .inl rd)), (aL8, .inr (8, [.ref aL9])), (aL9, .inl (G.2.1, 5, .inl rw)), (aL10, .inr (8, [.ref aL11])), (aL11, .inl (G.2.1, 5, .inl rp)), (aL12, .inr (0, [.int apa, .int awo, .int ash, .int aja, .int abu])), (aW0, .inr (8, [.ref aW1])), (aW1, .inl (G.2.1, 16, .inl wa))] H → va_D A [(a0, .inr (9, [.ref aL0, .ref aH0, .ref aT0, .ref aW0, .ref aE0])), (aL0, .inr (4, [.ref aL1, .ref aL3, .ref aL4, .ref aL5, .ref aL12, .int ltol, .int lchi, .int ljam])), (aL1, .inr (6, [.ref aL2, .int mch])), (aL2, .inl (G.2.1, 48, .inl md)), (aL3, .inr (2, [.int fra, .int fwe, .int fof, .int fsi])), (aL4, .inr (1, [.int csh, .int cde, .int csp])), (aL5, .inr (7, [.ref aL6, .ref aL8, .ref aL10, .int rco, .int rmo])), (aL6, .inr (8, [.ref aL7])), (aL7, .inl (G.2.1, 80, .inl rd)), (aL8, .inr (8, [.ref aL9])), (aL9, .inl (G.2.1, 5, .inl rw)), (aL10, .inr (8, [.ref aL11])), (aL11, .inl (G.2.1, 5, .inl rp)), (aL12, .inr (0, [.int apa, .int awo, .int ash, .int aja, .int abu])), (aW0, .inr (8, [.ref aW1])), (aW1, .inl (G.2.1, 16, .inl wa))] → va_S A s.heap H locs → lv_has ls 7 [(0, .ref a0), (1, .int v1), (2, .int v2), (3, .int x3_23), (4, .int v4), (5, .int v5)] → W p l e { frames := 3, cells := 0, slots := 0, locals := 66 } s m args below meth c H locs 0 0 Q (F0 m 112 ls [])) → W p l e { frames := 3, cells := 0, slots := 0, locals := 66 } s m args below meth c H locs 0 0 Q (F0 m 85 ls []) := by
            intro v1 v2 v4 v5 wa n
            induction n with
            | zero => intro v3 x3_23 Q hf; rw [fX9_firstWaiting_L85] at hf; cases hf
            | succ n ih =>
              intro v3 x3_23 Q hf H locs hP hD hS ls hl kk
              rw [fX9_firstWaiting_L85] at hf
              refine lv_iload_n hx hb dX9_firstWaiting_85 rfl (lv_at hl 3 rfl) ?_
              refine lv_iload hx hb dX9_firstWaiting_86 (lv_at hl 4 rfl) ?_
              refine lv_icmp_ge (tgt := 112) hx hb dX9_firstWaiting_88 (by decide) (fun c_19 => ?_) (fun c_19 => ?_)
              · replace hf := ifp c_19 hf
                cases hf
                exact kk _ _ ls hP hD hS (lv_sub hl [0, 1, 2, 3, 4, 5] rfl)
              · replace hf := ifn c_19 hf
                refine lv_aload_n hx hb dX9_firstWaiting_91 rfl (lv_at hl 0 rfl) ?_
                refine gf_X9_35 hx hb hown hA hP 0 rfl rfl dX9_firstWaiting_92 ?_
                refine lv_iload_n hx hb dX9_firstWaiting_95 rfl (lv_at hl 3 rfl) ?_
                obtain ⟨r_20, q_21, hf⟩ := obd hf
                refine ro_v (n := 1) (As := [.int v3]) (q0 := 0) hx hb hml hown hA (kX8_at l G aW0 aW1 16 wa v3 r_20 q_21 (by decide)) g_X9_204 gd_X8_at ⟨(Nat.le_of_ble_eq_true rfl), (Nat.le_of_ble_eq_true rfl)⟩ (hZ.at hS) (hP.sub [14, 15] rfl) rfl rfl rfl hl.1 (Nat.le_of_ble_eq_true rfl) ⟨(Nat.le_of_ble_eq_true rfl), (Nat.le_of_ble_eq_true rfl)⟩ dX9_firstWaiting_96 ?_
                refine W.eq (g2 := F0 m 99 ls [.int r_20]) rfl ?_
                refine lv_iload hx hb dX9_firstWaiting_99 (lv_at hl 5 rfl) ?_
                refine lv_iload_n hx hb dX9_firstWaiting_101 rfl (lv_at hl 2 rfl) ?_
                refine lv_isub hx hb dX9_firstWaiting_102 ?_
                refine lv_icmp_ge (tgt := 112) hx hb dX9_firstWaiting_103 (by decide) (fun c_22 => ?_) (fun c_22 => ?_)
                · replace hf := ifp c_22 hf
                  cases hf
                  exact kk _ _ ls hP hD hS (lv_sub hl [0, 1, 2, 3, 4, 5] rfl)
                · replace hf := ifn c_22 hf
                  refine lv_iinc (v := v3 + 1) (lv' := [(3, .int (v3 + 1)), (0, .ref a0), (1, .int v1), (2, .int v2), (4, .int v4), (5, .int v5)]) hx hb dX9_firstWaiting_106 hl (k := 3) rfl rfl (by decide) rfl (fun ls hl => ?_)
                  refine lv_goto (tgt := 85) hx hb dX9_firstWaiting_109 (by decide) ?_
                  exact ih _ _ _ hf _ _ hP hD hS ls (lv_sub hl [1, 2, 3, 0, 4, 5] rfl) kk
          obtain ⟨x3_23, q_24, hf⟩ := obd hf
          refine lp85 _ _ _ _ _ _ _ _ _ q_24 _ _ hP hD hS ls (lv_sub hl [1, 2, 3, 4, 0, 5] rfl) (fun H locs ls hP hD hS hl => ?_)
          refine lv_iinc (v := v5 + 1) (lv' := [(5, .int (v5 + 1)), (0, .ref a0), (1, .int v1), (2, .int v2), (3, .int x3_23), (4, .int (x4_15 + 1))]) hx hb dX9_firstWaiting_112 hl (k := 5) rfl rfl (by decide) rfl (fun ls hl => ?_)
          refine lv_goto (tgt := 20) hx hb dX9_firstWaiting_115 (by decide) ?_
          exact ih _ _ _ _ _ _ _ hf _ _ hP hD hS ls (lv_sub hl [1, 2, 3, 4, 5, 0] rfl) kk
  obtain ⟨⟨x3_25, wa_26⟩, q_27, hf⟩ := obd hf
  dsimp only at hf
  refine lp20 _ _ _ _ _ _ _ _ _ _ q_27 _ _ hP hD hS ls (lv_sub hl [4, 5, 3, 2, 1, 0] rfl) (fun H locs ls hP hD hS hl => ?_)
  refine lv_aload_n hx hb dX9_firstWaiting_118 rfl (lv_at hl 0 rfl) ?_
  refine gf_X9_10 hx hb hown hA hP 0 rfl rfl dX9_firstWaiting_119 ?_
  refine gf_X9_56 hx hb hown hA hP 1 rfl rfl dX9_firstWaiting_122 ?_
  refine lv_aload_n hx hb dX9_firstWaiting_125 rfl (lv_at hl 0 rfl) ?_
  refine gf_X9_35 hx hb hown hA hP 0 rfl rfl dX9_firstWaiting_126 ?_
  refine lv_iload_n hx hb dX9_firstWaiting_129 rfl (lv_at hl 1 rfl) ?_
  obtain ⟨r_28, q_29, hf⟩ := obd hf
  refine ro_v (n := 1) (As := [.int x3_25]) (q0 := 0) hx hb hml hown hA (kX8_at l G aW0 aW1 16 wa_26 x3_25 r_28 q_29 (by decide)) g_X9_204 gd_X8_at ⟨(Nat.le_of_ble_eq_true rfl), (Nat.le_of_ble_eq_true rfl)⟩ (hZ.at hS) (hP.sub [14, 15] rfl) rfl rfl rfl hl.1 (Nat.le_of_ble_eq_true rfl) ⟨(Nat.le_of_ble_eq_true rfl), (Nat.le_of_ble_eq_true rfl)⟩ dX9_firstWaiting_130 ?_
  refine W.eq (g2 := F0 m 133 ls [.int r_28, .ref aL1]) rfl ?_
  obtain ⟨r_30, q_31, hf⟩ := obd hf
  refine ro_v (n := 1) (As := [.int r_28]) (q0 := 0) hx hb hml hown hA (kX6_chosenAt l G aL1 aL2 md mch r_28 r_30 q_31) g_X9_262 gd_X6_chosenAt ⟨(Nat.le_of_ble_eq_true rfl), (Nat.le_of_ble_eq_true rfl)⟩ (hZ.at hS) (hP.sub [2, 3] rfl) rfl rfl rfl hl.1 (Nat.le_of_ble_eq_true rfl) ⟨(Nat.le_of_ble_eq_true rfl), (Nat.le_of_ble_eq_true rfl)⟩ dX9_firstWaiting_133 ?_
  refine W.eq (g2 := F0 m 136 ls [.int r_30]) rfl ?_
  cases hf
  exact wr_iret () hx hb hr hlk hP hD hS dX9_firstWaiting_136
def fX9_readingByQueue (md : Nat → Int32) (mch : Int32) (fra : Int32) (wa : Nat → Int32) (i1 : Int32) : Option (Nat ⊕ (Int32 × (Nat → Int32))) :=
  ((fX9_checkStep i1).bind fun z => match z with | .inl e => some (.inl e) | .inr _ => (Option.map Sum.inr (((fX9_firstWaiting md mch fra wa i1).bind fun (r_2, wa_3) => some (r_2, wa_3)))))
set_option maxHeartbeats 4000000 in
set_option maxRecDepth 100000 in
theorem kX9_readingByQueue (l : Launch) (G : GG) (a0 aL0 aL1 aL2 aL3 aL4 aL5 aL6 aL7 aL8 aL9 aL10 aL11 aL12 aW0 aW1 aH0 aT0 aE0 : Nat) (md : Nat → Int32) (mch : Int32) (fra : Int32) (fwe : Int32) (fof : Int32) (fsi : Int32) (csh : Int32) (cde : Int32) (csp : Int32) (rd : Nat → Int32) (rw : Nat → Int32) (rp : Nat → Int32) (rco : Int32) (rmo : Int32) (apa : Int32) (awo : Int32) (ash : Int32) (aja : Int32) (abu : Int32) (ltol : Int32) (lchi : Int32) (ljam : Int32) (wa : Nat → Int32) (i1 : Int32) (r_0 : Int32) (wa_0 : Nat → Int32) (hf : fX9_readingByQueue md mch fra wa i1 = some (.inr (r_0, wa_0))) : Wr l G yX9_readingByQueue cX9_readingByQueue 2 (some .int) 8 122 0 0 [.ref a0, .int i1] [(a0, .inr (9, [.ref aL0, .ref aH0, .ref aT0, .ref aW0, .ref aE0])), (aL0, .inr (4, [.ref aL1, .ref aL3, .ref aL4, .ref aL5, .ref aL12, .int ltol, .int lchi, .int ljam])), (aL1, .inr (6, [.ref aL2, .int mch])), (aL2, .inl (G.2.1, 48, .inl md)), (aL3, .inr (2, [.int fra, .int fwe, .int fof, .int fsi])), (aL4, .inr (1, [.int csh, .int cde, .int csp])), (aL5, .inr (7, [.ref aL6, .ref aL8, .ref aL10, .int rco, .int rmo])), (aL6, .inr (8, [.ref aL7])), (aL7, .inl (G.2.1, 80, .inl rd)), (aL8, .inr (8, [.ref aL9])), (aL9, .inl (G.2.1, 5, .inl rw)), (aL10, .inr (8, [.ref aL11])), (aL11, .inl (G.2.1, 5, .inl rp)), (aL12, .inr (0, [.int apa, .int awo, .int ash, .int aja, .int abu])), (aW0, .inr (8, [.ref aW1])), (aW1, .inl (G.2.1, 16, .inl wa))] (X := Unit) (fun _ => [(a0, .inr (9, [.ref aL0, .ref aH0, .ref aT0, .ref aW0, .ref aE0])), (aL0, .inr (4, [.ref aL1, .ref aL3, .ref aL4, .ref aL5, .ref aL12, .int ltol, .int lchi, .int ljam])), (aL1, .inr (6, [.ref aL2, .int mch])), (aL2, .inl (G.2.1, 48, .inl md)), (aL3, .inr (2, [.int fra, .int fwe, .int fof, .int fsi])), (aL4, .inr (1, [.int csh, .int cde, .int csp])), (aL5, .inr (7, [.ref aL6, .ref aL8, .ref aL10, .int rco, .int rmo])), (aL6, .inr (8, [.ref aL7])), (aL7, .inl (G.2.1, 80, .inl rd)), (aL8, .inr (8, [.ref aL9])), (aL9, .inl (G.2.1, 5, .inl rw)), (aL10, .inr (8, [.ref aL11])), (aL11, .inl (G.2.1, 5, .inl rp)), (aL12, .inr (0, [.int apa, .int awo, .int ash, .int aja, .int abu])), (aW0, .inr (8, [.ref aW1])), (aW1, .inl (G.2.1, 16, .inl wa_0))]) (some (.int r_0)) := by
  refine wr_of (by decide) (Nat.le_of_ble_eq_true rfl) ?_
  intro p e s m args below meth c ls A hx hb hr hml hown hlk hA hZ hP hD hS hA0 hin hl
  have hP : va_P G.1 vwCl [(a0, .inr (9, [.ref aL0, .ref aH0, .ref aT0, .ref aW0, .ref aE0])), (aL0, .inr (4, [.ref aL1, .ref aL3, .ref aL4, .ref aL5, .ref aL12, .int ltol, .int lchi, .int ljam])), (aL1, .inr (6, [.ref aL2, .int mch])), (aL2, .inl (G.2.1, 48, .inl md)), (aL3, .inr (2, [.int fra, .int fwe, .int fof, .int fsi])), (aL4, .inr (1, [.int csh, .int cde, .int csp])), (aL5, .inr (7, [.ref aL6, .ref aL8, .ref aL10, .int rco, .int rmo])), (aL6, .inr (8, [.ref aL7])), (aL7, .inl (G.2.1, 80, .inl rd)), (aL8, .inr (8, [.ref aL9])), (aL9, .inl (G.2.1, 5, .inl rw)), (aL10, .inr (8, [.ref aL11])), (aL11, .inl (G.2.1, 5, .inl rp)), (aL12, .inr (0, [.int apa, .int awo, .int ash, .int aja, .int abu])), (aW0, .inr (8, [.ref aW1])), (aW1, .inl (G.2.1, 16, .inl wa))] s.heap := hP
  replace hown : s.vm.findClass RX9 = some m.cls := hown
  replace hl : lv_has ls 2 [(0, .ref a0), (1, .int i1)] := hl
  unfold fX9_readingByQueue at hf
  refine lv_iload_n hx hb dX9_readingByQueue_0 rfl (lv_at hl 1 rfl) ?_
  obtain ⟨e9 | u9, q_1, hf⟩ := obd hf
  · dsimp only at hf
    cases hf
  dsimp only at hf
  replace hf := omr hf
  refine ro_s (n := 1) (As := [.int i1]) hx hb hml hown hA (kX9_checkStep l G i1 q_1) g_X9_45 gd_X9_checkStep ⟨(Nat.le_of_ble_eq_true rfl), (Nat.le_of_ble_eq_true rfl)⟩ (hZ.at hS) (fun _ _ h => by simp at h) rfl hl.1 (Nat.le_of_ble_eq_true rfl) ⟨(Nat.le_of_ble_eq_true rfl), (Nat.le_of_ble_eq_true rfl)⟩ dX9_readingByQueue_1 ?_
  refine W.eq (g2 := F0 m 4 ls []) rfl ?_
  refine lv_aload_n hx hb dX9_readingByQueue_4 rfl (lv_at hl 0 rfl) ?_
  refine lv_iload_n hx hb dX9_readingByQueue_5 rfl (lv_at hl 1 rfl) ?_
  obtain ⟨⟨r_2, wa_3⟩, q_4, hf⟩ := obd hf
  dsimp only at hf
  refine wr_v (n := 1) (As := [.int i1]) (q0 := 0) (wr := []) (w2 := fun _ => [(a0, .inr (9, [.ref aL0, .ref aH0, .ref aT0, .ref aW0, .ref aE0])), (aL0, .inr (4, [.ref aL1, .ref aL3, .ref aL4, .ref aL5, .ref aL12, .int ltol, .int lchi, .int ljam])), (aL1, .inr (6, [.ref aL2, .int mch])), (aL2, .inl (G.2.1, 48, .inl md)), (aL3, .inr (2, [.int fra, .int fwe, .int fof, .int fsi])), (aL4, .inr (1, [.int csh, .int cde, .int csp])), (aL5, .inr (7, [.ref aL6, .ref aL8, .ref aL10, .int rco, .int rmo])), (aL6, .inr (8, [.ref aL7])), (aL7, .inl (G.2.1, 80, .inl rd)), (aL8, .inr (8, [.ref aL9])), (aL9, .inl (G.2.1, 5, .inl rw)), (aL10, .inr (8, [.ref aL11])), (aL11, .inl (G.2.1, 5, .inl rp)), (aL12, .inr (0, [.int apa, .int awo, .int ash, .int aja, .int abu])), (aW0, .inr (8, [.ref aW1])), (aW1, .inl (G.2.1, 16, .inl wa_3))]) hx hb hml hown hA (kX9_firstWaiting l G a0 aL0 aL1 aL2 aL3 aL4 aL5 aL6 aL7 aL8 aL9 aL10 aL11 aL12 aW0 aW1 aH0 aT0 aE0 md mch fra fwe fof fsi csh cde csp rd rw rp rco rmo apa awo ash aja abu ltol lchi ljam wa i1 r_2 wa_3 q_4) g_X9_256 gd_X9_firstWaiting ⟨(Nat.le_of_ble_eq_true rfl), (Nat.le_of_ble_eq_true rfl)⟩ hZ hP hD hS hA0 rfl rfl [0, 1, 2, 3, 4, 5, 6, 7, 8, 9, 10, 11, 12, 13, 14, 15] [] [0, 1, 2, 3, 4, 5, 6, 7, 8, 9, 10, 11, 12, 13, 14, 15] rfl rfl rfl rfl (by decide) (fun _ => rfl) rfl rfl hl.1 (Nat.le_of_ble_eq_true rfl) ⟨(Nat.le_of_ble_eq_true rfl), (Nat.le_of_ble_eq_true rfl)⟩ dX9_readingByQueue_6 (fun _ H locs hP hD hS => ?_)
  refine W.eq (g2 := F0 m 9 ls [.int r_2]) rfl ?_
  cases hf
  exact wr_iret () hx hb hr hlk hP hD hS dX9_readingByQueue_9
def fX9_targetAt (md : Nat → Int32) (mch : Int32) (fra : Int32) (fwe : Int32) (fof : Int32) (i1 : Int32) : Option (Nat ⊕ (Int32)) :=
  ((fX9_checkStep i1).bind fun z => match z with | .inl e => some (.inl e) | .inr _ => (Option.map Sum.inr (((fX4_target md mch fra fwe fof i1).bind fun r_2 => some r_2))))
set_option maxHeartbeats 4000000 in
set_option maxRecDepth 100000 in
theorem kX9_targetAt (l : Launch) (G : GG) (a0 aL0 aL1 aL2 aL3 aL4 aL5 aL6 aL7 aL8 aL9 aL10 aL11 aL12 aH0 aT0 aW0 aE0 : Nat) (md : Nat → Int32) (mch : Int32) (fra : Int32) (fwe : Int32) (fof : Int32) (fsi : Int32) (csh : Int32) (cde : Int32) (csp : Int32) (rd : Nat → Int32) (rw : Nat → Int32) (rp : Nat → Int32) (rco : Int32) (rmo : Int32) (apa : Int32) (awo : Int32) (ash : Int32) (aja : Int32) (abu : Int32) (ltol : Int32) (lchi : Int32) (ljam : Int32) (i1 : Int32) (r_0 : Int32) (hf : fX9_targetAt md mch fra fwe fof i1 = some (.inr r_0)) : Ro l G yX9_targetAt cX9_targetAt 2 (some .int) 8 122 [.ref a0, .int i1] [(a0, .inr (9, [.ref aL0, .ref aH0, .ref aT0, .ref aW0, .ref aE0])), (aL0, .inr (4, [.ref aL1, .ref aL3, .ref aL4, .ref aL5, .ref aL12, .int ltol, .int lchi, .int ljam])), (aL1, .inr (6, [.ref aL2, .int mch])), (aL2, .inl (G.2.1, 48, .inl md)), (aL3, .inr (2, [.int fra, .int fwe, .int fof, .int fsi])), (aL4, .inr (1, [.int csh, .int cde, .int csp])), (aL5, .inr (7, [.ref aL6, .ref aL8, .ref aL10, .int rco, .int rmo])), (aL6, .inr (8, [.ref aL7])), (aL7, .inl (G.2.1, 80, .inl rd)), (aL8, .inr (8, [.ref aL9])), (aL9, .inl (G.2.1, 5, .inl rw)), (aL10, .inr (8, [.ref aL11])), (aL11, .inl (G.2.1, 5, .inl rp)), (aL12, .inr (0, [.int apa, .int awo, .int ash, .int aja, .int abu]))] (some (.int r_0)) := by
  refine ro_of (by decide) (Nat.le_of_ble_eq_true rfl) ?_
  intro p e s m args below meth c ls hx hb hr hml hown hlk hA hZ hP hl
  replace hown : s.vm.findClass RX9 = some m.cls := hown
  replace hl : lv_has ls 2 [(0, .ref a0), (1, .int i1)] := hl
  unfold fX9_targetAt at hf
  refine lv_iload_n hx hb dX9_targetAt_0 rfl (lv_at hl 1 rfl) ?_
  obtain ⟨e9 | u9, q_1, hf⟩ := obd hf
  · dsimp only at hf
    cases hf
  dsimp only at hf
  replace hf := omr hf
  refine ro_s (n := 1) (As := [.int i1]) hx hb hml hown hA (kX9_checkStep l G i1 q_1) g_X9_45 gd_X9_checkStep ⟨(Nat.le_of_ble_eq_true rfl), (Nat.le_of_ble_eq_true rfl)⟩ hZ (fun _ _ h => by simp at h) rfl hl.1 (Nat.le_of_ble_eq_true rfl) ⟨(Nat.le_of_ble_eq_true rfl), (Nat.le_of_ble_eq_true rfl)⟩ dX9_targetAt_1 ?_
  refine W.eq (g2 := F0 m 4 ls []) rfl ?_
  refine lv_aload_n hx hb dX9_targetAt_4 rfl (lv_at hl 0 rfl) ?_
  refine gf_X9_10 hx hb hown hA hP 0 rfl rfl dX9_targetAt_5 ?_
  refine lv_iload_n hx hb dX9_targetAt_8 rfl (lv_at hl 1 rfl) ?_
  obtain ⟨r_2, q_3, hf⟩ := obd hf
  refine ro_v (n := 1) (As := [.int i1]) (q0 := 0) hx hb hml hown hA (kX4_target l G aL0 aL1 aL2 aL3 aL4 aL5 aL6 aL7 aL8 aL9 aL10 aL11 aL12 md mch fra fwe fof fsi csh cde csp rd rw rp rco rmo apa awo ash aja abu ltol lchi ljam i1 r_2 q_3) g_X9_259 gd_X4_target ⟨(Nat.le_of_ble_eq_true rfl), (Nat.le_of_ble_eq_true rfl)⟩ hZ (hP.sub [1, 2, 3, 4, 5, 6, 7, 8, 9, 10, 11, 12, 13] rfl) rfl rfl rfl hl.1 (Nat.le_of_ble_eq_true rfl) ⟨(Nat.le_of_ble_eq_true rfl), (Nat.le_of_ble_eq_true rfl)⟩ dX9_targetAt_9 ?_
  refine W.eq (g2 := F0 m 12 ls [.int r_2]) rfl ?_
  cases hf
  exact ro_iret hx hb hr hlk dX9_targetAt_12
def fX9_lostGrooves_L4 (md : Nat → Int32) (mch : Int32) (fra : Int32)  : Nat → Int32 → Int32 → Option (Int32)
  | 0, _, _ => none
  | n9 + 1, v1, v2 => (if 16 ≤ v2 then some v1 else ((fX4_reading md mch fra v2).bind fun r_2 => ((fX6_chosenAt md mch v2).bind fun r_4 => (if r_2 ≤ r_4 then fX9_lostGrooves_L4 md mch fra n9 v1 (v2 + 1) else fX9_lostGrooves_L4 md mch fra n9 (v1 + 1) (v2 + 1)))))
def fX9_lostGrooves (md : Nat → Int32) (mch : Int32) (fra : Int32)  : Option (Int32) :=
  ((fX9_lostGrooves_L4 md mch fra 2000 0 0).bind fun x1_7 => some x1_7)
set_option maxHeartbeats 4000000 in
set_option maxRecDepth 100000 in
theorem kX9_lostGrooves (l : Launch) (G : GG) (a0 aL0 aL1 aL2 aL3 aL4 aL5 aL6 aL7 aL8 aL9 aL10 aL11 aL12 aH0 aT0 aW0 aE0 : Nat) (md : Nat → Int32) (mch : Int32) (fra : Int32) (fwe : Int32) (fof : Int32) (fsi : Int32) (csh : Int32) (cde : Int32) (csp : Int32) (rd : Nat → Int32) (rw : Nat → Int32) (rp : Nat → Int32) (rco : Int32) (rmo : Int32) (apa : Int32) (awo : Int32) (ash : Int32) (aja : Int32) (abu : Int32) (ltol : Int32) (lchi : Int32) (ljam : Int32)  (r_0 : Int32) (hf : fX9_lostGrooves md mch fra = some r_0) : Ro l G yX9_lostGrooves cX9_lostGrooves 3 (some .int) 2 47 [.ref a0] [(a0, .inr (9, [.ref aL0, .ref aH0, .ref aT0, .ref aW0, .ref aE0])), (aL0, .inr (4, [.ref aL1, .ref aL3, .ref aL4, .ref aL5, .ref aL12, .int ltol, .int lchi, .int ljam])), (aL1, .inr (6, [.ref aL2, .int mch])), (aL2, .inl (G.2.1, 48, .inl md)), (aL3, .inr (2, [.int fra, .int fwe, .int fof, .int fsi])), (aL4, .inr (1, [.int csh, .int cde, .int csp])), (aL5, .inr (7, [.ref aL6, .ref aL8, .ref aL10, .int rco, .int rmo])), (aL6, .inr (8, [.ref aL7])), (aL7, .inl (G.2.1, 80, .inl rd)), (aL8, .inr (8, [.ref aL9])), (aL9, .inl (G.2.1, 5, .inl rw)), (aL10, .inr (8, [.ref aL11])), (aL11, .inl (G.2.1, 5, .inl rp)), (aL12, .inr (0, [.int apa, .int awo, .int ash, .int aja, .int abu]))] (some (.int r_0)) := by
  refine ro_of (by decide) (Nat.le_of_ble_eq_true rfl) ?_
  intro p e s m args below meth c ls hx hb hr hml hown hlk hA hZ hP hl
  replace hown : s.vm.findClass RX9 = some m.cls := hown
  replace hl : lv_has ls 3 [(0, .ref a0)] := hl
  unfold fX9_lostGrooves at hf
  refine lv_iconst (v := 0) hx hb dX9_lostGrooves_0 (by decide) ?_
  refine lv_istore_n (lv' := [(1, .int 0), (0, .ref a0)]) hx hb dX9_lostGrooves_1 rfl hl (by decide) rfl (fun ls hl => ?_)
  refine lv_iconst (v := 0) hx hb dX9_lostGrooves_2 (by decide) ?_
  refine lv_istore_n (lv' := [(2, .int 0), (1, .int 0), (0, .ref a0)]) hx hb dX9_lostGrooves_3 rfl hl (by decide) rfl (fun ls hl => ?_)
  have lp4 : ∀   (n : Nat) (v1 : Int32) (v2 : Int32)  (x1_7 : Int32) (Q : State → Prop), fX9_lostGrooves_L4 md mch fra n v1 v2 = some x1_7 → ∀ (ls : Array Slot), lv_has ls 3 [(0, .ref a0), (1, .int v1), (2, .int v2)] → (∀ (ls : Array Slot), lv_has ls 3 [(1, .int x1_7)] → W p l e { frames := 2, cells := 0, slots := 0, locals := 47 } s m args below meth c s.heap [] 0 0 Q (F0 m 41 ls [])) → W p l e { frames := 2, cells := 0, slots := 0, locals := 47 } s m args below meth c s.heap [] 0 0 Q (F0 m 4 ls []) := by
    intro  n
    induction n with
    | zero => intro v1 v2 x1_7 Q hf; rw [fX9_lostGrooves_L4] at hf; cases hf
    | succ n ih =>
      intro v1 v2 x1_7 Q hf ls hl kk
      rw [fX9_lostGrooves_L4] at hf
      refine lv_iload_n hx hb dX9_lostGrooves_4 rfl (lv_at hl 2 rfl) ?_
      refine lv_bipush (v := 16) hx hb dX9_lostGrooves_5 (by decide) ?_
      refine lv_icmp_ge (tgt := 41) hx hb dX9_lostGrooves_7 (by decide) (fun c_1 => ?_) (fun c_1 => ?_)
      · replace hf := ifp c_1 hf
        cases hf
        exact kk ls (lv_sub hl [1] rfl)
      · replace hf := ifn c_1 hf
        refine lv_aload_n hx hb dX9_lostGrooves_10 rfl (lv_at hl 0 rfl) ?_
        refine gf_X9_10 hx hb hown hA hP 0 rfl rfl dX9_lostGrooves_11 ?_
        refine lv_iload_n hx hb dX9_lostGrooves_14 rfl (lv_at hl 2 rfl) ?_
        obtain ⟨r_2, q_3, hf⟩ := obd hf
        refine ro_v (n := 1) (As := [.int v2]) (q0 := 0) hx hb hml hown hA (kX4_reading l G aL0 aL1 aL2 aL3 aL4 aL5 aL6 aL7 aL8 aL9 aL10 aL11 aL12 md mch fra fwe fof fsi csh cde csp rd rw rp rco rmo apa awo ash aja abu ltol lchi ljam v2 r_2 q_3) g_X9_253 gd_X4_reading ⟨(Nat.le_of_ble_eq_true rfl), (Nat.le_of_ble_eq_true rfl)⟩ hZ (hP.sub [1, 2, 3, 4, 5, 6, 7, 8, 9, 10, 11, 12, 13] rfl) rfl rfl rfl hl.1 (Nat.le_of_ble_eq_true rfl) ⟨(Nat.le_of_ble_eq_true rfl), (Nat.le_of_ble_eq_true rfl)⟩ dX9_lostGrooves_15 ?_
        refine W.eq (g2 := F0 m 18 ls [.int r_2]) rfl ?_
        refine lv_aload_n hx hb dX9_lostGrooves_18 rfl (lv_at hl 0 rfl) ?_
        refine gf_X9_10 hx hb hown hA hP 0 rfl rfl dX9_lostGrooves_19 ?_
        refine gf_X9_56 hx hb hown hA hP 1 rfl rfl dX9_lostGrooves_22 ?_
        refine lv_iload_n hx hb dX9_lostGrooves_25 rfl (lv_at hl 2 rfl) ?_
        obtain ⟨r_4, q_5, hf⟩ := obd hf
        refine ro_v (n := 1) (As := [.int v2]) (q0 := 0) hx hb hml hown hA (kX6_chosenAt l G aL1 aL2 md mch v2 r_4 q_5) g_X9_262 gd_X6_chosenAt ⟨(Nat.le_of_ble_eq_true rfl), (Nat.le_of_ble_eq_true rfl)⟩ hZ (hP.sub [2, 3] rfl) rfl rfl rfl hl.1 (Nat.le_of_ble_eq_true rfl) ⟨(Nat.le_of_ble_eq_true rfl), (Nat.le_of_ble_eq_true rfl)⟩ dX9_lostGrooves_26 ?_
        refine W.eq (g2 := F0 m 29 ls [.int r_4, .int r_2]) rfl ?_
        refine lv_icmp_le (tgt := 35) hx hb dX9_lostGrooves_29 (by decide) (fun c_6 => ?_) (fun c_6 => ?_)
        · replace hf := ifp c_6 hf
          refine lv_iinc (v := v2 + 1) (lv' := [(2, .int (v2 + 1)), (0, .ref a0), (1, .int v1)]) hx hb dX9_lostGrooves_35 hl (k := 2) rfl rfl (by decide) rfl (fun ls hl => ?_)
          refine lv_goto (tgt := 4) hx hb dX9_lostGrooves_38 (by decide) ?_
          exact ih _ _ _ _ hf ls (lv_sub hl [1, 2, 0] rfl) kk
        · replace hf := ifn c_6 hf
          refine lv_iinc (v := v1 + 1) (lv' := [(1, .int (v1 + 1)), (0, .ref a0), (2, .int v2)]) hx hb dX9_lostGrooves_32 hl (k := 1) rfl rfl (by decide) rfl (fun ls hl => ?_)
          refine lv_iinc (v := v2 + 1) (lv' := [(2, .int (v2 + 1)), (1, .int (v1 + 1)), (0, .ref a0)]) hx hb dX9_lostGrooves_35 hl (k := 2) rfl rfl (by decide) rfl (fun ls hl => ?_)
          refine lv_goto (tgt := 4) hx hb dX9_lostGrooves_38 (by decide) ?_
          exact ih _ _ _ _ hf ls (lv_sub hl [2, 1, 0] rfl) kk
  obtain ⟨x1_7, q_8, hf⟩ := obd hf
  refine lp4 _ _ _ _ _ q_8 ls (lv_sub hl [2, 1, 0] rfl) (fun ls hl => ?_)
  refine lv_iload_n hx hb dX9_lostGrooves_41 rfl (lv_at hl 0 rfl) ?_
  cases hf
  exact ro_iret hx hb hr hlk dX9_lostGrooves_42
def fX9_tooThick_L9 (md : Nat → Int32) (mch : Int32) (rd : Nat → Int32) (v1 : Int32) : Nat → Int32 → Int32 → Option (Int32)
  | 0, _, _ => none
  | n9 + 1, v2, v3 => (if 16 ≤ v3 then some v2 else ((fX4_difference md rd v1 mch v3).bind fun r_3 => fX9_tooThick_L9 md mch rd v1 n9 (mxI v2 r_3) (v3 + 1)))
def fX9_tooThick (md : Nat → Int32) (mch : Int32) (rd : Nat → Int32) (rco : Int32) (i1 : Int32) : Option (Nat ⊕ (Int32)) :=
  ((fX9_checkPiece rco i1).bind fun z => match z with | .inl e => some (.inl e) | .inr _ => (Option.map Sum.inr (((fX9_tooThick_L9 md mch rd i1 2000 0 0).bind fun x2_5 => some x2_5))))
set_option maxHeartbeats 4000000 in
set_option maxRecDepth 100000 in
theorem kX9_tooThick (l : Launch) (G : GG) (a0 aL0 aL1 aL2 aL3 aL4 aL5 aL6 aL7 aL8 aL9 aL10 aL11 aL12 aH0 aT0 aW0 aE0 : Nat) (md : Nat → Int32) (mch : Int32) (fra : Int32) (fwe : Int32) (fof : Int32) (fsi : Int32) (csh : Int32) (cde : Int32) (csp : Int32) (rd : Nat → Int32) (rw : Nat → Int32) (rp : Nat → Int32) (rco : Int32) (rmo : Int32) (apa : Int32) (awo : Int32) (ash : Int32) (aja : Int32) (abu : Int32) (ltol : Int32) (lchi : Int32) (ljam : Int32) (i1 : Int32) (r_0 : Int32) (hf : fX9_tooThick md mch rd rco i1 = some (.inr r_0)) : Ro l G yX9_tooThick cX9_tooThick 4 (some .int) 8 123 [.ref a0, .int i1] [(a0, .inr (9, [.ref aL0, .ref aH0, .ref aT0, .ref aW0, .ref aE0])), (aL0, .inr (4, [.ref aL1, .ref aL3, .ref aL4, .ref aL5, .ref aL12, .int ltol, .int lchi, .int ljam])), (aL1, .inr (6, [.ref aL2, .int mch])), (aL2, .inl (G.2.1, 48, .inl md)), (aL3, .inr (2, [.int fra, .int fwe, .int fof, .int fsi])), (aL4, .inr (1, [.int csh, .int cde, .int csp])), (aL5, .inr (7, [.ref aL6, .ref aL8, .ref aL10, .int rco, .int rmo])), (aL6, .inr (8, [.ref aL7])), (aL7, .inl (G.2.1, 80, .inl rd)), (aL8, .inr (8, [.ref aL9])), (aL9, .inl (G.2.1, 5, .inl rw)), (aL10, .inr (8, [.ref aL11])), (aL11, .inl (G.2.1, 5, .inl rp)), (aL12, .inr (0, [.int apa, .int awo, .int ash, .int aja, .int abu]))] (some (.int r_0)) := by
  refine ro_of (by decide) (Nat.le_of_ble_eq_true rfl) ?_
  intro p e s m args below meth c ls hx hb hr hml hown hlk hA hZ hP hl
  replace hown : s.vm.findClass RX9 = some m.cls := hown
  replace hl : lv_has ls 4 [(0, .ref a0), (1, .int i1)] := hl
  unfold fX9_tooThick at hf
  refine lv_aload_n hx hb dX9_tooThick_0 rfl (lv_at hl 0 rfl) ?_
  refine lv_iload_n hx hb dX9_tooThick_1 rfl (lv_at hl 1 rfl) ?_
  obtain ⟨e9 | u9, q_1, hf⟩ := obd hf
  · dsimp only at hf
    cases hf
  dsimp only at hf
  replace hf := omr hf
  refine ro_v (n := 1) (As := [.int i1]) (q0 := 0) hx hb hml hown hA (kX9_checkPiece l G a0 aL0 aL1 aL2 aL3 aL4 aL5 aL6 aL7 aL8 aL9 aL10 aL11 aL12 aH0 aT0 aW0 aE0 md mch fra fwe fof fsi csh cde csp rd rw rp rco rmo apa awo ash aja abu ltol lchi ljam i1 q_1) g_X9_149 gd_X9_checkPiece ⟨(Nat.le_of_ble_eq_true rfl), (Nat.le_of_ble_eq_true rfl)⟩ hZ (hP.sub [0, 1, 2, 3, 4, 5, 6, 7, 8, 9, 10, 11, 12, 13] rfl) rfl rfl rfl hl.1 (Nat.le_of_ble_eq_true rfl) ⟨(Nat.le_of_ble_eq_true rfl), (Nat.le_of_ble_eq_true rfl)⟩ dX9_tooThick_2 ?_
  refine W.eq (g2 := F0 m 5 ls []) rfl ?_
  refine lv_iconst (v := 0) hx hb dX9_tooThick_5 (by decide) ?_
  refine lv_istore_n (lv' := [(2, .int 0), (0, .ref a0), (1, .int i1)]) hx hb dX9_tooThick_6 rfl hl (by decide) rfl (fun ls hl => ?_)
  refine lv_iconst (v := 0) hx hb dX9_tooThick_7 (by decide) ?_
  refine lv_istore_n (lv' := [(3, .int 0), (2, .int 0), (0, .ref a0), (1, .int i1)]) hx hb dX9_tooThick_8 rfl hl (by decide) rfl (fun ls hl => ?_)
  have lp9 : ∀ (v1 : Int32)  (n : Nat) (v2 : Int32) (v3 : Int32)  (x2_5 : Int32) (Q : State → Prop), fX9_tooThick_L9 md mch rd v1 n v2 v3 = some x2_5 → ∀ (ls : Array Slot), lv_has ls 4 [(0, .ref a0), (1, .int v1), (2, .int v2), (3, .int v3)] → (∀ (ls : Array Slot), lv_has ls 4 [(2, .int x2_5)] → W p l e { frames := 8, cells := 0, slots := 0, locals := 123 } s m args below meth c s.heap [] 0 0 Q (F0 m 45 ls [])) → W p l e { frames := 8, cells := 0, slots := 0, locals := 123 } s m args below meth c s.heap [] 0 0 Q (F0 m 9 ls []) := by
    intro v1 n
    induction n with
    | zero => intro v2 v3 x2_5 Q hf; rw [fX9_tooThick_L9] at hf; cases hf
    | succ n ih =>
      intro v2 v3 x2_5 Q hf ls hl kk
      rw [fX9_tooThick_L9] at hf
      refine lv_iload_n hx hb dX9_tooThick_9 rfl (lv_at hl 3 rfl) ?_
      refine lv_bipush (v := 16) hx hb dX9_tooThick_10 (by decide) ?_
      refine lv_icmp_ge (tgt := 45) hx hb dX9_tooThick_12 (by decide) (fun c_2 => ?_) (fun c_2 => ?_)
      · replace hf := ifp c_2 hf
        cases hf
        exact kk ls (lv_sub hl [2] rfl)
      · replace hf := ifn c_2 hf
        refine lv_iload_n hx hb dX9_tooThick_15 rfl (lv_at hl 2 rfl) ?_
        refine lv_aload_n hx hb dX9_tooThick_16 rfl (lv_at hl 0 rfl) ?_
        refine gf_X9_10 hx hb hown hA hP 0 rfl rfl dX9_tooThick_17 ?_
        refine lv_iload_n hx hb dX9_tooThick_20 rfl (lv_at hl 1 rfl) ?_
        refine lv_aload_n hx hb dX9_tooThick_21 rfl (lv_at hl 0 rfl) ?_
        refine gf_X9_10 hx hb hown hA hP 0 rfl rfl dX9_tooThick_22 ?_
        refine gf_X9_56 hx hb hown hA hP 1 rfl rfl dX9_tooThick_25 ?_
        refine gf_X9_76 hx hb hown hA hP 2 rfl rfl dX9_tooThick_28 ?_
        refine lv_iload_n hx hb dX9_tooThick_31 rfl (lv_at hl 3 rfl) ?_
        obtain ⟨r_3, q_4, hf⟩ := obd hf
        refine ro_v (n := 3) (As := [.int v1, .int mch, .int v3]) (q0 := 0) hx hb hml hown hA (kX4_difference l G aL0 aL1 aL2 aL3 aL4 aL5 aL6 aL7 aL8 aL9 aL10 aL11 aL12 md mch fra fwe fof fsi csh cde csp rd rw rp rco rmo apa awo ash aja abu ltol lchi ljam v1 mch v3 r_3 q_4) g_X9_268 gd_X4_difference ⟨(Nat.le_of_ble_eq_true rfl), (Nat.le_of_ble_eq_true rfl)⟩ hZ (hP.sub [1, 2, 3, 4, 5, 6, 7, 8, 9, 10, 11, 12, 13] rfl) rfl rfl rfl hl.1 (Nat.le_of_ble_eq_true rfl) ⟨(Nat.le_of_ble_eq_true rfl), (Nat.le_of_ble_eq_true rfl)⟩ dX9_tooThick_32 ?_
        refine W.eq (g2 := F0 m 35 ls [.int r_3, .int v2]) rfl ?_
        refine va_mmax hx hb (hml.trans hl.1.symm) hown (hA.hts _ wd_407) (hA.hts _ wd_23) (hA.hts _ wd_24) (hA.hts _ wd_25) (Nat.le_of_ble_eq_true rfl) (Nat.le_of_ble_eq_true rfl) (Nat.le_of_ble_eq_true rfl) (Nat.le_of_ble_eq_true rfl) dX9_tooThick_35 ?_
        refine lv_istore_n (lv' := [(2, .int (mxI v2 r_3)), (0, .ref a0), (1, .int v1), (3, .int v3)]) hx hb dX9_tooThick_38 rfl hl (by decide) rfl (fun ls hl => ?_)
        refine lv_iinc (v := v3 + 1) (lv' := [(3, .int (v3 + 1)), (2, .int (mxI v2 r_3)), (0, .ref a0), (1, .int v1)]) hx hb dX9_tooThick_39 hl (k := 3) rfl rfl (by decide) rfl (fun ls hl => ?_)
        refine lv_goto (tgt := 9) hx hb dX9_tooThick_42 (by decide) ?_
        exact ih _ _ _ _ hf ls (lv_sub hl [2, 3, 1, 0] rfl) kk
  obtain ⟨x2_5, q_6, hf⟩ := obd hf
  refine lp9 _ _ _ _ _ _ q_6 ls (lv_sub hl [2, 3, 1, 0] rfl) (fun ls hl => ?_)
  refine lv_iload_n hx hb dX9_tooThick_45 rfl (lv_at hl 0 rfl) ?_
  cases hf
  exact ro_iret hx hb hr hlk dX9_tooThick_46
def fX9_tooThin_L9 (md : Nat → Int32) (mch : Int32) (rd : Nat → Int32) (v1 : Int32) : Nat → Int32 → Int32 → Option (Int32)
  | 0, _, _ => none
  | n9 + 1, v2, v3 => (if 16 ≤ v3 then some v2 else ((fX4_difference md rd v1 mch v3).bind fun r_3 => fX9_tooThin_L9 md mch rd v1 n9 (mxI v2 (-r_3)) (v3 + 1)))
def fX9_tooThin (md : Nat → Int32) (mch : Int32) (rd : Nat → Int32) (rco : Int32) (i1 : Int32) : Option (Nat ⊕ (Int32)) :=
  ((fX9_checkPiece rco i1).bind fun z => match z with | .inl e => some (.inl e) | .inr _ => (Option.map Sum.inr (((fX9_tooThin_L9 md mch rd i1 2000 0 0).bind fun x2_5 => some x2_5))))
set_option maxHeartbeats 4000000 in
set_option maxRecDepth 100000 in
theorem kX9_tooThin (l : Launch) (G : GG) (a0 aL0 aL1 aL2 aL3 aL4 aL5 aL6 aL7 aL8 aL9 aL10 aL11 aL12 aH0 aT0 aW0 aE0 : Nat) (md : Nat → Int32) (mch : Int32) (fra : Int32) (fwe : Int32) (fof : Int32) (fsi : Int32) (csh : Int32) (cde : Int32) (csp : Int32) (rd : Nat → Int32) (rw : Nat → Int32) (rp : Nat → Int32) (rco : Int32) (rmo : Int32) (apa : Int32) (awo : Int32) (ash : Int32) (aja : Int32) (abu : Int32) (ltol : Int32) (lchi : Int32) (ljam : Int32) (i1 : Int32) (r_0 : Int32) (hf : fX9_tooThin md mch rd rco i1 = some (.inr r_0)) : Ro l G yX9_tooThin cX9_tooThin 4 (some .int) 8 123 [.ref a0, .int i1] [(a0, .inr (9, [.ref aL0, .ref aH0, .ref aT0, .ref aW0, .ref aE0])), (aL0, .inr (4, [.ref aL1, .ref aL3, .ref aL4, .ref aL5, .ref aL12, .int ltol, .int lchi, .int ljam])), (aL1, .inr (6, [.ref aL2, .int mch])), (aL2, .inl (G.2.1, 48, .inl md)), (aL3, .inr (2, [.int fra, .int fwe, .int fof, .int fsi])), (aL4, .inr (1, [.int csh, .int cde, .int csp])), (aL5, .inr (7, [.ref aL6, .ref aL8, .ref aL10, .int rco, .int rmo])), (aL6, .inr (8, [.ref aL7])), (aL7, .inl (G.2.1, 80, .inl rd)), (aL8, .inr (8, [.ref aL9])), (aL9, .inl (G.2.1, 5, .inl rw)), (aL10, .inr (8, [.ref aL11])), (aL11, .inl (G.2.1, 5, .inl rp)), (aL12, .inr (0, [.int apa, .int awo, .int ash, .int aja, .int abu]))] (some (.int r_0)) := by
  refine ro_of (by decide) (Nat.le_of_ble_eq_true rfl) ?_
  intro p e s m args below meth c ls hx hb hr hml hown hlk hA hZ hP hl
  replace hown : s.vm.findClass RX9 = some m.cls := hown
  replace hl : lv_has ls 4 [(0, .ref a0), (1, .int i1)] := hl
  unfold fX9_tooThin at hf
  refine lv_aload_n hx hb dX9_tooThin_0 rfl (lv_at hl 0 rfl) ?_
  refine lv_iload_n hx hb dX9_tooThin_1 rfl (lv_at hl 1 rfl) ?_
  obtain ⟨e9 | u9, q_1, hf⟩ := obd hf
  · dsimp only at hf
    cases hf
  dsimp only at hf
  replace hf := omr hf
  refine ro_v (n := 1) (As := [.int i1]) (q0 := 0) hx hb hml hown hA (kX9_checkPiece l G a0 aL0 aL1 aL2 aL3 aL4 aL5 aL6 aL7 aL8 aL9 aL10 aL11 aL12 aH0 aT0 aW0 aE0 md mch fra fwe fof fsi csh cde csp rd rw rp rco rmo apa awo ash aja abu ltol lchi ljam i1 q_1) g_X9_149 gd_X9_checkPiece ⟨(Nat.le_of_ble_eq_true rfl), (Nat.le_of_ble_eq_true rfl)⟩ hZ (hP.sub [0, 1, 2, 3, 4, 5, 6, 7, 8, 9, 10, 11, 12, 13] rfl) rfl rfl rfl hl.1 (Nat.le_of_ble_eq_true rfl) ⟨(Nat.le_of_ble_eq_true rfl), (Nat.le_of_ble_eq_true rfl)⟩ dX9_tooThin_2 ?_
  refine W.eq (g2 := F0 m 5 ls []) rfl ?_
  refine lv_iconst (v := 0) hx hb dX9_tooThin_5 (by decide) ?_
  refine lv_istore_n (lv' := [(2, .int 0), (0, .ref a0), (1, .int i1)]) hx hb dX9_tooThin_6 rfl hl (by decide) rfl (fun ls hl => ?_)
  refine lv_iconst (v := 0) hx hb dX9_tooThin_7 (by decide) ?_
  refine lv_istore_n (lv' := [(3, .int 0), (2, .int 0), (0, .ref a0), (1, .int i1)]) hx hb dX9_tooThin_8 rfl hl (by decide) rfl (fun ls hl => ?_)
  have lp9 : ∀ (v1 : Int32)  (n : Nat) (v2 : Int32) (v3 : Int32)  (x2_5 : Int32) (Q : State → Prop), fX9_tooThin_L9 md mch rd v1 n v2 v3 = some x2_5 → ∀ (ls : Array Slot), lv_has ls 4 [(0, .ref a0), (1, .int v1), (2, .int v2), (3, .int v3)] → (∀ (ls : Array Slot), lv_has ls 4 [(2, .int x2_5)] → W p l e { frames := 8, cells := 0, slots := 0, locals := 123 } s m args below meth c s.heap [] 0 0 Q (F0 m 46 ls [])) → W p l e { frames := 8, cells := 0, slots := 0, locals := 123 } s m args below meth c s.heap [] 0 0 Q (F0 m 9 ls []) := by
    intro v1 n
    induction n with
    | zero => intro v2 v3 x2_5 Q hf; rw [fX9_tooThin_L9] at hf; cases hf
    | succ n ih =>
      intro v2 v3 x2_5 Q hf ls hl kk
      rw [fX9_tooThin_L9] at hf
      refine lv_iload_n hx hb dX9_tooThin_9 rfl (lv_at hl 3 rfl) ?_
      refine lv_bipush (v := 16) hx hb dX9_tooThin_10 (by decide) ?_
      refine lv_icmp_ge (tgt := 46) hx hb dX9_tooThin_12 (by decide) (fun c_2 => ?_) (fun c_2 => ?_)
      · replace hf := ifp c_2 hf
        cases hf
        exact kk ls (lv_sub hl [2] rfl)
      · replace hf := ifn c_2 hf
        refine lv_iload_n hx hb dX9_tooThin_15 rfl (lv_at hl 2 rfl) ?_
        refine lv_aload_n hx hb dX9_tooThin_16 rfl (lv_at hl 0 rfl) ?_
        refine gf_X9_10 hx hb hown hA hP 0 rfl rfl dX9_tooThin_17 ?_
        refine lv_iload_n hx hb dX9_tooThin_20 rfl (lv_at hl 1 rfl) ?_
        refine lv_aload_n hx hb dX9_tooThin_21 rfl (lv_at hl 0 rfl) ?_
        refine gf_X9_10 hx hb hown hA hP 0 rfl rfl dX9_tooThin_22 ?_
        refine gf_X9_56 hx hb hown hA hP 1 rfl rfl dX9_tooThin_25 ?_
        refine gf_X9_76 hx hb hown hA hP 2 rfl rfl dX9_tooThin_28 ?_
        refine lv_iload_n hx hb dX9_tooThin_31 rfl (lv_at hl 3 rfl) ?_
        obtain ⟨r_3, q_4, hf⟩ := obd hf
        refine ro_v (n := 3) (As := [.int v1, .int mch, .int v3]) (q0 := 0) hx hb hml hown hA (kX4_difference l G aL0 aL1 aL2 aL3 aL4 aL5 aL6 aL7 aL8 aL9 aL10 aL11 aL12 md mch fra fwe fof fsi csh cde csp rd rw rp rco rmo apa awo ash aja abu ltol lchi ljam v1 mch v3 r_3 q_4) g_X9_268 gd_X4_difference ⟨(Nat.le_of_ble_eq_true rfl), (Nat.le_of_ble_eq_true rfl)⟩ hZ (hP.sub [1, 2, 3, 4, 5, 6, 7, 8, 9, 10, 11, 12, 13] rfl) rfl rfl rfl hl.1 (Nat.le_of_ble_eq_true rfl) ⟨(Nat.le_of_ble_eq_true rfl), (Nat.le_of_ble_eq_true rfl)⟩ dX9_tooThin_32 ?_
        refine W.eq (g2 := F0 m 35 ls [.int r_3, .int v2]) rfl ?_
        refine lv_ineg hx hb dX9_tooThin_35 ?_
        refine va_mmax hx hb (hml.trans hl.1.symm) hown (hA.hts _ wd_407) (hA.hts _ wd_23) (hA.hts _ wd_24) (hA.hts _ wd_25) (Nat.le_of_ble_eq_true rfl) (Nat.le_of_ble_eq_true rfl) (Nat.le_of_ble_eq_true rfl) (Nat.le_of_ble_eq_true rfl) dX9_tooThin_36 ?_
        refine lv_istore_n (lv' := [(2, .int (mxI v2 (-r_3))), (0, .ref a0), (1, .int v1), (3, .int v3)]) hx hb dX9_tooThin_39 rfl hl (by decide) rfl (fun ls hl => ?_)
        refine lv_iinc (v := v3 + 1) (lv' := [(3, .int (v3 + 1)), (2, .int (mxI v2 (-r_3))), (0, .ref a0), (1, .int v1)]) hx hb dX9_tooThin_40 hl (k := 3) rfl rfl (by decide) rfl (fun ls hl => ?_)
        refine lv_goto (tgt := 9) hx hb dX9_tooThin_43 (by decide) ?_
        exact ih _ _ _ _ hf ls (lv_sub hl [2, 3, 1, 0] rfl) kk
  obtain ⟨x2_5, q_6, hf⟩ := obd hf
  refine lp9 _ _ _ _ _ _ q_6 ls (lv_sub hl [2, 3, 1, 0] rfl) (fun ls hl => ?_)
  refine lv_iload_n hx hb dX9_tooThin_46 rfl (lv_at hl 0 rfl) ?_
  cases hf
  exact ro_iret hx hb hr hlk dX9_tooThin_47
def fX9_faultsOf (md : Nat → Int32) (mch : Int32) (rd : Nat → Int32) (rco : Int32) (ltol : Int32) (i1 : Int32) : Option (Nat ⊕ (Int32)) :=
  ((fX9_checkPiece rco i1).bind fun z => match z with | .inl e => some (.inl e) | .inr _ => (Option.map Sum.inr (((fX4_faults md mch rd ltol i1).bind fun r_2 => some r_2))))
set_option maxHeartbeats 4000000 in
set_option maxRecDepth 100000 in
theorem kX9_faultsOf (l : Launch) (G : GG) (a0 aL0 aL1 aL2 aL3 aL4 aL5 aL6 aL7 aL8 aL9 aL10 aL11 aL12 aH0 aT0 aW0 aE0 : Nat) (md : Nat → Int32) (mch : Int32) (fra : Int32) (fwe : Int32) (fof : Int32) (fsi : Int32) (csh : Int32) (cde : Int32) (csp : Int32) (rd : Nat → Int32) (rw : Nat → Int32) (rp : Nat → Int32) (rco : Int32) (rmo : Int32) (apa : Int32) (awo : Int32) (ash : Int32) (aja : Int32) (abu : Int32) (ltol : Int32) (lchi : Int32) (ljam : Int32) (i1 : Int32) (r_0 : Int32) (hf : fX9_faultsOf md mch rd rco ltol i1 = some (.inr r_0)) : Ro l G yX9_faultsOf cX9_faultsOf 2 (some .int) 8 123 [.ref a0, .int i1] [(a0, .inr (9, [.ref aL0, .ref aH0, .ref aT0, .ref aW0, .ref aE0])), (aL0, .inr (4, [.ref aL1, .ref aL3, .ref aL4, .ref aL5, .ref aL12, .int ltol, .int lchi, .int ljam])), (aL1, .inr (6, [.ref aL2, .int mch])), (aL2, .inl (G.2.1, 48, .inl md)), (aL3, .inr (2, [.int fra, .int fwe, .int fof, .int fsi])), (aL4, .inr (1, [.int csh, .int cde, .int csp])), (aL5, .inr (7, [.ref aL6, .ref aL8, .ref aL10, .int rco, .int rmo])), (aL6, .inr (8, [.ref aL7])), (aL7, .inl (G.2.1, 80, .inl rd)), (aL8, .inr (8, [.ref aL9])), (aL9, .inl (G.2.1, 5, .inl rw)), (aL10, .inr (8, [.ref aL11])), (aL11, .inl (G.2.1, 5, .inl rp)), (aL12, .inr (0, [.int apa, .int awo, .int ash, .int aja, .int abu]))] (some (.int r_0)) := by
  refine ro_of (by decide) (Nat.le_of_ble_eq_true rfl) ?_
  intro p e s m args below meth c ls hx hb hr hml hown hlk hA hZ hP hl
  replace hown : s.vm.findClass RX9 = some m.cls := hown
  replace hl : lv_has ls 2 [(0, .ref a0), (1, .int i1)] := hl
  unfold fX9_faultsOf at hf
  refine lv_aload_n hx hb dX9_faultsOf_0 rfl (lv_at hl 0 rfl) ?_
  refine lv_iload_n hx hb dX9_faultsOf_1 rfl (lv_at hl 1 rfl) ?_
  obtain ⟨e9 | u9, q_1, hf⟩ := obd hf
  · dsimp only at hf
    cases hf
  dsimp only at hf
  replace hf := omr hf
  refine ro_v (n := 1) (As := [.int i1]) (q0 := 0) hx hb hml hown hA (kX9_checkPiece l G a0 aL0 aL1 aL2 aL3 aL4 aL5 aL6 aL7 aL8 aL9 aL10 aL11 aL12 aH0 aT0 aW0 aE0 md mch fra fwe fof fsi csh cde csp rd rw rp rco rmo apa awo ash aja abu ltol lchi ljam i1 q_1) g_X9_149 gd_X9_checkPiece ⟨(Nat.le_of_ble_eq_true rfl), (Nat.le_of_ble_eq_true rfl)⟩ hZ (hP.sub [0, 1, 2, 3, 4, 5, 6, 7, 8, 9, 10, 11, 12, 13] rfl) rfl rfl rfl hl.1 (Nat.le_of_ble_eq_true rfl) ⟨(Nat.le_of_ble_eq_true rfl), (Nat.le_of_ble_eq_true rfl)⟩ dX9_faultsOf_2 ?_
  refine W.eq (g2 := F0 m 5 ls []) rfl ?_
  refine lv_aload_n hx hb dX9_faultsOf_5 rfl (lv_at hl 0 rfl) ?_
  refine gf_X9_10 hx hb hown hA hP 0 rfl rfl dX9_faultsOf_6 ?_
  refine lv_iload_n hx hb dX9_faultsOf_9 rfl (lv_at hl 1 rfl) ?_
  obtain ⟨r_2, q_3, hf⟩ := obd hf
  refine ro_v (n := 1) (As := [.int i1]) (q0 := 0) hx hb hml hown hA (kX4_faults l G aL0 aL1 aL2 aL3 aL4 aL5 aL6 aL7 aL8 aL9 aL10 aL11 aL12 md mch fra fwe fof fsi csh cde csp rd rw rp rco rmo apa awo ash aja abu ltol lchi ljam i1 r_2 q_3) g_X9_277 gd_X4_faults ⟨(Nat.le_of_ble_eq_true rfl), (Nat.le_of_ble_eq_true rfl)⟩ hZ (hP.sub [1, 2, 3, 4, 5, 6, 7, 8, 9, 10, 11, 12, 13] rfl) rfl rfl rfl hl.1 (Nat.le_of_ble_eq_true rfl) ⟨(Nat.le_of_ble_eq_true rfl), (Nat.le_of_ble_eq_true rfl)⟩ dX9_faultsOf_10 ?_
  refine W.eq (g2 := F0 m 13 ls [.int r_2]) rfl ?_
  cases hf
  exact ro_iret hx hb hr hlk dX9_faultsOf_13
def fX9_isGood (md : Nat → Int32) (mch : Int32) (rd : Nat → Int32) (rco : Int32) (ltol : Int32) (i1 : Int32) : Option (Nat ⊕ (Int32)) :=
  ((fX9_checkPiece rco i1).bind fun z => match z with | .inl e => some (.inl e) | .inr _ => (Option.map Sum.inr (((fX4_faults md mch rd ltol i1).bind fun r_2 => (if r_2 = 0 then some 1 else some 0)))))
set_option maxHeartbeats 4000000 in
set_option maxRecDepth 100000 in
theorem kX9_isGood (l : Launch) (G : GG) (a0 aL0 aL1 aL2 aL3 aL4 aL5 aL6 aL7 aL8 aL9 aL10 aL11 aL12 aH0 aT0 aW0 aE0 : Nat) (md : Nat → Int32) (mch : Int32) (fra : Int32) (fwe : Int32) (fof : Int32) (fsi : Int32) (csh : Int32) (cde : Int32) (csp : Int32) (rd : Nat → Int32) (rw : Nat → Int32) (rp : Nat → Int32) (rco : Int32) (rmo : Int32) (apa : Int32) (awo : Int32) (ash : Int32) (aja : Int32) (abu : Int32) (ltol : Int32) (lchi : Int32) (ljam : Int32) (i1 : Int32) (r_0 : Int32) (hf : fX9_isGood md mch rd rco ltol i1 = some (.inr r_0)) : Ro l G yX9_isGood cX9_isGood 2 (some .boolean) 8 123 [.ref a0, .int i1] [(a0, .inr (9, [.ref aL0, .ref aH0, .ref aT0, .ref aW0, .ref aE0])), (aL0, .inr (4, [.ref aL1, .ref aL3, .ref aL4, .ref aL5, .ref aL12, .int ltol, .int lchi, .int ljam])), (aL1, .inr (6, [.ref aL2, .int mch])), (aL2, .inl (G.2.1, 48, .inl md)), (aL3, .inr (2, [.int fra, .int fwe, .int fof, .int fsi])), (aL4, .inr (1, [.int csh, .int cde, .int csp])), (aL5, .inr (7, [.ref aL6, .ref aL8, .ref aL10, .int rco, .int rmo])), (aL6, .inr (8, [.ref aL7])), (aL7, .inl (G.2.1, 80, .inl rd)), (aL8, .inr (8, [.ref aL9])), (aL9, .inl (G.2.1, 5, .inl rw)), (aL10, .inr (8, [.ref aL11])), (aL11, .inl (G.2.1, 5, .inl rp)), (aL12, .inr (0, [.int apa, .int awo, .int ash, .int aja, .int abu]))] (some (.int r_0)) := by
  refine ro_of (by decide) (Nat.le_of_ble_eq_true rfl) ?_
  intro p e s m args below meth c ls hx hb hr hml hown hlk hA hZ hP hl
  replace hown : s.vm.findClass RX9 = some m.cls := hown
  replace hl : lv_has ls 2 [(0, .ref a0), (1, .int i1)] := hl
  unfold fX9_isGood at hf
  refine lv_aload_n hx hb dX9_isGood_0 rfl (lv_at hl 0 rfl) ?_
  refine lv_iload_n hx hb dX9_isGood_1 rfl (lv_at hl 1 rfl) ?_
  obtain ⟨e9 | u9, q_1, hf⟩ := obd hf
  · dsimp only at hf
    cases hf
  dsimp only at hf
  replace hf := omr hf
  refine ro_v (n := 1) (As := [.int i1]) (q0 := 0) hx hb hml hown hA (kX9_checkPiece l G a0 aL0 aL1 aL2 aL3 aL4 aL5 aL6 aL7 aL8 aL9 aL10 aL11 aL12 aH0 aT0 aW0 aE0 md mch fra fwe fof fsi csh cde csp rd rw rp rco rmo apa awo ash aja abu ltol lchi ljam i1 q_1) g_X9_149 gd_X9_checkPiece ⟨(Nat.le_of_ble_eq_true rfl), (Nat.le_of_ble_eq_true rfl)⟩ hZ (hP.sub [0, 1, 2, 3, 4, 5, 6, 7, 8, 9, 10, 11, 12, 13] rfl) rfl rfl rfl hl.1 (Nat.le_of_ble_eq_true rfl) ⟨(Nat.le_of_ble_eq_true rfl), (Nat.le_of_ble_eq_true rfl)⟩ dX9_isGood_2 ?_
  refine W.eq (g2 := F0 m 5 ls []) rfl ?_
  refine lv_aload_n hx hb dX9_isGood_5 rfl (lv_at hl 0 rfl) ?_
  refine gf_X9_10 hx hb hown hA hP 0 rfl rfl dX9_isGood_6 ?_
  refine lv_iload_n hx hb dX9_isGood_9 rfl (lv_at hl 1 rfl) ?_
  obtain ⟨r_2, q_3, hf⟩ := obd hf
  refine ro_v (n := 1) (As := [.int i1]) (q0 := 0) hx hb hml hown hA (kX4_faults l G aL0 aL1 aL2 aL3 aL4 aL5 aL6 aL7 aL8 aL9 aL10 aL11 aL12 md mch fra fwe fof fsi csh cde csp rd rw rp rco rmo apa awo ash aja abu ltol lchi ljam i1 r_2 q_3) g_X9_277 gd_X4_faults ⟨(Nat.le_of_ble_eq_true rfl), (Nat.le_of_ble_eq_true rfl)⟩ hZ (hP.sub [1, 2, 3, 4, 5, 6, 7, 8, 9, 10, 11, 12, 13] rfl) rfl rfl rfl hl.1 (Nat.le_of_ble_eq_true rfl) ⟨(Nat.le_of_ble_eq_true rfl), (Nat.le_of_ble_eq_true rfl)⟩ dX9_isGood_10 ?_
  refine W.eq (g2 := F0 m 13 ls [.int r_2]) rfl ?_
  refine lv_if_ne (tgt := 20) hx hb dX9_isGood_13 (by decide) (fun c_4 => ?_) (fun c_4 => ?_)
  · replace hf := ifn c_4 hf
    refine lv_iconst (v := 0) hx hb dX9_isGood_20 (by decide) ?_
    cases hf
    exact ro_zret hx hb hr hlk (Or.inl rfl) dX9_isGood_21
  · replace hf := ifp c_4 hf
    refine lv_iconst (v := 1) hx hb dX9_isGood_16 (by decide) ?_
    refine lv_goto (tgt := 21) hx hb dX9_isGood_17 (by decide) ?_
    cases hf
    exact ro_zret hx hb hr hlk (Or.inr rfl) dX9_isGood_21
def fX9_mostLike_L9 (md : Nat → Int32) (rd : Nat → Int32) (v1 : Int32) : Nat → Int32 → Int32 → Option (Int32)
  | 0, _, _ => none
  | n9 + 1, v2, v3 => (if 3 ≤ v3 then some v2 else ((fX4_differences md rd v1 v3).bind fun r_3 => ((fX4_differences md rd v1 v2).bind fun r_5 => (if r_5 ≤ r_3 then fX9_mostLike_L9 md rd v1 n9 v2 (v3 + 1) else fX9_mostLike_L9 md rd v1 n9 v3 (v3 + 1)))))
def fX9_mostLike (md : Nat → Int32) (rd : Nat → Int32) (rco : Int32) (i1 : Int32) : Option (Nat ⊕ (Int32)) :=
  ((fX9_checkPiece rco i1).bind fun z => match z with | .inl e => some (.inl e) | .inr _ => (Option.map Sum.inr (((fX9_mostLike_L9 md rd i1 2000 0 1).bind fun x2_8 => some x2_8))))
set_option maxHeartbeats 4000000 in
set_option maxRecDepth 100000 in
theorem kX9_mostLike (l : Launch) (G : GG) (a0 aL0 aL1 aL2 aL3 aL4 aL5 aL6 aL7 aL8 aL9 aL10 aL11 aL12 aH0 aT0 aW0 aE0 : Nat) (md : Nat → Int32) (mch : Int32) (fra : Int32) (fwe : Int32) (fof : Int32) (fsi : Int32) (csh : Int32) (cde : Int32) (csp : Int32) (rd : Nat → Int32) (rw : Nat → Int32) (rp : Nat → Int32) (rco : Int32) (rmo : Int32) (apa : Int32) (awo : Int32) (ash : Int32) (aja : Int32) (abu : Int32) (ltol : Int32) (lchi : Int32) (ljam : Int32) (i1 : Int32) (r_0 : Int32) (hf : fX9_mostLike md rd rco i1 = some (.inr r_0)) : Ro l G yX9_mostLike cX9_mostLike 4 (some .int) 8 123 [.ref a0, .int i1] [(a0, .inr (9, [.ref aL0, .ref aH0, .ref aT0, .ref aW0, .ref aE0])), (aL0, .inr (4, [.ref aL1, .ref aL3, .ref aL4, .ref aL5, .ref aL12, .int ltol, .int lchi, .int ljam])), (aL1, .inr (6, [.ref aL2, .int mch])), (aL2, .inl (G.2.1, 48, .inl md)), (aL3, .inr (2, [.int fra, .int fwe, .int fof, .int fsi])), (aL4, .inr (1, [.int csh, .int cde, .int csp])), (aL5, .inr (7, [.ref aL6, .ref aL8, .ref aL10, .int rco, .int rmo])), (aL6, .inr (8, [.ref aL7])), (aL7, .inl (G.2.1, 80, .inl rd)), (aL8, .inr (8, [.ref aL9])), (aL9, .inl (G.2.1, 5, .inl rw)), (aL10, .inr (8, [.ref aL11])), (aL11, .inl (G.2.1, 5, .inl rp)), (aL12, .inr (0, [.int apa, .int awo, .int ash, .int aja, .int abu]))] (some (.int r_0)) := by
  refine ro_of (by decide) (Nat.le_of_ble_eq_true rfl) ?_
  intro p e s m args below meth c ls hx hb hr hml hown hlk hA hZ hP hl
  replace hown : s.vm.findClass RX9 = some m.cls := hown
  replace hl : lv_has ls 4 [(0, .ref a0), (1, .int i1)] := hl
  unfold fX9_mostLike at hf
  refine lv_aload_n hx hb dX9_mostLike_0 rfl (lv_at hl 0 rfl) ?_
  refine lv_iload_n hx hb dX9_mostLike_1 rfl (lv_at hl 1 rfl) ?_
  obtain ⟨e9 | u9, q_1, hf⟩ := obd hf
  · dsimp only at hf
    cases hf
  dsimp only at hf
  replace hf := omr hf
  refine ro_v (n := 1) (As := [.int i1]) (q0 := 0) hx hb hml hown hA (kX9_checkPiece l G a0 aL0 aL1 aL2 aL3 aL4 aL5 aL6 aL7 aL8 aL9 aL10 aL11 aL12 aH0 aT0 aW0 aE0 md mch fra fwe fof fsi csh cde csp rd rw rp rco rmo apa awo ash aja abu ltol lchi ljam i1 q_1) g_X9_149 gd_X9_checkPiece ⟨(Nat.le_of_ble_eq_true rfl), (Nat.le_of_ble_eq_true rfl)⟩ hZ (hP.sub [0, 1, 2, 3, 4, 5, 6, 7, 8, 9, 10, 11, 12, 13] rfl) rfl rfl rfl hl.1 (Nat.le_of_ble_eq_true rfl) ⟨(Nat.le_of_ble_eq_true rfl), (Nat.le_of_ble_eq_true rfl)⟩ dX9_mostLike_2 ?_
  refine W.eq (g2 := F0 m 5 ls []) rfl ?_
  refine lv_iconst (v := 0) hx hb dX9_mostLike_5 (by decide) ?_
  refine lv_istore_n (lv' := [(2, .int 0), (0, .ref a0), (1, .int i1)]) hx hb dX9_mostLike_6 rfl hl (by decide) rfl (fun ls hl => ?_)
  refine lv_iconst (v := 1) hx hb dX9_mostLike_7 (by decide) ?_
  refine lv_istore_n (lv' := [(3, .int 1), (2, .int 0), (0, .ref a0), (1, .int i1)]) hx hb dX9_mostLike_8 rfl hl (by decide) rfl (fun ls hl => ?_)
  have lp9 : ∀ (v1 : Int32)  (n : Nat) (v2 : Int32) (v3 : Int32)  (x2_8 : Int32) (Q : State → Prop), fX9_mostLike_L9 md rd v1 n v2 v3 = some x2_8 → ∀ (ls : Array Slot), lv_has ls 4 [(0, .ref a0), (1, .int v1), (2, .int v2), (3, .int v3)] → (∀ (ls : Array Slot), lv_has ls 4 [(2, .int x2_8)] → W p l e { frames := 8, cells := 0, slots := 0, locals := 123 } s m args below meth c s.heap [] 0 0 Q (F0 m 43 ls [])) → W p l e { frames := 8, cells := 0, slots := 0, locals := 123 } s m args below meth c s.heap [] 0 0 Q (F0 m 9 ls []) := by
    intro v1 n
    induction n with
    | zero => intro v2 v3 x2_8 Q hf; rw [fX9_mostLike_L9] at hf; cases hf
    | succ n ih =>
      intro v2 v3 x2_8 Q hf ls hl kk
      rw [fX9_mostLike_L9] at hf
      refine lv_iload_n hx hb dX9_mostLike_9 rfl (lv_at hl 3 rfl) ?_
      refine lv_iconst (v := 3) hx hb dX9_mostLike_10 (by decide) ?_
      refine lv_icmp_ge (tgt := 43) hx hb dX9_mostLike_11 (by decide) (fun c_2 => ?_) (fun c_2 => ?_)
      · replace hf := ifp c_2 hf
        cases hf
        exact kk ls (lv_sub hl [2] rfl)
      · replace hf := ifn c_2 hf
        refine lv_aload_n hx hb dX9_mostLike_14 rfl (lv_at hl 0 rfl) ?_
        refine gf_X9_10 hx hb hown hA hP 0 rfl rfl dX9_mostLike_15 ?_
        refine lv_iload_n hx hb dX9_mostLike_18 rfl (lv_at hl 1 rfl) ?_
        refine lv_iload_n hx hb dX9_mostLike_19 rfl (lv_at hl 3 rfl) ?_
        obtain ⟨r_3, q_4, hf⟩ := obd hf
        refine ro_v (n := 2) (As := [.int v1, .int v3]) (q0 := 0) hx hb hml hown hA (kX4_differences l G aL0 aL1 aL2 aL3 aL4 aL5 aL6 aL7 aL8 aL9 aL10 aL11 aL12 md mch fra fwe fof fsi csh cde csp rd rw rp rco rmo apa awo ash aja abu ltol lchi ljam v1 v3 r_3 q_4) g_X9_280 gd_X4_differences ⟨(Nat.le_of_ble_eq_true rfl), (Nat.le_of_ble_eq_true rfl)⟩ hZ (hP.sub [1, 2, 3, 4, 5, 6, 7, 8, 9, 10, 11, 12, 13] rfl) rfl rfl rfl hl.1 (Nat.le_of_ble_eq_true rfl) ⟨(Nat.le_of_ble_eq_true rfl), (Nat.le_of_ble_eq_true rfl)⟩ dX9_mostLike_20 ?_
        refine W.eq (g2 := F0 m 23 ls [.int r_3]) rfl ?_
        refine lv_aload_n hx hb dX9_mostLike_23 rfl (lv_at hl 0 rfl) ?_
        refine gf_X9_10 hx hb hown hA hP 0 rfl rfl dX9_mostLike_24 ?_
        refine lv_iload_n hx hb dX9_mostLike_27 rfl (lv_at hl 1 rfl) ?_
        refine lv_iload_n hx hb dX9_mostLike_28 rfl (lv_at hl 2 rfl) ?_
        obtain ⟨r_5, q_6, hf⟩ := obd hf
        refine ro_v (n := 2) (As := [.int v1, .int v2]) (q0 := 0) hx hb hml hown hA (kX4_differences l G aL0 aL1 aL2 aL3 aL4 aL5 aL6 aL7 aL8 aL9 aL10 aL11 aL12 md mch fra fwe fof fsi csh cde csp rd rw rp rco rmo apa awo ash aja abu ltol lchi ljam v1 v2 r_5 q_6) g_X9_280 gd_X4_differences ⟨(Nat.le_of_ble_eq_true rfl), (Nat.le_of_ble_eq_true rfl)⟩ hZ (hP.sub [1, 2, 3, 4, 5, 6, 7, 8, 9, 10, 11, 12, 13] rfl) rfl rfl rfl hl.1 (Nat.le_of_ble_eq_true rfl) ⟨(Nat.le_of_ble_eq_true rfl), (Nat.le_of_ble_eq_true rfl)⟩ dX9_mostLike_29 ?_
        refine W.eq (g2 := F0 m 32 ls [.int r_5, .int r_3]) rfl ?_
        refine lv_icmp_ge (tgt := 37) hx hb dX9_mostLike_32 (by decide) (fun c_7 => ?_) (fun c_7 => ?_)
        · replace hf := ifp c_7 hf
          refine lv_iinc (v := v3 + 1) (lv' := [(3, .int (v3 + 1)), (0, .ref a0), (1, .int v1), (2, .int v2)]) hx hb dX9_mostLike_37 hl (k := 3) rfl rfl (by decide) rfl (fun ls hl => ?_)
          refine lv_goto (tgt := 9) hx hb dX9_mostLike_40 (by decide) ?_
          exact ih _ _ _ _ hf ls (lv_sub hl [1, 2, 3, 0] rfl) kk
        · replace hf := ifn c_7 hf
          refine lv_iload_n hx hb dX9_mostLike_35 rfl (lv_at hl 3 rfl) ?_
          refine lv_istore_n (lv' := [(2, .int v3), (0, .ref a0), (1, .int v1), (3, .int v3)]) hx hb dX9_mostLike_36 rfl hl (by decide) rfl (fun ls hl => ?_)
          refine lv_iinc (v := v3 + 1) (lv' := [(3, .int (v3 + 1)), (2, .int v3), (0, .ref a0), (1, .int v1)]) hx hb dX9_mostLike_37 hl (k := 3) rfl rfl (by decide) rfl (fun ls hl => ?_)
          refine lv_goto (tgt := 9) hx hb dX9_mostLike_40 (by decide) ?_
          exact ih _ _ _ _ hf ls (lv_sub hl [2, 3, 1, 0] rfl) kk
  obtain ⟨x2_8, q_9, hf⟩ := obd hf
  refine lp9 _ _ _ _ _ _ q_9 ls (lv_sub hl [2, 3, 1, 0] rfl) (fun ls hl => ?_)
  refine lv_iload_n hx hb dX9_mostLike_43 rfl (lv_at hl 0 rfl) ?_
  cases hf
  exact ro_iret hx hb hr hlk dX9_mostLike_44
def fX9_bestCopy_L25 (md : Nat → Int32) (mch : Int32) (rd : Nat → Int32) (rco : Int32) (ltol : Int32)  : Nat → Int32 → Int32 → Option (Int32)
  | 0, _, _ => none
  | n9 + 1, v1, v2 => (if rco ≤ v2 then some v1 else ((fX4_isBetter md mch rd ltol v2 v1).bind fun r_4 => (if r_4 = 0 then fX9_bestCopy_L25 md mch rd rco ltol n9 v1 (v2 + 1) else fX9_bestCopy_L25 md mch rd rco ltol n9 v2 (v2 + 1))))
def fX9_bestCopy (md : Nat → Int32) (mch : Int32) (rd : Nat → Int32) (rco : Int32) (ltol : Int32)  : Option (Nat ⊕ (Int32)) :=
  (if rco ≤ 0 then ((fX9_checkState 0).bind fun z => match z with | .inl e => some (.inl e) | .inr _ => (Option.map Sum.inr (((fX9_bestCopy_L25 md mch rd rco ltol 2000 0 1).bind fun x1_7 => some x1_7)))) else ((fX9_checkState 1).bind fun z => match z with | .inl e => some (.inl e) | .inr _ => (Option.map Sum.inr (((fX9_bestCopy_L25 md mch rd rco ltol 2000 0 1).bind fun x1_14 => some x1_14)))))
set_option maxHeartbeats 4000000 in
set_option maxRecDepth 100000 in
theorem kX9_bestCopy (l : Launch) (G : GG) (a0 aL0 aL1 aL2 aL3 aL4 aL5 aL6 aL7 aL8 aL9 aL10 aL11 aL12 aH0 aT0 aW0 aE0 : Nat) (md : Nat → Int32) (mch : Int32) (fra : Int32) (fwe : Int32) (fof : Int32) (fsi : Int32) (csh : Int32) (cde : Int32) (csp : Int32) (rd : Nat → Int32) (rw : Nat → Int32) (rp : Nat → Int32) (rco : Int32) (rmo : Int32) (apa : Int32) (awo : Int32) (ash : Int32) (aja : Int32) (abu : Int32) (ltol : Int32) (lchi : Int32) (ljam : Int32)  (r_0 : Int32) (hf : fX9_bestCopy md mch rd rco ltol = some (.inr r_0)) : Ro l G yX9_bestCopy cX9_bestCopy 3 (some .int) 7 114 [.ref a0] [(a0, .inr (9, [.ref aL0, .ref aH0, .ref aT0, .ref aW0, .ref aE0])), (aL0, .inr (4, [.ref aL1, .ref aL3, .ref aL4, .ref aL5, .ref aL12, .int ltol, .int lchi, .int ljam])), (aL1, .inr (6, [.ref aL2, .int mch])), (aL2, .inl (G.2.1, 48, .inl md)), (aL3, .inr (2, [.int fra, .int fwe, .int fof, .int fsi])), (aL4, .inr (1, [.int csh, .int cde, .int csp])), (aL5, .inr (7, [.ref aL6, .ref aL8, .ref aL10, .int rco, .int rmo])), (aL6, .inr (8, [.ref aL7])), (aL7, .inl (G.2.1, 80, .inl rd)), (aL8, .inr (8, [.ref aL9])), (aL9, .inl (G.2.1, 5, .inl rw)), (aL10, .inr (8, [.ref aL11])), (aL11, .inl (G.2.1, 5, .inl rp)), (aL12, .inr (0, [.int apa, .int awo, .int ash, .int aja, .int abu]))] (some (.int r_0)) := by
  refine ro_of (by decide) (Nat.le_of_ble_eq_true rfl) ?_
  intro p e s m args below meth c ls hx hb hr hml hown hlk hA hZ hP hl
  replace hown : s.vm.findClass RX9 = some m.cls := hown
  replace hl : lv_has ls 3 [(0, .ref a0)] := hl
  unfold fX9_bestCopy at hf
  refine lv_aload_n hx hb dX9_bestCopy_0 rfl (lv_at hl 0 rfl) ?_
  refine gf_X9_10 hx hb hown hA hP 0 rfl rfl dX9_bestCopy_1 ?_
  refine gf_X9_133 hx hb hown hA hP 1 rfl rfl dX9_bestCopy_4 ?_
  refine gf_X9_137 hx hb hown hA hP 6 rfl rfl dX9_bestCopy_7 ?_
  refine lv_if_le (tgt := 17) hx hb dX9_bestCopy_10 (by decide) (fun c_1 => ?_) (fun c_1 => ?_)
  · replace hf := ifp c_1 hf
    refine lv_iconst (v := 0) hx hb dX9_bestCopy_17 (by decide) ?_
    obtain ⟨e9 | u9, q_2, hf⟩ := obd hf
    · dsimp only at hf
      cases hf
    dsimp only at hf
    replace hf := omr hf
    refine ro_s (n := 1) (As := [.int 0]) hx hb hml hown hA (kX9_checkState l G 0 q_2) g_X9_142 gd_X9_checkState ⟨(Nat.le_of_ble_eq_true rfl), (Nat.le_of_ble_eq_true rfl)⟩ hZ (fun _ _ h => by simp at h) rfl hl.1 (Nat.le_of_ble_eq_true rfl) ⟨(Nat.le_of_ble_eq_true rfl), (Nat.le_of_ble_eq_true rfl)⟩ dX9_bestCopy_18 ?_
    refine W.eq (g2 := F0 m 21 ls []) rfl ?_
    refine lv_iconst (v := 0) hx hb dX9_bestCopy_21 (by decide) ?_
    refine lv_istore_n (lv' := [(1, .int 0), (0, .ref a0)]) hx hb dX9_bestCopy_22 rfl hl (by decide) rfl (fun ls hl => ?_)
    refine lv_iconst (v := 1) hx hb dX9_bestCopy_23 (by decide) ?_
    refine lv_istore_n (lv' := [(2, .int 1), (1, .int 0), (0, .ref a0)]) hx hb dX9_bestCopy_24 rfl hl (by decide) rfl (fun ls hl => ?_)
    have lp25 : ∀   (n : Nat) (v1 : Int32) (v2 : Int32)  (x1_7 : Int32) (Q : State → Prop), fX9_bestCopy_L25 md mch rd rco ltol n v1 v2 = some x1_7 → ∀ (ls : Array Slot), lv_has ls 3 [(0, .ref a0), (1, .int v1), (2, .int v2)] → (∀ (ls : Array Slot), lv_has ls 3 [(1, .int x1_7)] → W p l e { frames := 7, cells := 0, slots := 0, locals := 114 } s m args below meth c s.heap [] 0 0 Q (F0 m 59 ls [])) → W p l e { frames := 7, cells := 0, slots := 0, locals := 114 } s m args below meth c s.heap [] 0 0 Q (F0 m 25 ls []) := by
      intro  n
      induction n with
      | zero => intro v1 v2 x1_7 Q hf; rw [fX9_bestCopy_L25] at hf; cases hf
      | succ n ih =>
        intro v1 v2 x1_7 Q hf ls hl kk
        rw [fX9_bestCopy_L25] at hf
        refine lv_iload_n hx hb dX9_bestCopy_25 rfl (lv_at hl 2 rfl) ?_
        refine lv_aload_n hx hb dX9_bestCopy_26 rfl (lv_at hl 0 rfl) ?_
        refine gf_X9_10 hx hb hown hA hP 0 rfl rfl dX9_bestCopy_27 ?_
        refine gf_X9_133 hx hb hown hA hP 1 rfl rfl dX9_bestCopy_30 ?_
        refine gf_X9_137 hx hb hown hA hP 6 rfl rfl dX9_bestCopy_33 ?_
        refine lv_icmp_ge (tgt := 59) hx hb dX9_bestCopy_36 (by decide) (fun c_3 => ?_) (fun c_3 => ?_)
        · replace hf := ifp c_3 hf
          cases hf
          exact kk ls (lv_sub hl [1] rfl)
        · replace hf := ifn c_3 hf
          refine lv_aload_n hx hb dX9_bestCopy_39 rfl (lv_at hl 0 rfl) ?_
          refine gf_X9_10 hx hb hown hA hP 0 rfl rfl dX9_bestCopy_40 ?_
          refine lv_iload_n hx hb dX9_bestCopy_43 rfl (lv_at hl 2 rfl) ?_
          refine lv_iload_n hx hb dX9_bestCopy_44 rfl (lv_at hl 1 rfl) ?_
          obtain ⟨r_4, q_5, hf⟩ := obd hf
          refine ro_v (n := 2) (As := [.int v2, .int v1]) (q0 := 0) hx hb hml hown hA (kX4_isBetter l G aL0 aL1 aL2 aL3 aL4 aL5 aL6 aL7 aL8 aL9 aL10 aL11 aL12 md mch fra fwe fof fsi csh cde csp rd rw rp rco rmo apa awo ash aja abu ltol lchi ljam v2 v1 r_4 q_5) g_X9_283 gd_X4_isBetter ⟨(Nat.le_of_ble_eq_true rfl), (Nat.le_of_ble_eq_true rfl)⟩ hZ (hP.sub [1, 2, 3, 4, 5, 6, 7, 8, 9, 10, 11, 12, 13] rfl) rfl rfl rfl hl.1 (Nat.le_of_ble_eq_true rfl) ⟨(Nat.le_of_ble_eq_true rfl), (Nat.le_of_ble_eq_true rfl)⟩ dX9_bestCopy_45 ?_
          refine W.eq (g2 := F0 m 48 ls [.int r_4]) rfl ?_
          refine lv_if_eq (tgt := 53) hx hb dX9_bestCopy_48 (by decide) (fun c_6 => ?_) (fun c_6 => ?_)
          · replace hf := ifp c_6 hf
            refine lv_iinc (v := v2 + 1) (lv' := [(2, .int (v2 + 1)), (0, .ref a0), (1, .int v1)]) hx hb dX9_bestCopy_53 hl (k := 2) rfl rfl (by decide) rfl (fun ls hl => ?_)
            refine lv_goto (tgt := 25) hx hb dX9_bestCopy_56 (by decide) ?_
            exact ih _ _ _ _ hf ls (lv_sub hl [1, 2, 0] rfl) kk
          · replace hf := ifn c_6 hf
            refine lv_iload_n hx hb dX9_bestCopy_51 rfl (lv_at hl 2 rfl) ?_
            refine lv_istore_n (lv' := [(1, .int v2), (0, .ref a0), (2, .int v2)]) hx hb dX9_bestCopy_52 rfl hl (by decide) rfl (fun ls hl => ?_)
            refine lv_iinc (v := v2 + 1) (lv' := [(2, .int (v2 + 1)), (1, .int v2), (0, .ref a0)]) hx hb dX9_bestCopy_53 hl (k := 2) rfl rfl (by decide) rfl (fun ls hl => ?_)
            refine lv_goto (tgt := 25) hx hb dX9_bestCopy_56 (by decide) ?_
            exact ih _ _ _ _ hf ls (lv_sub hl [2, 1, 0] rfl) kk
    obtain ⟨x1_7, q_8, hf⟩ := obd hf
    refine lp25 _ _ _ _ _ q_8 ls (lv_sub hl [2, 1, 0] rfl) (fun ls hl => ?_)
    refine lv_iload_n hx hb dX9_bestCopy_59 rfl (lv_at hl 0 rfl) ?_
    cases hf
    exact ro_iret hx hb hr hlk dX9_bestCopy_60
  · replace hf := ifn c_1 hf
    refine lv_iconst (v := 1) hx hb dX9_bestCopy_13 (by decide) ?_
    refine lv_goto (tgt := 18) hx hb dX9_bestCopy_14 (by decide) ?_
    obtain ⟨e9 | u9, q_9, hf⟩ := obd hf
    · dsimp only at hf
      cases hf
    dsimp only at hf
    replace hf := omr hf
    refine ro_s (n := 1) (As := [.int 1]) hx hb hml hown hA (kX9_checkState l G 1 q_9) g_X9_142 gd_X9_checkState ⟨(Nat.le_of_ble_eq_true rfl), (Nat.le_of_ble_eq_true rfl)⟩ hZ (fun _ _ h => by simp at h) rfl hl.1 (Nat.le_of_ble_eq_true rfl) ⟨(Nat.le_of_ble_eq_true rfl), (Nat.le_of_ble_eq_true rfl)⟩ dX9_bestCopy_18 ?_
    refine W.eq (g2 := F0 m 21 ls []) rfl ?_
    refine lv_iconst (v := 0) hx hb dX9_bestCopy_21 (by decide) ?_
    refine lv_istore_n (lv' := [(1, .int 0), (0, .ref a0)]) hx hb dX9_bestCopy_22 rfl hl (by decide) rfl (fun ls hl => ?_)
    refine lv_iconst (v := 1) hx hb dX9_bestCopy_23 (by decide) ?_
    refine lv_istore_n (lv' := [(2, .int 1), (1, .int 0), (0, .ref a0)]) hx hb dX9_bestCopy_24 rfl hl (by decide) rfl (fun ls hl => ?_)
    have lp25 : ∀   (n : Nat) (v1 : Int32) (v2 : Int32)  (x1_14 : Int32) (Q : State → Prop), fX9_bestCopy_L25 md mch rd rco ltol n v1 v2 = some x1_14 → ∀ (ls : Array Slot), lv_has ls 3 [(0, .ref a0), (1, .int v1), (2, .int v2)] → (∀ (ls : Array Slot), lv_has ls 3 [(1, .int x1_14)] → W p l e { frames := 7, cells := 0, slots := 0, locals := 114 } s m args below meth c s.heap [] 0 0 Q (F0 m 59 ls [])) → W p l e { frames := 7, cells := 0, slots := 0, locals := 114 } s m args below meth c s.heap [] 0 0 Q (F0 m 25 ls []) := by
      intro  n
      induction n with
      | zero => intro v1 v2 x1_14 Q hf; rw [fX9_bestCopy_L25] at hf; cases hf
      | succ n ih =>
        intro v1 v2 x1_14 Q hf ls hl kk
        rw [fX9_bestCopy_L25] at hf
        refine lv_iload_n hx hb dX9_bestCopy_25 rfl (lv_at hl 2 rfl) ?_
        refine lv_aload_n hx hb dX9_bestCopy_26 rfl (lv_at hl 0 rfl) ?_
        refine gf_X9_10 hx hb hown hA hP 0 rfl rfl dX9_bestCopy_27 ?_
        refine gf_X9_133 hx hb hown hA hP 1 rfl rfl dX9_bestCopy_30 ?_
        refine gf_X9_137 hx hb hown hA hP 6 rfl rfl dX9_bestCopy_33 ?_
        refine lv_icmp_ge (tgt := 59) hx hb dX9_bestCopy_36 (by decide) (fun c_10 => ?_) (fun c_10 => ?_)
        · replace hf := ifp c_10 hf
          cases hf
          exact kk ls (lv_sub hl [1] rfl)
        · replace hf := ifn c_10 hf
          refine lv_aload_n hx hb dX9_bestCopy_39 rfl (lv_at hl 0 rfl) ?_
          refine gf_X9_10 hx hb hown hA hP 0 rfl rfl dX9_bestCopy_40 ?_
          refine lv_iload_n hx hb dX9_bestCopy_43 rfl (lv_at hl 2 rfl) ?_
          refine lv_iload_n hx hb dX9_bestCopy_44 rfl (lv_at hl 1 rfl) ?_
          obtain ⟨r_11, q_12, hf⟩ := obd hf
          refine ro_v (n := 2) (As := [.int v2, .int v1]) (q0 := 0) hx hb hml hown hA (kX4_isBetter l G aL0 aL1 aL2 aL3 aL4 aL5 aL6 aL7 aL8 aL9 aL10 aL11 aL12 md mch fra fwe fof fsi csh cde csp rd rw rp rco rmo apa awo ash aja abu ltol lchi ljam v2 v1 r_11 q_12) g_X9_283 gd_X4_isBetter ⟨(Nat.le_of_ble_eq_true rfl), (Nat.le_of_ble_eq_true rfl)⟩ hZ (hP.sub [1, 2, 3, 4, 5, 6, 7, 8, 9, 10, 11, 12, 13] rfl) rfl rfl rfl hl.1 (Nat.le_of_ble_eq_true rfl) ⟨(Nat.le_of_ble_eq_true rfl), (Nat.le_of_ble_eq_true rfl)⟩ dX9_bestCopy_45 ?_
          refine W.eq (g2 := F0 m 48 ls [.int r_11]) rfl ?_
          refine lv_if_eq (tgt := 53) hx hb dX9_bestCopy_48 (by decide) (fun c_13 => ?_) (fun c_13 => ?_)
          · replace hf := ifp c_13 hf
            refine lv_iinc (v := v2 + 1) (lv' := [(2, .int (v2 + 1)), (0, .ref a0), (1, .int v1)]) hx hb dX9_bestCopy_53 hl (k := 2) rfl rfl (by decide) rfl (fun ls hl => ?_)
            refine lv_goto (tgt := 25) hx hb dX9_bestCopy_56 (by decide) ?_
            exact ih _ _ _ _ hf ls (lv_sub hl [1, 2, 0] rfl) kk
          · replace hf := ifn c_13 hf
            refine lv_iload_n hx hb dX9_bestCopy_51 rfl (lv_at hl 2 rfl) ?_
            refine lv_istore_n (lv' := [(1, .int v2), (0, .ref a0), (2, .int v2)]) hx hb dX9_bestCopy_52 rfl hl (by decide) rfl (fun ls hl => ?_)
            refine lv_iinc (v := v2 + 1) (lv' := [(2, .int (v2 + 1)), (1, .int v2), (0, .ref a0)]) hx hb dX9_bestCopy_53 hl (k := 2) rfl rfl (by decide) rfl (fun ls hl => ?_)
            refine lv_goto (tgt := 25) hx hb dX9_bestCopy_56 (by decide) ?_
            exact ih _ _ _ _ hf ls (lv_sub hl [2, 1, 0] rfl) kk
    obtain ⟨x1_14, q_15, hf⟩ := obd hf
    refine lp25 _ _ _ _ _ q_15 ls (lv_sub hl [2, 1, 0] rfl) (fun ls hl => ?_)
    refine lv_iload_n hx hb dX9_bestCopy_59 rfl (lv_at hl 0 rfl) ?_
    cases hf
    exact ro_iret hx hb hr hlk dX9_bestCopy_60
def fX9_isFinished (md : Nat → Int32) (mch : Int32) (fra : Int32) (fwe : Int32) (fof : Int32) (rd : Nat → Int32) (rmo : Int32)  : Option (Nat ⊕ (Int32)) :=
  ((fX9_checkMounted rmo).bind fun z => match z with | .inl e => some (.inl e) | .inr _ => (Option.map Sum.inr (((fX4_mostAbove md mch fra fwe fof rd rmo).bind fun r_2 => (if r_2 = 0 then some 1 else some 0)))))
set_option maxHeartbeats 4000000 in
set_option maxRecDepth 100000 in
theorem kX9_isFinished (l : Launch) (G : GG) (a0 aL0 aL1 aL2 aL3 aL4 aL5 aL6 aL7 aL8 aL9 aL10 aL11 aL12 aH0 aT0 aW0 aE0 : Nat) (md : Nat → Int32) (mch : Int32) (fra : Int32) (fwe : Int32) (fof : Int32) (fsi : Int32) (csh : Int32) (cde : Int32) (csp : Int32) (rd : Nat → Int32) (rw : Nat → Int32) (rp : Nat → Int32) (rco : Int32) (rmo : Int32) (apa : Int32) (awo : Int32) (ash : Int32) (aja : Int32) (abu : Int32) (ltol : Int32) (lchi : Int32) (ljam : Int32)  (r_0 : Int32) (hf : fX9_isFinished md mch fra fwe fof rd rmo = some (.inr r_0)) : Ro l G yX9_isFinished cX9_isFinished 1 (some .boolean) 8 121 [.ref a0] [(a0, .inr (9, [.ref aL0, .ref aH0, .ref aT0, .ref aW0, .ref aE0])), (aL0, .inr (4, [.ref aL1, .ref aL3, .ref aL4, .ref aL5, .ref aL12, .int ltol, .int lchi, .int ljam])), (aL1, .inr (6, [.ref aL2, .int mch])), (aL2, .inl (G.2.1, 48, .inl md)), (aL3, .inr (2, [.int fra, .int fwe, .int fof, .int fsi])), (aL4, .inr (1, [.int csh, .int cde, .int csp])), (aL5, .inr (7, [.ref aL6, .ref aL8, .ref aL10, .int rco, .int rmo])), (aL6, .inr (8, [.ref aL7])), (aL7, .inl (G.2.1, 80, .inl rd)), (aL8, .inr (8, [.ref aL9])), (aL9, .inl (G.2.1, 5, .inl rw)), (aL10, .inr (8, [.ref aL11])), (aL11, .inl (G.2.1, 5, .inl rp)), (aL12, .inr (0, [.int apa, .int awo, .int ash, .int aja, .int abu]))] (some (.int r_0)) := by
  refine ro_of (by decide) (Nat.le_of_ble_eq_true rfl) ?_
  intro p e s m args below meth c ls hx hb hr hml hown hlk hA hZ hP hl
  replace hown : s.vm.findClass RX9 = some m.cls := hown
  replace hl : lv_has ls 1 [(0, .ref a0)] := hl
  unfold fX9_isFinished at hf
  refine lv_aload_n hx hb dX9_isFinished_0 rfl (lv_at hl 0 rfl) ?_
  obtain ⟨e9 | u9, q_1, hf⟩ := obd hf
  · dsimp only at hf
    cases hf
  dsimp only at hf
  replace hf := omr hf
  refine ro_v (n := 0) (As := []) (q0 := 0) hx hb hml hown hA (kX9_checkMounted l G a0 aL0 aL1 aL2 aL3 aL4 aL5 aL6 aL7 aL8 aL9 aL10 aL11 aL12 aH0 aT0 aW0 aE0 md mch fra fwe fof fsi csh cde csp rd rw rp rco rmo apa awo ash aja abu ltol lchi ljam q_1) g_X9_165 gd_X9_checkMounted ⟨(Nat.le_of_ble_eq_true rfl), (Nat.le_of_ble_eq_true rfl)⟩ hZ (hP.sub [0, 1, 2, 3, 4, 5, 6, 7, 8, 9, 10, 11, 12, 13] rfl) rfl rfl rfl hl.1 (Nat.le_of_ble_eq_true rfl) ⟨(Nat.le_of_ble_eq_true rfl), (Nat.le_of_ble_eq_true rfl)⟩ dX9_isFinished_1 ?_
  refine W.eq (g2 := F0 m 4 ls []) rfl ?_
  refine lv_aload_n hx hb dX9_isFinished_4 rfl (lv_at hl 0 rfl) ?_
  refine gf_X9_10 hx hb hown hA hP 0 rfl rfl dX9_isFinished_5 ?_
  refine lv_aload_n hx hb dX9_isFinished_8 rfl (lv_at hl 0 rfl) ?_
  refine gf_X9_10 hx hb hown hA hP 0 rfl rfl dX9_isFinished_9 ?_
  refine gf_X9_133 hx hb hown hA hP 1 rfl rfl dX9_isFinished_12 ?_
  refine gf_X9_152 hx hb hown hA hP 6 rfl rfl dX9_isFinished_15 ?_
  obtain ⟨r_2, q_3, hf⟩ := obd hf
  refine ro_v (n := 1) (As := [.int rmo]) (q0 := 0) hx hb hml hown hA (kX4_mostAbove l G aL0 aL1 aL2 aL3 aL4 aL5 aL6 aL7 aL8 aL9 aL10 aL11 aL12 md mch fra fwe fof fsi csh cde csp rd rw rp rco rmo apa awo ash aja abu ltol lchi ljam rmo r_2 q_3) g_X9_178 gd_X4_mostAbove ⟨(Nat.le_of_ble_eq_true rfl), (Nat.le_of_ble_eq_true rfl)⟩ hZ (hP.sub [1, 2, 3, 4, 5, 6, 7, 8, 9, 10, 11, 12, 13] rfl) rfl rfl rfl hl.1 (Nat.le_of_ble_eq_true rfl) ⟨(Nat.le_of_ble_eq_true rfl), (Nat.le_of_ble_eq_true rfl)⟩ dX9_isFinished_18 ?_
  refine W.eq (g2 := F0 m 21 ls [.int r_2]) rfl ?_
  refine lv_if_ne (tgt := 28) hx hb dX9_isFinished_21 (by decide) (fun c_4 => ?_) (fun c_4 => ?_)
  · replace hf := ifn c_4 hf
    refine lv_iconst (v := 0) hx hb dX9_isFinished_28 (by decide) ?_
    cases hf
    exact ro_zret hx hb hr hlk (Or.inl rfl) dX9_isFinished_29
  · replace hf := ifp c_4 hf
    refine lv_iconst (v := 1) hx hb dX9_isFinished_24 (by decide) ?_
    refine lv_goto (tgt := 29) hx hb dX9_isFinished_25 (by decide) ?_
    cases hf
    exact ro_zret hx hb hr hlk (Or.inr rfl) dX9_isFinished_29
def fX9_checkReady (csh : Int32) (rmo : Int32) (ljam : Int32)  : Option (Nat ⊕ (Unit)) :=
  ((fX9_checkMounted rmo).bind fun z => match z with | .inl e => some (.inl e) | .inr _ => ((fX4_canRun csh ljam).bind fun r_2 => ((fX9_checkState r_2).bind fun z => match z with | .inl e => some (.inl e) | .inr _ => (Option.map Sum.inr (some ())))))
set_option maxHeartbeats 4000000 in
set_option maxRecDepth 100000 in
theorem kX9_checkReady (l : Launch) (G : GG) (a0 aL0 aL1 aL2 aL3 aL4 aL5 aL6 aL7 aL8 aL9 aL10 aL11 aL12 aH0 aT0 aW0 aE0 : Nat) (md : Nat → Int32) (mch : Int32) (fra : Int32) (fwe : Int32) (fof : Int32) (fsi : Int32) (csh : Int32) (cde : Int32) (csp : Int32) (rd : Nat → Int32) (rw : Nat → Int32) (rp : Nat → Int32) (rco : Int32) (rmo : Int32) (apa : Int32) (awo : Int32) (ash : Int32) (aja : Int32) (abu : Int32) (ltol : Int32) (lchi : Int32) (ljam : Int32)   (hf : fX9_checkReady csh rmo ljam = some (.inr ())) : Ro l G yX9_checkReady cX9_checkReady 1 none 8 121 [.ref a0] [(a0, .inr (9, [.ref aL0, .ref aH0, .ref aT0, .ref aW0, .ref aE0])), (aL0, .inr (4, [.ref aL1, .ref aL3, .ref aL4, .ref aL5, .ref aL12, .int ltol, .int lchi, .int ljam])), (aL1, .inr (6, [.ref aL2, .int mch])), (aL2, .inl (G.2.1, 48, .inl md)), (aL3, .inr (2, [.int fra, .int fwe, .int fof, .int fsi])), (aL4, .inr (1, [.int csh, .int cde, .int csp])), (aL5, .inr (7, [.ref aL6, .ref aL8, .ref aL10, .int rco, .int rmo])), (aL6, .inr (8, [.ref aL7])), (aL7, .inl (G.2.1, 80, .inl rd)), (aL8, .inr (8, [.ref aL9])), (aL9, .inl (G.2.1, 5, .inl rw)), (aL10, .inr (8, [.ref aL11])), (aL11, .inl (G.2.1, 5, .inl rp)), (aL12, .inr (0, [.int apa, .int awo, .int ash, .int aja, .int abu]))] none := by
  refine ro_of (by decide) (Nat.le_of_ble_eq_true rfl) ?_
  intro p e s m args below meth c ls hx hb hr hml hown hlk hA hZ hP hl
  replace hown : s.vm.findClass RX9 = some m.cls := hown
  replace hl : lv_has ls 1 [(0, .ref a0)] := hl
  unfold fX9_checkReady at hf
  refine lv_aload_n hx hb dX9_checkReady_0 rfl (lv_at hl 0 rfl) ?_
  obtain ⟨e9 | u9, q_1, hf⟩ := obd hf
  · dsimp only at hf
    cases hf
  dsimp only at hf
  refine ro_v (n := 0) (As := []) (q0 := 0) hx hb hml hown hA (kX9_checkMounted l G a0 aL0 aL1 aL2 aL3 aL4 aL5 aL6 aL7 aL8 aL9 aL10 aL11 aL12 aH0 aT0 aW0 aE0 md mch fra fwe fof fsi csh cde csp rd rw rp rco rmo apa awo ash aja abu ltol lchi ljam q_1) g_X9_165 gd_X9_checkMounted ⟨(Nat.le_of_ble_eq_true rfl), (Nat.le_of_ble_eq_true rfl)⟩ hZ (hP.sub [0, 1, 2, 3, 4, 5, 6, 7, 8, 9, 10, 11, 12, 13] rfl) rfl rfl rfl hl.1 (Nat.le_of_ble_eq_true rfl) ⟨(Nat.le_of_ble_eq_true rfl), (Nat.le_of_ble_eq_true rfl)⟩ dX9_checkReady_1 ?_
  refine W.eq (g2 := F0 m 4 ls []) rfl ?_
  refine lv_aload_n hx hb dX9_checkReady_4 rfl (lv_at hl 0 rfl) ?_
  refine gf_X9_10 hx hb hown hA hP 0 rfl rfl dX9_checkReady_5 ?_
  obtain ⟨r_2, q_3, hf⟩ := obd hf
  refine ro_v (n := 0) (As := []) (q0 := 0) hx hb hml hown hA (kX4_canRun l G aL0 aL1 aL2 aL3 aL4 aL5 aL6 aL7 aL8 aL9 aL10 aL11 aL12 md mch fra fwe fof fsi csh cde csp rd rw rp rco rmo apa awo ash aja abu ltol lchi ljam r_2 q_3) g_X9_175 gd_X4_canRun ⟨(Nat.le_of_ble_eq_true rfl), (Nat.le_of_ble_eq_true rfl)⟩ hZ (hP.sub [1, 2, 3, 4, 5, 6, 7, 8, 9, 10, 11, 12, 13] rfl) rfl rfl rfl hl.1 (Nat.le_of_ble_eq_true rfl) ⟨(Nat.le_of_ble_eq_true rfl), (Nat.le_of_ble_eq_true rfl)⟩ dX9_checkReady_8 ?_
  refine W.eq (g2 := F0 m 11 ls [.int r_2]) rfl ?_
  obtain ⟨e9 | u9, q_4, hf⟩ := obd hf
  · dsimp only at hf
    cases hf
  dsimp only at hf
  replace hf := omr hf
  refine ro_s (n := 1) (As := [.int r_2]) hx hb hml hown hA (kX9_checkState l G r_2 q_4) g_X9_142 gd_X9_checkState ⟨(Nat.le_of_ble_eq_true rfl), (Nat.le_of_ble_eq_true rfl)⟩ hZ (fun _ _ h => by simp at h) rfl hl.1 (Nat.le_of_ble_eq_true rfl) ⟨(Nat.le_of_ble_eq_true rfl), (Nat.le_of_ble_eq_true rfl)⟩ dX9_checkReady_11 ?_
  refine W.eq (g2 := F0 m 14 ls []) rfl ?_
  cases hf
  exact ro_vret hx hb hr hlk dX9_checkReady_14
def fX9_ifPassed (md : Nat → Int32) (mch : Int32) (fra : Int32) (fwe : Int32) (fof : Int32) (csh : Int32) (cde : Int32) (rd : Nat → Int32) (rmo : Int32) (lchi : Int32) (ljam : Int32)  : Option (Nat ⊕ (Int32)) :=
  ((fX9_checkReady csh rmo ljam).bind fun z => match z with | .inl e => some (.inl e) | .inr _ => (Option.map Sum.inr (((fX4_wouldCut md mch fra fwe fof csh cde rd rmo lchi).bind fun r_2 => some r_2))))
set_option maxHeartbeats 4000000 in
set_option maxRecDepth 100000 in
theorem kX9_ifPassed (l : Launch) (G : GG) (a0 aL0 aL1 aL2 aL3 aL4 aL5 aL6 aL7 aL8 aL9 aL10 aL11 aL12 aH0 aT0 aW0 aE0 : Nat) (md : Nat → Int32) (mch : Int32) (fra : Int32) (fwe : Int32) (fof : Int32) (fsi : Int32) (csh : Int32) (cde : Int32) (csp : Int32) (rd : Nat → Int32) (rw : Nat → Int32) (rp : Nat → Int32) (rco : Int32) (rmo : Int32) (apa : Int32) (awo : Int32) (ash : Int32) (aja : Int32) (abu : Int32) (ltol : Int32) (lchi : Int32) (ljam : Int32)  (r_0 : Int32) (hf : fX9_ifPassed md mch fra fwe fof csh cde rd rmo lchi ljam = some (.inr r_0)) : Ro l G yX9_ifPassed cX9_ifPassed 1 (some .int) 9 141 [.ref a0] [(a0, .inr (9, [.ref aL0, .ref aH0, .ref aT0, .ref aW0, .ref aE0])), (aL0, .inr (4, [.ref aL1, .ref aL3, .ref aL4, .ref aL5, .ref aL12, .int ltol, .int lchi, .int ljam])), (aL1, .inr (6, [.ref aL2, .int mch])), (aL2, .inl (G.2.1, 48, .inl md)), (aL3, .inr (2, [.int fra, .int fwe, .int fof, .int fsi])), (aL4, .inr (1, [.int csh, .int cde, .int csp])), (aL5, .inr (7, [.ref aL6, .ref aL8, .ref aL10, .int rco, .int rmo])), (aL6, .inr (8, [.ref aL7])), (aL7, .inl (G.2.1, 80, .inl rd)), (aL8, .inr (8, [.ref aL9])), (aL9, .inl (G.2.1, 5, .inl rw)), (aL10, .inr (8, [.ref aL11])), (aL11, .inl (G.2.1, 5, .inl rp)), (aL12, .inr (0, [.int apa, .int awo, .int ash, .int aja, .int abu]))] (some (.int r_0)) := by
  refine ro_of (by decide) (Nat.le_of_ble_eq_true rfl) ?_
  intro p e s m args below meth c ls hx hb hr hml hown hlk hA hZ hP hl
  replace hown : s.vm.findClass RX9 = some m.cls := hown
  replace hl : lv_has ls 1 [(0, .ref a0)] := hl
  unfold fX9_ifPassed at hf
  refine lv_aload_n hx hb dX9_ifPassed_0 rfl (lv_at hl 0 rfl) ?_
  obtain ⟨e9 | u9, q_1, hf⟩ := obd hf
  · dsimp only at hf
    cases hf
  dsimp only at hf
  replace hf := omr hf
  refine ro_v (n := 0) (As := []) (q0 := 0) hx hb hml hown hA (kX9_checkReady l G a0 aL0 aL1 aL2 aL3 aL4 aL5 aL6 aL7 aL8 aL9 aL10 aL11 aL12 aH0 aT0 aW0 aE0 md mch fra fwe fof fsi csh cde csp rd rw rp rco rmo apa awo ash aja abu ltol lchi ljam q_1) g_X9_168 gd_X9_checkReady ⟨(Nat.le_of_ble_eq_true rfl), (Nat.le_of_ble_eq_true rfl)⟩ hZ (hP.sub [0, 1, 2, 3, 4, 5, 6, 7, 8, 9, 10, 11, 12, 13] rfl) rfl rfl rfl hl.1 (Nat.le_of_ble_eq_true rfl) ⟨(Nat.le_of_ble_eq_true rfl), (Nat.le_of_ble_eq_true rfl)⟩ dX9_ifPassed_1 ?_
  refine W.eq (g2 := F0 m 4 ls []) rfl ?_
  refine lv_aload_n hx hb dX9_ifPassed_4 rfl (lv_at hl 0 rfl) ?_
  refine gf_X9_10 hx hb hown hA hP 0 rfl rfl dX9_ifPassed_5 ?_
  obtain ⟨r_2, q_3, hf⟩ := obd hf
  refine ro_v (n := 0) (As := []) (q0 := 0) hx hb hml hown hA (kX4_wouldCut l G aL0 aL1 aL2 aL3 aL4 aL5 aL6 aL7 aL8 aL9 aL10 aL11 aL12 md mch fra fwe fof fsi csh cde csp rd rw rp rco rmo apa awo ash aja abu ltol lchi ljam r_2 q_3) g_X9_286 gd_X4_wouldCut ⟨(Nat.le_of_ble_eq_true rfl), (Nat.le_of_ble_eq_true rfl)⟩ hZ (hP.sub [1, 2, 3, 4, 5, 6, 7, 8, 9, 10, 11, 12, 13] rfl) rfl rfl rfl hl.1 (Nat.le_of_ble_eq_true rfl) ⟨(Nat.le_of_ble_eq_true rfl), (Nat.le_of_ble_eq_true rfl)⟩ dX9_ifPassed_8 ?_
  refine W.eq (g2 := F0 m 11 ls [.int r_2]) rfl ?_
  cases hf
  exact ro_iret hx hb hr hlk dX9_ifPassed_11
def fX9_countPasses_L2 (md : Nat → Int32) (mch : Int32) (fra : Int32) (fwe : Int32) (fof : Int32) (rd : Nat → Int32) (rmo : Int32)  : Nat → Int32 → (Nat → Int32) → Option ((Nat → Int32))
  | 0, _, _ => none
  | n9 + 1, v1, le => (if 16 ≤ v1 then some le else ((fX4_above md mch fra fwe fof rd rmo v1).bind fun r_2 => ((fX8_put 16 le v1 r_2).bind fun rf_4 => fX9_countPasses_L2 md mch fra fwe fof rd rmo n9 (v1 + 1) rf_4)))
def fX9_countPasses_L61 (csh : Int32) (cde : Int32)  : Nat → Int32 → (Nat → Int32) → Option ((Nat → Int32))
  | 0, _, _ => none
  | n9 + 1, v2, le => (if 16 ≤ v2 then some le else ((fX8_at 16 le v2).bind fun r_13 => ((fX1_reach csh cde).bind fun r_15 => ((fX8_put 16 le v2 (mxI 0 (r_13 - r_15))).bind fun rf_17 => fX9_countPasses_L61 csh cde n9 (v2 + 1) rf_17))))
def fX9_countPasses_L42 (csh : Int32) (cde : Int32)  : Nat → Int32 → (Nat → Int32) → Option (Int32 × (Nat → Int32))
  | 0, _, _ => none
  | n9 + 1, v1, le => (if 1000 ≤ v1 then some (v1, le) else ((fX8_greatest 16 le).bind fun r_9 => (if r_9 ≤ 0 then some (v1, le) else ((fX9_countPasses_L61 csh cde 2000 0 le).bind fun le_19 => fX9_countPasses_L42 csh cde n9 (v1 + 1) le_19))))
def fX9_countPasses (md : Nat → Int32) (mch : Int32) (fra : Int32) (fwe : Int32) (fof : Int32) (csh : Int32) (cde : Int32) (rd : Nat → Int32) (rmo : Int32) (le : Nat → Int32)  : Option (Int32 × (Nat → Int32)) :=
  ((fX9_countPasses_L2 md mch fra fwe fof rd rmo 2000 0 le).bind fun le_6 => ((fX9_countPasses_L42 csh cde 2000 0 le_6).bind fun (x1_21, le_22) => some (x1_21, le_22)))
set_option maxHeartbeats 4000000 in
set_option maxRecDepth 100000 in
theorem kX9_countPasses (l : Launch) (G : GG) (a0 aL0 aL1 aL2 aL3 aL4 aL5 aL6 aL7 aL8 aL9 aL10 aL11 aL12 aE0 aE1 aH0 aT0 aW0 : Nat) (md : Nat → Int32) (mch : Int32) (fra : Int32) (fwe : Int32) (fof : Int32) (fsi : Int32) (csh : Int32) (cde : Int32) (csp : Int32) (rd : Nat → Int32) (rw : Nat → Int32) (rp : Nat → Int32) (rco : Int32) (rmo : Int32) (apa : Int32) (awo : Int32) (ash : Int32) (aja : Int32) (abu : Int32) (ltol : Int32) (lchi : Int32) (ljam : Int32) (le : Nat → Int32)  (r_0 : Int32) (le_0 : Nat → Int32) (hf : fX9_countPasses md mch fra fwe fof csh cde rd rmo le = some (r_0, le_0)) : Wr l G yX9_countPasses cX9_countPasses 3 (some .int) 4 90 0 0 [.ref a0] [(a0, .inr (9, [.ref aL0, .ref aH0, .ref aT0, .ref aW0, .ref aE0])), (aL0, .inr (4, [.ref aL1, .ref aL3, .ref aL4, .ref aL5, .ref aL12, .int ltol, .int lchi, .int ljam])), (aL1, .inr (6, [.ref aL2, .int mch])), (aL2, .inl (G.2.1, 48, .inl md)), (aL3, .inr (2, [.int fra, .int fwe, .int fof, .int fsi])), (aL4, .inr (1, [.int csh, .int cde, .int csp])), (aL5, .inr (7, [.ref aL6, .ref aL8, .ref aL10, .int rco, .int rmo])), (aL6, .inr (8, [.ref aL7])), (aL7, .inl (G.2.1, 80, .inl rd)), (aL8, .inr (8, [.ref aL9])), (aL9, .inl (G.2.1, 5, .inl rw)), (aL10, .inr (8, [.ref aL11])), (aL11, .inl (G.2.1, 5, .inl rp)), (aL12, .inr (0, [.int apa, .int awo, .int ash, .int aja, .int abu])), (aE0, .inr (8, [.ref aE1])), (aE1, .inl (G.2.1, 16, .inl le))] (X := Unit) (fun _ => [(a0, .inr (9, [.ref aL0, .ref aH0, .ref aT0, .ref aW0, .ref aE0])), (aL0, .inr (4, [.ref aL1, .ref aL3, .ref aL4, .ref aL5, .ref aL12, .int ltol, .int lchi, .int ljam])), (aL1, .inr (6, [.ref aL2, .int mch])), (aL2, .inl (G.2.1, 48, .inl md)), (aL3, .inr (2, [.int fra, .int fwe, .int fof, .int fsi])), (aL4, .inr (1, [.int csh, .int cde, .int csp])), (aL5, .inr (7, [.ref aL6, .ref aL8, .ref aL10, .int rco, .int rmo])), (aL6, .inr (8, [.ref aL7])), (aL7, .inl (G.2.1, 80, .inl rd)), (aL8, .inr (8, [.ref aL9])), (aL9, .inl (G.2.1, 5, .inl rw)), (aL10, .inr (8, [.ref aL11])), (aL11, .inl (G.2.1, 5, .inl rp)), (aL12, .inr (0, [.int apa, .int awo, .int ash, .int aja, .int abu])), (aE0, .inr (8, [.ref aE1])), (aE1, .inl (G.2.1, 16, .inl le_0))]) (some (.int r_0)) := by
  refine wr_of (by decide) (Nat.le_of_ble_eq_true rfl) ?_
  intro p e s m args below meth c ls A hx hb hr hml hown hlk hA hZ hP hD hS hA0 hin hl
  have hP : va_P G.1 vwCl [(a0, .inr (9, [.ref aL0, .ref aH0, .ref aT0, .ref aW0, .ref aE0])), (aL0, .inr (4, [.ref aL1, .ref aL3, .ref aL4, .ref aL5, .ref aL12, .int ltol, .int lchi, .int ljam])), (aL1, .inr (6, [.ref aL2, .int mch])), (aL2, .inl (G.2.1, 48, .inl md)), (aL3, .inr (2, [.int fra, .int fwe, .int fof, .int fsi])), (aL4, .inr (1, [.int csh, .int cde, .int csp])), (aL5, .inr (7, [.ref aL6, .ref aL8, .ref aL10, .int rco, .int rmo])), (aL6, .inr (8, [.ref aL7])), (aL7, .inl (G.2.1, 80, .inl rd)), (aL8, .inr (8, [.ref aL9])), (aL9, .inl (G.2.1, 5, .inl rw)), (aL10, .inr (8, [.ref aL11])), (aL11, .inl (G.2.1, 5, .inl rp)), (aL12, .inr (0, [.int apa, .int awo, .int ash, .int aja, .int abu])), (aE0, .inr (8, [.ref aE1])), (aE1, .inl (G.2.1, 16, .inl le))] s.heap := hP
  replace hown : s.vm.findClass RX9 = some m.cls := hown
  replace hl : lv_has ls 3 [(0, .ref a0)] := hl
  unfold fX9_countPasses at hf
  refine lv_iconst (v := 0) hx hb dX9_countPasses_0 (by decide) ?_
  refine lv_istore_n (lv' := [(1, .int 0), (0, .ref a0)]) hx hb dX9_countPasses_1 rfl hl (by decide) rfl (fun ls hl => ?_)
  have lp2 : ∀   (n : Nat) (v1 : Int32) (le : Nat → Int32) (le_6 : Nat → Int32) (Q : State → Prop), fX9_countPasses_L2 md mch fra fwe fof rd rmo n v1 le = some le_6 → ∀ (H : Heap) (locs : List Loc), va_P G.1 vwCl [(a0, .inr (9, [.ref aL0, .ref aH0, .ref aT0, .ref aW0, .ref aE0])), (aL0, .inr (4, [.ref aL1, .ref aL3, .ref aL4, .ref aL5, .ref aL12, .int ltol, .int lchi, .int ljam])), (aL1, .inr (6, [.ref aL2, .int mch])), (aL2, .inl (G.2.1, 48, .inl md)), (aL3, .inr (2, [.int fra, .int fwe, .int fof, .int fsi])), (aL4, .inr (1, [.int csh, .int cde, .int csp])), (aL5, .inr (7, [.ref aL6, .ref aL8, .ref aL10, .int rco, .int rmo])), (aL6, .inr (8, [.ref aL7])), (aL7, .inl (G.2.1, 80, .inl rd)), (aL8, .inr (8, [.ref aL9])), (aL9, .inl (G.2.1, 5, .inl rw)), (aL10, .inr (8, [.ref aL11])), (aL11, .inl (G.2.1, 5, .inl rp)), (aL12, .inr (0, [.int apa, .int awo, .int ash, .int aja, .int abu])), (aE0, .inr (8, [.ref aE1])), (aE1, .inl (G.2.1, 16, .inl le))] H → va_D A [(a0, .inr (9, [.ref aL0, .ref aH0, .ref aT0, .ref aW0, .ref aE0])), (aL0, .inr (4, [.ref aL1, .ref aL3, .ref aL4, .ref aL5, .ref aL12, .int ltol, .int lchi, .int ljam])), (aL1, .inr (6, [.ref aL2, .int mch])), (aL2, .inl (G.2.1, 48, .inl md)), (aL3, .inr (2, [.int fra, .int fwe, .int fof, .int fsi])), (aL4, .inr (1, [.int csh, .int cde, .int csp])), (aL5, .inr (7, [.ref aL6, .ref aL8, .ref aL10, .int rco, .int rmo])), (aL6, .inr (8, [.ref aL7])), (aL7, .inl (G.2.1, 80, .inl rd)), (aL8, .inr (8, [.ref aL9])), (aL9, .inl (G.2.1, 5, .inl rw)), (aL10, .inr (8, [.ref aL11])), (aL11, .inl (G.2.1, 5, .inl rp)), (aL12, .inr (0, [.int apa, .int awo, .int ash, .int aja, .int abu])), (aE0, .inr (8, [.ref aE1])), (aE1, .inl (G.2.1, 16, .inl le))] → va_S A s.heap H locs → ∀ (ls : Array Slot), lv_has ls 3 [(0, .ref a0), (1, .int v1)] → (∀ (H : Heap) (locs : List Loc) (ls : Array Slot), va_P G.1 vwCl [(a0, .inr (9, [.ref aL0, .ref aH0, .ref aT0, .ref aW0, .ref aE0])), (aL0, .inr (4, [.ref aL1, .ref aL3, .ref aL4, .ref aL5, .ref aL12, .int ltol, .int lchi, .int ljam])), (aL1, .inr (6, [.ref aL2, .int mch])), (aL2, .inl (G.2.1, 48, .inl md)), (aL3, .inr (2, [.int fra, .int fwe, .int fof, .int fsi])), (aL4, .inr (1, [.int csh, .int cde, .int csp])), (aL5, .inr (7, [.ref aL6, .ref aL8, .ref aL10, .int rco, .int rmo])), (aL6, .inr (8, [.ref aL7])), (aL7, .inl (G.2.1, 80, .inl rd)), (aL8, .inr (8, [.ref aL9])), (aL9, .inl (G.2.1, 5, .inl rw)), (aL10, .inr (8, [.ref aL11])), (aL11, .inl (G.2.1, 5, .inl rp)), (aL12, .inr (0, [.int apa, .int awo, .int ash, .int aja, .int abu])), (aE0, .inr (8, [.ref aE1])), (aE1, .inl (G.2.1, 16, .inl le_6))] H → va_D A [(a0, .inr (9, [.ref aL0, .ref aH0, .ref aT0, .ref aW0, .ref aE0])), (aL0, .inr (4, [.ref aL1, .ref aL3, .ref aL4, .ref aL5, .ref aL12, .int ltol, .int lchi, .int ljam])), (aL1, .inr (6, [.ref aL2, .int mch])), (aL2, .inl (G.2.1, 48, .inl md)), (aL3, .inr (2, [.int fra, .int fwe, .int fof, .int fsi])), (aL4, .inr (1, [.int csh, .int cde, .int csp])), (aL5, .inr (7, [.ref aL6, .ref aL8, .ref aL10, .int rco, .int rmo])), (aL6, .inr (8, [.ref aL7])), (aL7, .inl (G.2.1, 80, .inl rd)), (aL8, .inr (8, [.ref aL9])), (aL9, .inl (G.2.1, 5, .inl rw)), (aL10, .inr (8, [.ref aL11])), (aL11, .inl (G.2.1, 5, .inl rp)), (aL12, .inr (0, [.int apa, .int awo, .int ash, .int aja, .int abu])), (aE0, .inr (8, [.ref aE1])), (aE1, .inl (G.2.1, 16, .inl le_6))] → va_S A s.heap H locs → lv_has ls 3 [(0, .ref a0)] → W p l e { frames := 4, cells := 0, slots := 0, locals := 90 } s m args below meth c H locs 0 0 Q (F0 m 40 ls [])) → W p l e { frames := 4, cells := 0, slots := 0, locals := 90 } s m args below meth c H locs 0 0 Q (F0 m 2 ls []) := by
    intro  n
    induction n with
    | zero => intro v1 le le_6 Q hf; rw [fX9_countPasses_L2] at hf; cases hf
    | succ n ih =>
      intro v1 le le_6 Q hf H locs hP hD hS ls hl kk
      rw [fX9_countPasses_L2] at hf
      refine lv_iload_n hx hb dX9_countPasses_2 rfl (lv_at hl 1 rfl) ?_
      refine lv_bipush (v := 16) hx hb dX9_countPasses_3 (by decide) ?_
      refine lv_icmp_ge (tgt := 40) hx hb dX9_countPasses_5 (by decide) (fun c_1 => ?_) (fun c_1 => ?_)
      · replace hf := ifp c_1 hf
        cases hf
        exact kk _ _ ls hP hD hS (lv_sub hl [0] rfl)
      · replace hf := ifn c_1 hf
        refine lv_aload_n hx hb dX9_countPasses_8 rfl (lv_at hl 0 rfl) ?_
        refine gf_X9_39 hx hb hown hA hP 0 rfl rfl dX9_countPasses_9 ?_
        refine lv_iload_n hx hb dX9_countPasses_12 rfl (lv_at hl 1 rfl) ?_
        refine lv_aload_n hx hb dX9_countPasses_13 rfl (lv_at hl 0 rfl) ?_
        refine gf_X9_10 hx hb hown hA hP 0 rfl rfl dX9_countPasses_14 ?_
        refine lv_aload_n hx hb dX9_countPasses_17 rfl (lv_at hl 0 rfl) ?_
        refine gf_X9_10 hx hb hown hA hP 0 rfl rfl dX9_countPasses_18 ?_
        refine gf_X9_133 hx hb hown hA hP 1 rfl rfl dX9_countPasses_21 ?_
        refine gf_X9_152 hx hb hown hA hP 6 rfl rfl dX9_countPasses_24 ?_
        refine lv_iload_n hx hb dX9_countPasses_27 rfl (lv_at hl 1 rfl) ?_
        obtain ⟨r_2, q_3, hf⟩ := obd hf
        refine ro_v (n := 2) (As := [.int rmo, .int v1]) (q0 := 0) hx hb hml hown hA (kX4_above l G aL0 aL1 aL2 aL3 aL4 aL5 aL6 aL7 aL8 aL9 aL10 aL11 aL12 md mch fra fwe fof fsi csh cde csp rd rw rp rco rmo apa awo ash aja abu ltol lchi ljam rmo v1 r_2 q_3) g_X9_359 gd_X4_above ⟨(Nat.le_of_ble_eq_true rfl), (Nat.le_of_ble_eq_true rfl)⟩ (hZ.at hS) (hP.sub [1, 2, 3, 4, 5, 6, 7, 8, 9, 10, 11, 12, 13] rfl) rfl rfl rfl hl.1 (Nat.le_of_ble_eq_true rfl) ⟨(Nat.le_of_ble_eq_true rfl), (Nat.le_of_ble_eq_true rfl)⟩ dX9_countPasses_28 ?_
        refine W.eq (g2 := F0 m 31 ls [.int r_2, .int v1, .ref aE0]) rfl ?_
        obtain ⟨rf_4, q_5, hf⟩ := obd hf
        refine wr_v (n := 2) (As := [.int v1, .int r_2]) (q0 := 0) (wr := [(a0, .inr (9, [.ref aL0, .ref aH0, .ref aT0, .ref aW0, .ref aE0])), (aL0, .inr (4, [.ref aL1, .ref aL3, .ref aL4, .ref aL5, .ref aL12, .int ltol, .int lchi, .int ljam])), (aL1, .inr (6, [.ref aL2, .int mch])), (aL2, .inl (G.2.1, 48, .inl md)), (aL3, .inr (2, [.int fra, .int fwe, .int fof, .int fsi])), (aL4, .inr (1, [.int csh, .int cde, .int csp])), (aL5, .inr (7, [.ref aL6, .ref aL8, .ref aL10, .int rco, .int rmo])), (aL6, .inr (8, [.ref aL7])), (aL7, .inl (G.2.1, 80, .inl rd)), (aL8, .inr (8, [.ref aL9])), (aL9, .inl (G.2.1, 5, .inl rw)), (aL10, .inr (8, [.ref aL11])), (aL11, .inl (G.2.1, 5, .inl rp)), (aL12, .inr (0, [.int apa, .int awo, .int ash, .int aja, .int abu]))]) (w2 := fun _ => [(a0, .inr (9, [.ref aL0, .ref aH0, .ref aT0, .ref aW0, .ref aE0])), (aL0, .inr (4, [.ref aL1, .ref aL3, .ref aL4, .ref aL5, .ref aL12, .int ltol, .int lchi, .int ljam])), (aL1, .inr (6, [.ref aL2, .int mch])), (aL2, .inl (G.2.1, 48, .inl md)), (aL3, .inr (2, [.int fra, .int fwe, .int fof, .int fsi])), (aL4, .inr (1, [.int csh, .int cde, .int csp])), (aL5, .inr (7, [.ref aL6, .ref aL8, .ref aL10, .int rco, .int rmo])), (aL6, .inr (8, [.ref aL7])), (aL7, .inl (G.2.1, 80, .inl rd)), (aL8, .inr (8, [.ref aL9])), (aL9, .inl (G.2.1, 5, .inl rw)), (aL10, .inr (8, [.ref aL11])), (aL11, .inl (G.2.1, 5, .inl rp)), (aL12, .inr (0, [.int apa, .int awo, .int ash, .int aja, .int abu])), (aE0, .inr (8, [.ref aE1])), (aE1, .inl (G.2.1, 16, .inl rf_4))]) hx hb hml hown hA (kX8_put l G aE0 aE1 16 le v1 r_2 rf_4 q_5 (by decide)) g_X9_357 gd_X8_put ⟨(Nat.le_of_ble_eq_true rfl), (Nat.le_of_ble_eq_true rfl)⟩ hZ hP hD hS hA0 rfl rfl [14, 15] [0, 1, 2, 3, 4, 5, 6, 7, 8, 9, 10, 11, 12, 13] [0, 1, 2, 3, 4, 5, 6, 7, 8, 9, 10, 11, 12, 13, 14, 15] rfl rfl rfl rfl (by decide) (fun _ => rfl) rfl rfl hl.1 (Nat.le_of_ble_eq_true rfl) ⟨(Nat.le_of_ble_eq_true rfl), (Nat.le_of_ble_eq_true rfl)⟩ dX9_countPasses_31 (fun _ H locs hP hD hS => ?_)
        refine W.eq (g2 := F0 m 34 ls []) rfl ?_
        refine lv_iinc (v := v1 + 1) (lv' := [(1, .int (v1 + 1)), (0, .ref a0)]) hx hb dX9_countPasses_34 hl (k := 1) rfl rfl (by decide) rfl (fun ls hl => ?_)
        refine lv_goto (tgt := 2) hx hb dX9_countPasses_37 (by decide) ?_
        exact ih _ _ _ _ hf _ _ hP hD hS ls (lv_sub hl [1, 0] rfl) kk
  obtain ⟨le_6, q_7, hf⟩ := obd hf
  refine lp2 _ _ _ _ _ q_7 _ _ hP hD hS ls (lv_sub hl [1, 0] rfl) (fun H locs ls hP hD hS hl => ?_)
  refine lv_iconst (v := 0) hx hb dX9_countPasses_40 (by decide) ?_
  refine lv_istore_n (lv' := [(1, .int 0), (0, .ref a0)]) hx hb dX9_countPasses_41 rfl hl (by decide) rfl (fun ls hl => ?_)
  have lp42 : ∀   (n : Nat) (v1 : Int32) (le : Nat → Int32) (x1_21 : Int32) (le_22 : Nat → Int32) (Q : State → Prop), fX9_countPasses_L42 csh cde n v1 le = some (x1_21, le_22) → ∀ (H : Heap) (locs : List Loc), va_P G.1 vwCl [(a0, .inr (9, [.ref aL0, .ref aH0, .ref aT0, .ref aW0, .ref aE0])), (aL0, .inr (4, [.ref aL1, .ref aL3, .ref aL4, .ref aL5, .ref aL12, .int ltol, .int lchi, .int ljam])), (aL1, .inr (6, [.ref aL2, .int mch])), (aL2, .inl (G.2.1, 48, .inl md)), (aL3, .inr (2, [.int fra, .int fwe, .int fof, .int fsi])), (aL4, .inr (1, [.int csh, .int cde, .int csp])), (aL5, .inr (7, [.ref aL6, .ref aL8, .ref aL10, .int rco, .int rmo])), (aL6, .inr (8, [.ref aL7])), (aL7, .inl (G.2.1, 80, .inl rd)), (aL8, .inr (8, [.ref aL9])), (aL9, .inl (G.2.1, 5, .inl rw)), (aL10, .inr (8, [.ref aL11])), (aL11, .inl (G.2.1, 5, .inl rp)), (aL12, .inr (0, [.int apa, .int awo, .int ash, .int aja, .int abu])), (aE0, .inr (8, [.ref aE1])), (aE1, .inl (G.2.1, 16, .inl le))] H → va_D A [(a0, .inr (9, [.ref aL0, .ref aH0, .ref aT0, .ref aW0, .ref aE0])), (aL0, .inr (4, [.ref aL1, .ref aL3, .ref aL4, .ref aL5, .ref aL12, .int ltol, .int lchi, .int ljam])), (aL1, .inr (6, [.ref aL2, .int mch])), (aL2, .inl (G.2.1, 48, .inl md)), (aL3, .inr (2, [.int fra, .int fwe, .int fof, .int fsi])), (aL4, .inr (1, [.int csh, .int cde, .int csp])), (aL5, .inr (7, [.ref aL6, .ref aL8, .ref aL10, .int rco, .int rmo])), (aL6, .inr (8, [.ref aL7])), (aL7, .inl (G.2.1, 80, .inl rd)), (aL8, .inr (8, [.ref aL9])), (aL9, .inl (G.2.1, 5, .inl rw)), (aL10, .inr (8, [.ref aL11])), (aL11, .inl (G.2.1, 5, .inl rp)), (aL12, .inr (0, [.int apa, .int awo, .int ash, .int aja, .int abu])), (aE0, .inr (8, [.ref aE1])), (aE1, .inl (G.2.1, 16, .inl le))] → va_S A s.heap H locs → ∀ (ls : Array Slot), lv_has ls 3 [(0, .ref a0), (1, .int v1)] → (∀ (H : Heap) (locs : List Loc) (ls : Array Slot), va_P G.1 vwCl [(a0, .inr (9, [.ref aL0, .ref aH0, .ref aT0, .ref aW0, .ref aE0])), (aL0, .inr (4, [.ref aL1, .ref aL3, .ref aL4, .ref aL5, .ref aL12, .int ltol, .int lchi, .int ljam])), (aL1, .inr (6, [.ref aL2, .int mch])), (aL2, .inl (G.2.1, 48, .inl md)), (aL3, .inr (2, [.int fra, .int fwe, .int fof, .int fsi])), (aL4, .inr (1, [.int csh, .int cde, .int csp])), (aL5, .inr (7, [.ref aL6, .ref aL8, .ref aL10, .int rco, .int rmo])), (aL6, .inr (8, [.ref aL7])), (aL7, .inl (G.2.1, 80, .inl rd)), (aL8, .inr (8, [.ref aL9])), (aL9, .inl (G.2.1, 5, .inl rw)), (aL10, .inr (8, [.ref aL11])), (aL11, .inl (G.2.1, 5, .inl rp)), (aL12, .inr (0, [.int apa, .int awo, .int ash, .int aja, .int abu])), (aE0, .inr (8, [.ref aE1])), (aE1, .inl (G.2.1, 16, .inl le_22))] H → va_D A [(a0, .inr (9, [.ref aL0, .ref aH0, .ref aT0, .ref aW0, .ref aE0])), (aL0, .inr (4, [.ref aL1, .ref aL3, .ref aL4, .ref aL5, .ref aL12, .int ltol, .int lchi, .int ljam])), (aL1, .inr (6, [.ref aL2, .int mch])), (aL2, .inl (G.2.1, 48, .inl md)), (aL3, .inr (2, [.int fra, .int fwe, .int fof, .int fsi])), (aL4, .inr (1, [.int csh, .int cde, .int csp])), (aL5, .inr (7, [.ref aL6, .ref aL8, .ref aL10, .int rco, .int rmo])), (aL6, .inr (8, [.ref aL7])), (aL7, .inl (G.2.1, 80, .inl rd)), (aL8, .inr (8, [.ref aL9])), (aL9, .inl (G.2.1, 5, .inl rw)), (aL10, .inr (8, [.ref aL11])), (aL11, .inl (G.2.1, 5, .inl rp)), (aL12, .inr (0, [.int apa, .int awo, .int ash, .int aja, .int abu])), (aE0, .inr (8, [.ref aE1])), (aE1, .inl (G.2.1, 16, .inl le_22))] → va_S A s.heap H locs → lv_has ls 3 [(1, .int x1_21)] → W p l e { frames := 4, cells := 0, slots := 0, locals := 90 } s m args below meth c H locs 0 0 Q (F0 m 110 ls [])) → W p l e { frames := 4, cells := 0, slots := 0, locals := 90 } s m args below meth c H locs 0 0 Q (F0 m 42 ls []) := by
    intro  n
    induction n with
    | zero => intro v1 le x1_21 le_22 Q hf; rw [fX9_countPasses_L42] at hf; cases hf
    | succ n ih =>
      intro v1 le x1_21 le_22 Q hf H locs hP hD hS ls hl kk
      rw [fX9_countPasses_L42] at hf
      refine lv_iload_n hx hb dX9_countPasses_42 rfl (lv_at hl 1 rfl) ?_
      refine lv_sipush (v := 1000) hx hb dX9_countPasses_43 (by decide) ?_
      refine lv_icmp_ge (tgt := 110) hx hb dX9_countPasses_46 (by decide) (fun c_8 => ?_) (fun c_8 => ?_)
      · replace hf := ifp c_8 hf
        cases hf
        exact kk _ _ ls hP hD hS (lv_sub hl [1] rfl)
      · replace hf := ifn c_8 hf
        refine lv_aload_n hx hb dX9_countPasses_49 rfl (lv_at hl 0 rfl) ?_
        refine gf_X9_39 hx hb hown hA hP 0 rfl rfl dX9_countPasses_50 ?_
        obtain ⟨r_9, q_10, hf⟩ := obd hf
        refine ro_v (n := 0) (As := []) (q0 := 0) hx hb hml hown hA (kX8_greatest l G aE0 aE1 16 le r_9 q_10 (by decide)) g_X9_362 gd_X8_greatest ⟨(Nat.le_of_ble_eq_true rfl), (Nat.le_of_ble_eq_true rfl)⟩ (hZ.at hS) (hP.sub [14, 15] rfl) rfl rfl rfl hl.1 (Nat.le_of_ble_eq_true rfl) ⟨(Nat.le_of_ble_eq_true rfl), (Nat.le_of_ble_eq_true rfl)⟩ dX9_countPasses_53 ?_
        refine W.eq (g2 := F0 m 56 ls [.int r_9]) rfl ?_
        refine lv_if_le (tgt := 110) hx hb dX9_countPasses_56 (by decide) (fun c_11 => ?_) (fun c_11 => ?_)
        · replace hf := ifp c_11 hf
          cases hf
          exact kk _ _ ls hP hD hS (lv_sub hl [1] rfl)
        · replace hf := ifn c_11 hf
          refine lv_iconst (v := 0) hx hb dX9_countPasses_59 (by decide) ?_
          refine lv_istore_n (lv' := [(2, .int 0), (0, .ref a0), (1, .int v1)]) hx hb dX9_countPasses_60 rfl hl (by decide) rfl (fun ls hl => ?_)
          have lp61 : ∀ (v1 : Int32)  (n : Nat) (v2 : Int32) (le : Nat → Int32) (le_19 : Nat → Int32) (Q : State → Prop), fX9_countPasses_L61 csh cde n v2 le = some le_19 → ∀ (H : Heap) (locs : List Loc), va_P G.1 vwCl [(a0, .inr (9, [.ref aL0, .ref aH0, .ref aT0, .ref aW0, .ref aE0])), (aL0, .inr (4, [.ref aL1, .ref aL3, .ref aL4, .ref aL5, .ref aL12, .int ltol, .int lchi, .int ljam])), (aL1, .inr (6, [.ref aL2, .int mch])), (aL2, .inl (G.2.1, 48, .inl md)), (aL3, .inr (2, [.int fra, .int fwe, .int fof, .int fsi])), (aL4, .inr (1, [.int csh, .int cde, .int csp])), (aL5, .inr (7, [.ref aL6, .ref aL8, .ref aL10, .int rco, .int rmo])), (aL6, .inr (8, [.ref aL7])), (aL7, .inl (G.2.1, 80, .inl rd)), (aL8, .inr (8, [.ref aL9])), (aL9, .inl (G.2.1, 5, .inl rw)), (aL10, .inr (8, [.ref aL11])), (aL11, .inl (G.2.1, 5, .inl rp)), (aL12, .inr (0, [.int apa, .int awo, .int ash, .int aja, .int abu])), (aE0, .inr (8, [.ref aE1])), (aE1, .inl (G.2.1, 16, .inl le))] H → va_D A [(a0, .inr (9, [.ref aL0, .ref aH0, .ref aT0, .ref aW0, .ref aE0])), (aL0, .inr (4, [.ref aL1, .ref aL3, .ref aL4, .ref aL5, .ref aL12, .int ltol, .int lchi, .int ljam])), (aL1, .inr (6, [.ref aL2, .int mch])), (aL2, .inl (G.2.1, 48, .inl md)), (aL3, .inr (2, [.int fra, .int fwe, .int fof, .int fsi])), (aL4, .inr (1, [.int csh, .int cde, .int csp])), (aL5, .inr (7, [.ref aL6, .ref aL8, .ref aL10, .int rco, .int rmo])), (aL6, .inr (8, [.ref aL7])), (aL7, .inl (G.2.1, 80, .inl rd)), (aL8, .inr (8, [.ref aL9])), (aL9, .inl (G.2.1, 5, .inl rw)), (aL10, .inr (8, [.ref aL11])), (aL11, .inl (G.2.1, 5, .inl rp)), (aL12, .inr (0, [.int apa, .int awo, .int ash, .int aja, .int abu])), (aE0, .inr (8, [.ref aE1])), (aE1, .inl (G.2.1, 16, .inl le))] → va_S A s.heap H locs → ∀ (ls : Array Slot), lv_has ls 3 [(0, .ref a0), (1, .int v1), (2, .int v2)] → (∀ (H : Heap) (locs : List Loc) (ls : Array Slot), va_P G.1 vwCl [(a0, .inr (9, [.ref aL0, .ref aH0, .ref aT0, .ref aW0, .ref aE0])), (aL0, .inr (4, [.ref aL1, .ref aL3, .ref aL4, .ref aL5, .ref aL12, .int ltol, .int lchi, .int ljam])), (aL1, .inr (6, [.ref aL2, .int mch])), (aL2, .inl (G.2.1, 48, .inl md)), (aL3, .inr (2, [.int fra, .int fwe, .int fof, .int fsi])), (aL4, .inr (1, [.int csh, .int cde, .int csp])), (aL5, .inr (7, [.ref aL6, .ref aL8, .ref aL10, .int rco, .int rmo])), (aL6, .inr (8, [.ref aL7])), (aL7, .inl (G.2.1, 80, .inl rd)), (aL8, .inr (8, [.ref aL9])), (aL9, .inl (G.2.1, 5, .inl rw)), (aL10, .inr (8, [.ref aL11])), (aL11, .inl (G.2.1, 5, .inl rp)), (aL12, .inr (0, [.int apa, .int awo, .int ash, .int aja, .int abu])), (aE0, .inr (8, [.ref aE1])), (aE1, .inl (G.2.1, 16, .inl le_19))] H → va_D A [(a0, .inr (9, [.ref aL0, .ref aH0, .ref aT0, .ref aW0, .ref aE0])), (aL0, .inr (4, [.ref aL1, .ref aL3, .ref aL4, .ref aL5, .ref aL12, .int ltol, .int lchi, .int ljam])), (aL1, .inr (6, [.ref aL2, .int mch])), (aL2, .inl (G.2.1, 48, .inl md)), (aL3, .inr (2, [.int fra, .int fwe, .int fof, .int fsi])), (aL4, .inr (1, [.int csh, .int cde, .int csp])), (aL5, .inr (7, [.ref aL6, .ref aL8, .ref aL10, .int rco, .int rmo])), (aL6, .inr (8, [.ref aL7])), (aL7, .inl (G.2.1, 80, .inl rd)), (aL8, .inr (8, [.ref aL9])), (aL9, .inl (G.2.1, 5, .inl rw)), (aL10, .inr (8, [.ref aL11])), (aL11, .inl (G.2.1, 5, .inl rp)), (aL12, .inr (0, [.int apa, .int awo, .int ash, .int aja, .int abu])), (aE0, .inr (8, [.ref aE1])), (aE1, .inl (G.2.1, 16, .inl le_19))] → va_S A s.heap H locs → lv_has ls 3 [(0, .ref a0), (1, .int v1)] → W p l e { frames := 4, cells := 0, slots := 0, locals := 90 } s m args below meth c H locs 0 0 Q (F0 m 104 ls [])) → W p l e { frames := 4, cells := 0, slots := 0, locals := 90 } s m args below meth c H locs 0 0 Q (F0 m 61 ls []) := by
            intro v1 n
            induction n with
            | zero => intro v2 le le_19 Q hf; rw [fX9_countPasses_L61] at hf; cases hf
            | succ n ih =>
              intro v2 le le_19 Q hf H locs hP hD hS ls hl kk
              rw [fX9_countPasses_L61] at hf
              refine lv_iload_n hx hb dX9_countPasses_61 rfl (lv_at hl 2 rfl) ?_
              refine lv_bipush (v := 16) hx hb dX9_countPasses_62 (by decide) ?_
              refine lv_icmp_ge (tgt := 104) hx hb dX9_countPasses_64 (by decide) (fun c_12 => ?_) (fun c_12 => ?_)
              · replace hf := ifp c_12 hf
                cases hf
                exact kk _ _ ls hP hD hS (lv_sub hl [0, 1] rfl)
              · replace hf := ifn c_12 hf
                refine lv_aload_n hx hb dX9_countPasses_67 rfl (lv_at hl 0 rfl) ?_
                refine gf_X9_39 hx hb hown hA hP 0 rfl rfl dX9_countPasses_68 ?_
                refine lv_iload_n hx hb dX9_countPasses_71 rfl (lv_at hl 2 rfl) ?_
                refine lv_iconst (v := 0) hx hb dX9_countPasses_72 (by decide) ?_
                refine lv_aload_n hx hb dX9_countPasses_73 rfl (lv_at hl 0 rfl) ?_
                refine gf_X9_39 hx hb hown hA hP 0 rfl rfl dX9_countPasses_74 ?_
                refine lv_iload_n hx hb dX9_countPasses_77 rfl (lv_at hl 2 rfl) ?_
                obtain ⟨r_13, q_14, hf⟩ := obd hf
                refine ro_v (n := 1) (As := [.int v2]) (q0 := 0) hx hb hml hown hA (kX8_at l G aE0 aE1 16 le v2 r_13 q_14 (by decide)) g_X9_204 gd_X8_at ⟨(Nat.le_of_ble_eq_true rfl), (Nat.le_of_ble_eq_true rfl)⟩ (hZ.at hS) (hP.sub [14, 15] rfl) rfl rfl rfl hl.1 (Nat.le_of_ble_eq_true rfl) ⟨(Nat.le_of_ble_eq_true rfl), (Nat.le_of_ble_eq_true rfl)⟩ dX9_countPasses_78 ?_
                refine W.eq (g2 := F0 m 81 ls [.int r_13, .int 0, .int v2, .ref aE0]) rfl ?_
                refine lv_aload_n hx hb dX9_countPasses_81 rfl (lv_at hl 0 rfl) ?_
                refine gf_X9_10 hx hb hown hA hP 0 rfl rfl dX9_countPasses_82 ?_
                refine gf_X9_95 hx hb hown hA hP 1 rfl rfl dX9_countPasses_85 ?_
                obtain ⟨r_15, q_16, hf⟩ := obd hf
                refine ro_v (n := 0) (As := []) (q0 := 0) hx hb hml hown hA (kX1_reach l G aL4 csh cde csp r_15 q_16) g_X9_231 gd_X1_reach ⟨(Nat.le_of_ble_eq_true rfl), (Nat.le_of_ble_eq_true rfl)⟩ (hZ.at hS) (hP.sub [5] rfl) rfl rfl rfl hl.1 (Nat.le_of_ble_eq_true rfl) ⟨(Nat.le_of_ble_eq_true rfl), (Nat.le_of_ble_eq_true rfl)⟩ dX9_countPasses_88 ?_
                refine W.eq (g2 := F0 m 91 ls [.int r_15, .int r_13, .int 0, .int v2, .ref aE0]) rfl ?_
                refine lv_isub hx hb dX9_countPasses_91 ?_
                refine va_mmax hx hb (hml.trans hl.1.symm) hown (hA.hts _ wd_407) (hA.hts _ wd_23) (hA.hts _ wd_24) (hA.hts _ wd_25) (Nat.le_of_ble_eq_true rfl) (Nat.le_of_ble_eq_true rfl) (Nat.le_of_ble_eq_true rfl) (Nat.le_of_ble_eq_true rfl) dX9_countPasses_92 ?_
                obtain ⟨rf_17, q_18, hf⟩ := obd hf
                refine wr_v (n := 2) (As := [.int v2, .int (mxI 0 (r_13 - r_15))]) (q0 := 0) (wr := [(a0, .inr (9, [.ref aL0, .ref aH0, .ref aT0, .ref aW0, .ref aE0])), (aL0, .inr (4, [.ref aL1, .ref aL3, .ref aL4, .ref aL5, .ref aL12, .int ltol, .int lchi, .int ljam])), (aL1, .inr (6, [.ref aL2, .int mch])), (aL2, .inl (G.2.1, 48, .inl md)), (aL3, .inr (2, [.int fra, .int fwe, .int fof, .int fsi])), (aL4, .inr (1, [.int csh, .int cde, .int csp])), (aL5, .inr (7, [.ref aL6, .ref aL8, .ref aL10, .int rco, .int rmo])), (aL6, .inr (8, [.ref aL7])), (aL7, .inl (G.2.1, 80, .inl rd)), (aL8, .inr (8, [.ref aL9])), (aL9, .inl (G.2.1, 5, .inl rw)), (aL10, .inr (8, [.ref aL11])), (aL11, .inl (G.2.1, 5, .inl rp)), (aL12, .inr (0, [.int apa, .int awo, .int ash, .int aja, .int abu]))]) (w2 := fun _ => [(a0, .inr (9, [.ref aL0, .ref aH0, .ref aT0, .ref aW0, .ref aE0])), (aL0, .inr (4, [.ref aL1, .ref aL3, .ref aL4, .ref aL5, .ref aL12, .int ltol, .int lchi, .int ljam])), (aL1, .inr (6, [.ref aL2, .int mch])), (aL2, .inl (G.2.1, 48, .inl md)), (aL3, .inr (2, [.int fra, .int fwe, .int fof, .int fsi])), (aL4, .inr (1, [.int csh, .int cde, .int csp])), (aL5, .inr (7, [.ref aL6, .ref aL8, .ref aL10, .int rco, .int rmo])), (aL6, .inr (8, [.ref aL7])), (aL7, .inl (G.2.1, 80, .inl rd)), (aL8, .inr (8, [.ref aL9])), (aL9, .inl (G.2.1, 5, .inl rw)), (aL10, .inr (8, [.ref aL11])), (aL11, .inl (G.2.1, 5, .inl rp)), (aL12, .inr (0, [.int apa, .int awo, .int ash, .int aja, .int abu])), (aE0, .inr (8, [.ref aE1])), (aE1, .inl (G.2.1, 16, .inl rf_17))]) hx hb hml hown hA (kX8_put l G aE0 aE1 16 le v2 (mxI 0 (r_13 - r_15)) rf_17 q_18 (by decide)) g_X9_357 gd_X8_put ⟨(Nat.le_of_ble_eq_true rfl), (Nat.le_of_ble_eq_true rfl)⟩ hZ hP hD hS hA0 rfl rfl [14, 15] [0, 1, 2, 3, 4, 5, 6, 7, 8, 9, 10, 11, 12, 13] [0, 1, 2, 3, 4, 5, 6, 7, 8, 9, 10, 11, 12, 13, 14, 15] rfl rfl rfl rfl (by decide) (fun _ => rfl) rfl rfl hl.1 (Nat.le_of_ble_eq_true rfl) ⟨(Nat.le_of_ble_eq_true rfl), (Nat.le_of_ble_eq_true rfl)⟩ dX9_countPasses_95 (fun _ H locs hP hD hS => ?_)
                refine W.eq (g2 := F0 m 98 ls []) rfl ?_
                refine lv_iinc (v := v2 + 1) (lv' := [(2, .int (v2 + 1)), (0, .ref a0), (1, .int v1)]) hx hb dX9_countPasses_98 hl (k := 2) rfl rfl (by decide) rfl (fun ls hl => ?_)
                refine lv_goto (tgt := 61) hx hb dX9_countPasses_101 (by decide) ?_
                exact ih _ _ _ _ hf _ _ hP hD hS ls (lv_sub hl [1, 2, 0] rfl) kk
          obtain ⟨le_19, q_20, hf⟩ := obd hf
          refine lp61 _ _ _ _ _ _ q_20 _ _ hP hD hS ls (lv_sub hl [1, 2, 0] rfl) (fun H locs ls hP hD hS hl => ?_)
          refine lv_iinc (v := v1 + 1) (lv' := [(1, .int (v1 + 1)), (0, .ref a0)]) hx hb dX9_countPasses_104 hl (k := 1) rfl rfl (by decide) rfl (fun ls hl => ?_)
          refine lv_goto (tgt := 42) hx hb dX9_countPasses_107 (by decide) ?_
          exact ih _ _ _ _ _ hf _ _ hP hD hS ls (lv_sub hl [1, 0] rfl) kk
  obtain ⟨⟨x1_21, le_22⟩, q_23, hf⟩ := obd hf
  dsimp only at hf
  refine lp42 _ _ _ _ _ _ q_23 _ _ hP hD hS ls (lv_sub hl [1, 0] rfl) (fun H locs ls hP hD hS hl => ?_)
  refine lv_iload_n hx hb dX9_countPasses_110 rfl (lv_at hl 0 rfl) ?_
  cases hf
  exact wr_iret () hx hb hr hlk hP hD hS dX9_countPasses_111
def fX9_passesBySteps (md : Nat → Int32) (mch : Int32) (fra : Int32) (fwe : Int32) (fof : Int32) (csh : Int32) (cde : Int32) (rd : Nat → Int32) (rmo : Int32) (le : Nat → Int32)  : Option (Nat ⊕ (Int32 × (Nat → Int32))) :=
  ((fX9_checkMounted rmo).bind fun z => match z with | .inl e => some (.inl e) | .inr _ => ((fX1_isSharp csh).bind fun r_2 => ((fX9_checkState r_2).bind fun z => match z with | .inl e => some (.inl e) | .inr _ => (Option.map Sum.inr (((fX9_countPasses md mch fra fwe fof csh cde rd rmo le).bind fun (r_5, le_6) => some (r_5, le_6)))))))
set_option maxHeartbeats 4000000 in
set_option maxRecDepth 100000 in
theorem kX9_passesBySteps (l : Launch) (G : GG) (a0 aL0 aL1 aL2 aL3 aL4 aL5 aL6 aL7 aL8 aL9 aL10 aL11 aL12 aE0 aE1 aH0 aT0 aW0 : Nat) (md : Nat → Int32) (mch : Int32) (fra : Int32) (fwe : Int32) (fof : Int32) (fsi : Int32) (csh : Int32) (cde : Int32) (csp : Int32) (rd : Nat → Int32) (rw : Nat → Int32) (rp : Nat → Int32) (rco : Int32) (rmo : Int32) (apa : Int32) (awo : Int32) (ash : Int32) (aja : Int32) (abu : Int32) (ltol : Int32) (lchi : Int32) (ljam : Int32) (le : Nat → Int32)  (r_0 : Int32) (le_0 : Nat → Int32) (hf : fX9_passesBySteps md mch fra fwe fof csh cde rd rmo le = some (.inr (r_0, le_0))) : Wr l G yX9_passesBySteps cX9_passesBySteps 1 (some .int) 8 121 0 0 [.ref a0] [(a0, .inr (9, [.ref aL0, .ref aH0, .ref aT0, .ref aW0, .ref aE0])), (aL0, .inr (4, [.ref aL1, .ref aL3, .ref aL4, .ref aL5, .ref aL12, .int ltol, .int lchi, .int ljam])), (aL1, .inr (6, [.ref aL2, .int mch])), (aL2, .inl (G.2.1, 48, .inl md)), (aL3, .inr (2, [.int fra, .int fwe, .int fof, .int fsi])), (aL4, .inr (1, [.int csh, .int cde, .int csp])), (aL5, .inr (7, [.ref aL6, .ref aL8, .ref aL10, .int rco, .int rmo])), (aL6, .inr (8, [.ref aL7])), (aL7, .inl (G.2.1, 80, .inl rd)), (aL8, .inr (8, [.ref aL9])), (aL9, .inl (G.2.1, 5, .inl rw)), (aL10, .inr (8, [.ref aL11])), (aL11, .inl (G.2.1, 5, .inl rp)), (aL12, .inr (0, [.int apa, .int awo, .int ash, .int aja, .int abu])), (aE0, .inr (8, [.ref aE1])), (aE1, .inl (G.2.1, 16, .inl le))] (X := Unit) (fun _ => [(a0, .inr (9, [.ref aL0, .ref aH0, .ref aT0, .ref aW0, .ref aE0])), (aL0, .inr (4, [.ref aL1, .ref aL3, .ref aL4, .ref aL5, .ref aL12, .int ltol, .int lchi, .int ljam])), (aL1, .inr (6, [.ref aL2, .int mch])), (aL2, .inl (G.2.1, 48, .inl md)), (aL3, .inr (2, [.int fra, .int fwe, .int fof, .int fsi])), (aL4, .inr (1, [.int csh, .int cde, .int csp])), (aL5, .inr (7, [.ref aL6, .ref aL8, .ref aL10, .int rco, .int rmo])), (aL6, .inr (8, [.ref aL7])), (aL7, .inl (G.2.1, 80, .inl rd)), (aL8, .inr (8, [.ref aL9])), (aL9, .inl (G.2.1, 5, .inl rw)), (aL10, .inr (8, [.ref aL11])), (aL11, .inl (G.2.1, 5, .inl rp)), (aL12, .inr (0, [.int apa, .int awo, .int ash, .int aja, .int abu])), (aE0, .inr (8, [.ref aE1])), (aE1, .inl (G.2.1, 16, .inl le_0))]) (some (.int r_0)) := by
  refine wr_of (by decide) (Nat.le_of_ble_eq_true rfl) ?_
  intro p e s m args below meth c ls A hx hb hr hml hown hlk hA hZ hP hD hS hA0 hin hl
  have hP : va_P G.1 vwCl [(a0, .inr (9, [.ref aL0, .ref aH0, .ref aT0, .ref aW0, .ref aE0])), (aL0, .inr (4, [.ref aL1, .ref aL3, .ref aL4, .ref aL5, .ref aL12, .int ltol, .int lchi, .int ljam])), (aL1, .inr (6, [.ref aL2, .int mch])), (aL2, .inl (G.2.1, 48, .inl md)), (aL3, .inr (2, [.int fra, .int fwe, .int fof, .int fsi])), (aL4, .inr (1, [.int csh, .int cde, .int csp])), (aL5, .inr (7, [.ref aL6, .ref aL8, .ref aL10, .int rco, .int rmo])), (aL6, .inr (8, [.ref aL7])), (aL7, .inl (G.2.1, 80, .inl rd)), (aL8, .inr (8, [.ref aL9])), (aL9, .inl (G.2.1, 5, .inl rw)), (aL10, .inr (8, [.ref aL11])), (aL11, .inl (G.2.1, 5, .inl rp)), (aL12, .inr (0, [.int apa, .int awo, .int ash, .int aja, .int abu])), (aE0, .inr (8, [.ref aE1])), (aE1, .inl (G.2.1, 16, .inl le))] s.heap := hP
  replace hown : s.vm.findClass RX9 = some m.cls := hown
  replace hl : lv_has ls 1 [(0, .ref a0)] := hl
  unfold fX9_passesBySteps at hf
  refine lv_aload_n hx hb dX9_passesBySteps_0 rfl (lv_at hl 0 rfl) ?_
  obtain ⟨e9 | u9, q_1, hf⟩ := obd hf
  · dsimp only at hf
    cases hf
  dsimp only at hf
  refine ro_v (n := 0) (As := []) (q0 := 0) hx hb hml hown hA (kX9_checkMounted l G a0 aL0 aL1 aL2 aL3 aL4 aL5 aL6 aL7 aL8 aL9 aL10 aL11 aL12 aH0 aT0 aW0 aE0 md mch fra fwe fof fsi csh cde csp rd rw rp rco rmo apa awo ash aja abu ltol lchi ljam q_1) g_X9_165 gd_X9_checkMounted ⟨(Nat.le_of_ble_eq_true rfl), (Nat.le_of_ble_eq_true rfl)⟩ (hZ.at hS) (hP.sub [0, 1, 2, 3, 4, 5, 6, 7, 8, 9, 10, 11, 12, 13] rfl) rfl rfl rfl hl.1 (Nat.le_of_ble_eq_true rfl) ⟨(Nat.le_of_ble_eq_true rfl), (Nat.le_of_ble_eq_true rfl)⟩ dX9_passesBySteps_1 ?_
  refine W.eq (g2 := F0 m 4 ls []) rfl ?_
  refine lv_aload_n hx hb dX9_passesBySteps_4 rfl (lv_at hl 0 rfl) ?_
  refine gf_X9_10 hx hb hown hA hP 0 rfl rfl dX9_passesBySteps_5 ?_
  refine gf_X9_95 hx hb hown hA hP 1 rfl rfl dX9_passesBySteps_8 ?_
  obtain ⟨r_2, q_3, hf⟩ := obd hf
  refine ro_v (n := 0) (As := []) (q0 := 0) hx hb hml hown hA (kX1_isSharp l G aL4 csh cde csp r_2 q_3) g_X9_289 gd_X1_isSharp ⟨(Nat.le_of_ble_eq_true rfl), (Nat.le_of_ble_eq_true rfl)⟩ (hZ.at hS) (hP.sub [5] rfl) rfl rfl rfl hl.1 (Nat.le_of_ble_eq_true rfl) ⟨(Nat.le_of_ble_eq_true rfl), (Nat.le_of_ble_eq_true rfl)⟩ dX9_passesBySteps_11 ?_
  refine W.eq (g2 := F0 m 14 ls [.int r_2]) rfl ?_
  obtain ⟨e9 | u9, q_4, hf⟩ := obd hf
  · dsimp only at hf
    cases hf
  dsimp only at hf
  replace hf := omr hf
  refine ro_s (n := 1) (As := [.int r_2]) hx hb hml hown hA (kX9_checkState l G r_2 q_4) g_X9_142 gd_X9_checkState ⟨(Nat.le_of_ble_eq_true rfl), (Nat.le_of_ble_eq_true rfl)⟩ (hZ.at hS) (fun _ _ h => by simp at h) rfl hl.1 (Nat.le_of_ble_eq_true rfl) ⟨(Nat.le_of_ble_eq_true rfl), (Nat.le_of_ble_eq_true rfl)⟩ dX9_passesBySteps_14 ?_
  refine W.eq (g2 := F0 m 17 ls []) rfl ?_
  refine lv_aload_n hx hb dX9_passesBySteps_17 rfl (lv_at hl 0 rfl) ?_
  obtain ⟨⟨r_5, le_6⟩, q_7, hf⟩ := obd hf
  dsimp only at hf
  refine wr_v (n := 0) (As := []) (q0 := 0) (wr := []) (w2 := fun _ => [(a0, .inr (9, [.ref aL0, .ref aH0, .ref aT0, .ref aW0, .ref aE0])), (aL0, .inr (4, [.ref aL1, .ref aL3, .ref aL4, .ref aL5, .ref aL12, .int ltol, .int lchi, .int ljam])), (aL1, .inr (6, [.ref aL2, .int mch])), (aL2, .inl (G.2.1, 48, .inl md)), (aL3, .inr (2, [.int fra, .int fwe, .int fof, .int fsi])), (aL4, .inr (1, [.int csh, .int cde, .int csp])), (aL5, .inr (7, [.ref aL6, .ref aL8, .ref aL10, .int rco, .int rmo])), (aL6, .inr (8, [.ref aL7])), (aL7, .inl (G.2.1, 80, .inl rd)), (aL8, .inr (8, [.ref aL9])), (aL9, .inl (G.2.1, 5, .inl rw)), (aL10, .inr (8, [.ref aL11])), (aL11, .inl (G.2.1, 5, .inl rp)), (aL12, .inr (0, [.int apa, .int awo, .int ash, .int aja, .int abu])), (aE0, .inr (8, [.ref aE1])), (aE1, .inl (G.2.1, 16, .inl le_6))]) hx hb hml hown hA (kX9_countPasses l G a0 aL0 aL1 aL2 aL3 aL4 aL5 aL6 aL7 aL8 aL9 aL10 aL11 aL12 aE0 aE1 aH0 aT0 aW0 md mch fra fwe fof fsi csh cde csp rd rw rp rco rmo apa awo ash aja abu ltol lchi ljam le r_5 le_6 q_7) g_X9_292 gd_X9_countPasses ⟨(Nat.le_of_ble_eq_true rfl), (Nat.le_of_ble_eq_true rfl)⟩ hZ hP hD hS hA0 rfl rfl [0, 1, 2, 3, 4, 5, 6, 7, 8, 9, 10, 11, 12, 13, 14, 15] [] [0, 1, 2, 3, 4, 5, 6, 7, 8, 9, 10, 11, 12, 13, 14, 15] rfl rfl rfl rfl (by decide) (fun _ => rfl) rfl rfl hl.1 (Nat.le_of_ble_eq_true rfl) ⟨(Nat.le_of_ble_eq_true rfl), (Nat.le_of_ble_eq_true rfl)⟩ dX9_passesBySteps_18 (fun _ H locs hP hD hS => ?_)
  refine W.eq (g2 := F0 m 21 ls [.int r_5]) rfl ?_
  cases hf
  exact wr_iret () hx hb hr hlk hP hD hS dX9_passesBySteps_21
def fX9_dividedUp  (i1 : Int32) (i2 : Int32) : Option (Int32) :=
  (if 0 < i2 then (if ¬ i2 = 0 then some (((i1 + i2) - 1) / i2) else none) else some 0)
set_option maxHeartbeats 4000000 in
set_option maxRecDepth 100000 in
theorem kX9_dividedUp (l : Launch) (G : GG)  (i1 : Int32) (i2 : Int32) (r_0 : Int32) (hf : fX9_dividedUp i1 i2 = some r_0) : Ro l G yX9_dividedUp cX9_dividedUp 2 (some .int) 0 0 [.int i1, .int i2] [] (some (.int r_0)) := by
  refine ro_of (by decide) (Nat.le_of_ble_eq_true rfl) ?_
  intro p e s m args below meth c ls hx hb hr hml hown hlk hA hZ hP hl
  replace hown : s.vm.findClass RX9 = some m.cls := hown
  replace hl : lv_has ls 2 [(0, .int i1), (1, .int i2)] := hl
  unfold fX9_dividedUp at hf
  refine lv_iload_n hx hb dX9_dividedUp_0 rfl (lv_at hl 1 rfl) ?_
  refine lv_if_gt (tgt := 8) hx hb dX9_dividedUp_1 (by decide) (fun c_1 => ?_) (fun c_1 => ?_)
  · replace hf := ifp c_1 hf
    refine lv_iload_n hx hb dX9_dividedUp_8 rfl (lv_at hl 0 rfl) ?_
    refine lv_iload_n hx hb dX9_dividedUp_9 rfl (lv_at hl 1 rfl) ?_
    refine lv_iadd hx hb dX9_dividedUp_10 ?_
    refine lv_iconst (v := 1) hx hb dX9_dividedUp_11 (by decide) ?_
    refine lv_isub hx hb dX9_dividedUp_12 ?_
    refine lv_iload_n hx hb dX9_dividedUp_13 rfl (lv_at hl 1 rfl) ?_
    obtain ⟨z_2, hf⟩ := ock hf
    refine lv_idiv hx hb dX9_dividedUp_14 z_2 ?_
    cases hf
    exact ro_iret hx hb hr hlk dX9_dividedUp_15
  · replace hf := ifn c_1 hf
    refine lv_iconst (v := 0) hx hb dX9_dividedUp_4 (by decide) ?_
    refine lv_goto (tgt := 15) hx hb dX9_dividedUp_5 (by decide) ?_
    cases hf
    exact ro_iret hx hb hr hlk dX9_dividedUp_15
def fX9_passesByDivision (md : Nat → Int32) (mch : Int32) (fra : Int32) (fwe : Int32) (fof : Int32) (csh : Int32) (cde : Int32) (rd : Nat → Int32) (rmo : Int32)  : Option (Nat ⊕ (Int32)) :=
  ((fX9_checkMounted rmo).bind fun z => match z with | .inl e => some (.inl e) | .inr _ => ((fX1_isSharp csh).bind fun r_2 => ((fX9_checkState r_2).bind fun z => match z with | .inl e => some (.inl e) | .inr _ => (Option.map Sum.inr (((fX4_mostAbove md mch fra fwe fof rd rmo).bind fun r_5 => ((fX1_reach csh cde).bind fun r_7 => ((fX9_dividedUp r_5 r_7).bind fun r_9 => some r_9))))))))
set_option maxHeartbeats 4000000 in
set_option maxRecDepth 100000 in
theorem kX9_passesByDivision (l : Launch) (G : GG) (a0 aL0 aL1 aL2 aL3 aL4 aL5 aL6 aL7 aL8 aL9 aL10 aL11 aL12 aH0 aT0 aW0 aE0 : Nat) (md : Nat → Int32) (mch : Int32) (fra : Int32) (fwe : Int32) (fof : Int32) (fsi : Int32) (csh : Int32) (cde : Int32) (csp : Int32) (rd : Nat → Int32) (rw : Nat → Int32) (rp : Nat → Int32) (rco : Int32) (rmo : Int32) (apa : Int32) (awo : Int32) (ash : Int32) (aja : Int32) (abu : Int32) (ltol : Int32) (lchi : Int32) (ljam : Int32)  (r_0 : Int32) (hf : fX9_passesByDivision md mch fra fwe fof csh cde rd rmo = some (.inr r_0)) : Ro l G yX9_passesByDivision cX9_passesByDivision 1 (some .int) 8 121 [.ref a0] [(a0, .inr (9, [.ref aL0, .ref aH0, .ref aT0, .ref aW0, .ref aE0])), (aL0, .inr (4, [.ref aL1, .ref aL3, .ref aL4, .ref aL5, .ref aL12, .int ltol, .int lchi, .int ljam])), (aL1, .inr (6, [.ref aL2, .int mch])), (aL2, .inl (G.2.1, 48, .inl md)), (aL3, .inr (2, [.int fra, .int fwe, .int fof, .int fsi])), (aL4, .inr (1, [.int csh, .int cde, .int csp])), (aL5, .inr (7, [.ref aL6, .ref aL8, .ref aL10, .int rco, .int rmo])), (aL6, .inr (8, [.ref aL7])), (aL7, .inl (G.2.1, 80, .inl rd)), (aL8, .inr (8, [.ref aL9])), (aL9, .inl (G.2.1, 5, .inl rw)), (aL10, .inr (8, [.ref aL11])), (aL11, .inl (G.2.1, 5, .inl rp)), (aL12, .inr (0, [.int apa, .int awo, .int ash, .int aja, .int abu]))] (some (.int r_0)) := by
  refine ro_of (by decide) (Nat.le_of_ble_eq_true rfl) ?_
  intro p e s m args below meth c ls hx hb hr hml hown hlk hA hZ hP hl
  replace hown : s.vm.findClass RX9 = some m.cls := hown
  replace hl : lv_has ls 1 [(0, .ref a0)] := hl
  unfold fX9_passesByDivision at hf
  refine lv_aload_n hx hb dX9_passesByDivision_0 rfl (lv_at hl 0 rfl) ?_
  obtain ⟨e9 | u9, q_1, hf⟩ := obd hf
  · dsimp only at hf
    cases hf
  dsimp only at hf
  refine ro_v (n := 0) (As := []) (q0 := 0) hx hb hml hown hA (kX9_checkMounted l G a0 aL0 aL1 aL2 aL3 aL4 aL5 aL6 aL7 aL8 aL9 aL10 aL11 aL12 aH0 aT0 aW0 aE0 md mch fra fwe fof fsi csh cde csp rd rw rp rco rmo apa awo ash aja abu ltol lchi ljam q_1) g_X9_165 gd_X9_checkMounted ⟨(Nat.le_of_ble_eq_true rfl), (Nat.le_of_ble_eq_true rfl)⟩ hZ (hP.sub [0, 1, 2, 3, 4, 5, 6, 7, 8, 9, 10, 11, 12, 13] rfl) rfl rfl rfl hl.1 (Nat.le_of_ble_eq_true rfl) ⟨(Nat.le_of_ble_eq_true rfl), (Nat.le_of_ble_eq_true rfl)⟩ dX9_passesByDivision_1 ?_
  refine W.eq (g2 := F0 m 4 ls []) rfl ?_
  refine lv_aload_n hx hb dX9_passesByDivision_4 rfl (lv_at hl 0 rfl) ?_
  refine gf_X9_10 hx hb hown hA hP 0 rfl rfl dX9_passesByDivision_5 ?_
  refine gf_X9_95 hx hb hown hA hP 1 rfl rfl dX9_passesByDivision_8 ?_
  obtain ⟨r_2, q_3, hf⟩ := obd hf
  refine ro_v (n := 0) (As := []) (q0 := 0) hx hb hml hown hA (kX1_isSharp l G aL4 csh cde csp r_2 q_3) g_X9_289 gd_X1_isSharp ⟨(Nat.le_of_ble_eq_true rfl), (Nat.le_of_ble_eq_true rfl)⟩ hZ (hP.sub [5] rfl) rfl rfl rfl hl.1 (Nat.le_of_ble_eq_true rfl) ⟨(Nat.le_of_ble_eq_true rfl), (Nat.le_of_ble_eq_true rfl)⟩ dX9_passesByDivision_11 ?_
  refine W.eq (g2 := F0 m 14 ls [.int r_2]) rfl ?_
  obtain ⟨e9 | u9, q_4, hf⟩ := obd hf
  · dsimp only at hf
    cases hf
  dsimp only at hf
  replace hf := omr hf
  refine ro_s (n := 1) (As := [.int r_2]) hx hb hml hown hA (kX9_checkState l G r_2 q_4) g_X9_142 gd_X9_checkState ⟨(Nat.le_of_ble_eq_true rfl), (Nat.le_of_ble_eq_true rfl)⟩ hZ (fun _ _ h => by simp at h) rfl hl.1 (Nat.le_of_ble_eq_true rfl) ⟨(Nat.le_of_ble_eq_true rfl), (Nat.le_of_ble_eq_true rfl)⟩ dX9_passesByDivision_14 ?_
  refine W.eq (g2 := F0 m 17 ls []) rfl ?_
  refine lv_aload_n hx hb dX9_passesByDivision_17 rfl (lv_at hl 0 rfl) ?_
  refine gf_X9_10 hx hb hown hA hP 0 rfl rfl dX9_passesByDivision_18 ?_
  refine lv_aload_n hx hb dX9_passesByDivision_21 rfl (lv_at hl 0 rfl) ?_
  refine gf_X9_10 hx hb hown hA hP 0 rfl rfl dX9_passesByDivision_22 ?_
  refine gf_X9_133 hx hb hown hA hP 1 rfl rfl dX9_passesByDivision_25 ?_
  refine gf_X9_152 hx hb hown hA hP 6 rfl rfl dX9_passesByDivision_28 ?_
  obtain ⟨r_5, q_6, hf⟩ := obd hf
  refine ro_v (n := 1) (As := [.int rmo]) (q0 := 0) hx hb hml hown hA (kX4_mostAbove l G aL0 aL1 aL2 aL3 aL4 aL5 aL6 aL7 aL8 aL9 aL10 aL11 aL12 md mch fra fwe fof fsi csh cde csp rd rw rp rco rmo apa awo ash aja abu ltol lchi ljam rmo r_5 q_6) g_X9_178 gd_X4_mostAbove ⟨(Nat.le_of_ble_eq_true rfl), (Nat.le_of_ble_eq_true rfl)⟩ hZ (hP.sub [1, 2, 3, 4, 5, 6, 7, 8, 9, 10, 11, 12, 13] rfl) rfl rfl rfl hl.1 (Nat.le_of_ble_eq_true rfl) ⟨(Nat.le_of_ble_eq_true rfl), (Nat.le_of_ble_eq_true rfl)⟩ dX9_passesByDivision_31 ?_
  refine W.eq (g2 := F0 m 34 ls [.int r_5]) rfl ?_
  refine lv_aload_n hx hb dX9_passesByDivision_34 rfl (lv_at hl 0 rfl) ?_
  refine gf_X9_10 hx hb hown hA hP 0 rfl rfl dX9_passesByDivision_35 ?_
  refine gf_X9_95 hx hb hown hA hP 1 rfl rfl dX9_passesByDivision_38 ?_
  obtain ⟨r_7, q_8, hf⟩ := obd hf
  refine ro_v (n := 0) (As := []) (q0 := 0) hx hb hml hown hA (kX1_reach l G aL4 csh cde csp r_7 q_8) g_X9_231 gd_X1_reach ⟨(Nat.le_of_ble_eq_true rfl), (Nat.le_of_ble_eq_true rfl)⟩ hZ (hP.sub [5] rfl) rfl rfl rfl hl.1 (Nat.le_of_ble_eq_true rfl) ⟨(Nat.le_of_ble_eq_true rfl), (Nat.le_of_ble_eq_true rfl)⟩ dX9_passesByDivision_41 ?_
  refine W.eq (g2 := F0 m 44 ls [.int r_7, .int r_5]) rfl ?_
  obtain ⟨r_9, q_10, hf⟩ := obd hf
  refine ro_s (n := 2) (As := [.int r_5, .int r_7]) hx hb hml hown hA (kX9_dividedUp l G r_5 r_7 r_9 q_10) g_X9_295 gd_X9_dividedUp ⟨(Nat.le_of_ble_eq_true rfl), (Nat.le_of_ble_eq_true rfl)⟩ hZ (fun _ _ h => by simp at h) rfl hl.1 (Nat.le_of_ble_eq_true rfl) ⟨(Nat.le_of_ble_eq_true rfl), (Nat.le_of_ble_eq_true rfl)⟩ dX9_passesByDivision_44 ?_
  refine W.eq (g2 := F0 m 47 ls [.int r_9]) rfl ?_
  cases hf
  exact ro_iret hx hb hr hlk dX9_passesByDivision_47
def fX9_passesUntilBlunt (csh : Int32) (csp : Int32) (rw : Nat → Int32) (rmo : Int32)  : Option (Nat ⊕ (Int32)) :=
  ((fX9_checkMounted rmo).bind fun z => match z with | .inl e => some (.inl e) | .inr _ => (Option.map Sum.inr (((fX4_blunting csp rw rmo).bind fun r_2 => ((fX9_dividedUp csh r_2).bind fun r_4 => some r_4)))))
set_option maxHeartbeats 4000000 in
set_option maxRecDepth 100000 in
theorem kX9_passesUntilBlunt (l : Launch) (G : GG) (a0 aL0 aL1 aL2 aL3 aL4 aL5 aL6 aL7 aL8 aL9 aL10 aL11 aL12 aH0 aT0 aW0 aE0 : Nat) (md : Nat → Int32) (mch : Int32) (fra : Int32) (fwe : Int32) (fof : Int32) (fsi : Int32) (csh : Int32) (cde : Int32) (csp : Int32) (rd : Nat → Int32) (rw : Nat → Int32) (rp : Nat → Int32) (rco : Int32) (rmo : Int32) (apa : Int32) (awo : Int32) (ash : Int32) (aja : Int32) (abu : Int32) (ltol : Int32) (lchi : Int32) (ljam : Int32)  (r_0 : Int32) (hf : fX9_passesUntilBlunt csh csp rw rmo = some (.inr r_0)) : Ro l G yX9_passesUntilBlunt cX9_passesUntilBlunt 1 (some .int) 8 121 [.ref a0] [(a0, .inr (9, [.ref aL0, .ref aH0, .ref aT0, .ref aW0, .ref aE0])), (aL0, .inr (4, [.ref aL1, .ref aL3, .ref aL4, .ref aL5, .ref aL12, .int ltol, .int lchi, .int ljam])), (aL1, .inr (6, [.ref aL2, .int mch])), (aL2, .inl (G.2.1, 48, .inl md)), (aL3, .inr (2, [.int fra, .int fwe, .int fof, .int fsi])), (aL4, .inr (1, [.int csh, .int cde, .int csp])), (aL5, .inr (7, [.ref aL6, .ref aL8, .ref aL10, .int rco, .int rmo])), (aL6, .inr (8, [.ref aL7])), (aL7, .inl (G.2.1, 80, .inl rd)), (aL8, .inr (8, [.ref aL9])), (aL9, .inl (G.2.1, 5, .inl rw)), (aL10, .inr (8, [.ref aL11])), (aL11, .inl (G.2.1, 5, .inl rp)), (aL12, .inr (0, [.int apa, .int awo, .int ash, .int aja, .int abu]))] (some (.int r_0)) := by
  refine ro_of (by decide) (Nat.le_of_ble_eq_true rfl) ?_
  intro p e s m args below meth c ls hx hb hr hml hown hlk hA hZ hP hl
  replace hown : s.vm.findClass RX9 = some m.cls := hown
  replace hl : lv_has ls 1 [(0, .ref a0)] := hl
  unfold fX9_passesUntilBlunt at hf
  refine lv_aload_n hx hb dX9_passesUntilBlunt_0 rfl (lv_at hl 0 rfl) ?_
  obtain ⟨e9 | u9, q_1, hf⟩ := obd hf
  · dsimp only at hf
    cases hf
  dsimp only at hf
  replace hf := omr hf
  refine ro_v (n := 0) (As := []) (q0 := 0) hx hb hml hown hA (kX9_checkMounted l G a0 aL0 aL1 aL2 aL3 aL4 aL5 aL6 aL7 aL8 aL9 aL10 aL11 aL12 aH0 aT0 aW0 aE0 md mch fra fwe fof fsi csh cde csp rd rw rp rco rmo apa awo ash aja abu ltol lchi ljam q_1) g_X9_165 gd_X9_checkMounted ⟨(Nat.le_of_ble_eq_true rfl), (Nat.le_of_ble_eq_true rfl)⟩ hZ (hP.sub [0, 1, 2, 3, 4, 5, 6, 7, 8, 9, 10, 11, 12, 13] rfl) rfl rfl rfl hl.1 (Nat.le_of_ble_eq_true rfl) ⟨(Nat.le_of_ble_eq_true rfl), (Nat.le_of_ble_eq_true rfl)⟩ dX9_passesUntilBlunt_1 ?_
  refine W.eq (g2 := F0 m 4 ls []) rfl ?_
  refine lv_aload_n hx hb dX9_passesUntilBlunt_4 rfl (lv_at hl 0 rfl) ?_
  refine gf_X9_10 hx hb hown hA hP 0 rfl rfl dX9_passesUntilBlunt_5 ?_
  refine gf_X9_95 hx hb hown hA hP 1 rfl rfl dX9_passesUntilBlunt_8 ?_
  refine gf_X9_99 hx hb hown hA hP 5 rfl rfl dX9_passesUntilBlunt_11 ?_
  refine lv_aload_n hx hb dX9_passesUntilBlunt_14 rfl (lv_at hl 0 rfl) ?_
  refine gf_X9_10 hx hb hown hA hP 0 rfl rfl dX9_passesUntilBlunt_15 ?_
  obtain ⟨r_2, q_3, hf⟩ := obd hf
  refine ro_v (n := 0) (As := []) (q0 := 0) hx hb hml hown hA (kX4_blunting l G aL0 aL1 aL2 aL3 aL4 aL5 aL6 aL7 aL8 aL9 aL10 aL11 aL12 md mch fra fwe fof fsi csh cde csp rd rw rp rco rmo apa awo ash aja abu ltol lchi ljam r_2 q_3) g_X9_298 gd_X4_blunting ⟨(Nat.le_of_ble_eq_true rfl), (Nat.le_of_ble_eq_true rfl)⟩ hZ (hP.sub [1, 2, 3, 4, 5, 6, 7, 8, 9, 10, 11, 12, 13] rfl) rfl rfl rfl hl.1 (Nat.le_of_ble_eq_true rfl) ⟨(Nat.le_of_ble_eq_true rfl), (Nat.le_of_ble_eq_true rfl)⟩ dX9_passesUntilBlunt_18 ?_
  refine W.eq (g2 := F0 m 21 ls [.int r_2, .int csh]) rfl ?_
  obtain ⟨r_4, q_5, hf⟩ := obd hf
  refine ro_s (n := 2) (As := [.int csh, .int r_2]) hx hb hml hown hA (kX9_dividedUp l G csh r_2 r_4 q_5) g_X9_295 gd_X9_dividedUp ⟨(Nat.le_of_ble_eq_true rfl), (Nat.le_of_ble_eq_true rfl)⟩ hZ (fun _ _ h => by simp at h) rfl hl.1 (Nat.le_of_ble_eq_true rfl) ⟨(Nat.le_of_ble_eq_true rfl), (Nat.le_of_ble_eq_true rfl)⟩ dX9_passesUntilBlunt_21 ?_
  refine W.eq (g2 := F0 m 24 ls [.int r_4]) rfl ?_
  cases hf
  exact ro_iret hx hb hr hlk dX9_passesUntilBlunt_24
def fX9_chipsOf (md : Nat → Int32) (mch : Int32) (fra : Int32) (fwe : Int32) (fof : Int32) (rd : Nat → Int32) (rco : Int32) (i1 : Int32) : Option (Nat ⊕ (Int32)) :=
  ((fX9_checkPiece rco i1).bind fun z => match z with | .inl e => some (.inl e) | .inr _ => (Option.map Sum.inr (((fX4_allAbove md mch fra fwe fof rd i1).bind fun r_2 => some r_2))))
set_option maxHeartbeats 4000000 in
set_option maxRecDepth 100000 in
theorem kX9_chipsOf (l : Launch) (G : GG) (a0 aL0 aL1 aL2 aL3 aL4 aL5 aL6 aL7 aL8 aL9 aL10 aL11 aL12 aH0 aT0 aW0 aE0 : Nat) (md : Nat → Int32) (mch : Int32) (fra : Int32) (fwe : Int32) (fof : Int32) (fsi : Int32) (csh : Int32) (cde : Int32) (csp : Int32) (rd : Nat → Int32) (rw : Nat → Int32) (rp : Nat → Int32) (rco : Int32) (rmo : Int32) (apa : Int32) (awo : Int32) (ash : Int32) (aja : Int32) (abu : Int32) (ltol : Int32) (lchi : Int32) (ljam : Int32) (i1 : Int32) (r_0 : Int32) (hf : fX9_chipsOf md mch fra fwe fof rd rco i1 = some (.inr r_0)) : Ro l G yX9_chipsOf cX9_chipsOf 2 (some .int) 8 123 [.ref a0, .int i1] [(a0, .inr (9, [.ref aL0, .ref aH0, .ref aT0, .ref aW0, .ref aE0])), (aL0, .inr (4, [.ref aL1, .ref aL3, .ref aL4, .ref aL5, .ref aL12, .int ltol, .int lchi, .int ljam])), (aL1, .inr (6, [.ref aL2, .int mch])), (aL2, .inl (G.2.1, 48, .inl md)), (aL3, .inr (2, [.int fra, .int fwe, .int fof, .int fsi])), (aL4, .inr (1, [.int csh, .int cde, .int csp])), (aL5, .inr (7, [.ref aL6, .ref aL8, .ref aL10, .int rco, .int rmo])), (aL6, .inr (8, [.ref aL7])), (aL7, .inl (G.2.1, 80, .inl rd)), (aL8, .inr (8, [.ref aL9])), (aL9, .inl (G.2.1, 5, .inl rw)), (aL10, .inr (8, [.ref aL11])), (aL11, .inl (G.2.1, 5, .inl rp)), (aL12, .inr (0, [.int apa, .int awo, .int ash, .int aja, .int abu]))] (some (.int r_0)) := by
  refine ro_of (by decide) (Nat.le_of_ble_eq_true rfl) ?_
  intro p e s m args below meth c ls hx hb hr hml hown hlk hA hZ hP hl
  replace hown : s.vm.findClass RX9 = some m.cls := hown
  replace hl : lv_has ls 2 [(0, .ref a0), (1, .int i1)] := hl
  unfold fX9_chipsOf at hf
  refine lv_aload_n hx hb dX9_chipsOf_0 rfl (lv_at hl 0 rfl) ?_
  refine lv_iload_n hx hb dX9_chipsOf_1 rfl (lv_at hl 1 rfl) ?_
  obtain ⟨e9 | u9, q_1, hf⟩ := obd hf
  · dsimp only at hf
    cases hf
  dsimp only at hf
  replace hf := omr hf
  refine ro_v (n := 1) (As := [.int i1]) (q0 := 0) hx hb hml hown hA (kX9_checkPiece l G a0 aL0 aL1 aL2 aL3 aL4 aL5 aL6 aL7 aL8 aL9 aL10 aL11 aL12 aH0 aT0 aW0 aE0 md mch fra fwe fof fsi csh cde csp rd rw rp rco rmo apa awo ash aja abu ltol lchi ljam i1 q_1) g_X9_149 gd_X9_checkPiece ⟨(Nat.le_of_ble_eq_true rfl), (Nat.le_of_ble_eq_true rfl)⟩ hZ (hP.sub [0, 1, 2, 3, 4, 5, 6, 7, 8, 9, 10, 11, 12, 13] rfl) rfl rfl rfl hl.1 (Nat.le_of_ble_eq_true rfl) ⟨(Nat.le_of_ble_eq_true rfl), (Nat.le_of_ble_eq_true rfl)⟩ dX9_chipsOf_2 ?_
  refine W.eq (g2 := F0 m 5 ls []) rfl ?_
  refine lv_aload_n hx hb dX9_chipsOf_5 rfl (lv_at hl 0 rfl) ?_
  refine gf_X9_10 hx hb hown hA hP 0 rfl rfl dX9_chipsOf_6 ?_
  refine lv_iload_n hx hb dX9_chipsOf_9 rfl (lv_at hl 1 rfl) ?_
  obtain ⟨r_2, q_3, hf⟩ := obd hf
  refine ro_v (n := 1) (As := [.int i1]) (q0 := 0) hx hb hml hown hA (kX4_allAbove l G aL0 aL1 aL2 aL3 aL4 aL5 aL6 aL7 aL8 aL9 aL10 aL11 aL12 md mch fra fwe fof fsi csh cde csp rd rw rp rco rmo apa awo ash aja abu ltol lchi ljam i1 r_2 q_3) g_X9_301 gd_X4_allAbove ⟨(Nat.le_of_ble_eq_true rfl), (Nat.le_of_ble_eq_true rfl)⟩ hZ (hP.sub [1, 2, 3, 4, 5, 6, 7, 8, 9, 10, 11, 12, 13] rfl) rfl rfl rfl hl.1 (Nat.le_of_ble_eq_true rfl) ⟨(Nat.le_of_ble_eq_true rfl), (Nat.le_of_ble_eq_true rfl)⟩ dX9_chipsOf_10 ?_
  refine W.eq (g2 := F0 m 13 ls [.int r_2]) rfl ?_
  cases hf
  exact ro_iret hx hb hr hlk dX9_chipsOf_13
def fX9_meanDiameter (rd : Nat → Int32) (rco : Int32) (i1 : Int32) : Option (Nat ⊕ (UInt64)) :=
  ((fX9_checkPiece rco i1).bind fun z => match z with | .inl e => some (.inl e) | .inr _ => (Option.map Sum.inr (((fX7_sumOf rd i1).bind fun r_2 => (if (FP.ddiv (FP.i2d r_2) 4625196817309499392) &&& 0x7fffffffffffffff ≤ 0x7ff0000000000000 then some (FP.ddiv (FP.i2d r_2) 4625196817309499392) else none)))))
set_option maxHeartbeats 4000000 in
set_option maxRecDepth 100000 in
theorem kX9_meanDiameter (l : Launch) (G : GG) (a0 aL0 aL1 aL2 aL3 aL4 aL5 aL6 aL7 aL8 aL9 aL10 aL11 aL12 aH0 aT0 aW0 aE0 : Nat) (md : Nat → Int32) (mch : Int32) (fra : Int32) (fwe : Int32) (fof : Int32) (fsi : Int32) (csh : Int32) (cde : Int32) (csp : Int32) (rd : Nat → Int32) (rw : Nat → Int32) (rp : Nat → Int32) (rco : Int32) (rmo : Int32) (apa : Int32) (awo : Int32) (ash : Int32) (aja : Int32) (abu : Int32) (ltol : Int32) (lchi : Int32) (ljam : Int32) (i1 : Int32) (r_0 : UInt64) (hf : fX9_meanDiameter rd rco i1 = some (.inr r_0)) : Ro l G yX9_meanDiameter cX9_meanDiameter 2 (some .double) 8 123 [.ref a0, .int i1] [(a0, .inr (9, [.ref aL0, .ref aH0, .ref aT0, .ref aW0, .ref aE0])), (aL0, .inr (4, [.ref aL1, .ref aL3, .ref aL4, .ref aL5, .ref aL12, .int ltol, .int lchi, .int ljam])), (aL1, .inr (6, [.ref aL2, .int mch])), (aL2, .inl (G.2.1, 48, .inl md)), (aL3, .inr (2, [.int fra, .int fwe, .int fof, .int fsi])), (aL4, .inr (1, [.int csh, .int cde, .int csp])), (aL5, .inr (7, [.ref aL6, .ref aL8, .ref aL10, .int rco, .int rmo])), (aL6, .inr (8, [.ref aL7])), (aL7, .inl (G.2.1, 80, .inl rd)), (aL8, .inr (8, [.ref aL9])), (aL9, .inl (G.2.1, 5, .inl rw)), (aL10, .inr (8, [.ref aL11])), (aL11, .inl (G.2.1, 5, .inl rp)), (aL12, .inr (0, [.int apa, .int awo, .int ash, .int aja, .int abu]))] (some (.double r_0)) := by
  refine ro_of (by decide) (Nat.le_of_ble_eq_true rfl) ?_
  intro p e s m args below meth c ls hx hb hr hml hown hlk hA hZ hP hl
  replace hown : s.vm.findClass RX9 = some m.cls := hown
  replace hl : lv_has ls 2 [(0, .ref a0), (1, .int i1)] := hl
  unfold fX9_meanDiameter at hf
  refine lv_aload_n hx hb dX9_meanDiameter_0 rfl (lv_at hl 0 rfl) ?_
  refine lv_iload_n hx hb dX9_meanDiameter_1 rfl (lv_at hl 1 rfl) ?_
  obtain ⟨e9 | u9, q_1, hf⟩ := obd hf
  · dsimp only at hf
    cases hf
  dsimp only at hf
  replace hf := omr hf
  refine ro_v (n := 1) (As := [.int i1]) (q0 := 0) hx hb hml hown hA (kX9_checkPiece l G a0 aL0 aL1 aL2 aL3 aL4 aL5 aL6 aL7 aL8 aL9 aL10 aL11 aL12 aH0 aT0 aW0 aE0 md mch fra fwe fof fsi csh cde csp rd rw rp rco rmo apa awo ash aja abu ltol lchi ljam i1 q_1) g_X9_149 gd_X9_checkPiece ⟨(Nat.le_of_ble_eq_true rfl), (Nat.le_of_ble_eq_true rfl)⟩ hZ (hP.sub [0, 1, 2, 3, 4, 5, 6, 7, 8, 9, 10, 11, 12, 13] rfl) rfl rfl rfl hl.1 (Nat.le_of_ble_eq_true rfl) ⟨(Nat.le_of_ble_eq_true rfl), (Nat.le_of_ble_eq_true rfl)⟩ dX9_meanDiameter_2 ?_
  refine W.eq (g2 := F0 m 5 ls []) rfl ?_
  refine lv_aload_n hx hb dX9_meanDiameter_5 rfl (lv_at hl 0 rfl) ?_
  refine gf_X9_10 hx hb hown hA hP 0 rfl rfl dX9_meanDiameter_6 ?_
  refine gf_X9_133 hx hb hown hA hP 1 rfl rfl dX9_meanDiameter_9 ?_
  refine lv_iload_n hx hb dX9_meanDiameter_12 rfl (lv_at hl 1 rfl) ?_
  obtain ⟨r_2, q_3, hf⟩ := obd hf
  refine ro_v (n := 1) (As := [.int i1]) (q0 := 0) hx hb hml hown hA (kX7_sumOf l G aL5 aL6 aL7 aL8 aL9 aL10 aL11 rd rw rp rco rmo i1 r_2 q_3) g_X9_304 gd_X7_sumOf ⟨(Nat.le_of_ble_eq_true rfl), (Nat.le_of_ble_eq_true rfl)⟩ hZ (hP.sub [6, 7, 8, 9, 10, 11, 12] rfl) rfl rfl rfl hl.1 (Nat.le_of_ble_eq_true rfl) ⟨(Nat.le_of_ble_eq_true rfl), (Nat.le_of_ble_eq_true rfl)⟩ dX9_meanDiameter_13 ?_
  refine W.eq (g2 := F0 m 16 ls [.int r_2]) rfl ?_
  refine lv_i2d hx hb dX9_meanDiameter_16 ?_
  refine lv_ldc2d hx hb hown (hA.hts _ wd_445) dX9_meanDiameter_17 ?_
  obtain ⟨z_4, hf⟩ := ock hf
  refine lv_ddiv hx hb dX9_meanDiameter_20 z_4 ?_
  cases hf
  exact ro_dret hx hb hr hlk dX9_meanDiameter_21
def fX9_checkArgument  (i1 : Int32) : Option (Nat ⊕ (Unit)) :=
  (if i1 = 0 then some (.inl 1) else (Option.map Sum.inr (some ())))
set_option maxHeartbeats 4000000 in
set_option maxRecDepth 100000 in
theorem kX9_checkArgument (l : Launch) (G : GG)  (i1 : Int32)  (hf : fX9_checkArgument i1 = some (.inr ())) : Ro l G yX9_checkArgument cX9_checkArgument 1 none 6 81 [.int i1] [] none := by
  refine ro_of (by decide) (Nat.le_of_ble_eq_true rfl) ?_
  intro p e s m args below meth c ls hx hb hr hml hown hlk hA hZ hP hl
  replace hown : s.vm.findClass RX9 = some m.cls := hown
  replace hl : lv_has ls 1 [(0, .int i1)] := hl
  unfold fX9_checkArgument at hf
  refine lv_iload_n hx hb dX9_checkArgument_0 rfl (lv_at hl 0 rfl) ?_
  refine lv_if_ne (tgt := 12) hx hb dX9_checkArgument_1 (by decide) (fun c_1 => ?_) (fun c_1 => ?_)
  · replace hf := ifn c_1 hf
    replace hf := omr hf
    cases hf
    exact ro_vret hx hb hr hlk dX9_checkArgument_12
  · replace hf := ifp c_1 hf
    cases hf
def fX9_checkRange  (i1 : Int32) (i2 : Int32) (i3 : Int32) : Option (Nat ⊕ (Unit)) :=
  (if i1 < i2 then ((fX9_checkArgument 0).bind fun z => match z with | .inl e => some (.inl e) | .inr _ => (Option.map Sum.inr (some ()))) else (if i3 < i1 then ((fX9_checkArgument 0).bind fun z => match z with | .inl e => some (.inl e) | .inr _ => (Option.map Sum.inr (some ()))) else ((fX9_checkArgument 1).bind fun z => match z with | .inl e => some (.inl e) | .inr _ => (Option.map Sum.inr (some ())))))
set_option maxHeartbeats 4000000 in
set_option maxRecDepth 100000 in
theorem kX9_checkRange (l : Launch) (G : GG)  (i1 : Int32) (i2 : Int32) (i3 : Int32)  (hf : fX9_checkRange i1 i2 i3 = some (.inr ())) : Ro l G yX9_checkRange cX9_checkRange 3 none 7 101 [.int i1, .int i2, .int i3] [] none := by
  refine ro_of (by decide) (Nat.le_of_ble_eq_true rfl) ?_
  intro p e s m args below meth c ls hx hb hr hml hown hlk hA hZ hP hl
  replace hown : s.vm.findClass RX9 = some m.cls := hown
  replace hl : lv_has ls 3 [(0, .int i1), (1, .int i2), (2, .int i3)] := hl
  unfold fX9_checkRange at hf
  refine lv_iload_n hx hb dX9_checkRange_0 rfl (lv_at hl 0 rfl) ?_
  refine lv_iload_n hx hb dX9_checkRange_1 rfl (lv_at hl 1 rfl) ?_
  refine lv_icmp_lt (tgt := 14) hx hb dX9_checkRange_2 (by decide) (fun c_1 => ?_) (fun c_1 => ?_)
  · replace hf := ifp c_1 hf
    refine lv_iconst (v := 0) hx hb dX9_checkRange_14 (by decide) ?_
    obtain ⟨e9 | u9, q_2, hf⟩ := obd hf
    · dsimp only at hf
      cases hf
    dsimp only at hf
    replace hf := omr hf
    refine ro_s (n := 1) (As := [.int 0]) hx hb hml hown hA (kX9_checkArgument l G 0 q_2) g_X9_198 gd_X9_checkArgument ⟨(Nat.le_of_ble_eq_true rfl), (Nat.le_of_ble_eq_true rfl)⟩ hZ (fun _ _ h => by simp at h) rfl hl.1 (Nat.le_of_ble_eq_true rfl) ⟨(Nat.le_of_ble_eq_true rfl), (Nat.le_of_ble_eq_true rfl)⟩ dX9_checkRange_15 ?_
    refine W.eq (g2 := F0 m 18 ls []) rfl ?_
    cases hf
    exact ro_vret hx hb hr hlk dX9_checkRange_18
  · replace hf := ifn c_1 hf
    refine lv_iload_n hx hb dX9_checkRange_5 rfl (lv_at hl 0 rfl) ?_
    refine lv_iload_n hx hb dX9_checkRange_6 rfl (lv_at hl 2 rfl) ?_
    refine lv_icmp_gt (tgt := 14) hx hb dX9_checkRange_7 (by decide) (fun c_3 => ?_) (fun c_3 => ?_)
    · replace hf := ifp c_3 hf
      refine lv_iconst (v := 0) hx hb dX9_checkRange_14 (by decide) ?_
      obtain ⟨e9 | u9, q_4, hf⟩ := obd hf
      · dsimp only at hf
        cases hf
      dsimp only at hf
      replace hf := omr hf
      refine ro_s (n := 1) (As := [.int 0]) hx hb hml hown hA (kX9_checkArgument l G 0 q_4) g_X9_198 gd_X9_checkArgument ⟨(Nat.le_of_ble_eq_true rfl), (Nat.le_of_ble_eq_true rfl)⟩ hZ (fun _ _ h => by simp at h) rfl hl.1 (Nat.le_of_ble_eq_true rfl) ⟨(Nat.le_of_ble_eq_true rfl), (Nat.le_of_ble_eq_true rfl)⟩ dX9_checkRange_15 ?_
      refine W.eq (g2 := F0 m 18 ls []) rfl ?_
      cases hf
      exact ro_vret hx hb hr hlk dX9_checkRange_18
    · replace hf := ifn c_3 hf
      refine lv_iconst (v := 1) hx hb dX9_checkRange_10 (by decide) ?_
      refine lv_goto (tgt := 15) hx hb dX9_checkRange_11 (by decide) ?_
      obtain ⟨e9 | u9, q_5, hf⟩ := obd hf
      · dsimp only at hf
        cases hf
      dsimp only at hf
      replace hf := omr hf
      refine ro_s (n := 1) (As := [.int 1]) hx hb hml hown hA (kX9_checkArgument l G 1 q_5) g_X9_198 gd_X9_checkArgument ⟨(Nat.le_of_ble_eq_true rfl), (Nat.le_of_ble_eq_true rfl)⟩ hZ (fun _ _ h => by simp at h) rfl hl.1 (Nat.le_of_ble_eq_true rfl) ⟨(Nat.le_of_ble_eq_true rfl), (Nat.le_of_ble_eq_true rfl)⟩ dX9_checkRange_15 ?_
      refine W.eq (g2 := F0 m 18 ls []) rfl ?_
      cases hf
      exact ro_vret hx hb hr hlk dX9_checkRange_18
