def exn : Nat → String
  | 0 => "java/lang/IndexOutOfBoundsException"
  | 1 => "java/lang/IllegalArgumentException"
  | _ => "java/lang/IllegalStateException"
section GEN
variable {p : Program} {l : Launch} {e : Env} {R : Room} {s : State} {m : MethodId} {args : Array Value} {below : List Frame} {meth : Method} {c : Code} {H : Heap} {locs : List Loc} {cells slots : Nat} {Q : State → Prop} {G : GG} {cc : ByteArray} {pc a : Nat} {rest fs : List Value} {w : va_W} {ls : Array Slot} {A : Nat → Prop} {H0 : Heap}
theorem gf_X3_24 (hx : p.tables.exec = Jvm.exec) (hb : c.code = cc) (hown : s.vm.findClass RX3 = some m.cls) (hA : Am G s) (hP : va_P G.1 vwCl w H) (q0 : Nat) (he : w[q0]? = some (a, .inr (3, fs))) {v : Value} (hv : fs[2]? = some v) (hdg : decode cc pc = .ok (.getfield 24, 3)) (kk : W p l e R s m args below meth c H locs cells slots Q (F0 m (pc + 3) ls (v :: rest))) : W p l e R s m args below meth c H locs cells slots Q (F0 m pc ls (.ref a :: rest)) :=
  va_get (D := G.1) (ci := 3) (C := RX3) (T := TX3) (N := 4) hx hb hA.hts wdx_3 hown hA.K hP q0 he rfl 2 (by decide) (hA.hts _ wd_45) (fun _ h9 => h9) hv hdg kk
theorem gf_X3_20 (hx : p.tables.exec = Jvm.exec) (hb : c.code = cc) (hown : s.vm.findClass RX3 = some m.cls) (hA : Am G s) (hP : va_P G.1 vwCl w H) (q0 : Nat) (he : w[q0]? = some (a, .inr (3, fs))) {v : Value} (hv : fs[3]? = some v) (hdg : decode cc pc = .ok (.getfield 20, 3)) (kk : W p l e R s m args below meth c H locs cells slots Q (F0 m (pc + 3) ls (v :: rest))) : W p l e R s m args below meth c H locs cells slots Q (F0 m pc ls (.ref a :: rest)) :=
  va_get (D := G.1) (ci := 3) (C := RX3) (T := TX3) (N := 4) hx hb hA.hts wdx_3 hown hA.K hP q0 he rfl 3 (by decide) (hA.hts _ wd_46) (fun _ h9 => h9) hv hdg kk
theorem gf_X9_26 (hx : p.tables.exec = Jvm.exec) (hb : c.code = cc) (hown : s.vm.findClass RX9 = some m.cls) (hA : Am G s) (hP : va_P G.1 vwCl w H) (q0 : Nat) (he : w[q0]? = some (a, .inr (9, fs))) {v : Value} (hv : fs[2]? = some v) (hdg : decode cc pc = .ok (.getfield 26, 3)) (kk : W p l e R s m args below meth c H locs cells slots Q (F0 m (pc + 3) ls (v :: rest))) : W p l e R s m args below meth c H locs cells slots Q (F0 m pc ls (.ref a :: rest)) :=
  va_get (D := G.1) (ci := 9) (C := RX9) (T := TX9) (N := 5) hx hb hA.hts wdx_9 hown hA.K hP q0 he rfl 2 (by decide) (hA.hts _ wd_317) (fun _ h9 => h9) hv hdg kk
theorem gf_X9_184 (hx : p.tables.exec = Jvm.exec) (hb : c.code = cc) (hown : s.vm.findClass RX9 = some m.cls) (hA : Am G s) (hP : va_P G.1 vwCl w H) (q0 : Nat) (he : w[q0]? = some (a, .inr (5, fs))) {v : Value} (hv : fs[2]? = some v) (hdg : decode cc pc = .ok (.getfield 184, 3)) (kk : W p l e R s m args below meth c H locs cells slots Q (F0 m (pc + 3) ls (v :: rest))) : W p l e R s m args below meth c H locs cells slots Q (F0 m pc ls (.ref a :: rest)) :=
  va_getN (D := G.1) (ci := 5) (C := RX5) (T := TX5) (N := 7) hx hb hA.hts wdx_5 hown hA.K hP q0 he rfl 2 (by decide) (hA.nf ("LatheCopies", 184, "LatheCopies$MasterText", "length", "I") nf_37) (fun _ h9 => h9) hv hdg kk
theorem gf_X9_19 (hx : p.tables.exec = Jvm.exec) (hb : c.code = cc) (hown : s.vm.findClass RX9 = some m.cls) (hA : Am G s) (hP : va_P G.1 vwCl w H) (q0 : Nat) (he : w[q0]? = some (a, .inr (9, fs))) {v : Value} (hv : fs[1]? = some v) (hdg : decode cc pc = .ok (.getfield 19, 3)) (kk : W p l e R s m args below meth c H locs cells slots Q (F0 m (pc + 3) ls (v :: rest))) : W p l e R s m args below meth c H locs cells slots Q (F0 m pc ls (.ref a :: rest)) :=
  va_get (D := G.1) (ci := 9) (C := RX9) (T := TX9) (N := 5) hx hb hA.hts wdx_9 hown hA.K hP q0 he rfl 1 (by decide) (hA.hts _ wd_314) (fun _ h9 => h9) hv hdg kk
theorem gf_X9_224 (hx : p.tables.exec = Jvm.exec) (hb : c.code = cc) (hown : s.vm.findClass RX9 = some m.cls) (hA : Am G s) (hP : va_P G.1 vwCl w H) (q0 : Nat) (he : w[q0]? = some (a, .inr (3, fs))) {v : Value} (hv : fs[3]? = some v) (hdg : decode cc pc = .ok (.getfield 224, 3)) (kk : W p l e R s m args below meth c H locs cells slots Q (F0 m (pc + 3) ls (v :: rest))) : W p l e R s m args below meth c H locs cells slots Q (F0 m pc ls (.ref a :: rest)) :=
  va_getN (D := G.1) (ci := 3) (C := RX3) (T := TX3) (N := 4) hx hb hA.hts wdx_3 hown hA.K hP q0 he rfl 3 (by decide) (hA.nf ("LatheCopies", 224, "LatheCopies$History", "count", "I") nf_34) (fun _ h9 => h9) hv hdg kk
theorem gf_X9_10 (hx : p.tables.exec = Jvm.exec) (hb : c.code = cc) (hown : s.vm.findClass RX9 = some m.cls) (hA : Am G s) (hP : va_P G.1 vwCl w H) (q0 : Nat) (he : w[q0]? = some (a, .inr (9, fs))) {v : Value} (hv : fs[0]? = some v) (hdg : decode cc pc = .ok (.getfield 10, 3)) (kk : W p l e R s m args below meth c H locs cells slots Q (F0 m (pc + 3) ls (v :: rest))) : W p l e R s m args below meth c H locs cells slots Q (F0 m pc ls (.ref a :: rest)) :=
  va_get (D := G.1) (ci := 9) (C := RX9) (T := TX9) (N := 5) hx hb hA.hts wdx_9 hown hA.K hP q0 he rfl 0 (by decide) (hA.hts _ wd_311) (fun _ h9 => h9) hv hdg kk
theorem gf_X9_56 (hx : p.tables.exec = Jvm.exec) (hb : c.code = cc) (hown : s.vm.findClass RX9 = some m.cls) (hA : Am G s) (hP : va_P G.1 vwCl w H) (q0 : Nat) (he : w[q0]? = some (a, .inr (4, fs))) {v : Value} (hv : fs[0]? = some v) (hdg : decode cc pc = .ok (.getfield 56, 3)) (kk : W p l e R s m args below meth c H locs cells slots Q (F0 m (pc + 3) ls (v :: rest))) : W p l e R s m args below meth c H locs cells slots Q (F0 m pc ls (.ref a :: rest)) :=
  va_getN (D := G.1) (ci := 4) (C := RX4) (T := TX4) (N := 8) hx hb hA.hts wdx_4 hown hA.K hP q0 he rfl 0 (by decide) (hA.nf ("LatheCopies", 56, "LatheCopies$Lathe", "masters", "LLatheCopies$Masters;") nf_26) (fun _ h9 => h9) hv hdg kk
theorem gf_X9_76 (hx : p.tables.exec = Jvm.exec) (hb : c.code = cc) (hown : s.vm.findClass RX9 = some m.cls) (hA : Am G s) (hP : va_P G.1 vwCl w H) (q0 : Nat) (he : w[q0]? = some (a, .inr (6, fs))) {v : Value} (hv : fs[1]? = some v) (hdg : decode cc pc = .ok (.getfield 76, 3)) (kk : W p l e R s m args below meth c H locs cells slots Q (F0 m (pc + 3) ls (v :: rest))) : W p l e R s m args below meth c H locs cells slots Q (F0 m pc ls (.ref a :: rest)) :=
  va_getN (D := G.1) (ci := 6) (C := RX6) (T := TX6) (N := 2) hx hb hA.hts wdx_6 hown hA.K hP q0 he rfl 1 (by decide) (hA.nf ("LatheCopies", 76, "LatheCopies$Masters", "chosen", "I") nf_1) (fun _ h9 => h9) hv hdg kk
theorem gf_X9_80 (hx : p.tables.exec = Jvm.exec) (hb : c.code = cc) (hown : s.vm.findClass RX9 = some m.cls) (hA : Am G s) (hP : va_P G.1 vwCl w H) (q0 : Nat) (he : w[q0]? = some (a, .inr (4, fs))) {v : Value} (hv : fs[1]? = some v) (hdg : decode cc pc = .ok (.getfield 80, 3)) (kk : W p l e R s m args below meth c H locs cells slots Q (F0 m (pc + 3) ls (v :: rest))) : W p l e R s m args below meth c H locs cells slots Q (F0 m pc ls (.ref a :: rest)) :=
  va_getN (D := G.1) (ci := 4) (C := RX4) (T := TX4) (N := 8) hx hb hA.hts wdx_4 hown hA.K hP q0 he rfl 1 (by decide) (hA.nf ("LatheCopies", 80, "LatheCopies$Lathe", "follower", "LLatheCopies$Follower;") nf_27) (fun _ h9 => h9) hv hdg kk
theorem gf_X9_228 (hx : p.tables.exec = Jvm.exec) (hb : c.code = cc) (hown : s.vm.findClass RX9 = some m.cls) (hA : Am G s) (hP : va_P G.1 vwCl w H) (q0 : Nat) (he : w[q0]? = some (a, .inr (2, fs))) {v : Value} (hv : fs[0]? = some v) (hdg : decode cc pc = .ok (.getfield 228, 3)) (kk : W p l e R s m args below meth c H locs cells slots Q (F0 m (pc + 3) ls (v :: rest))) : W p l e R s m args below meth c H locs cells slots Q (F0 m pc ls (.ref a :: rest)) :=
  va_getN (D := G.1) (ci := 2) (C := RX2) (T := TX2) (N := 4) hx hb hA.hts wdx_2 hown hA.K hP q0 he rfl 0 (by decide) (hA.nf ("LatheCopies", 228, "LatheCopies$Follower", "radius", "I") nf_3) (fun _ h9 => h9) hv hdg kk
theorem gf_X9_84 (hx : p.tables.exec = Jvm.exec) (hb : c.code = cc) (hown : s.vm.findClass RX9 = some m.cls) (hA : Am G s) (hP : va_P G.1 vwCl w H) (q0 : Nat) (he : w[q0]? = some (a, .inr (2, fs))) {v : Value} (hv : fs[1]? = some v) (hdg : decode cc pc = .ok (.getfield 84, 3)) (kk : W p l e R s m args below meth c H locs cells slots Q (F0 m (pc + 3) ls (v :: rest))) : W p l e R s m args below meth c H locs cells slots Q (F0 m pc ls (.ref a :: rest)) :=
  va_getN (D := G.1) (ci := 2) (C := RX2) (T := TX2) (N := 4) hx hb hA.hts wdx_2 hown hA.K hP q0 he rfl 1 (by decide) (hA.nf ("LatheCopies", 84, "LatheCopies$Follower", "wear", "I") nf_5) (fun _ h9 => h9) hv hdg kk
theorem gf_X9_92 (hx : p.tables.exec = Jvm.exec) (hb : c.code = cc) (hown : s.vm.findClass RX9 = some m.cls) (hA : Am G s) (hP : va_P G.1 vwCl w H) (q0 : Nat) (he : w[q0]? = some (a, .inr (2, fs))) {v : Value} (hv : fs[2]? = some v) (hdg : decode cc pc = .ok (.getfield 92, 3)) (kk : W p l e R s m args below meth c H locs cells slots Q (F0 m (pc + 3) ls (v :: rest))) : W p l e R s m args below meth c H locs cells slots Q (F0 m pc ls (.ref a :: rest)) :=
  va_getN (D := G.1) (ci := 2) (C := RX2) (T := TX2) (N := 4) hx hb hA.hts wdx_2 hown hA.K hP q0 he rfl 2 (by decide) (hA.nf ("LatheCopies", 92, "LatheCopies$Follower", "offset", "I") nf_7) (fun _ h9 => h9) hv hdg kk
theorem gf_X9_95 (hx : p.tables.exec = Jvm.exec) (hb : c.code = cc) (hown : s.vm.findClass RX9 = some m.cls) (hA : Am G s) (hP : va_P G.1 vwCl w H) (q0 : Nat) (he : w[q0]? = some (a, .inr (4, fs))) {v : Value} (hv : fs[2]? = some v) (hdg : decode cc pc = .ok (.getfield 95, 3)) (kk : W p l e R s m args below meth c H locs cells slots Q (F0 m (pc + 3) ls (v :: rest))) : W p l e R s m args below meth c H locs cells slots Q (F0 m pc ls (.ref a :: rest)) :=
  va_getN (D := G.1) (ci := 4) (C := RX4) (T := TX4) (N := 8) hx hb hA.hts wdx_4 hown hA.K hP q0 he rfl 2 (by decide) (hA.nf ("LatheCopies", 95, "LatheCopies$Lathe", "cutter", "LLatheCopies$Cutter;") nf_28) (fun _ h9 => h9) hv hdg kk
theorem gf_X9_99 (hx : p.tables.exec = Jvm.exec) (hb : c.code = cc) (hown : s.vm.findClass RX9 = some m.cls) (hA : Am G s) (hP : va_P G.1 vwCl w H) (q0 : Nat) (he : w[q0]? = some (a, .inr (1, fs))) {v : Value} (hv : fs[0]? = some v) (hdg : decode cc pc = .ok (.getfield 99, 3)) (kk : W p l e R s m args below meth c H locs cells slots Q (F0 m (pc + 3) ls (v :: rest))) : W p l e R s m args below meth c H locs cells slots Q (F0 m pc ls (.ref a :: rest)) :=
  va_getN (D := G.1) (ci := 1) (C := RX1) (T := TX1) (N := 3) hx hb hA.hts wdx_1 hown hA.K hP q0 he rfl 0 (by decide) (hA.nf ("LatheCopies", 99, "LatheCopies$Cutter", "sharpness", "I") nf_8) (fun _ h9 => h9) hv hdg kk
theorem gf_X9_113 (hx : p.tables.exec = Jvm.exec) (hb : c.code = cc) (hown : s.vm.findClass RX9 = some m.cls) (hA : Am G s) (hP : va_P G.1 vwCl w H) (q0 : Nat) (he : w[q0]? = some (a, .inr (1, fs))) {v : Value} (hv : fs[1]? = some v) (hdg : decode cc pc = .ok (.getfield 113, 3)) (kk : W p l e R s m args below meth c H locs cells slots Q (F0 m (pc + 3) ls (v :: rest))) : W p l e R s m args below meth c H locs cells slots Q (F0 m pc ls (.ref a :: rest)) :=
  va_getN (D := G.1) (ci := 1) (C := RX1) (T := TX1) (N := 3) hx hb hA.hts wdx_1 hown hA.K hP q0 he rfl 1 (by decide) (hA.nf ("LatheCopies", 113, "LatheCopies$Cutter", "depth", "I") nf_9) (fun _ h9 => h9) hv hdg kk
theorem gf_X9_116 (hx : p.tables.exec = Jvm.exec) (hb : c.code = cc) (hown : s.vm.findClass RX9 = some m.cls) (hA : Am G s) (hP : va_P G.1 vwCl w H) (q0 : Nat) (he : w[q0]? = some (a, .inr (1, fs))) {v : Value} (hv : fs[2]? = some v) (hdg : decode cc pc = .ok (.getfield 116, 3)) (kk : W p l e R s m args below meth c H locs cells slots Q (F0 m (pc + 3) ls (v :: rest))) : W p l e R s m args below meth c H locs cells slots Q (F0 m pc ls (.ref a :: rest)) :=
  va_getN (D := G.1) (ci := 1) (C := RX1) (T := TX1) (N := 3) hx hb hA.hts wdx_1 hown hA.K hP q0 he rfl 2 (by decide) (hA.nf ("LatheCopies", 116, "LatheCopies$Cutter", "speed", "I") nf_11) (fun _ h9 => h9) hv hdg kk
theorem gf_X9_119 (hx : p.tables.exec = Jvm.exec) (hb : c.code = cc) (hown : s.vm.findClass RX9 = some m.cls) (hA : Am G s) (hP : va_P G.1 vwCl w H) (q0 : Nat) (he : w[q0]? = some (a, .inr (4, fs))) {v : Value} (hv : fs[5]? = some v) (hdg : decode cc pc = .ok (.getfield 119, 3)) (kk : W p l e R s m args below meth c H locs cells slots Q (F0 m (pc + 3) ls (v :: rest))) : W p l e R s m args below meth c H locs cells slots Q (F0 m pc ls (.ref a :: rest)) :=
  va_getN (D := G.1) (ci := 4) (C := RX4) (T := TX4) (N := 8) hx hb hA.hts wdx_4 hown hA.K hP q0 he rfl 5 (by decide) (hA.nf ("LatheCopies", 119, "LatheCopies$Lathe", "tolerance", "I") nf_31) (fun _ h9 => h9) hv hdg kk
theorem gf_X9_122 (hx : p.tables.exec = Jvm.exec) (hb : c.code = cc) (hown : s.vm.findClass RX9 = some m.cls) (hA : Am G s) (hP : va_P G.1 vwCl w H) (q0 : Nat) (he : w[q0]? = some (a, .inr (4, fs))) {v : Value} (hv : fs[6]? = some v) (hdg : decode cc pc = .ok (.getfield 122, 3)) (kk : W p l e R s m args below meth c H locs cells slots Q (F0 m (pc + 3) ls (v :: rest))) : W p l e R s m args below meth c H locs cells slots Q (F0 m pc ls (.ref a :: rest)) :=
  va_getN (D := G.1) (ci := 4) (C := RX4) (T := TX4) (N := 8) hx hb hA.hts wdx_4 hown hA.K hP q0 he rfl 6 (by decide) (hA.nf ("LatheCopies", 122, "LatheCopies$Lathe", "chips", "I") nf_32) (fun _ h9 => h9) hv hdg kk
theorem gf_X9_125 (hx : p.tables.exec = Jvm.exec) (hb : c.code = cc) (hown : s.vm.findClass RX9 = some m.cls) (hA : Am G s) (hP : va_P G.1 vwCl w H) (q0 : Nat) (he : w[q0]? = some (a, .inr (4, fs))) {v : Value} (hv : fs[7]? = some v) (hdg : decode cc pc = .ok (.getfield 125, 3)) (kk : W p l e R s m args below meth c H locs cells slots Q (F0 m (pc + 3) ls (v :: rest))) : W p l e R s m args below meth c H locs cells slots Q (F0 m pc ls (.ref a :: rest)) :=
  va_getN (D := G.1) (ci := 4) (C := RX4) (T := TX4) (N := 8) hx hb hA.hts wdx_4 hown hA.K hP q0 he rfl 7 (by decide) (hA.nf ("LatheCopies", 125, "LatheCopies$Lathe", "jammed", "Z") nf_33) (fun _ h9 => h9) hv hdg kk
theorem gf_X9_133 (hx : p.tables.exec = Jvm.exec) (hb : c.code = cc) (hown : s.vm.findClass RX9 = some m.cls) (hA : Am G s) (hP : va_P G.1 vwCl w H) (q0 : Nat) (he : w[q0]? = some (a, .inr (4, fs))) {v : Value} (hv : fs[3]? = some v) (hdg : decode cc pc = .ok (.getfield 133, 3)) (kk : W p l e R s m args below meth c H locs cells slots Q (F0 m (pc + 3) ls (v :: rest))) : W p l e R s m args below meth c H locs cells slots Q (F0 m pc ls (.ref a :: rest)) :=
  va_getN (D := G.1) (ci := 4) (C := RX4) (T := TX4) (N := 8) hx hb hA.hts wdx_4 hown hA.K hP q0 he rfl 3 (by decide) (hA.nf ("LatheCopies", 133, "LatheCopies$Lathe", "rack", "LLatheCopies$Rack;") nf_29) (fun _ h9 => h9) hv hdg kk
theorem gf_X9_137 (hx : p.tables.exec = Jvm.exec) (hb : c.code = cc) (hown : s.vm.findClass RX9 = some m.cls) (hA : Am G s) (hP : va_P G.1 vwCl w H) (q0 : Nat) (he : w[q0]? = some (a, .inr (7, fs))) {v : Value} (hv : fs[3]? = some v) (hdg : decode cc pc = .ok (.getfield 137, 3)) (kk : W p l e R s m args below meth c H locs cells slots Q (F0 m (pc + 3) ls (v :: rest))) : W p l e R s m args below meth c H locs cells slots Q (F0 m pc ls (.ref a :: rest)) :=
  va_getN (D := G.1) (ci := 7) (C := RX7) (T := TX7) (N := 5) hx hb hA.hts wdx_7 hown hA.K hP q0 he rfl 3 (by decide) (hA.nf ("LatheCopies", 137, "LatheCopies$Rack", "count", "I") nf_15) (fun _ h9 => h9) hv hdg kk
theorem gf_X9_234 (hx : p.tables.exec = Jvm.exec) (hb : c.code = cc) (hown : s.vm.findClass RX9 = some m.cls) (hA : Am G s) (hP : va_P G.1 vwCl w H) (q0 : Nat) (he : w[q0]? = some (a, .inr (7, fs))) {v : Value} (hv : fs[1]? = some v) (hdg : decode cc pc = .ok (.getfield 234, 3)) (kk : W p l e R s m args below meth c H locs cells slots Q (F0 m (pc + 3) ls (v :: rest))) : W p l e R s m args below meth c H locs cells slots Q (F0 m pc ls (.ref a :: rest)) :=
  va_getN (D := G.1) (ci := 7) (C := RX7) (T := TX7) (N := 5) hx hb hA.hts wdx_7 hown hA.K hP q0 he rfl 1 (by decide) (hA.nf ("LatheCopies", 234, "LatheCopies$Rack", "woods", "LLatheCopies$Row;") nf_12) (fun _ h9 => h9) hv hdg kk
theorem gf_X9_238 (hx : p.tables.exec = Jvm.exec) (hb : c.code = cc) (hown : s.vm.findClass RX9 = some m.cls) (hA : Am G s) (hP : va_P G.1 vwCl w H) (q0 : Nat) (he : w[q0]? = some (a, .inr (7, fs))) {v : Value} (hv : fs[2]? = some v) (hdg : decode cc pc = .ok (.getfield 238, 3)) (kk : W p l e R s m args below meth c H locs cells slots Q (F0 m (pc + 3) ls (v :: rest))) : W p l e R s m args below meth c H locs cells slots Q (F0 m pc ls (.ref a :: rest)) :=
  va_getN (D := G.1) (ci := 7) (C := RX7) (T := TX7) (N := 5) hx hb hA.hts wdx_7 hown hA.K hP q0 he rfl 2 (by decide) (hA.nf ("LatheCopies", 238, "LatheCopies$Rack", "passesDone", "LLatheCopies$Row;") nf_14) (fun _ h9 => h9) hv hdg kk
theorem gf_X9_152 (hx : p.tables.exec = Jvm.exec) (hb : c.code = cc) (hown : s.vm.findClass RX9 = some m.cls) (hA : Am G s) (hP : va_P G.1 vwCl w H) (q0 : Nat) (he : w[q0]? = some (a, .inr (7, fs))) {v : Value} (hv : fs[4]? = some v) (hdg : decode cc pc = .ok (.getfield 152, 3)) (kk : W p l e R s m args below meth c H locs cells slots Q (F0 m (pc + 3) ls (v :: rest))) : W p l e R s m args below meth c H locs cells slots Q (F0 m pc ls (.ref a :: rest)) :=
  va_getN (D := G.1) (ci := 7) (C := RX7) (T := TX7) (N := 5) hx hb hA.hts wdx_7 hown hA.K hP q0 he rfl 4 (by decide) (hA.nf ("LatheCopies", 152, "LatheCopies$Rack", "mounted", "I") nf_17) (fun _ h9 => h9) hv hdg kk
theorem gf_X9_104 (hx : p.tables.exec = Jvm.exec) (hb : c.code = cc) (hown : s.vm.findClass RX9 = some m.cls) (hA : Am G s) (hP : va_P G.1 vwCl w H) (q0 : Nat) (he : w[q0]? = some (a, .inr (4, fs))) {v : Value} (hv : fs[4]? = some v) (hdg : decode cc pc = .ok (.getfield 104, 3)) (kk : W p l e R s m args below meth c H locs cells slots Q (F0 m (pc + 3) ls (v :: rest))) : W p l e R s m args below meth c H locs cells slots Q (F0 m pc ls (.ref a :: rest)) :=
  va_getN (D := G.1) (ci := 4) (C := RX4) (T := TX4) (N := 8) hx hb hA.hts wdx_4 hown hA.K hP q0 he rfl 4 (by decide) (hA.nf ("LatheCopies", 104, "LatheCopies$Lathe", "accounts", "LLatheCopies$Accounts;") nf_30) (fun _ h9 => h9) hv hdg kk
theorem gf_X9_244 (hx : p.tables.exec = Jvm.exec) (hb : c.code = cc) (hown : s.vm.findClass RX9 = some m.cls) (hA : Am G s) (hP : va_P G.1 vwCl w H) (q0 : Nat) (he : w[q0]? = some (a, .inr (0, fs))) {v : Value} (hv : fs[0]? = some v) (hdg : decode cc pc = .ok (.getfield 244, 3)) (kk : W p l e R s m args below meth c H locs cells slots Q (F0 m (pc + 3) ls (v :: rest))) : W p l e R s m args below meth c H locs cells slots Q (F0 m pc ls (.ref a :: rest)) :=
  va_getN (D := G.1) (ci := 0) (C := RX0) (T := TX0) (N := 5) hx hb hA.hts wdx_0 hown hA.K hP q0 he rfl 0 (by decide) (hA.nf ("LatheCopies", 244, "LatheCopies$Accounts", "passes", "I") nf_19) (fun _ h9 => h9) hv hdg kk
theorem gf_X9_247 (hx : p.tables.exec = Jvm.exec) (hb : c.code = cc) (hown : s.vm.findClass RX9 = some m.cls) (hA : Am G s) (hP : va_P G.1 vwCl w H) (q0 : Nat) (he : w[q0]? = some (a, .inr (0, fs))) {v : Value} (hv : fs[1]? = some v) (hdg : decode cc pc = .ok (.getfield 247, 3)) (kk : W p l e R s m args below meth c H locs cells slots Q (F0 m (pc + 3) ls (v :: rest))) : W p l e R s m args below meth c H locs cells slots Q (F0 m pc ls (.ref a :: rest)) :=
  va_getN (D := G.1) (ci := 0) (C := RX0) (T := TX0) (N := 5) hx hb hA.hts wdx_0 hown hA.K hP q0 he rfl 1 (by decide) (hA.nf ("LatheCopies", 247, "LatheCopies$Accounts", "woodTaken", "I") nf_21) (fun _ h9 => h9) hv hdg kk
theorem gf_X9_108 (hx : p.tables.exec = Jvm.exec) (hb : c.code = cc) (hown : s.vm.findClass RX9 = some m.cls) (hA : Am G s) (hP : va_P G.1 vwCl w H) (q0 : Nat) (he : w[q0]? = some (a, .inr (0, fs))) {v : Value} (hv : fs[2]? = some v) (hdg : decode cc pc = .ok (.getfield 108, 3)) (kk : W p l e R s m args below meth c H locs cells slots Q (F0 m (pc + 3) ls (v :: rest))) : W p l e R s m args below meth c H locs cells slots Q (F0 m pc ls (.ref a :: rest)) :=
  va_getN (D := G.1) (ci := 0) (C := RX0) (T := TX0) (N := 5) hx hb hA.hts wdx_0 hown hA.K hP q0 he rfl 2 (by decide) (hA.nf ("LatheCopies", 108, "LatheCopies$Accounts", "sharpenings", "I") nf_22) (fun _ h9 => h9) hv hdg kk
theorem gf_X9_250 (hx : p.tables.exec = Jvm.exec) (hb : c.code = cc) (hown : s.vm.findClass RX9 = some m.cls) (hA : Am G s) (hP : va_P G.1 vwCl w H) (q0 : Nat) (he : w[q0]? = some (a, .inr (0, fs))) {v : Value} (hv : fs[3]? = some v) (hdg : decode cc pc = .ok (.getfield 250, 3)) (kk : W p l e R s m args below meth c H locs cells slots Q (F0 m (pc + 3) ls (v :: rest))) : W p l e R s m args below meth c H locs cells slots Q (F0 m pc ls (.ref a :: rest)) :=
  va_getN (D := G.1) (ci := 0) (C := RX0) (T := TX0) (N := 5) hx hb hA.hts wdx_0 hown hA.K hP q0 he rfl 3 (by decide) (hA.nf ("LatheCopies", 250, "LatheCopies$Accounts", "jams", "I") nf_24) (fun _ h9 => h9) hv hdg kk
theorem gf_X9_158 (hx : p.tables.exec = Jvm.exec) (hb : c.code = cc) (hown : s.vm.findClass RX9 = some m.cls) (hA : Am G s) (hP : va_P G.1 vwCl w H) (q0 : Nat) (he : w[q0]? = some (a, .inr (0, fs))) {v : Value} (hv : fs[4]? = some v) (hdg : decode cc pc = .ok (.getfield 158, 3)) (kk : W p l e R s m args below meth c H locs cells slots Q (F0 m (pc + 3) ls (v :: rest))) : W p l e R s m args below meth c H locs cells slots Q (F0 m pc ls (.ref a :: rest)) :=
  va_getN (D := G.1) (ci := 0) (C := RX0) (T := TX0) (N := 5) hx hb hA.hts wdx_0 hown hA.K hP q0 he rfl 4 (by decide) (hA.nf ("LatheCopies", 158, "LatheCopies$Accounts", "burnt", "I") nf_25) (fun _ h9 => h9) hv hdg kk
theorem gf_X9_35 (hx : p.tables.exec = Jvm.exec) (hb : c.code = cc) (hown : s.vm.findClass RX9 = some m.cls) (hA : Am G s) (hP : va_P G.1 vwCl w H) (q0 : Nat) (he : w[q0]? = some (a, .inr (9, fs))) {v : Value} (hv : fs[3]? = some v) (hdg : decode cc pc = .ok (.getfield 35, 3)) (kk : W p l e R s m args below meth c H locs cells slots Q (F0 m (pc + 3) ls (v :: rest))) : W p l e R s m args below meth c H locs cells slots Q (F0 m pc ls (.ref a :: rest)) :=
  va_get (D := G.1) (ci := 9) (C := RX9) (T := TX9) (N := 5) hx hb hA.hts wdx_9 hown hA.K hP q0 he rfl 3 (by decide) (hA.hts _ wd_319) (fun _ h9 => h9) hv hdg kk
theorem gf_X9_39 (hx : p.tables.exec = Jvm.exec) (hb : c.code = cc) (hown : s.vm.findClass RX9 = some m.cls) (hA : Am G s) (hP : va_P G.1 vwCl w H) (q0 : Nat) (he : w[q0]? = some (a, .inr (9, fs))) {v : Value} (hv : fs[4]? = some v) (hdg : decode cc pc = .ok (.getfield 39, 3)) (kk : W p l e R s m args below meth c H locs cells slots Q (F0 m (pc + 3) ls (v :: rest))) : W p l e R s m args below meth c H locs cells slots Q (F0 m pc ls (.ref a :: rest)) :=
  va_get (D := G.1) (ci := 9) (C := RX9) (T := TX9) (N := 5) hx hb hA.hts wdx_9 hown hA.K hP q0 he rfl 4 (by decide) (hA.hts _ wd_320) (fun _ h9 => h9) hv hdg kk
theorem gf_X3_17 (hx : p.tables.exec = Jvm.exec) (hb : c.code = cc) (hown : s.vm.findClass RX3 = some m.cls) (hA : Am G s) (hP : va_P G.1 vwCl w H) (q0 : Nat) (he : w[q0]? = some (a, .inr (3, fs))) {v : Value} (hv : fs[1]? = some v) (hdg : decode cc pc = .ok (.getfield 17, 3)) (kk : W p l e R s m args below meth c H locs cells slots Q (F0 m (pc + 3) ls (v :: rest))) : W p l e R s m args below meth c H locs cells slots Q (F0 m pc ls (.ref a :: rest)) :=
  va_get (D := G.1) (ci := 3) (C := RX3) (T := TX3) (N := 4) hx hb hA.hts wdx_3 hown hA.K hP q0 he rfl 1 (by decide) (hA.hts _ wd_43) (fun _ h9 => h9) hv hdg kk
theorem gf_X9_333 (hx : p.tables.exec = Jvm.exec) (hb : c.code = cc) (hown : s.vm.findClass RX9 = some m.cls) (hA : Am G s) (hP : va_P G.1 vwCl w H) (q0 : Nat) (he : w[q0]? = some (a, .inr (5, fs))) {v : Value} (hv : fs[0]? = some v) (hdg : decode cc pc = .ok (.getfield 333, 3)) (kk : W p l e R s m args below meth c H locs cells slots Q (F0 m (pc + 3) ls (v :: rest))) : W p l e R s m args below meth c H locs cells slots Q (F0 m pc ls (.ref a :: rest)) :=
  va_getN (D := G.1) (ci := 5) (C := RX5) (T := TX5) (N := 7) hx hb hA.hts wdx_5 hown hA.K hP q0 he rfl 0 (by decide) (hA.nf ("LatheCopies", 333, "LatheCopies$MasterText", "codes", "LLatheCopies$Row;") nf_35) (fun _ h9 => h9) hv hdg kk
end GEN
theorem g_X9_198 : GoodIn Wd (wsS RX9 198 yX9_checkArgument [.code yX9_checkArgument cX9_checkArgument 1 none]) := gS wd_340 wd_341 wd_331 wd_336
theorem gd_X9_checkArgument : Gd yX9_checkArgument RX9 1 := by decide +kernel
theorem g_X9_48 : GoodIn Wd (wsS RX9 48 yX9_checkRange [.code yX9_checkRange cX9_checkRange 3 none]) := gS wd_346 wd_347 wd_331 wd_339
theorem gd_X9_checkRange : Gd yX9_checkRange RX9 3 := by decide +kernel
theorem g_X9_142 : GoodIn Wd (wsS RX9 142 yX9_checkState [.code yX9_checkState cX9_checkState 1 none]) := gS wd_376 wd_377 wd_331 wd_373
theorem gd_X9_checkState : Gd yX9_checkState RX9 1 := by decide +kernel
theorem g_X9_187 : GoodIn Wd (wsV RX9 187 RX5 yX5_add [.code yX5_add cX5_add 2 (some .int)]) := gV wd_418 wd_419 wd_420 wd_251 wd_236
theorem gd_X5_add : Gd yX5_add RX5 1 := by decide +kernel
theorem g_X9_189 : GoodIn Wd (wsV RX9 189 RX5 yX5_empty [.code yX5_empty cX5_empty 2 (some .int)]) := gV wd_423 wd_424 wd_425 wd_251 wd_239
theorem gd_X5_empty : Gd yX5_empty RX5 0 := by decide +kernel
theorem g_X9_192 : GoodIn Wd (wsV RX9 192 RX5 yX5_readable [.code yX5_readable cX5_readable 2 (some .int)]) := gV wd_426 wd_284 wd_285 wd_251 wd_282
theorem g_X9_209 : GoodIn Wd (wsS RX9 209 yX9_isIndex [.code yX9_isIndex cX9_isIndex 2 (some .boolean)]) := gS wd_329 wd_330 wd_331 wd_325
theorem gd_X9_isIndex : Gd yX9_isIndex RX9 2 := by decide +kernel
theorem g_X9_129 : GoodIn Wd (wsS RX9 129 yX9_checkIndex [.code yX9_checkIndex cX9_checkIndex 2 none]) := gS wd_333 wd_334 wd_331 wd_326
theorem gd_X9_checkIndex : Gd yX9_checkIndex RX9 2 := by decide +kernel
theorem g_X9_42 : GoodIn Wd (wsS RX9 42 yX9_checkMaster [.code yX9_checkMaster cX9_checkMaster 1 none]) := gS wd_342 wd_343 wd_331 wd_332
theorem gd_X9_checkMaster : Gd yX9_checkMaster RX9 1 := by decide +kernel
theorem g_X9_45 : GoodIn Wd (wsS RX9 45 yX9_checkStep [.code yX9_checkStep cX9_checkStep 1 none]) := gS wd_344 wd_345 wd_331 wd_335
theorem gd_X9_checkStep : Gd yX9_checkStep RX9 1 := by decide +kernel
theorem g_X9_60 : GoodIn Wd (wsV RX9 60 RX6 yX6_at [.code yX6_at cX6_at 4 (some .int)]) := gV wd_351 wd_98 wd_99 wd_68 wd_93
theorem g_X9_231 : GoodIn Wd (wsV RX9 231 RX1 yX1_reach [.code yX1_reach cX1_reach 1 (some .int)]) := gV wd_460 wd_192 wd_193 wd_20 wd_16
theorem g_X9_149 : GoodIn Wd (wsV RX9 149 RX9 yX9_checkPiece [.code yX9_checkPiece cX9_checkPiece 2 none]) := gV wd_383 wd_384 wd_385 wd_331 wd_382
theorem gd_X9_checkPiece : Gd yX9_checkPiece RX9 1 := by decide +kernel
theorem g_X9_204 : GoodIn Wd (wsV RX9 204 RX8 yX8_at [.code yX8_at cX8_at 2 (some .int)]) := gV wd_431 wd_106 wd_107 wd_58 wd_103
theorem g_X9_237 : GoodIn Wd (wsV RX9 237 RX7 yX7_at [.code yX7_at cX7_at 3 (some .int)]) := gV wd_468 wd_163 wd_164 wd_79 wd_160
theorem g_X9_161 : GoodIn Wd (wsV RX9 161 RX7 yX7_isTurning [.code yX7_isTurning cX7_isTurning 1 (some .boolean)]) := gV wd_390 wd_391 wd_392 wd_79 wd_293
theorem gd_X7_isTurning : Gd yX7_isTurning RX7 0 := by decide +kernel
theorem g_X9_165 : GoodIn Wd (wsV RX9 165 RX9 yX9_checkMounted [.code yX9_checkMounted cX9_checkMounted 1 none]) := gV wd_395 wd_396 wd_397 wd_331 wd_394
theorem gd_X9_checkMounted : Gd yX9_checkMounted RX9 0 := by decide +kernel
theorem g_X9_241 : GoodIn Wd (wsV RX9 241 RX7 yX7_price [.code yX7_price cX7_price 4 (some .int)]) := gV wd_473 wd_474 wd_475 wd_79 wd_296
theorem gd_X7_price : Gd yX7_price RX7 1 := by decide +kernel
theorem g_X9_253 : GoodIn Wd (wsV RX9 253 RX4 yX4_reading [.code yX4_reading cX4_reading 5 (some .int)]) := gV wd_482 wd_158 wd_159 wd_132 wd_152
theorem g_X9_262 : GoodIn Wd (wsV RX9 262 RX6 yX6_chosenAt [.code yX6_chosenAt cX6_chosenAt 2 (some .int)]) := gV wd_485 wd_486 wd_487 wd_68 wd_287
theorem gd_X6_chosenAt : Gd yX6_chosenAt RX6 1 := by decide +kernel
theorem g_X9_354 : GoodIn Wd (wsV RX9 354 RX9 yX9_isNotThicker [.code yX9_isNotThicker cX9_isNotThicker 3 (some .boolean)]) := gV wd_488 wd_489 wd_490 wd_331 wd_484
theorem gd_X9_isNotThicker : Gd yX9_isNotThicker RX9 2 := by decide +kernel
theorem g_X9_357 : GoodIn Wd (wsV RX9 357 RX8 yX8_put [.code yX8_put cX8_put 3 none]) := gV wd_491 wd_185 wd_186 wd_58 wd_182
theorem g_X9_256 : GoodIn Wd (wsV RX9 256 RX9 yX9_firstWaiting [.code yX9_firstWaiting cX9_firstWaiting 7 (some .int)]) := gV wd_493 wd_494 wd_495 wd_331 wd_492
theorem gd_X9_firstWaiting : Gd yX9_firstWaiting RX9 1 := by decide +kernel
theorem g_X9_259 : GoodIn Wd (wsV RX9 259 RX4 yX4_target [.code yX4_target cX4_target 2 (some .int)]) := gV wd_497 wd_166 wd_167 wd_132 wd_156
theorem g_X9_265 : GoodIn Wd (wsV RX9 265 RX6 yX6_sumOf [.code yX6_sumOf cX6_sumOf 4 (some .int)]) := gV wd_501 wd_502 wd_503 wd_68 wd_290
theorem gd_X6_sumOf : Gd yX6_sumOf RX6 1 := by decide +kernel
theorem g_X9_268 : GoodIn Wd (wsV RX9 268 RX4 yX4_difference [.code yX4_difference cX4_difference 4 (some .int)]) := gV wd_505 wd_219 wd_220 wd_132 wd_214
theorem g_X9_277 : GoodIn Wd (wsV RX9 277 RX4 yX4_faults [.code yX4_faults cX4_faults 4 (some .int)]) := gV wd_508 wd_224 wd_225 wd_132 wd_222
theorem g_X9_280 : GoodIn Wd (wsV RX9 280 RX4 yX4_differences [.code yX4_differences cX4_differences 5 (some .int)]) := gV wd_511 wd_227 wd_228 wd_132 wd_221
theorem g_X9_283 : GoodIn Wd (wsV RX9 283 RX4 yX4_isBetter [.code yX4_isBetter cX4_isBetter 5 (some .boolean)]) := gV wd_513 wd_514 wd_515 wd_132 wd_229
theorem gd_X4_isBetter : Gd yX4_isBetter RX4 2 := by decide +kernel
theorem g_X9_178 : GoodIn Wd (wsV RX9 178 RX4 yX4_mostAbove [.code yX4_mostAbove cX4_mostAbove 4 (some .int)]) := gV wd_410 wd_411 wd_412 wd_132 wd_172
theorem gd_X4_mostAbove : Gd yX4_mostAbove RX4 1 := by decide +kernel
theorem g_X9_175 : GoodIn Wd (wsV RX9 175 RX4 yX4_canRun [.code yX4_canRun cX4_canRun 1 (some .boolean)]) := gV wd_399 wd_400 wd_401 wd_132 wd_174
theorem gd_X4_canRun : Gd yX4_canRun RX4 0 := by decide +kernel
theorem g_X9_168 : GoodIn Wd (wsV RX9 168 RX9 yX9_checkReady [.code yX9_checkReady cX9_checkReady 1 none]) := gV wd_403 wd_404 wd_405 wd_331 wd_402
theorem gd_X9_checkReady : Gd yX9_checkReady RX9 0 := by decide +kernel
theorem g_X9_286 : GoodIn Wd (wsV RX9 286 RX4 yX4_wouldCut [.code yX4_wouldCut cX4_wouldCut 4 (some .int)]) := gV wd_518 wd_519 wd_520 wd_132 wd_212
theorem gd_X4_wouldCut : Gd yX4_wouldCut RX4 0 := by decide +kernel
theorem g_X9_359 : GoodIn Wd (wsV RX9 359 RX4 yX4_above [.code yX4_above cX4_above 3 (some .int)]) := gV wd_522 wd_170 wd_171 wd_132 wd_168
theorem g_X9_362 : GoodIn Wd (wsV RX9 362 RX8 yX8_greatest [.code yX8_greatest cX8_greatest 3 (some .int)]) := gV wd_523 wd_524 wd_525 wd_58 wd_308
theorem gd_X8_greatest : Gd yX8_greatest RX8 0 := by decide +kernel
theorem g_X9_289 : GoodIn Wd (wsV RX9 289 RX1 yX1_isSharp [.code yX1_isSharp cX1_isSharp 1 (some .boolean)]) := gV wd_527 wd_18 wd_19 wd_20 wd_15
theorem g_X9_292 : GoodIn Wd (wsV RX9 292 RX9 yX9_countPasses [.code yX9_countPasses cX9_countPasses 3 (some .int)]) := gV wd_528 wd_529 wd_530 wd_331 wd_526
theorem gd_X9_countPasses : Gd yX9_countPasses RX9 0 := by decide +kernel
theorem g_X9_295 : GoodIn Wd (wsS RX9 295 yX9_dividedUp [.code yX9_dividedUp cX9_dividedUp 2 (some .int)]) := gS wd_533 wd_534 wd_331 wd_532
theorem gd_X9_dividedUp : Gd yX9_dividedUp RX9 2 := by decide +kernel
theorem g_X9_298 : GoodIn Wd (wsV RX9 298 RX4 yX4_blunting [.code yX4_blunting cX4_blunting 1 (some .int)]) := gV wd_536 wd_203 wd_204 wd_132 wd_178
theorem g_X9_301 : GoodIn Wd (wsV RX9 301 RX4 yX4_allAbove [.code yX4_allAbove cX4_allAbove 4 (some .int)]) := gV wd_538 wd_539 wd_540 wd_132 wd_173
theorem gd_X4_allAbove : Gd yX4_allAbove RX4 1 := by decide +kernel
theorem g_X9_304 : GoodIn Wd (wsV RX9 304 RX7 yX7_sumOf [.code yX7_sumOf cX7_sumOf 4 (some .int)]) := gV wd_543 wd_299 wd_300 wd_79 wd_294
theorem g_X9_319 : GoodIn Wd (wsS RX9 319 yX9_mixed [.code yX9_mixed cX9_mixed 4 (some .long)]) := gS wd_548 wd_549 wd_331 wd_545
theorem gd_X9_mixed : Gd yX9_mixed RX9 2 := by decide +kernel
theorem g_X9_338 : GoodIn Wd (wsV RX9 338 RX9 yX9_lostGrooves [.code yX9_lostGrooves cX9_lostGrooves 3 (some .int)]) := gV wd_551 wd_552 wd_553 wd_331 wd_499
theorem gd_X9_lostGrooves : Gd yX9_lostGrooves RX9 0 := by decide +kernel
theorem g_X9_341 : GoodIn Wd (wsV RX9 341 RX9 yX9_tooThick [.code yX9_tooThick cX9_tooThick 4 (some .int)]) := gV wd_556 wd_557 wd_558 wd_331 wd_506
theorem gd_X9_tooThick : Gd yX9_tooThick RX9 1 := by decide +kernel
theorem g_X9_344 : GoodIn Wd (wsV RX9 344 RX9 yX9_tooThin [.code yX9_tooThin cX9_tooThin 4 (some .int)]) := gV wd_559 wd_560 wd_561 wd_331 wd_507
theorem gd_X9_tooThin : Gd yX9_tooThin RX9 1 := by decide +kernel
theorem g_X9_347 : GoodIn Wd (wsV RX9 347 RX9 yX9_mostLike [.code yX9_mostLike cX9_mostLike 4 (some .int)]) := gV wd_562 wd_563 wd_564 wd_331 wd_512
theorem gd_X9_mostLike : Gd yX9_mostLike RX9 1 := by decide +kernel
theorem g_X9_350 : GoodIn Wd (wsS RX9 350 yX9_bitsOfMean [.code yX9_bitsOfMean cX9_bitsOfMean 6 (some .long)]) := gS wd_565 wd_566 wd_331 wd_555
theorem gd_X9_bitsOfMean : Gd yX9_bitsOfMean RX9 1 := by decide +kernel
theorem g_X9_309 : GoodIn Wd (wsV RX9 309 RX9 yX9_hashOfMasters [.code yX9_hashOfMasters cX9_hashOfMasters 7 (some .long)]) := gV wd_571 wd_572 wd_573 wd_331 wd_547
theorem gd_X9_hashOfMasters : Gd yX9_hashOfMasters RX9 1 := by decide +kernel
theorem g_X9_313 : GoodIn Wd (wsV RX9 313 RX9 yX9_hashOfSettings [.code yX9_hashOfSettings cX9_hashOfSettings 5 (some .long)]) := gV wd_574 wd_575 wd_576 wd_331 wd_550
theorem gd_X9_hashOfSettings : Gd yX9_hashOfSettings RX9 1 := by decide +kernel
theorem g_X9_316 : GoodIn Wd (wsV RX9 316 RX9 yX9_hashOfReadings [.code yX9_hashOfReadings cX9_hashOfReadings 6 (some .long)]) := gV wd_577 wd_578 wd_579 wd_331 wd_554
theorem gd_X9_hashOfReadings : Gd yX9_hashOfReadings RX9 1 := by decide +kernel
theorem g_X9_323 : GoodIn Wd (wsV RX9 323 RX9 yX9_hashOfPiece [.code yX9_hashOfPiece cX9_hashOfPiece 7 (some .long)]) := gV wd_580 wd_581 wd_582 wd_331 wd_567
theorem gd_X9_hashOfPiece : Gd yX9_hashOfPiece RX9 2 := by decide +kernel
theorem g_X9_327 : GoodIn Wd (wsV RX9 327 RX9 yX9_hashOfAccounts [.code yX9_hashOfAccounts cX9_hashOfAccounts 5 (some .long)]) := gV wd_583 wd_584 wd_585 wd_331 wd_568
theorem gd_X9_hashOfAccounts : Gd yX9_hashOfAccounts RX9 1 := by decide +kernel
theorem g_X9_217 : GoodIn Wd (wsV RX9 217 RX3 yX3_isFilled [.code yX3_isFilled cX3_isFilled 2 (some .boolean)]) := gV wd_440 wd_441 wd_442 wd_141 wd_149
theorem gd_X3_isFilled : Gd yX3_isFilled RX3 1 := by decide +kernel
theorem g_X9_330 : GoodIn Wd (wsV RX9 330 RX9 yX9_hashOfProspects [.code yX9_hashOfProspects cX9_hashOfProspects 6 (some .long)]) := gV wd_586 wd_587 wd_588 wd_331 wd_569
theorem gd_X9_hashOfProspects : Gd yX9_hashOfProspects RX9 1 := by decide +kernel
def fX3_latest (ho : Int32) (hcn : Int32)  : Option (Int32) :=
  some (((ho + hcn) - 1) - ((ho + hcn) - 1) / 6 * 6)
set_option maxHeartbeats 4000000 in
set_option maxRecDepth 100000 in
theorem kX3_latest (l : Launch) (G : GG) (aH0 aHS aHL : Nat) (ho : Int32) (hcn : Int32)  (r_0 : Int32) (hf : fX3_latest ho hcn = some r_0) : Ro l G yX3_latest cX3_latest 1 (some .int) 0 0 [.ref aH0] [(aH0, .inr (3, [.ref aHS, .ref aHL, .int ho, .int hcn]))] (some (.int r_0)) := by
  refine ro_of (by decide) (Nat.le_of_ble_eq_true rfl) ?_
  intro p e s m args below meth c ls hx hb hr hml hown hlk hA hZ hP hl
  replace hown : s.vm.findClass RX3 = some m.cls := hown
  replace hl : lv_has ls 1 [(0, .ref aH0)] := hl
  unfold fX3_latest at hf
  refine lv_aload_n hx hb dX3_latest_0 rfl (lv_at hl 0 rfl) ?_
  refine gf_X3_24 hx hb hown hA hP 0 rfl rfl dX3_latest_1 ?_
  refine lv_aload_n hx hb dX3_latest_4 rfl (lv_at hl 0 rfl) ?_
  refine gf_X3_20 hx hb hown hA hP 0 rfl rfl dX3_latest_5 ?_
  refine lv_iadd hx hb dX3_latest_8 ?_
  refine lv_iconst (v := 1) hx hb dX3_latest_9 (by decide) ?_
  refine lv_isub hx hb dX3_latest_10 ?_
  refine lv_bipush (v := 6) hx hb dX3_latest_11 (by decide) ?_
  refine lv_irem hx hb dX3_latest_13 (by decide) ?_
  cases hf
  exact ro_iret hx hb hr hlk dX3_latest_14
def fX9_checkArgument  (i1 : Int32) : Option (Nat ⊕ (Unit)) :=
  (if i1 = 0 then some (.inl 1) else (Option.map Sum.inr (some ())))
set_option maxHeartbeats 4000000 in
set_option maxRecDepth 100000 in
theorem kX9_checkArgument (l : Launch) (G : GG)  (i1 : Int32)  (hf : fX9_checkArgument i1 = some (.inr ())) : Ro l G yX9_checkArgument cX9_checkArgument 1 none 6 81 [.int i1] [] none := by
  refine ro_of (by decide) (Nat.le_of_ble_eq_true rfl) ?_
  intro p e s m args below meth c ls hx hb hr hml hown hlk hA hZ hP hl
  replace hown : s.vm.findClass RX9 = some m.cls := hown
  replace hl : lv_has ls 1 [(0, .int i1)] := hl
  unfold fX9_checkArgument at hf
  refine lv_iload_n hx hb dX9_checkArgument_0 rfl (lv_at hl 0 rfl) ?_
  refine lv_if_ne (tgt := 12) hx hb dX9_checkArgument_1 (by decide) (fun c_1 => ?_) (fun c_1 => ?_)
  · replace hf := ifn c_1 hf
    replace hf := omr hf
    cases hf
    exact ro_vret hx hb hr hlk dX9_checkArgument_12
  · replace hf := ifp c_1 hf
    cases hf
set_option maxHeartbeats 4000000 in
set_option maxRecDepth 100000 in
theorem tX9_checkArgument (l : Launch) (hst : l.stackTraces = false) (G : GG)  (i1 : Int32) (k9 : Nat) (hf : fX9_checkArgument i1 = some (.inl k9)) : Th l G yX9_checkArgument cX9_checkArgument 1 none 6 81 [.int i1] [] (exn k9) := by
  refine th_of (by decide) (Nat.le_of_ble_eq_true rfl) ?_
  intro p e s m args below meth c ls hx hb het hml hown hlk hA hZ hP hl
  replace hown : s.vm.findClass RX9 = some m.cls := hown
  replace hl : lv_has ls 1 [(0, .int i1)] := hl
  unfold fX9_checkArgument at hf
  refine lv_iload_n hx hb dX9_checkArgument_0 rfl (lv_at hl 0 rfl) ?_
  refine lv_if_ne (tgt := 12) hx hb dX9_checkArgument_1 (by decide) (fun c_1 => ?_) (fun c_1 => ?_)
  · replace hf := ifn c_1 hf
    exact (oml hf).elim
  · replace hf := ifp c_1 hf
    cases hf
    exact vx_throw0 (cls := "java/lang/IllegalArgumentException") (names := ["java/lang/RuntimeException", "java/lang/Exception"]) (own := RX9) (A := nA) hx hb hst hown (by decide +kernel) (by decide +kernel) (hA.hts _ wd_337) (hA.hts _ wd_338) (th_words (ik := 368) hA wdv_1 th_ne1) (by decide +kernel) hZ.2.2.2.2.1 hZ.2.2.2.2.2 va_S.rf (hl.1.trans hml.symm) dX9_checkArgument_4 dX9_checkArgument_7 dX9_checkArgument_8 dX9_checkArgument_11 (fun x hx9 => (het x hx9).elim) (Nat.le_of_ble_eq_true rfl) (Nat.le_of_ble_eq_true rfl) (Nat.le_of_ble_eq_true rfl) (Nat.le_of_ble_eq_true rfl) hlk (fun t _ hz hk => ⟨rfl, hz, hk⟩) (fun _ h => nomatch h) (Nat.le_of_ble_eq_true rfl) (Nat.le_of_ble_eq_true rfl)
def fX9_checkRange  (i1 : Int32) (i2 : Int32) (i3 : Int32) : Option (Nat ⊕ (Unit)) :=
  (if i1 < i2 then ((fX9_checkArgument 0).bind fun z => match z with | .inl e => some (.inl e) | .inr _ => (Option.map Sum.inr (some ()))) else (if i3 < i1 then ((fX9_checkArgument 0).bind fun z => match z with | .inl e => some (.inl e) | .inr _ => (Option.map Sum.inr (some ()))) else ((fX9_checkArgument 1).bind fun z => match z with | .inl e => some (.inl e) | .inr _ => (Option.map Sum.inr (some ())))))
set_option maxHeartbeats 4000000 in
set_option maxRecDepth 100000 in
theorem kX9_checkRange (l : Launch) (G : GG)  (i1 : Int32) (i2 : Int32) (i3 : Int32)  (hf : fX9_checkRange i1 i2 i3 = some (.inr ())) : Ro l G yX9_checkRange cX9_checkRange 3 none 7 101 [.int i1, .int i2, .int i3] [] none := by
  refine ro_of (by decide) (Nat.le_of_ble_eq_true rfl) ?_
  intro p e s m args below meth c ls hx hb hr hml hown hlk hA hZ hP hl
  replace hown : s.vm.findClass RX9 = some m.cls := hown
  replace hl : lv_has ls 3 [(0, .int i1), (1, .int i2), (2, .int i3)] := hl
  unfold fX9_checkRange at hf
  refine lv_iload_n hx hb dX9_checkRange_0 rfl (lv_at hl 0 rfl) ?_
  refine lv_iload_n hx hb dX9_checkRange_1 rfl (lv_at hl 1 rfl) ?_
  refine lv_icmp_lt (tgt := 14) hx hb dX9_checkRange_2 (by decide) (fun c_1 => ?_) (fun c_1 => ?_)
  · replace hf := ifp c_1 hf
    refine lv_iconst (v := 0) hx hb dX9_checkRange_14 (by decide) ?_
    obtain ⟨e9 | u9, q_2, hf⟩ := obd hf
    · dsimp only at hf
      cases hf
    dsimp only at hf
    replace hf := omr hf
    refine ro_s (n := 1) (As := [.int 0]) hx hb hml hown hA (kX9_checkArgument l G 0 q_2) g_X9_198 gd_X9_checkArgument ⟨(Nat.le_of_ble_eq_true rfl), (Nat.le_of_ble_eq_true rfl)⟩ hZ (fun _ _ h => by simp at h) rfl hl.1 (Nat.le_of_ble_eq_true rfl) ⟨(Nat.le_of_ble_eq_true rfl), (Nat.le_of_ble_eq_true rfl)⟩ dX9_checkRange_15 ?_
    refine W.eq (g2 := F0 m 18 ls []) rfl ?_
    cases hf
    exact ro_vret hx hb hr hlk dX9_checkRange_18
  · replace hf := ifn c_1 hf
    refine lv_iload_n hx hb dX9_checkRange_5 rfl (lv_at hl 0 rfl) ?_
    refine lv_iload_n hx hb dX9_checkRange_6 rfl (lv_at hl 2 rfl) ?_
    refine lv_icmp_gt (tgt := 14) hx hb dX9_checkRange_7 (by decide) (fun c_3 => ?_) (fun c_3 => ?_)
    · replace hf := ifp c_3 hf
      refine lv_iconst (v := 0) hx hb dX9_checkRange_14 (by decide) ?_
      obtain ⟨e9 | u9, q_4, hf⟩ := obd hf
      · dsimp only at hf
        cases hf
      dsimp only at hf
      replace hf := omr hf
      refine ro_s (n := 1) (As := [.int 0]) hx hb hml hown hA (kX9_checkArgument l G 0 q_4) g_X9_198 gd_X9_checkArgument ⟨(Nat.le_of_ble_eq_true rfl), (Nat.le_of_ble_eq_true rfl)⟩ hZ (fun _ _ h => by simp at h) rfl hl.1 (Nat.le_of_ble_eq_true rfl) ⟨(Nat.le_of_ble_eq_true rfl), (Nat.le_of_ble_eq_true rfl)⟩ dX9_checkRange_15 ?_
      refine W.eq (g2 := F0 m 18 ls []) rfl ?_
      cases hf
      exact ro_vret hx hb hr hlk dX9_checkRange_18
    · replace hf := ifn c_3 hf
      refine lv_iconst (v := 1) hx hb dX9_checkRange_10 (by decide) ?_
      refine lv_goto (tgt := 15) hx hb dX9_checkRange_11 (by decide) ?_
      obtain ⟨e9 | u9, q_5, hf⟩ := obd hf
      · dsimp only at hf
        cases hf
      dsimp only at hf
      replace hf := omr hf
      refine ro_s (n := 1) (As := [.int 1]) hx hb hml hown hA (kX9_checkArgument l G 1 q_5) g_X9_198 gd_X9_checkArgument ⟨(Nat.le_of_ble_eq_true rfl), (Nat.le_of_ble_eq_true rfl)⟩ hZ (fun _ _ h => by simp at h) rfl hl.1 (Nat.le_of_ble_eq_true rfl) ⟨(Nat.le_of_ble_eq_true rfl), (Nat.le_of_ble_eq_true rfl)⟩ dX9_checkRange_15 ?_
      refine W.eq (g2 := F0 m 18 ls []) rfl ?_
      cases hf
      exact ro_vret hx hb hr hlk dX9_checkRange_18
set_option maxHeartbeats 4000000 in
set_option maxRecDepth 100000 in
theorem tX9_checkRange (l : Launch) (hst : l.stackTraces = false) (G : GG)  (i1 : Int32) (i2 : Int32) (i3 : Int32) (k9 : Nat) (hf : fX9_checkRange i1 i2 i3 = some (.inl k9)) : Th l G yX9_checkRange cX9_checkRange 3 none 7 101 [.int i1, .int i2, .int i3] [] (exn k9) := by
  refine th_of (by decide) (Nat.le_of_ble_eq_true rfl) ?_
  intro p e s m args below meth c ls hx hb het hml hown hlk hA hZ hP hl
  replace hown : s.vm.findClass RX9 = some m.cls := hown
  replace hl : lv_has ls 3 [(0, .int i1), (1, .int i2), (2, .int i3)] := hl
  unfold fX9_checkRange at hf
  refine lv_iload_n hx hb dX9_checkRange_0 rfl (lv_at hl 0 rfl) ?_
  refine lv_iload_n hx hb dX9_checkRange_1 rfl (lv_at hl 1 rfl) ?_
  refine lv_icmp_lt (tgt := 14) hx hb dX9_checkRange_2 (by decide) (fun c_1 => ?_) (fun c_1 => ?_)
  · replace hf := ifp c_1 hf
    refine lv_iconst (v := 0) hx hb dX9_checkRange_14 (by decide) ?_
    obtain ⟨e9 | u9, q_2, hf⟩ := obd hf
    · dsimp only at hf
      cases hf
      exact th_s (n := 1) (As := [.int 0]) hx hb het hlk hml hown hA (tX9_checkArgument l hst G 0 _ q_2) g_X9_198 gd_X9_checkArgument ⟨(Nat.le_of_ble_eq_true rfl), (Nat.le_of_ble_eq_true rfl)⟩ hZ (fun _ _ h => by simp at h) rfl hl.1 (Nat.le_of_ble_eq_true rfl) ⟨(Nat.le_of_ble_eq_true rfl), (Nat.le_of_ble_eq_true rfl)⟩ dX9_checkRange_15
    dsimp only at hf
    exact (oml hf).elim
  · replace hf := ifn c_1 hf
    refine lv_iload_n hx hb dX9_checkRange_5 rfl (lv_at hl 0 rfl) ?_
    refine lv_iload_n hx hb dX9_checkRange_6 rfl (lv_at hl 2 rfl) ?_
    refine lv_icmp_gt (tgt := 14) hx hb dX9_checkRange_7 (by decide) (fun c_3 => ?_) (fun c_3 => ?_)
    · replace hf := ifp c_3 hf
      refine lv_iconst (v := 0) hx hb dX9_checkRange_14 (by decide) ?_
      obtain ⟨e9 | u9, q_4, hf⟩ := obd hf
      · dsimp only at hf
        cases hf
        exact th_s (n := 1) (As := [.int 0]) hx hb het hlk hml hown hA (tX9_checkArgument l hst G 0 _ q_4) g_X9_198 gd_X9_checkArgument ⟨(Nat.le_of_ble_eq_true rfl), (Nat.le_of_ble_eq_true rfl)⟩ hZ (fun _ _ h => by simp at h) rfl hl.1 (Nat.le_of_ble_eq_true rfl) ⟨(Nat.le_of_ble_eq_true rfl), (Nat.le_of_ble_eq_true rfl)⟩ dX9_checkRange_15
      dsimp only at hf
      exact (oml hf).elim
    · replace hf := ifn c_3 hf
      refine lv_iconst (v := 1) hx hb dX9_checkRange_10 (by decide) ?_
      refine lv_goto (tgt := 15) hx hb dX9_checkRange_11 (by decide) ?_
      obtain ⟨e9 | u9, q_5, hf⟩ := obd hf
      · dsimp only at hf
        cases hf
        exact th_s (n := 1) (As := [.int 1]) hx hb het hlk hml hown hA (tX9_checkArgument l hst G 1 _ q_5) g_X9_198 gd_X9_checkArgument ⟨(Nat.le_of_ble_eq_true rfl), (Nat.le_of_ble_eq_true rfl)⟩ hZ (fun _ _ h => by simp at h) rfl hl.1 (Nat.le_of_ble_eq_true rfl) ⟨(Nat.le_of_ble_eq_true rfl), (Nat.le_of_ble_eq_true rfl)⟩ dX9_checkRange_15
      dsimp only at hf
      exact (oml hf).elim
def fX9_checkState  (i1 : Int32) : Option (Nat ⊕ (Unit)) :=
  (if i1 = 0 then some (.inl 2) else (Option.map Sum.inr (some ())))
set_option maxHeartbeats 4000000 in
set_option maxRecDepth 100000 in
theorem kX9_checkState (l : Launch) (G : GG)  (i1 : Int32)  (hf : fX9_checkState i1 = some (.inr ())) : Ro l G yX9_checkState cX9_checkState 1 none 6 81 [.int i1] [] none := by
  refine ro_of (by decide) (Nat.le_of_ble_eq_true rfl) ?_
  intro p e s m args below meth c ls hx hb hr hml hown hlk hA hZ hP hl
  replace hown : s.vm.findClass RX9 = some m.cls := hown
  replace hl : lv_has ls 1 [(0, .int i1)] := hl
  unfold fX9_checkState at hf
  refine lv_iload_n hx hb dX9_checkState_0 rfl (lv_at hl 0 rfl) ?_
  refine lv_if_ne (tgt := 12) hx hb dX9_checkState_1 (by decide) (fun c_1 => ?_) (fun c_1 => ?_)
  · replace hf := ifn c_1 hf
    replace hf := omr hf
    cases hf
    exact ro_vret hx hb hr hlk dX9_checkState_12
  · replace hf := ifp c_1 hf
    cases hf
set_option maxHeartbeats 4000000 in
set_option maxRecDepth 100000 in
theorem tX9_checkState (l : Launch) (hst : l.stackTraces = false) (G : GG)  (i1 : Int32) (k9 : Nat) (hf : fX9_checkState i1 = some (.inl k9)) : Th l G yX9_checkState cX9_checkState 1 none 6 81 [.int i1] [] (exn k9) := by
  refine th_of (by decide) (Nat.le_of_ble_eq_true rfl) ?_
  intro p e s m args below meth c ls hx hb het hml hown hlk hA hZ hP hl
  replace hown : s.vm.findClass RX9 = some m.cls := hown
  replace hl : lv_has ls 1 [(0, .int i1)] := hl
  unfold fX9_checkState at hf
  refine lv_iload_n hx hb dX9_checkState_0 rfl (lv_at hl 0 rfl) ?_
  refine lv_if_ne (tgt := 12) hx hb dX9_checkState_1 (by decide) (fun c_1 => ?_) (fun c_1 => ?_)
  · replace hf := ifn c_1 hf
    exact (oml hf).elim
  · replace hf := ifp c_1 hf
    cases hf
    exact vx_throw0 (cls := "java/lang/IllegalStateException") (names := ["java/lang/RuntimeException", "java/lang/Exception"]) (own := RX9) (A := nA) hx hb hst hown (by decide +kernel) (by decide +kernel) (hA.hts _ wd_374) (hA.hts _ wd_375) (th_words (ik := 371) hA wdv_2 th_ne2) (by decide +kernel) hZ.2.2.2.2.1 hZ.2.2.2.2.2 va_S.rf (hl.1.trans hml.symm) dX9_checkState_4 dX9_checkState_7 dX9_checkState_8 dX9_checkState_11 (fun x hx9 => (het x hx9).elim) (Nat.le_of_ble_eq_true rfl) (Nat.le_of_ble_eq_true rfl) (Nat.le_of_ble_eq_true rfl) (Nat.le_of_ble_eq_true rfl) hlk (fun t _ hz hk => ⟨rfl, hz, hk⟩) (fun _ h => nomatch h) (Nat.le_of_ble_eq_true rfl) (Nat.le_of_ble_eq_true rfl)
def fX9_append (tc : Nat → Int32) (tle : Int32) (i1 : Int32) : Option (Nat ⊕ (Int32 × (Nat → Int32) × Int32)) :=
  ((fX9_checkRange i1 33 126).bind fun z => match z with | .inl e => some (.inl e) | .inr _ => (if 60 ≤ tle then ((fX9_checkState 0).bind fun z => match z with | .inl e => some (.inl e) | .inr _ => (Option.map Sum.inr (((fX5_add tc tle i1).bind fun (r_4, tc_5, tle_6) => some (r_4, tc_5, tle_6))))) else ((fX9_checkState 1).bind fun z => match z with | .inl e => some (.inl e) | .inr _ => (Option.map Sum.inr (((fX5_add tc tle i1).bind fun (r_9, tc_10, tle_11) => some (r_9, tc_10, tle_11)))))))
set_option maxHeartbeats 4000000 in
set_option maxRecDepth 100000 in
theorem kX9_append (l : Launch) (G : GG) (a0 aT0 aT1 aT2 aT3 aT4 aL0 aH0 aW0 aE0 : Nat) (tc : Nat → Int32) (tt : Nat → Int32) (tle : Int32) (tpl : Int32) (tdi : Int32) (tti : Int32) (tst : Int32) (i1 : Int32) (r_0 : Int32) (tc_0 : Nat → Int32) (tle_0 : Int32) (hf : fX9_append tc tle i1 = some (.inr (r_0, tc_0, tle_0))) : Wr l G yX9_append cX9_append 2 (some .int) 8 123 0 0 [.ref a0, .int i1] [(a0, .inr (9, [.ref aL0, .ref aH0, .ref aT0, .ref aW0, .ref aE0])), (aT0, .inr (5, [.ref aT1, .ref aT3, .int tle, .int tpl, .int tdi, .int tti, .int tst])), (aT1, .inr (8, [.ref aT2])), (aT2, .inl (G.2.1, 60, .inl tc)), (aT3, .inr (8, [.ref aT4])), (aT4, .inl (G.2.1, 16, .inl tt))] (X := Unit) (fun _ => [(a0, .inr (9, [.ref aL0, .ref aH0, .ref aT0, .ref aW0, .ref aE0])), (aT0, .inr (5, [.ref aT1, .ref aT3, .int tle_0, .int tpl, .int tdi, .int tti, .int tst])), (aT1, .inr (8, [.ref aT2])), (aT2, .inl (G.2.1, 60, .inl tc_0)), (aT3, .inr (8, [.ref aT4])), (aT4, .inl (G.2.1, 16, .inl tt))]) (some (.int r_0)) := by
  refine wr_of (by decide) (Nat.le_of_ble_eq_true rfl) ?_
  intro p e s m args below meth c ls A hx hb hr hml hown hlk hA hZ hP hD hS hA0 hin hl
  have hP : va_P G.1 vwCl [(a0, .inr (9, [.ref aL0, .ref aH0, .ref aT0, .ref aW0, .ref aE0])), (aT0, .inr (5, [.ref aT1, .ref aT3, .int tle, .int tpl, .int tdi, .int tti, .int tst])), (aT1, .inr (8, [.ref aT2])), (aT2, .inl (G.2.1, 60, .inl tc)), (aT3, .inr (8, [.ref aT4])), (aT4, .inl (G.2.1, 16, .inl tt))] s.heap := hP
  replace hown : s.vm.findClass RX9 = some m.cls := hown
  replace hl : lv_has ls 2 [(0, .ref a0), (1, .int i1)] := hl
  unfold fX9_append at hf
  refine lv_iload_n hx hb dX9_append_0 rfl (lv_at hl 1 rfl) ?_
  refine lv_bipush (v := 33) hx hb dX9_append_1 (by decide) ?_
  refine lv_bipush (v := 126) hx hb dX9_append_3 (by decide) ?_
  obtain ⟨e9 | u9, q_1, hf⟩ := obd hf
  · dsimp only at hf
    cases hf
  dsimp only at hf
  refine ro_s (n := 3) (As := [.int i1, .int 33, .int 126]) hx hb hml hown hA (kX9_checkRange l G i1 33 126 q_1) g_X9_48 gd_X9_checkRange ⟨(Nat.le_of_ble_eq_true rfl), (Nat.le_of_ble_eq_true rfl)⟩ (hZ.at hS) (fun _ _ h => by simp at h) rfl hl.1 (Nat.le_of_ble_eq_true rfl) ⟨(Nat.le_of_ble_eq_true rfl), (Nat.le_of_ble_eq_true rfl)⟩ dX9_append_5 ?_
  refine W.eq (g2 := F0 m 8 ls []) rfl ?_
  refine lv_aload_n hx hb dX9_append_8 rfl (lv_at hl 0 rfl) ?_
  refine gf_X9_26 hx hb hown hA hP 0 rfl rfl dX9_append_9 ?_
  refine gf_X9_184 hx hb hown hA hP 1 rfl rfl dX9_append_12 ?_
  refine lv_bipush (v := 60) hx hb dX9_append_15 (by decide) ?_
  refine lv_icmp_ge (tgt := 24) hx hb dX9_append_17 (by decide) (fun c_2 => ?_) (fun c_2 => ?_)
  · replace hf := ifp c_2 hf
    refine lv_iconst (v := 0) hx hb dX9_append_24 (by decide) ?_
    obtain ⟨e9 | u9, q_3, hf⟩ := obd hf
    · dsimp only at hf
      cases hf
    dsimp only at hf
    replace hf := omr hf
    refine ro_s (n := 1) (As := [.int 0]) hx hb hml hown hA (kX9_checkState l G 0 q_3) g_X9_142 gd_X9_checkState ⟨(Nat.le_of_ble_eq_true rfl), (Nat.le_of_ble_eq_true rfl)⟩ (hZ.at hS) (fun _ _ h => by simp at h) rfl hl.1 (Nat.le_of_ble_eq_true rfl) ⟨(Nat.le_of_ble_eq_true rfl), (Nat.le_of_ble_eq_true rfl)⟩ dX9_append_25 ?_
    refine W.eq (g2 := F0 m 28 ls []) rfl ?_
    refine lv_aload_n hx hb dX9_append_28 rfl (lv_at hl 0 rfl) ?_
    refine gf_X9_26 hx hb hown hA hP 0 rfl rfl dX9_append_29 ?_
    refine lv_iload_n hx hb dX9_append_32 rfl (lv_at hl 1 rfl) ?_
    obtain ⟨⟨r_4, tc_5, tle_6⟩, q_7, hf⟩ := obd hf
    dsimp only at hf
    refine wr_v (n := 1) (As := [.int i1]) (q0 := 0) (wr := [(a0, .inr (9, [.ref aL0, .ref aH0, .ref aT0, .ref aW0, .ref aE0]))]) (w2 := fun _ => [(a0, .inr (9, [.ref aL0, .ref aH0, .ref aT0, .ref aW0, .ref aE0])), (aT0, .inr (5, [.ref aT1, .ref aT3, .int tle_6, .int tpl, .int tdi, .int tti, .int tst])), (aT1, .inr (8, [.ref aT2])), (aT2, .inl (G.2.1, 60, .inl tc_5)), (aT3, .inr (8, [.ref aT4])), (aT4, .inl (G.2.1, 16, .inl tt))]) hx hb hml hown hA (kX5_add l G aT0 aT1 aT2 aT3 aT4 tc tt tle tpl tdi tti tst i1 r_4 tc_5 tle_6 q_7) g_X9_187 gd_X5_add ⟨(Nat.le_of_ble_eq_true rfl), (Nat.le_of_ble_eq_true rfl)⟩ hZ hP hD hS hA0 rfl rfl [1, 2, 3, 4, 5] [0] [0, 1, 2, 3, 4, 5] rfl rfl rfl rfl (by decide) (fun _ => rfl) rfl rfl hl.1 (Nat.le_of_ble_eq_true rfl) ⟨(Nat.le_of_ble_eq_true rfl), (Nat.le_of_ble_eq_true rfl)⟩ dX9_append_33 (fun _ H locs hP hD hS => ?_)
    refine W.eq (g2 := F0 m 36 ls [.int r_4]) rfl ?_
    cases hf
    exact wr_iret () hx hb hr hlk hP hD hS dX9_append_36
  · replace hf := ifn c_2 hf
    refine lv_iconst (v := 1) hx hb dX9_append_20 (by decide) ?_
    refine lv_goto (tgt := 25) hx hb dX9_append_21 (by decide) ?_
    obtain ⟨e9 | u9, q_8, hf⟩ := obd hf
    · dsimp only at hf
      cases hf
    dsimp only at hf
    replace hf := omr hf
    refine ro_s (n := 1) (As := [.int 1]) hx hb hml hown hA (kX9_checkState l G 1 q_8) g_X9_142 gd_X9_checkState ⟨(Nat.le_of_ble_eq_true rfl), (Nat.le_of_ble_eq_true rfl)⟩ (hZ.at hS) (fun _ _ h => by simp at h) rfl hl.1 (Nat.le_of_ble_eq_true rfl) ⟨(Nat.le_of_ble_eq_true rfl), (Nat.le_of_ble_eq_true rfl)⟩ dX9_append_25 ?_
    refine W.eq (g2 := F0 m 28 ls []) rfl ?_
    refine lv_aload_n hx hb dX9_append_28 rfl (lv_at hl 0 rfl) ?_
    refine gf_X9_26 hx hb hown hA hP 0 rfl rfl dX9_append_29 ?_
    refine lv_iload_n hx hb dX9_append_32 rfl (lv_at hl 1 rfl) ?_
    obtain ⟨⟨r_9, tc_10, tle_11⟩, q_12, hf⟩ := obd hf
    dsimp only at hf
    refine wr_v (n := 1) (As := [.int i1]) (q0 := 0) (wr := [(a0, .inr (9, [.ref aL0, .ref aH0, .ref aT0, .ref aW0, .ref aE0]))]) (w2 := fun _ => [(a0, .inr (9, [.ref aL0, .ref aH0, .ref aT0, .ref aW0, .ref aE0])), (aT0, .inr (5, [.ref aT1, .ref aT3, .int tle_11, .int tpl, .int tdi, .int tti, .int tst])), (aT1, .inr (8, [.ref aT2])), (aT2, .inl (G.2.1, 60, .inl tc_10)), (aT3, .inr (8, [.ref aT4])), (aT4, .inl (G.2.1, 16, .inl tt))]) hx hb hml hown hA (kX5_add l G aT0 aT1 aT2 aT3 aT4 tc tt tle tpl tdi tti tst i1 r_9 tc_10 tle_11 q_12) g_X9_187 gd_X5_add ⟨(Nat.le_of_ble_eq_true rfl), (Nat.le_of_ble_eq_true rfl)⟩ hZ hP hD hS hA0 rfl rfl [1, 2, 3, 4, 5] [0] [0, 1, 2, 3, 4, 5] rfl rfl rfl rfl (by decide) (fun _ => rfl) rfl rfl hl.1 (Nat.le_of_ble_eq_true rfl) ⟨(Nat.le_of_ble_eq_true rfl), (Nat.le_of_ble_eq_true rfl)⟩ dX9_append_33 (fun _ H locs hP hD hS => ?_)
    refine W.eq (g2 := F0 m 36 ls [.int r_9]) rfl ?_
    cases hf
    exact wr_iret () hx hb hr hlk hP hD hS dX9_append_36
set_option maxHeartbeats 4000000 in
set_option maxRecDepth 100000 in
theorem tX9_append (l : Launch) (hst : l.stackTraces = false) (G : GG) (a0 aT0 aT1 aT2 aT3 aT4 aL0 aH0 aW0 aE0 : Nat) (tc : Nat → Int32) (tt : Nat → Int32) (tle : Int32) (tpl : Int32) (tdi : Int32) (tti : Int32) (tst : Int32) (i1 : Int32) (k9 : Nat) (hf : fX9_append tc tle i1 = some (.inl k9)) : Th l G yX9_append cX9_append 2 (some .int) 8 123 [.ref a0, .int i1] [(a0, .inr (9, [.ref aL0, .ref aH0, .ref aT0, .ref aW0, .ref aE0])), (aT0, .inr (5, [.ref aT1, .ref aT3, .int tle, .int tpl, .int tdi, .int tti, .int tst])), (aT1, .inr (8, [.ref aT2])), (aT2, .inl (G.2.1, 60, .inl tc)), (aT3, .inr (8, [.ref aT4])), (aT4, .inl (G.2.1, 16, .inl tt))] (exn k9) := by
  refine th_of (by decide) (Nat.le_of_ble_eq_true rfl) ?_
  intro p e s m args below meth c ls hx hb het hml hown hlk hA hZ hP hl
  replace hown : s.vm.findClass RX9 = some m.cls := hown
  replace hl : lv_has ls 2 [(0, .ref a0), (1, .int i1)] := hl
  unfold fX9_append at hf
  refine lv_iload_n hx hb dX9_append_0 rfl (lv_at hl 1 rfl) ?_
  refine lv_bipush (v := 33) hx hb dX9_append_1 (by decide) ?_
  refine lv_bipush (v := 126) hx hb dX9_append_3 (by decide) ?_
  obtain ⟨e9 | u9, q_1, hf⟩ := obd hf
  · dsimp only at hf
    cases hf
    exact th_s (n := 3) (As := [.int i1, .int 33, .int 126]) hx hb het hlk hml hown hA (tX9_checkRange l hst G i1 33 126 _ q_1) g_X9_48 gd_X9_checkRange ⟨(Nat.le_of_ble_eq_true rfl), (Nat.le_of_ble_eq_true rfl)⟩ hZ (fun _ _ h => by simp at h) rfl hl.1 (Nat.le_of_ble_eq_true rfl) ⟨(Nat.le_of_ble_eq_true rfl), (Nat.le_of_ble_eq_true rfl)⟩ dX9_append_5
  dsimp only at hf
  refine ro_s (n := 3) (As := [.int i1, .int 33, .int 126]) hx hb hml hown hA (kX9_checkRange l G i1 33 126 q_1) g_X9_48 gd_X9_checkRange ⟨(Nat.le_of_ble_eq_true rfl), (Nat.le_of_ble_eq_true rfl)⟩ hZ (fun _ _ h => by simp at h) rfl hl.1 (Nat.le_of_ble_eq_true rfl) ⟨(Nat.le_of_ble_eq_true rfl), (Nat.le_of_ble_eq_true rfl)⟩ dX9_append_5 ?_
  refine W.eq (g2 := F0 m 8 ls []) rfl ?_
  refine lv_aload_n hx hb dX9_append_8 rfl (lv_at hl 0 rfl) ?_
  refine gf_X9_26 hx hb hown hA hP 0 rfl rfl dX9_append_9 ?_
  refine gf_X9_184 hx hb hown hA hP 1 rfl rfl dX9_append_12 ?_
  refine lv_bipush (v := 60) hx hb dX9_append_15 (by decide) ?_
  refine lv_icmp_ge (tgt := 24) hx hb dX9_append_17 (by decide) (fun c_2 => ?_) (fun c_2 => ?_)
  · replace hf := ifp c_2 hf
    refine lv_iconst (v := 0) hx hb dX9_append_24 (by decide) ?_
    obtain ⟨e9 | u9, q_3, hf⟩ := obd hf
    · dsimp only at hf
      cases hf
      exact th_s (n := 1) (As := [.int 0]) hx hb het hlk hml hown hA (tX9_checkState l hst G 0 _ q_3) g_X9_142 gd_X9_checkState ⟨(Nat.le_of_ble_eq_true rfl), (Nat.le_of_ble_eq_true rfl)⟩ hZ (fun _ _ h => by simp at h) rfl hl.1 (Nat.le_of_ble_eq_true rfl) ⟨(Nat.le_of_ble_eq_true rfl), (Nat.le_of_ble_eq_true rfl)⟩ dX9_append_25
    dsimp only at hf
    exact (oml hf).elim
  · replace hf := ifn c_2 hf
    refine lv_iconst (v := 1) hx hb dX9_append_20 (by decide) ?_
    refine lv_goto (tgt := 25) hx hb dX9_append_21 (by decide) ?_
    obtain ⟨e9 | u9, q_8, hf⟩ := obd hf
    · dsimp only at hf
      cases hf
      exact th_s (n := 1) (As := [.int 1]) hx hb het hlk hml hown hA (tX9_checkState l hst G 1 _ q_8) g_X9_142 gd_X9_checkState ⟨(Nat.le_of_ble_eq_true rfl), (Nat.le_of_ble_eq_true rfl)⟩ hZ (fun _ _ h => by simp at h) rfl hl.1 (Nat.le_of_ble_eq_true rfl) ⟨(Nat.le_of_ble_eq_true rfl), (Nat.le_of_ble_eq_true rfl)⟩ dX9_append_25
    dsimp only at hf
    exact (oml hf).elim
def fX9_clearBuffer (tle : Int32)  : Option (Int32 × Int32) :=
  ((fX5_empty tle).bind fun (r_1, tle_2) => some (r_1, tle_2))
set_option maxHeartbeats 4000000 in
set_option maxRecDepth 100000 in
theorem kX9_clearBuffer (l : Launch) (G : GG) (a0 aT0 aT1 aT2 aT3 aT4 aL0 aH0 aW0 aE0 : Nat) (tc : Nat → Int32) (tt : Nat → Int32) (tle : Int32) (tpl : Int32) (tdi : Int32) (tti : Int32) (tst : Int32)  (r_0 : Int32) (tle_0 : Int32) (hf : fX9_clearBuffer tle = some (r_0, tle_0)) : Wr l G yX9_clearBuffer cX9_clearBuffer 1 (some .int) 1 21 0 0 [.ref a0] [(a0, .inr (9, [.ref aL0, .ref aH0, .ref aT0, .ref aW0, .ref aE0])), (aT0, .inr (5, [.ref aT1, .ref aT3, .int tle, .int tpl, .int tdi, .int tti, .int tst])), (aT1, .inr (8, [.ref aT2])), (aT2, .inl (G.2.1, 60, .inl tc)), (aT3, .inr (8, [.ref aT4])), (aT4, .inl (G.2.1, 16, .inl tt))] (X := Unit) (fun _ => [(a0, .inr (9, [.ref aL0, .ref aH0, .ref aT0, .ref aW0, .ref aE0])), (aT0, .inr (5, [.ref aT1, .ref aT3, .int tle_0, .int tpl, .int tdi, .int tti, .int tst])), (aT1, .inr (8, [.ref aT2])), (aT2, .inl (G.2.1, 60, .inl tc)), (aT3, .inr (8, [.ref aT4])), (aT4, .inl (G.2.1, 16, .inl tt))]) (some (.int r_0)) := by
  refine wr_of (by decide) (Nat.le_of_ble_eq_true rfl) ?_
  intro p e s m args below meth c ls A hx hb hr hml hown hlk hA hZ hP hD hS hA0 hin hl
  have hP : va_P G.1 vwCl [(a0, .inr (9, [.ref aL0, .ref aH0, .ref aT0, .ref aW0, .ref aE0])), (aT0, .inr (5, [.ref aT1, .ref aT3, .int tle, .int tpl, .int tdi, .int tti, .int tst])), (aT1, .inr (8, [.ref aT2])), (aT2, .inl (G.2.1, 60, .inl tc)), (aT3, .inr (8, [.ref aT4])), (aT4, .inl (G.2.1, 16, .inl tt))] s.heap := hP
  replace hown : s.vm.findClass RX9 = some m.cls := hown
  replace hl : lv_has ls 1 [(0, .ref a0)] := hl
  unfold fX9_clearBuffer at hf
  refine lv_aload_n hx hb dX9_clearBuffer_0 rfl (lv_at hl 0 rfl) ?_
  refine gf_X9_26 hx hb hown hA hP 0 rfl rfl dX9_clearBuffer_1 ?_
  obtain ⟨⟨r_1, tle_2⟩, q_3, hf⟩ := obd hf
  dsimp only at hf
  refine wr_v (n := 0) (As := []) (q0 := 0) (wr := [(a0, .inr (9, [.ref aL0, .ref aH0, .ref aT0, .ref aW0, .ref aE0]))]) (w2 := fun _ => [(a0, .inr (9, [.ref aL0, .ref aH0, .ref aT0, .ref aW0, .ref aE0])), (aT0, .inr (5, [.ref aT1, .ref aT3, .int tle_2, .int tpl, .int tdi, .int tti, .int tst])), (aT1, .inr (8, [.ref aT2])), (aT2, .inl (G.2.1, 60, .inl tc)), (aT3, .inr (8, [.ref aT4])), (aT4, .inl (G.2.1, 16, .inl tt))]) hx hb hml hown hA (kX5_empty l G aT0 aT1 aT2 aT3 aT4 tc tt tle tpl tdi tti tst r_1 tle_2 q_3) g_X9_189 gd_X5_empty ⟨(Nat.le_of_ble_eq_true rfl), (Nat.le_of_ble_eq_true rfl)⟩ hZ hP hD hS hA0 rfl rfl [1, 2, 3, 4, 5] [0] [0, 1, 2, 3, 4, 5] rfl rfl rfl rfl (by decide) (fun _ => rfl) rfl rfl hl.1 (Nat.le_of_ble_eq_true rfl) ⟨(Nat.le_of_ble_eq_true rfl), (Nat.le_of_ble_eq_true rfl)⟩ dX9_clearBuffer_4 (fun _ H locs hP hD hS => ?_)
  refine W.eq (g2 := F0 m 7 ls [.int r_1]) rfl ?_
  cases hf
  exact wr_iret () hx hb hr hlk hP hD hS dX9_clearBuffer_7
def fX9_firstError (tc : Nat → Int32) (tt : Nat → Int32) (tle : Int32)  : Option (Int32 × (Nat → Int32) × Int32 × Int32 × Int32 × Int32) :=
  ((fX5_readable tc tt tle).bind fun (r_1, tt_2, tpl_3, tdi_4, tti_5, tst_6) => some (r_1, tt_2, tpl_3, tdi_4, tti_5, tst_6))
set_option maxHeartbeats 4000000 in
set_option maxRecDepth 100000 in
theorem kX9_firstError (l : Launch) (G : GG) (a0 aT0 aT1 aT2 aT3 aT4 aL0 aH0 aW0 aE0 : Nat) (tc : Nat → Int32) (tt : Nat → Int32) (tle : Int32) (tpl : Int32) (tdi : Int32) (tti : Int32) (tst : Int32)  (r_0 : Int32) (tt_0 : Nat → Int32) (tpl_0 : Int32) (tdi_0 : Int32) (tti_0 : Int32) (tst_0 : Int32) (hf : fX9_firstError tc tt tle = some (r_0, tt_0, tpl_0, tdi_0, tti_0, tst_0)) : Wr l G yX9_firstError cX9_firstError 1 (some .int) 5 105 0 0 [.ref a0] [(a0, .inr (9, [.ref aL0, .ref aH0, .ref aT0, .ref aW0, .ref aE0])), (aT0, .inr (5, [.ref aT1, .ref aT3, .int tle, .int tpl, .int tdi, .int tti, .int tst])), (aT1, .inr (8, [.ref aT2])), (aT2, .inl (G.2.1, 60, .inl tc)), (aT3, .inr (8, [.ref aT4])), (aT4, .inl (G.2.1, 16, .inl tt))] (X := Unit) (fun _ => [(a0, .inr (9, [.ref aL0, .ref aH0, .ref aT0, .ref aW0, .ref aE0])), (aT0, .inr (5, [.ref aT1, .ref aT3, .int tle, .int tpl_0, .int tdi_0, .int tti_0, .int tst_0])), (aT1, .inr (8, [.ref aT2])), (aT2, .inl (G.2.1, 60, .inl tc)), (aT3, .inr (8, [.ref aT4])), (aT4, .inl (G.2.1, 16, .inl tt_0))]) (some (.int r_0)) := by
  refine wr_of (by decide) (Nat.le_of_ble_eq_true rfl) ?_
  intro p e s m args below meth c ls A hx hb hr hml hown hlk hA hZ hP hD hS hA0 hin hl
  have hP : va_P G.1 vwCl [(a0, .inr (9, [.ref aL0, .ref aH0, .ref aT0, .ref aW0, .ref aE0])), (aT0, .inr (5, [.ref aT1, .ref aT3, .int tle, .int tpl, .int tdi, .int tti, .int tst])), (aT1, .inr (8, [.ref aT2])), (aT2, .inl (G.2.1, 60, .inl tc)), (aT3, .inr (8, [.ref aT4])), (aT4, .inl (G.2.1, 16, .inl tt))] s.heap := hP
  replace hown : s.vm.findClass RX9 = some m.cls := hown
  replace hl : lv_has ls 1 [(0, .ref a0)] := hl
  unfold fX9_firstError at hf
  refine lv_aload_n hx hb dX9_firstError_0 rfl (lv_at hl 0 rfl) ?_
  refine gf_X9_26 hx hb hown hA hP 0 rfl rfl dX9_firstError_1 ?_
  obtain ⟨⟨r_1, tt_2, tpl_3, tdi_4, tti_5, tst_6⟩, q_7, hf⟩ := obd hf
  dsimp only at hf
  refine wr_v (n := 0) (As := []) (q0 := 0) (wr := [(a0, .inr (9, [.ref aL0, .ref aH0, .ref aT0, .ref aW0, .ref aE0]))]) (w2 := fun _ => [(a0, .inr (9, [.ref aL0, .ref aH0, .ref aT0, .ref aW0, .ref aE0])), (aT0, .inr (5, [.ref aT1, .ref aT3, .int tle, .int tpl_3, .int tdi_4, .int tti_5, .int tst_6])), (aT1, .inr (8, [.ref aT2])), (aT2, .inl (G.2.1, 60, .inl tc)), (aT3, .inr (8, [.ref aT4])), (aT4, .inl (G.2.1, 16, .inl tt_2))]) hx hb hml hown hA (kX5_readable l G aT0 aT1 aT2 aT3 aT4 tc tt tle tpl tdi tti tst r_1 tt_2 tpl_3 tdi_4 tti_5 tst_6 q_7) g_X9_192 gd_X5_readable ⟨(Nat.le_of_ble_eq_true rfl), (Nat.le_of_ble_eq_true rfl)⟩ hZ hP hD hS hA0 rfl rfl [1, 2, 3, 4, 5] [0] [0, 1, 2, 3, 4, 5] rfl rfl rfl rfl (by decide) (fun _ => rfl) rfl rfl hl.1 (Nat.le_of_ble_eq_true rfl) ⟨(Nat.le_of_ble_eq_true rfl), (Nat.le_of_ble_eq_true rfl)⟩ dX9_firstError_4 (fun _ H locs hP hD hS => ?_)
  refine W.eq (g2 := F0 m 7 ls [.int r_1]) rfl ?_
  cases hf
  exact wr_iret () hx hb hr hlk hP hD hS dX9_firstError_7
def fX9_savedStates (hcn : Int32)  : Option (Int32) :=
  some hcn
set_option maxHeartbeats 4000000 in
set_option maxRecDepth 100000 in
theorem kX9_savedStates (l : Launch) (G : GG) (a0 aH0 aL0 aT0 aW0 aE0 aHS aHL : Nat) (ho : Int32) (hcn : Int32)  (r_0 : Int32) (hf : fX9_savedStates hcn = some r_0) : Ro l G yX9_savedStates cX9_savedStates 1 (some .int) 0 0 [.ref a0] [(a0, .inr (9, [.ref aL0, .ref aH0, .ref aT0, .ref aW0, .ref aE0])), (aH0, .inr (3, [.ref aHS, .ref aHL, .int ho, .int hcn]))] (some (.int r_0)) := by
  refine ro_of (by decide) (Nat.le_of_ble_eq_true rfl) ?_
  intro p e s m args below meth c ls hx hb hr hml hown hlk hA hZ hP hl
  replace hown : s.vm.findClass RX9 = some m.cls := hown
  replace hl : lv_has ls 1 [(0, .ref a0)] := hl
  unfold fX9_savedStates at hf
  refine lv_aload_n hx hb dX9_savedStates_0 rfl (lv_at hl 0 rfl) ?_
  refine gf_X9_19 hx hb hown hA hP 0 rfl rfl dX9_savedStates_1 ?_
  refine gf_X9_224 hx hb hown hA hP 1 rfl rfl dX9_savedStates_4 ?_
  cases hf
  exact ro_iret hx hb hr hlk dX9_savedStates_7
def fX9_isIndex  (i1 : Int32) (i2 : Int32) : Option (Int32) :=
  (if i1 < 0 then some 0 else (if i2 ≤ i1 then some 0 else some 1))
set_option maxHeartbeats 4000000 in
set_option maxRecDepth 100000 in
theorem kX9_isIndex (l : Launch) (G : GG)  (i1 : Int32) (i2 : Int32) (r_0 : Int32) (hf : fX9_isIndex i1 i2 = some r_0) : Ro l G yX9_isIndex cX9_isIndex 2 (some .boolean) 0 0 [.int i1, .int i2] [] (some (.int r_0)) := by
  refine ro_of (by decide) (Nat.le_of_ble_eq_true rfl) ?_
  intro p e s m args below meth c ls hx hb hr hml hown hlk hA hZ hP hl
  replace hown : s.vm.findClass RX9 = some m.cls := hown
  replace hl : lv_has ls 2 [(0, .int i1), (1, .int i2)] := hl
  unfold fX9_isIndex at hf
  refine lv_iload_n hx hb dX9_isIndex_0 rfl (lv_at hl 0 rfl) ?_
  refine lv_if_lt (tgt := 13) hx hb dX9_isIndex_1 (by decide) (fun c_1 => ?_) (fun c_1 => ?_)
  · replace hf := ifp c_1 hf
    refine lv_iconst (v := 0) hx hb dX9_isIndex_13 (by decide) ?_
    cases hf
    exact ro_zret hx hb hr hlk (Or.inl rfl) dX9_isIndex_14
  · replace hf := ifn c_1 hf
    refine lv_iload_n hx hb dX9_isIndex_4 rfl (lv_at hl 0 rfl) ?_
    refine lv_iload_n hx hb dX9_isIndex_5 rfl (lv_at hl 1 rfl) ?_
    refine lv_icmp_ge (tgt := 13) hx hb dX9_isIndex_6 (by decide) (fun c_2 => ?_) (fun c_2 => ?_)
    · replace hf := ifp c_2 hf
      refine lv_iconst (v := 0) hx hb dX9_isIndex_13 (by decide) ?_
      cases hf
      exact ro_zret hx hb hr hlk (Or.inl rfl) dX9_isIndex_14
    · replace hf := ifn c_2 hf
      refine lv_iconst (v := 1) hx hb dX9_isIndex_9 (by decide) ?_
      refine lv_goto (tgt := 14) hx hb dX9_isIndex_10 (by decide) ?_
      cases hf
      exact ro_zret hx hb hr hlk (Or.inr rfl) dX9_isIndex_14
def fX9_checkIndex  (i1 : Int32) (i2 : Int32) : Option (Nat ⊕ (Unit)) :=
  ((fX9_isIndex i1 i2).bind fun r_1 => (if r_1 = 0 then some (.inl 0) else (Option.map Sum.inr (some ()))))
set_option maxHeartbeats 4000000 in
set_option maxRecDepth 100000 in
theorem kX9_checkIndex (l : Launch) (G : GG)  (i1 : Int32) (i2 : Int32)  (hf : fX9_checkIndex i1 i2 = some (.inr ())) : Ro l G yX9_checkIndex cX9_checkIndex 2 none 6 81 [.int i1, .int i2] [] none := by
  refine ro_of (by decide) (Nat.le_of_ble_eq_true rfl) ?_
  intro p e s m args below meth c ls hx hb hr hml hown hlk hA hZ hP hl
  replace hown : s.vm.findClass RX9 = some m.cls := hown
  replace hl : lv_has ls 2 [(0, .int i1), (1, .int i2)] := hl
  unfold fX9_checkIndex at hf
  refine lv_iload_n hx hb dX9_checkIndex_0 rfl (lv_at hl 0 rfl) ?_
  refine lv_iload_n hx hb dX9_checkIndex_1 rfl (lv_at hl 1 rfl) ?_
  obtain ⟨r_1, q_2, hf⟩ := obd hf
  refine ro_s (n := 2) (As := [.int i1, .int i2]) hx hb hml hown hA (kX9_isIndex l G i1 i2 r_1 q_2) g_X9_209 gd_X9_isIndex ⟨(Nat.le_of_ble_eq_true rfl), (Nat.le_of_ble_eq_true rfl)⟩ hZ (fun _ _ h => by simp at h) rfl hl.1 (Nat.le_of_ble_eq_true rfl) ⟨(Nat.le_of_ble_eq_true rfl), (Nat.le_of_ble_eq_true rfl)⟩ dX9_checkIndex_2 ?_
  refine W.eq (g2 := F0 m 5 ls [.int r_1]) rfl ?_
  refine lv_if_ne (tgt := 16) hx hb dX9_checkIndex_5 (by decide) (fun c_3 => ?_) (fun c_3 => ?_)
  · replace hf := ifn c_3 hf
    replace hf := omr hf
    cases hf
    exact ro_vret hx hb hr hlk dX9_checkIndex_16
  · replace hf := ifp c_3 hf
    cases hf
set_option maxHeartbeats 4000000 in
set_option maxRecDepth 100000 in
theorem tX9_checkIndex (l : Launch) (hst : l.stackTraces = false) (G : GG)  (i1 : Int32) (i2 : Int32) (k9 : Nat) (hf : fX9_checkIndex i1 i2 = some (.inl k9)) : Th l G yX9_checkIndex cX9_checkIndex 2 none 6 81 [.int i1, .int i2] [] (exn k9) := by
  refine th_of (by decide) (Nat.le_of_ble_eq_true rfl) ?_
  intro p e s m args below meth c ls hx hb het hml hown hlk hA hZ hP hl
  replace hown : s.vm.findClass RX9 = some m.cls := hown
  replace hl : lv_has ls 2 [(0, .int i1), (1, .int i2)] := hl
  unfold fX9_checkIndex at hf
  refine lv_iload_n hx hb dX9_checkIndex_0 rfl (lv_at hl 0 rfl) ?_
  refine lv_iload_n hx hb dX9_checkIndex_1 rfl (lv_at hl 1 rfl) ?_
  obtain ⟨r_1, q_2, hf⟩ := obd hf
  refine ro_s (n := 2) (As := [.int i1, .int i2]) hx hb hml hown hA (kX9_isIndex l G i1 i2 r_1 q_2) g_X9_209 gd_X9_isIndex ⟨(Nat.le_of_ble_eq_true rfl), (Nat.le_of_ble_eq_true rfl)⟩ hZ (fun _ _ h => by simp at h) rfl hl.1 (Nat.le_of_ble_eq_true rfl) ⟨(Nat.le_of_ble_eq_true rfl), (Nat.le_of_ble_eq_true rfl)⟩ dX9_checkIndex_2 ?_
  refine W.eq (g2 := F0 m 5 ls [.int r_1]) rfl ?_
  refine lv_if_ne (tgt := 16) hx hb dX9_checkIndex_5 (by decide) (fun c_3 => ?_) (fun c_3 => ?_)
  · replace hf := ifn c_3 hf
    exact (oml hf).elim
  · replace hf := ifp c_3 hf
    cases hf
    exact vx_throw0 (cls := "java/lang/IndexOutOfBoundsException") (names := ["java/lang/RuntimeException", "java/lang/Exception"]) (own := RX9) (A := nA) hx hb hst hown (by decide +kernel) (by decide +kernel) (hA.hts _ wd_327) (hA.hts _ wd_328) (th_words (ik := 365) hA wdv_0 th_ne0) (by decide +kernel) hZ.2.2.2.2.1 hZ.2.2.2.2.2 va_S.rf (hl.1.trans hml.symm) dX9_checkIndex_8 dX9_checkIndex_11 dX9_checkIndex_12 dX9_checkIndex_15 (fun x hx9 => (het x hx9).elim) (Nat.le_of_ble_eq_true rfl) (Nat.le_of_ble_eq_true rfl) (Nat.le_of_ble_eq_true rfl) (Nat.le_of_ble_eq_true rfl) hlk (fun t _ hz hk => ⟨rfl, hz, hk⟩) (fun _ h => nomatch h) (Nat.le_of_ble_eq_true rfl) (Nat.le_of_ble_eq_true rfl)
def fX9_checkMaster  (i1 : Int32) : Option (Nat ⊕ (Unit)) :=
  ((fX9_checkIndex i1 3).bind fun z => match z with | .inl e => some (.inl e) | .inr _ => (Option.map Sum.inr (some ())))
set_option maxHeartbeats 4000000 in
set_option maxRecDepth 100000 in
theorem kX9_checkMaster (l : Launch) (G : GG)  (i1 : Int32)  (hf : fX9_checkMaster i1 = some (.inr ())) : Ro l G yX9_checkMaster cX9_checkMaster 1 none 7 102 [.int i1] [] none := by
  refine ro_of (by decide) (Nat.le_of_ble_eq_true rfl) ?_
  intro p e s m args below meth c ls hx hb hr hml hown hlk hA hZ hP hl
  replace hown : s.vm.findClass RX9 = some m.cls := hown
  replace hl : lv_has ls 1 [(0, .int i1)] := hl
  unfold fX9_checkMaster at hf
  refine lv_iload_n hx hb dX9_checkMaster_0 rfl (lv_at hl 0 rfl) ?_
  refine lv_iconst (v := 3) hx hb dX9_checkMaster_1 (by decide) ?_
  obtain ⟨e9 | u9, q_1, hf⟩ := obd hf
  · dsimp only at hf
    cases hf
  dsimp only at hf
  replace hf := omr hf
  refine ro_s (n := 2) (As := [.int i1, .int 3]) hx hb hml hown hA (kX9_checkIndex l G i1 3 q_1) g_X9_129 gd_X9_checkIndex ⟨(Nat.le_of_ble_eq_true rfl), (Nat.le_of_ble_eq_true rfl)⟩ hZ (fun _ _ h => by simp at h) rfl hl.1 (Nat.le_of_ble_eq_true rfl) ⟨(Nat.le_of_ble_eq_true rfl), (Nat.le_of_ble_eq_true rfl)⟩ dX9_checkMaster_2 ?_
  refine W.eq (g2 := F0 m 5 ls []) rfl ?_
  cases hf
  exact ro_vret hx hb hr hlk dX9_checkMaster_5
set_option maxHeartbeats 4000000 in
set_option maxRecDepth 100000 in
theorem tX9_checkMaster (l : Launch) (hst : l.stackTraces = false) (G : GG)  (i1 : Int32) (k9 : Nat) (hf : fX9_checkMaster i1 = some (.inl k9)) : Th l G yX9_checkMaster cX9_checkMaster 1 none 7 102 [.int i1] [] (exn k9) := by
  refine th_of (by decide) (Nat.le_of_ble_eq_true rfl) ?_
  intro p e s m args below meth c ls hx hb het hml hown hlk hA hZ hP hl
  replace hown : s.vm.findClass RX9 = some m.cls := hown
  replace hl : lv_has ls 1 [(0, .int i1)] := hl
  unfold fX9_checkMaster at hf
  refine lv_iload_n hx hb dX9_checkMaster_0 rfl (lv_at hl 0 rfl) ?_
  refine lv_iconst (v := 3) hx hb dX9_checkMaster_1 (by decide) ?_
  obtain ⟨e9 | u9, q_1, hf⟩ := obd hf
  · dsimp only at hf
    cases hf
    exact th_s (n := 2) (As := [.int i1, .int 3]) hx hb het hlk hml hown hA (tX9_checkIndex l hst G i1 3 _ q_1) g_X9_129 gd_X9_checkIndex ⟨(Nat.le_of_ble_eq_true rfl), (Nat.le_of_ble_eq_true rfl)⟩ hZ (fun _ _ h => by simp at h) rfl hl.1 (Nat.le_of_ble_eq_true rfl) ⟨(Nat.le_of_ble_eq_true rfl), (Nat.le_of_ble_eq_true rfl)⟩ dX9_checkMaster_2
  dsimp only at hf
  exact (oml hf).elim
def fX9_checkStep  (i1 : Int32) : Option (Nat ⊕ (Unit)) :=
  ((fX9_checkIndex i1 16).bind fun z => match z with | .inl e => some (.inl e) | .inr _ => (Option.map Sum.inr (some ())))
set_option maxHeartbeats 4000000 in
set_option maxRecDepth 100000 in
theorem kX9_checkStep (l : Launch) (G : GG)  (i1 : Int32)  (hf : fX9_checkStep i1 = some (.inr ())) : Ro l G yX9_checkStep cX9_checkStep 1 none 7 102 [.int i1] [] none := by
  refine ro_of (by decide) (Nat.le_of_ble_eq_true rfl) ?_
  intro p e s m args below meth c ls hx hb hr hml hown hlk hA hZ hP hl
  replace hown : s.vm.findClass RX9 = some m.cls := hown
  replace hl : lv_has ls 1 [(0, .int i1)] := hl
  unfold fX9_checkStep at hf
  refine lv_iload_n hx hb dX9_checkStep_0 rfl (lv_at hl 0 rfl) ?_
  refine lv_bipush (v := 16) hx hb dX9_checkStep_1 (by decide) ?_
  obtain ⟨e9 | u9, q_1, hf⟩ := obd hf
  · dsimp only at hf
    cases hf
  dsimp only at hf
  replace hf := omr hf
  refine ro_s (n := 2) (As := [.int i1, .int 16]) hx hb hml hown hA (kX9_checkIndex l G i1 16 q_1) g_X9_129 gd_X9_checkIndex ⟨(Nat.le_of_ble_eq_true rfl), (Nat.le_of_ble_eq_true rfl)⟩ hZ (fun _ _ h => by simp at h) rfl hl.1 (Nat.le_of_ble_eq_true rfl) ⟨(Nat.le_of_ble_eq_true rfl), (Nat.le_of_ble_eq_true rfl)⟩ dX9_checkStep_3 ?_
  refine W.eq (g2 := F0 m 6 ls []) rfl ?_
  cases hf
  exact ro_vret hx hb hr hlk dX9_checkStep_6
set_option maxHeartbeats 4000000 in
set_option maxRecDepth 100000 in
theorem tX9_checkStep (l : Launch) (hst : l.stackTraces = false) (G : GG)  (i1 : Int32) (k9 : Nat) (hf : fX9_checkStep i1 = some (.inl k9)) : Th l G yX9_checkStep cX9_checkStep 1 none 7 102 [.int i1] [] (exn k9) := by
  refine th_of (by decide) (Nat.le_of_ble_eq_true rfl) ?_
  intro p e s m args below meth c ls hx hb het hml hown hlk hA hZ hP hl
  replace hown : s.vm.findClass RX9 = some m.cls := hown
  replace hl : lv_has ls 1 [(0, .int i1)] := hl
  unfold fX9_checkStep at hf
  refine lv_iload_n hx hb dX9_checkStep_0 rfl (lv_at hl 0 rfl) ?_
  refine lv_bipush (v := 16) hx hb dX9_checkStep_1 (by decide) ?_
  obtain ⟨e9 | u9, q_1, hf⟩ := obd hf
  · dsimp only at hf
    cases hf
    exact th_s (n := 2) (As := [.int i1, .int 16]) hx hb het hlk hml hown hA (tX9_checkIndex l hst G i1 16 _ q_1) g_X9_129 gd_X9_checkIndex ⟨(Nat.le_of_ble_eq_true rfl), (Nat.le_of_ble_eq_true rfl)⟩ hZ (fun _ _ h => by simp at h) rfl hl.1 (Nat.le_of_ble_eq_true rfl) ⟨(Nat.le_of_ble_eq_true rfl), (Nat.le_of_ble_eq_true rfl)⟩ dX9_checkStep_3
  dsimp only at hf
  exact (oml hf).elim
def fX9_masterAt (md : Nat → Int32) (i1 : Int32) (i2 : Int32) : Option (Nat ⊕ (Int32)) :=
  ((fX9_checkMaster i1).bind fun z => match z with | .inl e => some (.inl e) | .inr _ => ((fX9_checkStep i2).bind fun z => match z with | .inl e => some (.inl e) | .inr _ => (Option.map Sum.inr (((fX6_at md i1 i2).bind fun r_3 => some r_3)))))
set_option maxHeartbeats 4000000 in
set_option maxRecDepth 100000 in
theorem kX9_masterAt (l : Launch) (G : GG) (a0 aL0 aL1 aL2 aL3 aL4 aL5 aL6 aL7 aL8 aL9 aL10 aL11 aL12 aH0 aT0 aW0 aE0 : Nat) (md : Nat → Int32) (mch : Int32) (fra : Int32) (fwe : Int32) (fof : Int32) (fsi : Int32) (csh : Int32) (cde : Int32) (csp : Int32) (rd : Nat → Int32) (rw : Nat → Int32) (rp : Nat → Int32) (rco : Int32) (rmo : Int32) (apa : Int32) (awo : Int32) (ash : Int32) (aja : Int32) (abu : Int32) (ltol : Int32) (lchi : Int32) (ljam : Int32) (i1 : Int32) (i2 : Int32) (r_0 : Int32) (hf : fX9_masterAt md i1 i2 = some (.inr r_0)) : Ro l G yX9_masterAt cX9_masterAt 3 (some .int) 8 122 [.ref a0, .int i1, .int i2] [(a0, .inr (9, [.ref aL0, .ref aH0, .ref aT0, .ref aW0, .ref aE0])), (aL0, .inr (4, [.ref aL1, .ref aL3, .ref aL4, .ref aL5, .ref aL12, .int ltol, .int lchi, .int ljam])), (aL1, .inr (6, [.ref aL2, .int mch])), (aL2, .inl (G.2.1, 48, .inl md)), (aL3, .inr (2, [.int fra, .int fwe, .int fof, .int fsi])), (aL4, .inr (1, [.int csh, .int cde, .int csp])), (aL5, .inr (7, [.ref aL6, .ref aL8, .ref aL10, .int rco, .int rmo])), (aL6, .inr (8, [.ref aL7])), (aL7, .inl (G.2.1, 80, .inl rd)), (aL8, .inr (8, [.ref aL9])), (aL9, .inl (G.2.1, 5, .inl rw)), (aL10, .inr (8, [.ref aL11])), (aL11, .inl (G.2.1, 5, .inl rp)), (aL12, .inr (0, [.int apa, .int awo, .int ash, .int aja, .int abu]))] (some (.int r_0)) := by
  refine ro_of (by decide) (Nat.le_of_ble_eq_true rfl) ?_
  intro p e s m args below meth c ls hx hb hr hml hown hlk hA hZ hP hl
  replace hown : s.vm.findClass RX9 = some m.cls := hown
  replace hl : lv_has ls 3 [(0, .ref a0), (1, .int i1), (2, .int i2)] := hl
  unfold fX9_masterAt at hf
  refine lv_iload_n hx hb dX9_masterAt_0 rfl (lv_at hl 1 rfl) ?_
  obtain ⟨e9 | u9, q_1, hf⟩ := obd hf
  · dsimp only at hf
    cases hf
  dsimp only at hf
  refine ro_s (n := 1) (As := [.int i1]) hx hb hml hown hA (kX9_checkMaster l G i1 q_1) g_X9_42 gd_X9_checkMaster ⟨(Nat.le_of_ble_eq_true rfl), (Nat.le_of_ble_eq_true rfl)⟩ hZ (fun _ _ h => by simp at h) rfl hl.1 (Nat.le_of_ble_eq_true rfl) ⟨(Nat.le_of_ble_eq_true rfl), (Nat.le_of_ble_eq_true rfl)⟩ dX9_masterAt_1 ?_
  refine W.eq (g2 := F0 m 4 ls []) rfl ?_
  refine lv_iload_n hx hb dX9_masterAt_4 rfl (lv_at hl 2 rfl) ?_
  obtain ⟨e9 | u9, q_2, hf⟩ := obd hf
  · dsimp only at hf
    cases hf
  dsimp only at hf
  replace hf := omr hf
  refine ro_s (n := 1) (As := [.int i2]) hx hb hml hown hA (kX9_checkStep l G i2 q_2) g_X9_45 gd_X9_checkStep ⟨(Nat.le_of_ble_eq_true rfl), (Nat.le_of_ble_eq_true rfl)⟩ hZ (fun _ _ h => by simp at h) rfl hl.1 (Nat.le_of_ble_eq_true rfl) ⟨(Nat.le_of_ble_eq_true rfl), (Nat.le_of_ble_eq_true rfl)⟩ dX9_masterAt_5 ?_
  refine W.eq (g2 := F0 m 8 ls []) rfl ?_
  refine lv_aload_n hx hb dX9_masterAt_8 rfl (lv_at hl 0 rfl) ?_
  refine gf_X9_10 hx hb hown hA hP 0 rfl rfl dX9_masterAt_9 ?_
  refine gf_X9_56 hx hb hown hA hP 1 rfl rfl dX9_masterAt_12 ?_
  refine lv_iload_n hx hb dX9_masterAt_15 rfl (lv_at hl 1 rfl) ?_
  refine lv_iload_n hx hb dX9_masterAt_16 rfl (lv_at hl 2 rfl) ?_
  obtain ⟨r_3, q_4, hf⟩ := obd hf
  refine ro_v (n := 2) (As := [.int i1, .int i2]) (q0 := 0) hx hb hml hown hA (kX6_at l G aL1 aL2 md mch i1 i2 r_3 q_4) g_X9_60 gd_X6_at ⟨(Nat.le_of_ble_eq_true rfl), (Nat.le_of_ble_eq_true rfl)⟩ hZ (hP.sub [2, 3] rfl) rfl rfl rfl hl.1 (Nat.le_of_ble_eq_true rfl) ⟨(Nat.le_of_ble_eq_true rfl), (Nat.le_of_ble_eq_true rfl)⟩ dX9_masterAt_17 ?_
  refine W.eq (g2 := F0 m 20 ls [.int r_3]) rfl ?_
  cases hf
  exact ro_iret hx hb hr hlk dX9_masterAt_20
set_option maxHeartbeats 4000000 in
set_option maxRecDepth 100000 in
theorem tX9_masterAt (l : Launch) (hst : l.stackTraces = false) (G : GG) (a0 aL0 aL1 aL2 aL3 aL4 aL5 aL6 aL7 aL8 aL9 aL10 aL11 aL12 aH0 aT0 aW0 aE0 : Nat) (md : Nat → Int32) (mch : Int32) (fra : Int32) (fwe : Int32) (fof : Int32) (fsi : Int32) (csh : Int32) (cde : Int32) (csp : Int32) (rd : Nat → Int32) (rw : Nat → Int32) (rp : Nat → Int32) (rco : Int32) (rmo : Int32) (apa : Int32) (awo : Int32) (ash : Int32) (aja : Int32) (abu : Int32) (ltol : Int32) (lchi : Int32) (ljam : Int32) (i1 : Int32) (i2 : Int32) (k9 : Nat) (hf : fX9_masterAt md i1 i2 = some (.inl k9)) : Th l G yX9_masterAt cX9_masterAt 3 (some .int) 8 122 [.ref a0, .int i1, .int i2] [(a0, .inr (9, [.ref aL0, .ref aH0, .ref aT0, .ref aW0, .ref aE0])), (aL0, .inr (4, [.ref aL1, .ref aL3, .ref aL4, .ref aL5, .ref aL12, .int ltol, .int lchi, .int ljam])), (aL1, .inr (6, [.ref aL2, .int mch])), (aL2, .inl (G.2.1, 48, .inl md)), (aL3, .inr (2, [.int fra, .int fwe, .int fof, .int fsi])), (aL4, .inr (1, [.int csh, .int cde, .int csp])), (aL5, .inr (7, [.ref aL6, .ref aL8, .ref aL10, .int rco, .int rmo])), (aL6, .inr (8, [.ref aL7])), (aL7, .inl (G.2.1, 80, .inl rd)), (aL8, .inr (8, [.ref aL9])), (aL9, .inl (G.2.1, 5, .inl rw)), (aL10, .inr (8, [.ref aL11])), (aL11, .inl (G.2.1, 5, .inl rp)), (aL12, .inr (0, [.int apa, .int awo, .int ash, .int aja, .int abu]))] (exn k9) := by
  refine th_of (by decide) (Nat.le_of_ble_eq_true rfl) ?_
  intro p e s m args below meth c ls hx hb het hml hown hlk hA hZ hP hl
  replace hown : s.vm.findClass RX9 = some m.cls := hown
  replace hl : lv_has ls 3 [(0, .ref a0), (1, .int i1), (2, .int i2)] := hl
  unfold fX9_masterAt at hf
  refine lv_iload_n hx hb dX9_masterAt_0 rfl (lv_at hl 1 rfl) ?_
  obtain ⟨e9 | u9, q_1, hf⟩ := obd hf
  · dsimp only at hf
    cases hf
    exact th_s (n := 1) (As := [.int i1]) hx hb het hlk hml hown hA (tX9_checkMaster l hst G i1 _ q_1) g_X9_42 gd_X9_checkMaster ⟨(Nat.le_of_ble_eq_true rfl), (Nat.le_of_ble_eq_true rfl)⟩ hZ (fun _ _ h => by simp at h) rfl hl.1 (Nat.le_of_ble_eq_true rfl) ⟨(Nat.le_of_ble_eq_true rfl), (Nat.le_of_ble_eq_true rfl)⟩ dX9_masterAt_1
  dsimp only at hf
  refine ro_s (n := 1) (As := [.int i1]) hx hb hml hown hA (kX9_checkMaster l G i1 q_1) g_X9_42 gd_X9_checkMaster ⟨(Nat.le_of_ble_eq_true rfl), (Nat.le_of_ble_eq_true rfl)⟩ hZ (fun _ _ h => by simp at h) rfl hl.1 (Nat.le_of_ble_eq_true rfl) ⟨(Nat.le_of_ble_eq_true rfl), (Nat.le_of_ble_eq_true rfl)⟩ dX9_masterAt_1 ?_
  refine W.eq (g2 := F0 m 4 ls []) rfl ?_
  refine lv_iload_n hx hb dX9_masterAt_4 rfl (lv_at hl 2 rfl) ?_
  obtain ⟨e9 | u9, q_2, hf⟩ := obd hf
  · dsimp only at hf
    cases hf
    exact th_s (n := 1) (As := [.int i2]) hx hb het hlk hml hown hA (tX9_checkStep l hst G i2 _ q_2) g_X9_45 gd_X9_checkStep ⟨(Nat.le_of_ble_eq_true rfl), (Nat.le_of_ble_eq_true rfl)⟩ hZ (fun _ _ h => by simp at h) rfl hl.1 (Nat.le_of_ble_eq_true rfl) ⟨(Nat.le_of_ble_eq_true rfl), (Nat.le_of_ble_eq_true rfl)⟩ dX9_masterAt_5
  dsimp only at hf
  exact (oml hf).elim
def fX9_chosenMaster (mch : Int32)  : Option (Int32) :=
  some mch
set_option maxHeartbeats 4000000 in
set_option maxRecDepth 100000 in
theorem kX9_chosenMaster (l : Launch) (G : GG) (a0 aL0 aL1 aL2 aL3 aL4 aL5 aL6 aL7 aL8 aL9 aL10 aL11 aL12 aH0 aT0 aW0 aE0 : Nat) (md : Nat → Int32) (mch : Int32) (fra : Int32) (fwe : Int32) (fof : Int32) (fsi : Int32) (csh : Int32) (cde : Int32) (csp : Int32) (rd : Nat → Int32) (rw : Nat → Int32) (rp : Nat → Int32) (rco : Int32) (rmo : Int32) (apa : Int32) (awo : Int32) (ash : Int32) (aja : Int32) (abu : Int32) (ltol : Int32) (lchi : Int32) (ljam : Int32)  (r_0 : Int32) (hf : fX9_chosenMaster mch = some r_0) : Ro l G yX9_chosenMaster cX9_chosenMaster 1 (some .int) 0 0 [.ref a0] [(a0, .inr (9, [.ref aL0, .ref aH0, .ref aT0, .ref aW0, .ref aE0])), (aL0, .inr (4, [.ref aL1, .ref aL3, .ref aL4, .ref aL5, .ref aL12, .int ltol, .int lchi, .int ljam])), (aL1, .inr (6, [.ref aL2, .int mch])), (aL2, .inl (G.2.1, 48, .inl md)), (aL3, .inr (2, [.int fra, .int fwe, .int fof, .int fsi])), (aL4, .inr (1, [.int csh, .int cde, .int csp])), (aL5, .inr (7, [.ref aL6, .ref aL8, .ref aL10, .int rco, .int rmo])), (aL6, .inr (8, [.ref aL7])), (aL7, .inl (G.2.1, 80, .inl rd)), (aL8, .inr (8, [.ref aL9])), (aL9, .inl (G.2.1, 5, .inl rw)), (aL10, .inr (8, [.ref aL11])), (aL11, .inl (G.2.1, 5, .inl rp)), (aL12, .inr (0, [.int apa, .int awo, .int ash, .int aja, .int abu]))] (some (.int r_0)) := by
  refine ro_of (by decide) (Nat.le_of_ble_eq_true rfl) ?_
  intro p e s m args below meth c ls hx hb hr hml hown hlk hA hZ hP hl
  replace hown : s.vm.findClass RX9 = some m.cls := hown
  replace hl : lv_has ls 1 [(0, .ref a0)] := hl
  unfold fX9_chosenMaster at hf
  refine lv_aload_n hx hb dX9_chosenMaster_0 rfl (lv_at hl 0 rfl) ?_
  refine gf_X9_10 hx hb hown hA hP 0 rfl rfl dX9_chosenMaster_1 ?_
  refine gf_X9_56 hx hb hown hA hP 1 rfl rfl dX9_chosenMaster_4 ?_
  refine gf_X9_76 hx hb hown hA hP 2 rfl rfl dX9_chosenMaster_7 ?_
  cases hf
  exact ro_iret hx hb hr hlk dX9_chosenMaster_10
def fX9_radius (fra : Int32)  : Option (Int32) :=
  some fra
set_option maxHeartbeats 4000000 in
set_option maxRecDepth 100000 in
theorem kX9_radius (l : Launch) (G : GG) (a0 aL0 aL1 aL2 aL3 aL4 aL5 aL6 aL7 aL8 aL9 aL10 aL11 aL12 aH0 aT0 aW0 aE0 : Nat) (md : Nat → Int32) (mch : Int32) (fra : Int32) (fwe : Int32) (fof : Int32) (fsi : Int32) (csh : Int32) (cde : Int32) (csp : Int32) (rd : Nat → Int32) (rw : Nat → Int32) (rp : Nat → Int32) (rco : Int32) (rmo : Int32) (apa : Int32) (awo : Int32) (ash : Int32) (aja : Int32) (abu : Int32) (ltol : Int32) (lchi : Int32) (ljam : Int32)  (r_0 : Int32) (hf : fX9_radius fra = some r_0) : Ro l G yX9_radius cX9_radius 1 (some .int) 0 0 [.ref a0] [(a0, .inr (9, [.ref aL0, .ref aH0, .ref aT0, .ref aW0, .ref aE0])), (aL0, .inr (4, [.ref aL1, .ref aL3, .ref aL4, .ref aL5, .ref aL12, .int ltol, .int lchi, .int ljam])), (aL1, .inr (6, [.ref aL2, .int mch])), (aL2, .inl (G.2.1, 48, .inl md)), (aL3, .inr (2, [.int fra, .int fwe, .int fof, .int fsi])), (aL4, .inr (1, [.int csh, .int cde, .int csp])), (aL5, .inr (7, [.ref aL6, .ref aL8, .ref aL10, .int rco, .int rmo])), (aL6, .inr (8, [.ref aL7])), (aL7, .inl (G.2.1, 80, .inl rd)), (aL8, .inr (8, [.ref aL9])), (aL9, .inl (G.2.1, 5, .inl rw)), (aL10, .inr (8, [.ref aL11])), (aL11, .inl (G.2.1, 5, .inl rp)), (aL12, .inr (0, [.int apa, .int awo, .int ash, .int aja, .int abu]))] (some (.int r_0)) := by
  refine ro_of (by decide) (Nat.le_of_ble_eq_true rfl) ?_
  intro p e s m args below meth c ls hx hb hr hml hown hlk hA hZ hP hl
  replace hown : s.vm.findClass RX9 = some m.cls := hown
  replace hl : lv_has ls 1 [(0, .ref a0)] := hl
  unfold fX9_radius at hf
  refine lv_aload_n hx hb dX9_radius_0 rfl (lv_at hl 0 rfl) ?_
  refine gf_X9_10 hx hb hown hA hP 0 rfl rfl dX9_radius_1 ?_
  refine gf_X9_80 hx hb hown hA hP 1 rfl rfl dX9_radius_4 ?_
  refine gf_X9_228 hx hb hown hA hP 4 rfl rfl dX9_radius_7 ?_
  cases hf
  exact ro_iret hx hb hr hlk dX9_radius_10
def fX9_wear (fwe : Int32)  : Option (Int32) :=
  some fwe
set_option maxHeartbeats 4000000 in
set_option maxRecDepth 100000 in
theorem kX9_wear (l : Launch) (G : GG) (a0 aL0 aL1 aL2 aL3 aL4 aL5 aL6 aL7 aL8 aL9 aL10 aL11 aL12 aH0 aT0 aW0 aE0 : Nat) (md : Nat → Int32) (mch : Int32) (fra : Int32) (fwe : Int32) (fof : Int32) (fsi : Int32) (csh : Int32) (cde : Int32) (csp : Int32) (rd : Nat → Int32) (rw : Nat → Int32) (rp : Nat → Int32) (rco : Int32) (rmo : Int32) (apa : Int32) (awo : Int32) (ash : Int32) (aja : Int32) (abu : Int32) (ltol : Int32) (lchi : Int32) (ljam : Int32)  (r_0 : Int32) (hf : fX9_wear fwe = some r_0) : Ro l G yX9_wear cX9_wear 1 (some .int) 0 0 [.ref a0] [(a0, .inr (9, [.ref aL0, .ref aH0, .ref aT0, .ref aW0, .ref aE0])), (aL0, .inr (4, [.ref aL1, .ref aL3, .ref aL4, .ref aL5, .ref aL12, .int ltol, .int lchi, .int ljam])), (aL1, .inr (6, [.ref aL2, .int mch])), (aL2, .inl (G.2.1, 48, .inl md)), (aL3, .inr (2, [.int fra, .int fwe, .int fof, .int fsi])), (aL4, .inr (1, [.int csh, .int cde, .int csp])), (aL5, .inr (7, [.ref aL6, .ref aL8, .ref aL10, .int rco, .int rmo])), (aL6, .inr (8, [.ref aL7])), (aL7, .inl (G.2.1, 80, .inl rd)), (aL8, .inr (8, [.ref aL9])), (aL9, .inl (G.2.1, 5, .inl rw)), (aL10, .inr (8, [.ref aL11])), (aL11, .inl (G.2.1, 5, .inl rp)), (aL12, .inr (0, [.int apa, .int awo, .int ash, .int aja, .int abu]))] (some (.int r_0)) := by
  refine ro_of (by decide) (Nat.le_of_ble_eq_true rfl) ?_
  intro p e s m args below meth c ls hx hb hr hml hown hlk hA hZ hP hl
  replace hown : s.vm.findClass RX9 = some m.cls := hown
  replace hl : lv_has ls 1 [(0, .ref a0)] := hl
  unfold fX9_wear at hf
  refine lv_aload_n hx hb dX9_wear_0 rfl (lv_at hl 0 rfl) ?_
  refine gf_X9_10 hx hb hown hA hP 0 rfl rfl dX9_wear_1 ?_
  refine gf_X9_80 hx hb hown hA hP 1 rfl rfl dX9_wear_4 ?_
  refine gf_X9_84 hx hb hown hA hP 4 rfl rfl dX9_wear_7 ?_
  cases hf
  exact ro_iret hx hb hr hlk dX9_wear_10
def fX9_offset (fof : Int32)  : Option (Int32) :=
  some fof
set_option maxHeartbeats 4000000 in
set_option maxRecDepth 100000 in
theorem kX9_offset (l : Launch) (G : GG) (a0 aL0 aL1 aL2 aL3 aL4 aL5 aL6 aL7 aL8 aL9 aL10 aL11 aL12 aH0 aT0 aW0 aE0 : Nat) (md : Nat → Int32) (mch : Int32) (fra : Int32) (fwe : Int32) (fof : Int32) (fsi : Int32) (csh : Int32) (cde : Int32) (csp : Int32) (rd : Nat → Int32) (rw : Nat → Int32) (rp : Nat → Int32) (rco : Int32) (rmo : Int32) (apa : Int32) (awo : Int32) (ash : Int32) (aja : Int32) (abu : Int32) (ltol : Int32) (lchi : Int32) (ljam : Int32)  (r_0 : Int32) (hf : fX9_offset fof = some r_0) : Ro l G yX9_offset cX9_offset 1 (some .int) 0 0 [.ref a0] [(a0, .inr (9, [.ref aL0, .ref aH0, .ref aT0, .ref aW0, .ref aE0])), (aL0, .inr (4, [.ref aL1, .ref aL3, .ref aL4, .ref aL5, .ref aL12, .int ltol, .int lchi, .int ljam])), (aL1, .inr (6, [.ref aL2, .int mch])), (aL2, .inl (G.2.1, 48, .inl md)), (aL3, .inr (2, [.int fra, .int fwe, .int fof, .int fsi])), (aL4, .inr (1, [.int csh, .int cde, .int csp])), (aL5, .inr (7, [.ref aL6, .ref aL8, .ref aL10, .int rco, .int rmo])), (aL6, .inr (8, [.ref aL7])), (aL7, .inl (G.2.1, 80, .inl rd)), (aL8, .inr (8, [.ref aL9])), (aL9, .inl (G.2.1, 5, .inl rw)), (aL10, .inr (8, [.ref aL11])), (aL11, .inl (G.2.1, 5, .inl rp)), (aL12, .inr (0, [.int apa, .int awo, .int ash, .int aja, .int abu]))] (some (.int r_0)) := by
  refine ro_of (by decide) (Nat.le_of_ble_eq_true rfl) ?_
  intro p e s m args below meth c ls hx hb hr hml hown hlk hA hZ hP hl
  replace hown : s.vm.findClass RX9 = some m.cls := hown
  replace hl : lv_has ls 1 [(0, .ref a0)] := hl
  unfold fX9_offset at hf
  refine lv_aload_n hx hb dX9_offset_0 rfl (lv_at hl 0 rfl) ?_
  refine gf_X9_10 hx hb hown hA hP 0 rfl rfl dX9_offset_1 ?_
  refine gf_X9_80 hx hb hown hA hP 1 rfl rfl dX9_offset_4 ?_
  refine gf_X9_92 hx hb hown hA hP 4 rfl rfl dX9_offset_7 ?_
  cases hf
  exact ro_iret hx hb hr hlk dX9_offset_10
def fX9_sharpness (csh : Int32)  : Option (Int32) :=
  some csh
set_option maxHeartbeats 4000000 in
set_option maxRecDepth 100000 in
theorem kX9_sharpness (l : Launch) (G : GG) (a0 aL0 aL1 aL2 aL3 aL4 aL5 aL6 aL7 aL8 aL9 aL10 aL11 aL12 aH0 aT0 aW0 aE0 : Nat) (md : Nat → Int32) (mch : Int32) (fra : Int32) (fwe : Int32) (fof : Int32) (fsi : Int32) (csh : Int32) (cde : Int32) (csp : Int32) (rd : Nat → Int32) (rw : Nat → Int32) (rp : Nat → Int32) (rco : Int32) (rmo : Int32) (apa : Int32) (awo : Int32) (ash : Int32) (aja : Int32) (abu : Int32) (ltol : Int32) (lchi : Int32) (ljam : Int32)  (r_0 : Int32) (hf : fX9_sharpness csh = some r_0) : Ro l G yX9_sharpness cX9_sharpness 1 (some .int) 0 0 [.ref a0] [(a0, .inr (9, [.ref aL0, .ref aH0, .ref aT0, .ref aW0, .ref aE0])), (aL0, .inr (4, [.ref aL1, .ref aL3, .ref aL4, .ref aL5, .ref aL12, .int ltol, .int lchi, .int ljam])), (aL1, .inr (6, [.ref aL2, .int mch])), (aL2, .inl (G.2.1, 48, .inl md)), (aL3, .inr (2, [.int fra, .int fwe, .int fof, .int fsi])), (aL4, .inr (1, [.int csh, .int cde, .int csp])), (aL5, .inr (7, [.ref aL6, .ref aL8, .ref aL10, .int rco, .int rmo])), (aL6, .inr (8, [.ref aL7])), (aL7, .inl (G.2.1, 80, .inl rd)), (aL8, .inr (8, [.ref aL9])), (aL9, .inl (G.2.1, 5, .inl rw)), (aL10, .inr (8, [.ref aL11])), (aL11, .inl (G.2.1, 5, .inl rp)), (aL12, .inr (0, [.int apa, .int awo, .int ash, .int aja, .int abu]))] (some (.int r_0)) := by
  refine ro_of (by decide) (Nat.le_of_ble_eq_true rfl) ?_
  intro p e s m args below meth c ls hx hb hr hml hown hlk hA hZ hP hl
  replace hown : s.vm.findClass RX9 = some m.cls := hown
  replace hl : lv_has ls 1 [(0, .ref a0)] := hl
  unfold fX9_sharpness at hf
  refine lv_aload_n hx hb dX9_sharpness_0 rfl (lv_at hl 0 rfl) ?_
  refine gf_X9_10 hx hb hown hA hP 0 rfl rfl dX9_sharpness_1 ?_
  refine gf_X9_95 hx hb hown hA hP 1 rfl rfl dX9_sharpness_4 ?_
  refine gf_X9_99 hx hb hown hA hP 5 rfl rfl dX9_sharpness_7 ?_
  cases hf
  exact ro_iret hx hb hr hlk dX9_sharpness_10
def fX9_depth (cde : Int32)  : Option (Int32) :=
  some cde
set_option maxHeartbeats 4000000 in
set_option maxRecDepth 100000 in
theorem kX9_depth (l : Launch) (G : GG) (a0 aL0 aL1 aL2 aL3 aL4 aL5 aL6 aL7 aL8 aL9 aL10 aL11 aL12 aH0 aT0 aW0 aE0 : Nat) (md : Nat → Int32) (mch : Int32) (fra : Int32) (fwe : Int32) (fof : Int32) (fsi : Int32) (csh : Int32) (cde : Int32) (csp : Int32) (rd : Nat → Int32) (rw : Nat → Int32) (rp : Nat → Int32) (rco : Int32) (rmo : Int32) (apa : Int32) (awo : Int32) (ash : Int32) (aja : Int32) (abu : Int32) (ltol : Int32) (lchi : Int32) (ljam : Int32)  (r_0 : Int32) (hf : fX9_depth cde = some r_0) : Ro l G yX9_depth cX9_depth 1 (some .int) 0 0 [.ref a0] [(a0, .inr (9, [.ref aL0, .ref aH0, .ref aT0, .ref aW0, .ref aE0])), (aL0, .inr (4, [.ref aL1, .ref aL3, .ref aL4, .ref aL5, .ref aL12, .int ltol, .int lchi, .int ljam])), (aL1, .inr (6, [.ref aL2, .int mch])), (aL2, .inl (G.2.1, 48, .inl md)), (aL3, .inr (2, [.int fra, .int fwe, .int fof, .int fsi])), (aL4, .inr (1, [.int csh, .int cde, .int csp])), (aL5, .inr (7, [.ref aL6, .ref aL8, .ref aL10, .int rco, .int rmo])), (aL6, .inr (8, [.ref aL7])), (aL7, .inl (G.2.1, 80, .inl rd)), (aL8, .inr (8, [.ref aL9])), (aL9, .inl (G.2.1, 5, .inl rw)), (aL10, .inr (8, [.ref aL11])), (aL11, .inl (G.2.1, 5, .inl rp)), (aL12, .inr (0, [.int apa, .int awo, .int ash, .int aja, .int abu]))] (some (.int r_0)) := by
  refine ro_of (by decide) (Nat.le_of_ble_eq_true rfl) ?_
  intro p e s m args below meth c ls hx hb hr hml hown hlk hA hZ hP hl
  replace hown : s.vm.findClass RX9 = some m.cls := hown
  replace hl : lv_has ls 1 [(0, .ref a0)] := hl
  unfold fX9_depth at hf
  refine lv_aload_n hx hb dX9_depth_0 rfl (lv_at hl 0 rfl) ?_
  refine gf_X9_10 hx hb hown hA hP 0 rfl rfl dX9_depth_1 ?_
  refine gf_X9_95 hx hb hown hA hP 1 rfl rfl dX9_depth_4 ?_
  refine gf_X9_113 hx hb hown hA hP 5 rfl rfl dX9_depth_7 ?_
  cases hf
  exact ro_iret hx hb hr hlk dX9_depth_10
def fX9_cutDepth (csh : Int32) (cde : Int32)  : Option (Int32) :=
  ((fX1_reach csh cde).bind fun r_1 => some r_1)
set_option maxHeartbeats 4000000 in
set_option maxRecDepth 100000 in
theorem kX9_cutDepth (l : Launch) (G : GG) (a0 aL0 aL1 aL2 aL3 aL4 aL5 aL6 aL7 aL8 aL9 aL10 aL11 aL12 aH0 aT0 aW0 aE0 : Nat) (md : Nat → Int32) (mch : Int32) (fra : Int32) (fwe : Int32) (fof : Int32) (fsi : Int32) (csh : Int32) (cde : Int32) (csp : Int32) (rd : Nat → Int32) (rw : Nat → Int32) (rp : Nat → Int32) (rco : Int32) (rmo : Int32) (apa : Int32) (awo : Int32) (ash : Int32) (aja : Int32) (abu : Int32) (ltol : Int32) (lchi : Int32) (ljam : Int32)  (r_0 : Int32) (hf : fX9_cutDepth csh cde = some r_0) : Ro l G yX9_cutDepth cX9_cutDepth 1 (some .int) 2 40 [.ref a0] [(a0, .inr (9, [.ref aL0, .ref aH0, .ref aT0, .ref aW0, .ref aE0])), (aL0, .inr (4, [.ref aL1, .ref aL3, .ref aL4, .ref aL5, .ref aL12, .int ltol, .int lchi, .int ljam])), (aL1, .inr (6, [.ref aL2, .int mch])), (aL2, .inl (G.2.1, 48, .inl md)), (aL3, .inr (2, [.int fra, .int fwe, .int fof, .int fsi])), (aL4, .inr (1, [.int csh, .int cde, .int csp])), (aL5, .inr (7, [.ref aL6, .ref aL8, .ref aL10, .int rco, .int rmo])), (aL6, .inr (8, [.ref aL7])), (aL7, .inl (G.2.1, 80, .inl rd)), (aL8, .inr (8, [.ref aL9])), (aL9, .inl (G.2.1, 5, .inl rw)), (aL10, .inr (8, [.ref aL11])), (aL11, .inl (G.2.1, 5, .inl rp)), (aL12, .inr (0, [.int apa, .int awo, .int ash, .int aja, .int abu]))] (some (.int r_0)) := by
  refine ro_of (by decide) (Nat.le_of_ble_eq_true rfl) ?_
  intro p e s m args below meth c ls hx hb hr hml hown hlk hA hZ hP hl
  replace hown : s.vm.findClass RX9 = some m.cls := hown
  replace hl : lv_has ls 1 [(0, .ref a0)] := hl
  unfold fX9_cutDepth at hf
  refine lv_aload_n hx hb dX9_cutDepth_0 rfl (lv_at hl 0 rfl) ?_
  refine gf_X9_10 hx hb hown hA hP 0 rfl rfl dX9_cutDepth_1 ?_
  refine gf_X9_95 hx hb hown hA hP 1 rfl rfl dX9_cutDepth_4 ?_
  obtain ⟨r_1, q_2, hf⟩ := obd hf
  refine ro_v (n := 0) (As := []) (q0 := 0) hx hb hml hown hA (kX1_reach l G aL4 csh cde csp r_1 q_2) g_X9_231 gd_X1_reach ⟨(Nat.le_of_ble_eq_true rfl), (Nat.le_of_ble_eq_true rfl)⟩ hZ (hP.sub [5] rfl) rfl rfl rfl hl.1 (Nat.le_of_ble_eq_true rfl) ⟨(Nat.le_of_ble_eq_true rfl), (Nat.le_of_ble_eq_true rfl)⟩ dX9_cutDepth_7 ?_
  refine W.eq (g2 := F0 m 10 ls [.int r_1]) rfl ?_
  cases hf
  exact ro_iret hx hb hr hlk dX9_cutDepth_10
def fX9_speed (csp : Int32)  : Option (Int32) :=
  some csp
set_option maxHeartbeats 4000000 in
set_option maxRecDepth 100000 in
theorem kX9_speed (l : Launch) (G : GG) (a0 aL0 aL1 aL2 aL3 aL4 aL5 aL6 aL7 aL8 aL9 aL10 aL11 aL12 aH0 aT0 aW0 aE0 : Nat) (md : Nat → Int32) (mch : Int32) (fra : Int32) (fwe : Int32) (fof : Int32) (fsi : Int32) (csh : Int32) (cde : Int32) (csp : Int32) (rd : Nat → Int32) (rw : Nat → Int32) (rp : Nat → Int32) (rco : Int32) (rmo : Int32) (apa : Int32) (awo : Int32) (ash : Int32) (aja : Int32) (abu : Int32) (ltol : Int32) (lchi : Int32) (ljam : Int32)  (r_0 : Int32) (hf : fX9_speed csp = some r_0) : Ro l G yX9_speed cX9_speed 1 (some .int) 0 0 [.ref a0] [(a0, .inr (9, [.ref aL0, .ref aH0, .ref aT0, .ref aW0, .ref aE0])), (aL0, .inr (4, [.ref aL1, .ref aL3, .ref aL4, .ref aL5, .ref aL12, .int ltol, .int lchi, .int ljam])), (aL1, .inr (6, [.ref aL2, .int mch])), (aL2, .inl (G.2.1, 48, .inl md)), (aL3, .inr (2, [.int fra, .int fwe, .int fof, .int fsi])), (aL4, .inr (1, [.int csh, .int cde, .int csp])), (aL5, .inr (7, [.ref aL6, .ref aL8, .ref aL10, .int rco, .int rmo])), (aL6, .inr (8, [.ref aL7])), (aL7, .inl (G.2.1, 80, .inl rd)), (aL8, .inr (8, [.ref aL9])), (aL9, .inl (G.2.1, 5, .inl rw)), (aL10, .inr (8, [.ref aL11])), (aL11, .inl (G.2.1, 5, .inl rp)), (aL12, .inr (0, [.int apa, .int awo, .int ash, .int aja, .int abu]))] (some (.int r_0)) := by
  refine ro_of (by decide) (Nat.le_of_ble_eq_true rfl) ?_
  intro p e s m args below meth c ls hx hb hr hml hown hlk hA hZ hP hl
  replace hown : s.vm.findClass RX9 = some m.cls := hown
  replace hl : lv_has ls 1 [(0, .ref a0)] := hl
  unfold fX9_speed at hf
  refine lv_aload_n hx hb dX9_speed_0 rfl (lv_at hl 0 rfl) ?_
  refine gf_X9_10 hx hb hown hA hP 0 rfl rfl dX9_speed_1 ?_
  refine gf_X9_95 hx hb hown hA hP 1 rfl rfl dX9_speed_4 ?_
  refine gf_X9_116 hx hb hown hA hP 5 rfl rfl dX9_speed_7 ?_
  cases hf
  exact ro_iret hx hb hr hlk dX9_speed_10
def fX9_tolerance (ltol : Int32)  : Option (Int32) :=
  some ltol
set_option maxHeartbeats 4000000 in
set_option maxRecDepth 100000 in
theorem kX9_tolerance (l : Launch) (G : GG) (a0 aL0 aL1 aL2 aL3 aL4 aL5 aL6 aL7 aL8 aL9 aL10 aL11 aL12 aH0 aT0 aW0 aE0 : Nat) (md : Nat → Int32) (mch : Int32) (fra : Int32) (fwe : Int32) (fof : Int32) (fsi : Int32) (csh : Int32) (cde : Int32) (csp : Int32) (rd : Nat → Int32) (rw : Nat → Int32) (rp : Nat → Int32) (rco : Int32) (rmo : Int32) (apa : Int32) (awo : Int32) (ash : Int32) (aja : Int32) (abu : Int32) (ltol : Int32) (lchi : Int32) (ljam : Int32)  (r_0 : Int32) (hf : fX9_tolerance ltol = some r_0) : Ro l G yX9_tolerance cX9_tolerance 1 (some .int) 0 0 [.ref a0] [(a0, .inr (9, [.ref aL0, .ref aH0, .ref aT0, .ref aW0, .ref aE0])), (aL0, .inr (4, [.ref aL1, .ref aL3, .ref aL4, .ref aL5, .ref aL12, .int ltol, .int lchi, .int ljam])), (aL1, .inr (6, [.ref aL2, .int mch])), (aL2, .inl (G.2.1, 48, .inl md)), (aL3, .inr (2, [.int fra, .int fwe, .int fof, .int fsi])), (aL4, .inr (1, [.int csh, .int cde, .int csp])), (aL5, .inr (7, [.ref aL6, .ref aL8, .ref aL10, .int rco, .int rmo])), (aL6, .inr (8, [.ref aL7])), (aL7, .inl (G.2.1, 80, .inl rd)), (aL8, .inr (8, [.ref aL9])), (aL9, .inl (G.2.1, 5, .inl rw)), (aL10, .inr (8, [.ref aL11])), (aL11, .inl (G.2.1, 5, .inl rp)), (aL12, .inr (0, [.int apa, .int awo, .int ash, .int aja, .int abu]))] (some (.int r_0)) := by
  refine ro_of (by decide) (Nat.le_of_ble_eq_true rfl) ?_
  intro p e s m args below meth c ls hx hb hr hml hown hlk hA hZ hP hl
  replace hown : s.vm.findClass RX9 = some m.cls := hown
  replace hl : lv_has ls 1 [(0, .ref a0)] := hl
  unfold fX9_tolerance at hf
  refine lv_aload_n hx hb dX9_tolerance_0 rfl (lv_at hl 0 rfl) ?_
  refine gf_X9_10 hx hb hown hA hP 0 rfl rfl dX9_tolerance_1 ?_
  refine gf_X9_119 hx hb hown hA hP 1 rfl rfl dX9_tolerance_4 ?_
  cases hf
  exact ro_iret hx hb hr hlk dX9_tolerance_7
def fX9_chips (lchi : Int32)  : Option (Int32) :=
  some lchi
set_option maxHeartbeats 4000000 in
set_option maxRecDepth 100000 in
theorem kX9_chips (l : Launch) (G : GG) (a0 aL0 aL1 aL2 aL3 aL4 aL5 aL6 aL7 aL8 aL9 aL10 aL11 aL12 aH0 aT0 aW0 aE0 : Nat) (md : Nat → Int32) (mch : Int32) (fra : Int32) (fwe : Int32) (fof : Int32) (fsi : Int32) (csh : Int32) (cde : Int32) (csp : Int32) (rd : Nat → Int32) (rw : Nat → Int32) (rp : Nat → Int32) (rco : Int32) (rmo : Int32) (apa : Int32) (awo : Int32) (ash : Int32) (aja : Int32) (abu : Int32) (ltol : Int32) (lchi : Int32) (ljam : Int32)  (r_0 : Int32) (hf : fX9_chips lchi = some r_0) : Ro l G yX9_chips cX9_chips 1 (some .int) 0 0 [.ref a0] [(a0, .inr (9, [.ref aL0, .ref aH0, .ref aT0, .ref aW0, .ref aE0])), (aL0, .inr (4, [.ref aL1, .ref aL3, .ref aL4, .ref aL5, .ref aL12, .int ltol, .int lchi, .int ljam])), (aL1, .inr (6, [.ref aL2, .int mch])), (aL2, .inl (G.2.1, 48, .inl md)), (aL3, .inr (2, [.int fra, .int fwe, .int fof, .int fsi])), (aL4, .inr (1, [.int csh, .int cde, .int csp])), (aL5, .inr (7, [.ref aL6, .ref aL8, .ref aL10, .int rco, .int rmo])), (aL6, .inr (8, [.ref aL7])), (aL7, .inl (G.2.1, 80, .inl rd)), (aL8, .inr (8, [.ref aL9])), (aL9, .inl (G.2.1, 5, .inl rw)), (aL10, .inr (8, [.ref aL11])), (aL11, .inl (G.2.1, 5, .inl rp)), (aL12, .inr (0, [.int apa, .int awo, .int ash, .int aja, .int abu]))] (some (.int r_0)) := by
  refine ro_of (by decide) (Nat.le_of_ble_eq_true rfl) ?_
  intro p e s m args below meth c ls hx hb hr hml hown hlk hA hZ hP hl
  replace hown : s.vm.findClass RX9 = some m.cls := hown
  replace hl : lv_has ls 1 [(0, .ref a0)] := hl
  unfold fX9_chips at hf
  refine lv_aload_n hx hb dX9_chips_0 rfl (lv_at hl 0 rfl) ?_
  refine gf_X9_10 hx hb hown hA hP 0 rfl rfl dX9_chips_1 ?_
  refine gf_X9_122 hx hb hown hA hP 1 rfl rfl dX9_chips_4 ?_
  cases hf
  exact ro_iret hx hb hr hlk dX9_chips_7
def fX9_roomForChips (lchi : Int32)  : Option (Int32) :=
  some (200 - lchi)
set_option maxHeartbeats 4000000 in
set_option maxRecDepth 100000 in
theorem kX9_roomForChips (l : Launch) (G : GG) (a0 aL0 aL1 aL2 aL3 aL4 aL5 aL6 aL7 aL8 aL9 aL10 aL11 aL12 aH0 aT0 aW0 aE0 : Nat) (md : Nat → Int32) (mch : Int32) (fra : Int32) (fwe : Int32) (fof : Int32) (fsi : Int32) (csh : Int32) (cde : Int32) (csp : Int32) (rd : Nat → Int32) (rw : Nat → Int32) (rp : Nat → Int32) (rco : Int32) (rmo : Int32) (apa : Int32) (awo : Int32) (ash : Int32) (aja : Int32) (abu : Int32) (ltol : Int32) (lchi : Int32) (ljam : Int32)  (r_0 : Int32) (hf : fX9_roomForChips lchi = some r_0) : Ro l G yX9_roomForChips cX9_roomForChips 1 (some .int) 0 0 [.ref a0] [(a0, .inr (9, [.ref aL0, .ref aH0, .ref aT0, .ref aW0, .ref aE0])), (aL0, .inr (4, [.ref aL1, .ref aL3, .ref aL4, .ref aL5, .ref aL12, .int ltol, .int lchi, .int ljam])), (aL1, .inr (6, [.ref aL2, .int mch])), (aL2, .inl (G.2.1, 48, .inl md)), (aL3, .inr (2, [.int fra, .int fwe, .int fof, .int fsi])), (aL4, .inr (1, [.int csh, .int cde, .int csp])), (aL5, .inr (7, [.ref aL6, .ref aL8, .ref aL10, .int rco, .int rmo])), (aL6, .inr (8, [.ref aL7])), (aL7, .inl (G.2.1, 80, .inl rd)), (aL8, .inr (8, [.ref aL9])), (aL9, .inl (G.2.1, 5, .inl rw)), (aL10, .inr (8, [.ref aL11])), (aL11, .inl (G.2.1, 5, .inl rp)), (aL12, .inr (0, [.int apa, .int awo, .int ash, .int aja, .int abu]))] (some (.int r_0)) := by
  refine ro_of (by decide) (Nat.le_of_ble_eq_true rfl) ?_
  intro p e s m args below meth c ls hx hb hr hml hown hlk hA hZ hP hl
  replace hown : s.vm.findClass RX9 = some m.cls := hown
  replace hl : lv_has ls 1 [(0, .ref a0)] := hl
  unfold fX9_roomForChips at hf
  refine lv_sipush (v := 200) hx hb dX9_roomForChips_0 (by decide) ?_
  refine lv_aload_n hx hb dX9_roomForChips_3 rfl (lv_at hl 0 rfl) ?_
  refine gf_X9_10 hx hb hown hA hP 0 rfl rfl dX9_roomForChips_4 ?_
  refine gf_X9_122 hx hb hown hA hP 1 rfl rfl dX9_roomForChips_7 ?_
  refine lv_isub hx hb dX9_roomForChips_10 ?_
  cases hf
  exact ro_iret hx hb hr hlk dX9_roomForChips_11
def fX9_isJammed (ljam : Int32)  : Option (Int32) :=
  (if (ljam = 0 ∨ ljam = 1) then some ljam else none)
set_option maxHeartbeats 4000000 in
set_option maxRecDepth 100000 in
theorem kX9_isJammed (l : Launch) (G : GG) (a0 aL0 aL1 aL2 aL3 aL4 aL5 aL6 aL7 aL8 aL9 aL10 aL11 aL12 aH0 aT0 aW0 aE0 : Nat) (md : Nat → Int32) (mch : Int32) (fra : Int32) (fwe : Int32) (fof : Int32) (fsi : Int32) (csh : Int32) (cde : Int32) (csp : Int32) (rd : Nat → Int32) (rw : Nat → Int32) (rp : Nat → Int32) (rco : Int32) (rmo : Int32) (apa : Int32) (awo : Int32) (ash : Int32) (aja : Int32) (abu : Int32) (ltol : Int32) (lchi : Int32) (ljam : Int32)  (r_0 : Int32) (hf : fX9_isJammed ljam = some r_0) : Ro l G yX9_isJammed cX9_isJammed 1 (some .boolean) 0 0 [.ref a0] [(a0, .inr (9, [.ref aL0, .ref aH0, .ref aT0, .ref aW0, .ref aE0])), (aL0, .inr (4, [.ref aL1, .ref aL3, .ref aL4, .ref aL5, .ref aL12, .int ltol, .int lchi, .int ljam])), (aL1, .inr (6, [.ref aL2, .int mch])), (aL2, .inl (G.2.1, 48, .inl md)), (aL3, .inr (2, [.int fra, .int fwe, .int fof, .int fsi])), (aL4, .inr (1, [.int csh, .int cde, .int csp])), (aL5, .inr (7, [.ref aL6, .ref aL8, .ref aL10, .int rco, .int rmo])), (aL6, .inr (8, [.ref aL7])), (aL7, .inl (G.2.1, 80, .inl rd)), (aL8, .inr (8, [.ref aL9])), (aL9, .inl (G.2.1, 5, .inl rw)), (aL10, .inr (8, [.ref aL11])), (aL11, .inl (G.2.1, 5, .inl rp)), (aL12, .inr (0, [.int apa, .int awo, .int ash, .int aja, .int abu]))] (some (.int r_0)) := by
  refine ro_of (by decide) (Nat.le_of_ble_eq_true rfl) ?_
  intro p e s m args below meth c ls hx hb hr hml hown hlk hA hZ hP hl
  replace hown : s.vm.findClass RX9 = some m.cls := hown
  replace hl : lv_has ls 1 [(0, .ref a0)] := hl
  unfold fX9_isJammed at hf
  refine lv_aload_n hx hb dX9_isJammed_0 rfl (lv_at hl 0 rfl) ?_
  refine gf_X9_10 hx hb hown hA hP 0 rfl rfl dX9_isJammed_1 ?_
  refine gf_X9_125 hx hb hown hA hP 1 rfl rfl dX9_isJammed_4 ?_
  obtain ⟨z_1, hf⟩ := ock hf
  cases hf
  exact ro_zret hx hb hr hlk z_1 dX9_isJammed_7
def fX9_pieces (rco : Int32)  : Option (Int32) :=
  some rco
set_option maxHeartbeats 4000000 in
set_option maxRecDepth 100000 in
theorem kX9_pieces (l : Launch) (G : GG) (a0 aL0 aL1 aL2 aL3 aL4 aL5 aL6 aL7 aL8 aL9 aL10 aL11 aL12 aH0 aT0 aW0 aE0 : Nat) (md : Nat → Int32) (mch : Int32) (fra : Int32) (fwe : Int32) (fof : Int32) (fsi : Int32) (csh : Int32) (cde : Int32) (csp : Int32) (rd : Nat → Int32) (rw : Nat → Int32) (rp : Nat → Int32) (rco : Int32) (rmo : Int32) (apa : Int32) (awo : Int32) (ash : Int32) (aja : Int32) (abu : Int32) (ltol : Int32) (lchi : Int32) (ljam : Int32)  (r_0 : Int32) (hf : fX9_pieces rco = some r_0) : Ro l G yX9_pieces cX9_pieces 1 (some .int) 0 0 [.ref a0] [(a0, .inr (9, [.ref aL0, .ref aH0, .ref aT0, .ref aW0, .ref aE0])), (aL0, .inr (4, [.ref aL1, .ref aL3, .ref aL4, .ref aL5, .ref aL12, .int ltol, .int lchi, .int ljam])), (aL1, .inr (6, [.ref aL2, .int mch])), (aL2, .inl (G.2.1, 48, .inl md)), (aL3, .inr (2, [.int fra, .int fwe, .int fof, .int fsi])), (aL4, .inr (1, [.int csh, .int cde, .int csp])), (aL5, .inr (7, [.ref aL6, .ref aL8, .ref aL10, .int rco, .int rmo])), (aL6, .inr (8, [.ref aL7])), (aL7, .inl (G.2.1, 80, .inl rd)), (aL8, .inr (8, [.ref aL9])), (aL9, .inl (G.2.1, 5, .inl rw)), (aL10, .inr (8, [.ref aL11])), (aL11, .inl (G.2.1, 5, .inl rp)), (aL12, .inr (0, [.int apa, .int awo, .int ash, .int aja, .int abu]))] (some (.int r_0)) := by
  refine ro_of (by decide) (Nat.le_of_ble_eq_true rfl) ?_
  intro p e s m args below meth c ls hx hb hr hml hown hlk hA hZ hP hl
  replace hown : s.vm.findClass RX9 = some m.cls := hown
  replace hl : lv_has ls 1 [(0, .ref a0)] := hl
  unfold fX9_pieces at hf
  refine lv_aload_n hx hb dX9_pieces_0 rfl (lv_at hl 0 rfl) ?_
  refine gf_X9_10 hx hb hown hA hP 0 rfl rfl dX9_pieces_1 ?_
  refine gf_X9_133 hx hb hown hA hP 1 rfl rfl dX9_pieces_4 ?_
  refine gf_X9_137 hx hb hown hA hP 6 rfl rfl dX9_pieces_7 ?_
  cases hf
  exact ro_iret hx hb hr hlk dX9_pieces_10
def fX9_checkPiece (rco : Int32) (i1 : Int32) : Option (Nat ⊕ (Unit)) :=
  ((fX9_checkIndex i1 rco).bind fun z => match z with | .inl e => some (.inl e) | .inr _ => (Option.map Sum.inr (some ())))
set_option maxHeartbeats 4000000 in
set_option maxRecDepth 100000 in
theorem kX9_checkPiece (l : Launch) (G : GG) (a0 aL0 aL1 aL2 aL3 aL4 aL5 aL6 aL7 aL8 aL9 aL10 aL11 aL12 aH0 aT0 aW0 aE0 : Nat) (md : Nat → Int32) (mch : Int32) (fra : Int32) (fwe : Int32) (fof : Int32) (fsi : Int32) (csh : Int32) (cde : Int32) (csp : Int32) (rd : Nat → Int32) (rw : Nat → Int32) (rp : Nat → Int32) (rco : Int32) (rmo : Int32) (apa : Int32) (awo : Int32) (ash : Int32) (aja : Int32) (abu : Int32) (ltol : Int32) (lchi : Int32) (ljam : Int32) (i1 : Int32)  (hf : fX9_checkPiece rco i1 = some (.inr ())) : Ro l G yX9_checkPiece cX9_checkPiece 2 none 7 102 [.ref a0, .int i1] [(a0, .inr (9, [.ref aL0, .ref aH0, .ref aT0, .ref aW0, .ref aE0])), (aL0, .inr (4, [.ref aL1, .ref aL3, .ref aL4, .ref aL5, .ref aL12, .int ltol, .int lchi, .int ljam])), (aL1, .inr (6, [.ref aL2, .int mch])), (aL2, .inl (G.2.1, 48, .inl md)), (aL3, .inr (2, [.int fra, .int fwe, .int fof, .int fsi])), (aL4, .inr (1, [.int csh, .int cde, .int csp])), (aL5, .inr (7, [.ref aL6, .ref aL8, .ref aL10, .int rco, .int rmo])), (aL6, .inr (8, [.ref aL7])), (aL7, .inl (G.2.1, 80, .inl rd)), (aL8, .inr (8, [.ref aL9])), (aL9, .inl (G.2.1, 5, .inl rw)), (aL10, .inr (8, [.ref aL11])), (aL11, .inl (G.2.1, 5, .inl rp)), (aL12, .inr (0, [.int apa, .int awo, .int ash, .int aja, .int abu]))] none := by
  refine ro_of (by decide) (Nat.le_of_ble_eq_true rfl) ?_
  intro p e s m args below meth c ls hx hb hr hml hown hlk hA hZ hP hl
  replace hown : s.vm.findClass RX9 = some m.cls := hown
  replace hl : lv_has ls 2 [(0, .ref a0), (1, .int i1)] := hl
  unfold fX9_checkPiece at hf
  refine lv_iload_n hx hb dX9_checkPiece_0 rfl (lv_at hl 1 rfl) ?_
  refine lv_aload_n hx hb dX9_checkPiece_1 rfl (lv_at hl 0 rfl) ?_
  refine gf_X9_10 hx hb hown hA hP 0 rfl rfl dX9_checkPiece_2 ?_
  refine gf_X9_133 hx hb hown hA hP 1 rfl rfl dX9_checkPiece_5 ?_
  refine gf_X9_137 hx hb hown hA hP 6 rfl rfl dX9_checkPiece_8 ?_
  obtain ⟨e9 | u9, q_1, hf⟩ := obd hf
  · dsimp only at hf
    cases hf
  dsimp only at hf
  replace hf := omr hf
  refine ro_s (n := 2) (As := [.int i1, .int rco]) hx hb hml hown hA (kX9_checkIndex l G i1 rco q_1) g_X9_129 gd_X9_checkIndex ⟨(Nat.le_of_ble_eq_true rfl), (Nat.le_of_ble_eq_true rfl)⟩ hZ (fun _ _ h => by simp at h) rfl hl.1 (Nat.le_of_ble_eq_true rfl) ⟨(Nat.le_of_ble_eq_true rfl), (Nat.le_of_ble_eq_true rfl)⟩ dX9_checkPiece_11 ?_
  refine W.eq (g2 := F0 m 14 ls []) rfl ?_
  cases hf
  exact ro_vret hx hb hr hlk dX9_checkPiece_14
set_option maxHeartbeats 4000000 in
set_option maxRecDepth 100000 in
theorem tX9_checkPiece (l : Launch) (hst : l.stackTraces = false) (G : GG) (a0 aL0 aL1 aL2 aL3 aL4 aL5 aL6 aL7 aL8 aL9 aL10 aL11 aL12 aH0 aT0 aW0 aE0 : Nat) (md : Nat → Int32) (mch : Int32) (fra : Int32) (fwe : Int32) (fof : Int32) (fsi : Int32) (csh : Int32) (cde : Int32) (csp : Int32) (rd : Nat → Int32) (rw : Nat → Int32) (rp : Nat → Int32) (rco : Int32) (rmo : Int32) (apa : Int32) (awo : Int32) (ash : Int32) (aja : Int32) (abu : Int32) (ltol : Int32) (lchi : Int32) (ljam : Int32) (i1 : Int32) (k9 : Nat) (hf : fX9_checkPiece rco i1 = some (.inl k9)) : Th l G yX9_checkPiece cX9_checkPiece 2 none 7 102 [.ref a0, .int i1] [(a0, .inr (9, [.ref aL0, .ref aH0, .ref aT0, .ref aW0, .ref aE0])), (aL0, .inr (4, [.ref aL1, .ref aL3, .ref aL4, .ref aL5, .ref aL12, .int ltol, .int lchi, .int ljam])), (aL1, .inr (6, [.ref aL2, .int mch])), (aL2, .inl (G.2.1, 48, .inl md)), (aL3, .inr (2, [.int fra, .int fwe, .int fof, .int fsi])), (aL4, .inr (1, [.int csh, .int cde, .int csp])), (aL5, .inr (7, [.ref aL6, .ref aL8, .ref aL10, .int rco, .int rmo])), (aL6, .inr (8, [.ref aL7])), (aL7, .inl (G.2.1, 80, .inl rd)), (aL8, .inr (8, [.ref aL9])), (aL9, .inl (G.2.1, 5, .inl rw)), (aL10, .inr (8, [.ref aL11])), (aL11, .inl (G.2.1, 5, .inl rp)), (aL12, .inr (0, [.int apa, .int awo, .int ash, .int aja, .int abu]))] (exn k9) := by
  refine th_of (by decide) (Nat.le_of_ble_eq_true rfl) ?_
  intro p e s m args below meth c ls hx hb het hml hown hlk hA hZ hP hl
  replace hown : s.vm.findClass RX9 = some m.cls := hown
  replace hl : lv_has ls 2 [(0, .ref a0), (1, .int i1)] := hl
  unfold fX9_checkPiece at hf
  refine lv_iload_n hx hb dX9_checkPiece_0 rfl (lv_at hl 1 rfl) ?_
  refine lv_aload_n hx hb dX9_checkPiece_1 rfl (lv_at hl 0 rfl) ?_
  refine gf_X9_10 hx hb hown hA hP 0 rfl rfl dX9_checkPiece_2 ?_
  refine gf_X9_133 hx hb hown hA hP 1 rfl rfl dX9_checkPiece_5 ?_
  refine gf_X9_137 hx hb hown hA hP 6 rfl rfl dX9_checkPiece_8 ?_
  obtain ⟨e9 | u9, q_1, hf⟩ := obd hf
  · dsimp only at hf
    cases hf
    exact th_s (n := 2) (As := [.int i1, .int rco]) hx hb het hlk hml hown hA (tX9_checkIndex l hst G i1 rco _ q_1) g_X9_129 gd_X9_checkIndex ⟨(Nat.le_of_ble_eq_true rfl), (Nat.le_of_ble_eq_true rfl)⟩ hZ (fun _ _ h => by simp at h) rfl hl.1 (Nat.le_of_ble_eq_true rfl) ⟨(Nat.le_of_ble_eq_true rfl), (Nat.le_of_ble_eq_true rfl)⟩ dX9_checkPiece_11
  dsimp only at hf
  exact (oml hf).elim
def fX9_woodOf (rw : Nat → Int32) (rco : Int32) (i1 : Int32) : Option (Nat ⊕ (Int32)) :=
  ((fX9_checkPiece rco i1).bind fun z => match z with | .inl e => some (.inl e) | .inr _ => (Option.map Sum.inr (((fX8_at 5 rw i1).bind fun r_2 => some r_2))))
set_option maxHeartbeats 4000000 in
set_option maxRecDepth 100000 in
theorem kX9_woodOf (l : Launch) (G : GG) (a0 aL0 aL1 aL2 aL3 aL4 aL5 aL6 aL7 aL8 aL9 aL10 aL11 aL12 aH0 aT0 aW0 aE0 : Nat) (md : Nat → Int32) (mch : Int32) (fra : Int32) (fwe : Int32) (fof : Int32) (fsi : Int32) (csh : Int32) (cde : Int32) (csp : Int32) (rd : Nat → Int32) (rw : Nat → Int32) (rp : Nat → Int32) (rco : Int32) (rmo : Int32) (apa : Int32) (awo : Int32) (ash : Int32) (aja : Int32) (abu : Int32) (ltol : Int32) (lchi : Int32) (ljam : Int32) (i1 : Int32) (r_0 : Int32) (hf : fX9_woodOf rw rco i1 = some (.inr r_0)) : Ro l G yX9_woodOf cX9_woodOf 2 (some .int) 8 123 [.ref a0, .int i1] [(a0, .inr (9, [.ref aL0, .ref aH0, .ref aT0, .ref aW0, .ref aE0])), (aL0, .inr (4, [.ref aL1, .ref aL3, .ref aL4, .ref aL5, .ref aL12, .int ltol, .int lchi, .int ljam])), (aL1, .inr (6, [.ref aL2, .int mch])), (aL2, .inl (G.2.1, 48, .inl md)), (aL3, .inr (2, [.int fra, .int fwe, .int fof, .int fsi])), (aL4, .inr (1, [.int csh, .int cde, .int csp])), (aL5, .inr (7, [.ref aL6, .ref aL8, .ref aL10, .int rco, .int rmo])), (aL6, .inr (8, [.ref aL7])), (aL7, .inl (G.2.1, 80, .inl rd)), (aL8, .inr (8, [.ref aL9])), (aL9, .inl (G.2.1, 5, .inl rw)), (aL10, .inr (8, [.ref aL11])), (aL11, .inl (G.2.1, 5, .inl rp)), (aL12, .inr (0, [.int apa, .int awo, .int ash, .int aja, .int abu]))] (some (.int r_0)) := by
  refine ro_of (by decide) (Nat.le_of_ble_eq_true rfl) ?_
  intro p e s m args below meth c ls hx hb hr hml hown hlk hA hZ hP hl
  replace hown : s.vm.findClass RX9 = some m.cls := hown
  replace hl : lv_has ls 2 [(0, .ref a0), (1, .int i1)] := hl
  unfold fX9_woodOf at hf
  refine lv_aload_n hx hb dX9_woodOf_0 rfl (lv_at hl 0 rfl) ?_
  refine lv_iload_n hx hb dX9_woodOf_1 rfl (lv_at hl 1 rfl) ?_
  obtain ⟨e9 | u9, q_1, hf⟩ := obd hf
  · dsimp only at hf
    cases hf
  dsimp only at hf
  replace hf := omr hf
  refine ro_v (n := 1) (As := [.int i1]) (q0 := 0) hx hb hml hown hA (kX9_checkPiece l G a0 aL0 aL1 aL2 aL3 aL4 aL5 aL6 aL7 aL8 aL9 aL10 aL11 aL12 aH0 aT0 aW0 aE0 md mch fra fwe fof fsi csh cde csp rd rw rp rco rmo apa awo ash aja abu ltol lchi ljam i1 q_1) g_X9_149 gd_X9_checkPiece ⟨(Nat.le_of_ble_eq_true rfl), (Nat.le_of_ble_eq_true rfl)⟩ hZ (hP.sub [0, 1, 2, 3, 4, 5, 6, 7, 8, 9, 10, 11, 12, 13] rfl) rfl rfl rfl hl.1 (Nat.le_of_ble_eq_true rfl) ⟨(Nat.le_of_ble_eq_true rfl), (Nat.le_of_ble_eq_true rfl)⟩ dX9_woodOf_2 ?_
  refine W.eq (g2 := F0 m 5 ls []) rfl ?_
  refine lv_aload_n hx hb dX9_woodOf_5 rfl (lv_at hl 0 rfl) ?_
  refine gf_X9_10 hx hb hown hA hP 0 rfl rfl dX9_woodOf_6 ?_
  refine gf_X9_133 hx hb hown hA hP 1 rfl rfl dX9_woodOf_9 ?_
  refine gf_X9_234 hx hb hown hA hP 6 rfl rfl dX9_woodOf_12 ?_
  refine lv_iload_n hx hb dX9_woodOf_15 rfl (lv_at hl 1 rfl) ?_
  obtain ⟨r_2, q_3, hf⟩ := obd hf
  refine ro_v (n := 1) (As := [.int i1]) (q0 := 0) hx hb hml hown hA (kX8_at l G aL8 aL9 5 rw i1 r_2 q_3 (by decide)) g_X9_204 gd_X8_at ⟨(Nat.le_of_ble_eq_true rfl), (Nat.le_of_ble_eq_true rfl)⟩ hZ (hP.sub [9, 10] rfl) rfl rfl rfl hl.1 (Nat.le_of_ble_eq_true rfl) ⟨(Nat.le_of_ble_eq_true rfl), (Nat.le_of_ble_eq_true rfl)⟩ dX9_woodOf_16 ?_
  refine W.eq (g2 := F0 m 19 ls [.int r_2]) rfl ?_
  cases hf
  exact ro_iret hx hb hr hlk dX9_woodOf_19
set_option maxHeartbeats 4000000 in
set_option maxRecDepth 100000 in
theorem tX9_woodOf (l : Launch) (hst : l.stackTraces = false) (G : GG) (a0 aL0 aL1 aL2 aL3 aL4 aL5 aL6 aL7 aL8 aL9 aL10 aL11 aL12 aH0 aT0 aW0 aE0 : Nat) (md : Nat → Int32) (mch : Int32) (fra : Int32) (fwe : Int32) (fof : Int32) (fsi : Int32) (csh : Int32) (cde : Int32) (csp : Int32) (rd : Nat → Int32) (rw : Nat → Int32) (rp : Nat → Int32) (rco : Int32) (rmo : Int32) (apa : Int32) (awo : Int32) (ash : Int32) (aja : Int32) (abu : Int32) (ltol : Int32) (lchi : Int32) (ljam : Int32) (i1 : Int32) (k9 : Nat) (hf : fX9_woodOf rw rco i1 = some (.inl k9)) : Th l G yX9_woodOf cX9_woodOf 2 (some .int) 8 123 [.ref a0, .int i1] [(a0, .inr (9, [.ref aL0, .ref aH0, .ref aT0, .ref aW0, .ref aE0])), (aL0, .inr (4, [.ref aL1, .ref aL3, .ref aL4, .ref aL5, .ref aL12, .int ltol, .int lchi, .int ljam])), (aL1, .inr (6, [.ref aL2, .int mch])), (aL2, .inl (G.2.1, 48, .inl md)), (aL3, .inr (2, [.int fra, .int fwe, .int fof, .int fsi])), (aL4, .inr (1, [.int csh, .int cde, .int csp])), (aL5, .inr (7, [.ref aL6, .ref aL8, .ref aL10, .int rco, .int rmo])), (aL6, .inr (8, [.ref aL7])), (aL7, .inl (G.2.1, 80, .inl rd)), (aL8, .inr (8, [.ref aL9])), (aL9, .inl (G.2.1, 5, .inl rw)), (aL10, .inr (8, [.ref aL11])), (aL11, .inl (G.2.1, 5, .inl rp)), (aL12, .inr (0, [.int apa, .int awo, .int ash, .int aja, .int abu]))] (exn k9) := by
  refine th_of (by decide) (Nat.le_of_ble_eq_true rfl) ?_
  intro p e s m args below meth c ls hx hb het hml hown hlk hA hZ hP hl
  replace hown : s.vm.findClass RX9 = some m.cls := hown
  replace hl : lv_has ls 2 [(0, .ref a0), (1, .int i1)] := hl
  unfold fX9_woodOf at hf
  refine lv_aload_n hx hb dX9_woodOf_0 rfl (lv_at hl 0 rfl) ?_
  refine lv_iload_n hx hb dX9_woodOf_1 rfl (lv_at hl 1 rfl) ?_
  obtain ⟨e9 | u9, q_1, hf⟩ := obd hf
  · dsimp only at hf
    cases hf
    exact th_v (n := 1) (As := [.int i1]) (q0 := 0) hx hb het hlk hml hown hA (tX9_checkPiece l hst G a0 aL0 aL1 aL2 aL3 aL4 aL5 aL6 aL7 aL8 aL9 aL10 aL11 aL12 aH0 aT0 aW0 aE0 md mch fra fwe fof fsi csh cde csp rd rw rp rco rmo apa awo ash aja abu ltol lchi ljam i1 _ q_1) g_X9_149 gd_X9_checkPiece ⟨(Nat.le_of_ble_eq_true rfl), (Nat.le_of_ble_eq_true rfl)⟩ hZ (hP.sub [0, 1, 2, 3, 4, 5, 6, 7, 8, 9, 10, 11, 12, 13] rfl) rfl rfl rfl hl.1 (Nat.le_of_ble_eq_true rfl) ⟨(Nat.le_of_ble_eq_true rfl), (Nat.le_of_ble_eq_true rfl)⟩ dX9_woodOf_2
  dsimp only at hf
  exact (oml hf).elim
def fX9_diameterAt (rd : Nat → Int32) (rco : Int32) (i1 : Int32) (i2 : Int32) : Option (Nat ⊕ (Int32)) :=
  ((fX9_checkPiece rco i1).bind fun z => match z with | .inl e => some (.inl e) | .inr _ => ((fX9_checkStep i2).bind fun z => match z with | .inl e => some (.inl e) | .inr _ => (Option.map Sum.inr (((fX7_at rd i1 i2).bind fun r_3 => some r_3)))))
set_option maxHeartbeats 4000000 in
set_option maxRecDepth 100000 in
theorem kX9_diameterAt (l : Launch) (G : GG) (a0 aL0 aL1 aL2 aL3 aL4 aL5 aL6 aL7 aL8 aL9 aL10 aL11 aL12 aH0 aT0 aW0 aE0 : Nat) (md : Nat → Int32) (mch : Int32) (fra : Int32) (fwe : Int32) (fof : Int32) (fsi : Int32) (csh : Int32) (cde : Int32) (csp : Int32) (rd : Nat → Int32) (rw : Nat → Int32) (rp : Nat → Int32) (rco : Int32) (rmo : Int32) (apa : Int32) (awo : Int32) (ash : Int32) (aja : Int32) (abu : Int32) (ltol : Int32) (lchi : Int32) (ljam : Int32) (i1 : Int32) (i2 : Int32) (r_0 : Int32) (hf : fX9_diameterAt rd rco i1 i2 = some (.inr r_0)) : Ro l G yX9_diameterAt cX9_diameterAt 3 (some .int) 8 123 [.ref a0, .int i1, .int i2] [(a0, .inr (9, [.ref aL0, .ref aH0, .ref aT0, .ref aW0, .ref aE0])), (aL0, .inr (4, [.ref aL1, .ref aL3, .ref aL4, .ref aL5, .ref aL12, .int ltol, .int lchi, .int ljam])), (aL1, .inr (6, [.ref aL2, .int mch])), (aL2, .inl (G.2.1, 48, .inl md)), (aL3, .inr (2, [.int fra, .int fwe, .int fof, .int fsi])), (aL4, .inr (1, [.int csh, .int cde, .int csp])), (aL5, .inr (7, [.ref aL6, .ref aL8, .ref aL10, .int rco, .int rmo])), (aL6, .inr (8, [.ref aL7])), (aL7, .inl (G.2.1, 80, .inl rd)), (aL8, .inr (8, [.ref aL9])), (aL9, .inl (G.2.1, 5, .inl rw)), (aL10, .inr (8, [.ref aL11])), (aL11, .inl (G.2.1, 5, .inl rp)), (aL12, .inr (0, [.int apa, .int awo, .int ash, .int aja, .int abu]))] (some (.int r_0)) := by
  refine ro_of (by decide) (Nat.le_of_ble_eq_true rfl) ?_
  intro p e s m args below meth c ls hx hb hr hml hown hlk hA hZ hP hl
  replace hown : s.vm.findClass RX9 = some m.cls := hown
  replace hl : lv_has ls 3 [(0, .ref a0), (1, .int i1), (2, .int i2)] := hl
  unfold fX9_diameterAt at hf
  refine lv_aload_n hx hb dX9_diameterAt_0 rfl (lv_at hl 0 rfl) ?_
  refine lv_iload_n hx hb dX9_diameterAt_1 rfl (lv_at hl 1 rfl) ?_
  obtain ⟨e9 | u9, q_1, hf⟩ := obd hf
  · dsimp only at hf
    cases hf
  dsimp only at hf
  refine ro_v (n := 1) (As := [.int i1]) (q0 := 0) hx hb hml hown hA (kX9_checkPiece l G a0 aL0 aL1 aL2 aL3 aL4 aL5 aL6 aL7 aL8 aL9 aL10 aL11 aL12 aH0 aT0 aW0 aE0 md mch fra fwe fof fsi csh cde csp rd rw rp rco rmo apa awo ash aja abu ltol lchi ljam i1 q_1) g_X9_149 gd_X9_checkPiece ⟨(Nat.le_of_ble_eq_true rfl), (Nat.le_of_ble_eq_true rfl)⟩ hZ (hP.sub [0, 1, 2, 3, 4, 5, 6, 7, 8, 9, 10, 11, 12, 13] rfl) rfl rfl rfl hl.1 (Nat.le_of_ble_eq_true rfl) ⟨(Nat.le_of_ble_eq_true rfl), (Nat.le_of_ble_eq_true rfl)⟩ dX9_diameterAt_2 ?_
  refine W.eq (g2 := F0 m 5 ls []) rfl ?_
  refine lv_iload_n hx hb dX9_diameterAt_5 rfl (lv_at hl 2 rfl) ?_
  obtain ⟨e9 | u9, q_2, hf⟩ := obd hf
  · dsimp only at hf
    cases hf
  dsimp only at hf
  replace hf := omr hf
  refine ro_s (n := 1) (As := [.int i2]) hx hb hml hown hA (kX9_checkStep l G i2 q_2) g_X9_45 gd_X9_checkStep ⟨(Nat.le_of_ble_eq_true rfl), (Nat.le_of_ble_eq_true rfl)⟩ hZ (fun _ _ h => by simp at h) rfl hl.1 (Nat.le_of_ble_eq_true rfl) ⟨(Nat.le_of_ble_eq_true rfl), (Nat.le_of_ble_eq_true rfl)⟩ dX9_diameterAt_6 ?_
  refine W.eq (g2 := F0 m 9 ls []) rfl ?_
  refine lv_aload_n hx hb dX9_diameterAt_9 rfl (lv_at hl 0 rfl) ?_
  refine gf_X9_10 hx hb hown hA hP 0 rfl rfl dX9_diameterAt_10 ?_
  refine gf_X9_133 hx hb hown hA hP 1 rfl rfl dX9_diameterAt_13 ?_
  refine lv_iload_n hx hb dX9_diameterAt_16 rfl (lv_at hl 1 rfl) ?_
  refine lv_iload_n hx hb dX9_diameterAt_17 rfl (lv_at hl 2 rfl) ?_
  obtain ⟨r_3, q_4, hf⟩ := obd hf
  refine ro_v (n := 2) (As := [.int i1, .int i2]) (q0 := 0) hx hb hml hown hA (kX7_at l G aL5 aL6 aL7 aL8 aL9 aL10 aL11 rd rw rp rco rmo i1 i2 r_3 q_4) g_X9_237 gd_X7_at ⟨(Nat.le_of_ble_eq_true rfl), (Nat.le_of_ble_eq_true rfl)⟩ hZ (hP.sub [6, 7, 8, 9, 10, 11, 12] rfl) rfl rfl rfl hl.1 (Nat.le_of_ble_eq_true rfl) ⟨(Nat.le_of_ble_eq_true rfl), (Nat.le_of_ble_eq_true rfl)⟩ dX9_diameterAt_18 ?_
  refine W.eq (g2 := F0 m 21 ls [.int r_3]) rfl ?_
  cases hf
  exact ro_iret hx hb hr hlk dX9_diameterAt_21
set_option maxHeartbeats 4000000 in
set_option maxRecDepth 100000 in
theorem tX9_diameterAt (l : Launch) (hst : l.stackTraces = false) (G : GG) (a0 aL0 aL1 aL2 aL3 aL4 aL5 aL6 aL7 aL8 aL9 aL10 aL11 aL12 aH0 aT0 aW0 aE0 : Nat) (md : Nat → Int32) (mch : Int32) (fra : Int32) (fwe : Int32) (fof : Int32) (fsi : Int32) (csh : Int32) (cde : Int32) (csp : Int32) (rd : Nat → Int32) (rw : Nat → Int32) (rp : Nat → Int32) (rco : Int32) (rmo : Int32) (apa : Int32) (awo : Int32) (ash : Int32) (aja : Int32) (abu : Int32) (ltol : Int32) (lchi : Int32) (ljam : Int32) (i1 : Int32) (i2 : Int32) (k9 : Nat) (hf : fX9_diameterAt rd rco i1 i2 = some (.inl k9)) : Th l G yX9_diameterAt cX9_diameterAt 3 (some .int) 8 123 [.ref a0, .int i1, .int i2] [(a0, .inr (9, [.ref aL0, .ref aH0, .ref aT0, .ref aW0, .ref aE0])), (aL0, .inr (4, [.ref aL1, .ref aL3, .ref aL4, .ref aL5, .ref aL12, .int ltol, .int lchi, .int ljam])), (aL1, .inr (6, [.ref aL2, .int mch])), (aL2, .inl (G.2.1, 48, .inl md)), (aL3, .inr (2, [.int fra, .int fwe, .int fof, .int fsi])), (aL4, .inr (1, [.int csh, .int cde, .int csp])), (aL5, .inr (7, [.ref aL6, .ref aL8, .ref aL10, .int rco, .int rmo])), (aL6, .inr (8, [.ref aL7])), (aL7, .inl (G.2.1, 80, .inl rd)), (aL8, .inr (8, [.ref aL9])), (aL9, .inl (G.2.1, 5, .inl rw)), (aL10, .inr (8, [.ref aL11])), (aL11, .inl (G.2.1, 5, .inl rp)), (aL12, .inr (0, [.int apa, .int awo, .int ash, .int aja, .int abu]))] (exn k9) := by
  refine th_of (by decide) (Nat.le_of_ble_eq_true rfl) ?_
  intro p e s m args below meth c ls hx hb het hml hown hlk hA hZ hP hl
  replace hown : s.vm.findClass RX9 = some m.cls := hown
  replace hl : lv_has ls 3 [(0, .ref a0), (1, .int i1), (2, .int i2)] := hl
  unfold fX9_diameterAt at hf
  refine lv_aload_n hx hb dX9_diameterAt_0 rfl (lv_at hl 0 rfl) ?_
  refine lv_iload_n hx hb dX9_diameterAt_1 rfl (lv_at hl 1 rfl) ?_
  obtain ⟨e9 | u9, q_1, hf⟩ := obd hf
  · dsimp only at hf
    cases hf
    exact th_v (n := 1) (As := [.int i1]) (q0 := 0) hx hb het hlk hml hown hA (tX9_checkPiece l hst G a0 aL0 aL1 aL2 aL3 aL4 aL5 aL6 aL7 aL8 aL9 aL10 aL11 aL12 aH0 aT0 aW0 aE0 md mch fra fwe fof fsi csh cde csp rd rw rp rco rmo apa awo ash aja abu ltol lchi ljam i1 _ q_1) g_X9_149 gd_X9_checkPiece ⟨(Nat.le_of_ble_eq_true rfl), (Nat.le_of_ble_eq_true rfl)⟩ hZ (hP.sub [0, 1, 2, 3, 4, 5, 6, 7, 8, 9, 10, 11, 12, 13] rfl) rfl rfl rfl hl.1 (Nat.le_of_ble_eq_true rfl) ⟨(Nat.le_of_ble_eq_true rfl), (Nat.le_of_ble_eq_true rfl)⟩ dX9_diameterAt_2
  dsimp only at hf
  refine ro_v (n := 1) (As := [.int i1]) (q0 := 0) hx hb hml hown hA (kX9_checkPiece l G a0 aL0 aL1 aL2 aL3 aL4 aL5 aL6 aL7 aL8 aL9 aL10 aL11 aL12 aH0 aT0 aW0 aE0 md mch fra fwe fof fsi csh cde csp rd rw rp rco rmo apa awo ash aja abu ltol lchi ljam i1 q_1) g_X9_149 gd_X9_checkPiece ⟨(Nat.le_of_ble_eq_true rfl), (Nat.le_of_ble_eq_true rfl)⟩ hZ (hP.sub [0, 1, 2, 3, 4, 5, 6, 7, 8, 9, 10, 11, 12, 13] rfl) rfl rfl rfl hl.1 (Nat.le_of_ble_eq_true rfl) ⟨(Nat.le_of_ble_eq_true rfl), (Nat.le_of_ble_eq_true rfl)⟩ dX9_diameterAt_2 ?_
  refine W.eq (g2 := F0 m 5 ls []) rfl ?_
  refine lv_iload_n hx hb dX9_diameterAt_5 rfl (lv_at hl 2 rfl) ?_
  obtain ⟨e9 | u9, q_2, hf⟩ := obd hf
  · dsimp only at hf
    cases hf
    exact th_s (n := 1) (As := [.int i2]) hx hb het hlk hml hown hA (tX9_checkStep l hst G i2 _ q_2) g_X9_45 gd_X9_checkStep ⟨(Nat.le_of_ble_eq_true rfl), (Nat.le_of_ble_eq_true rfl)⟩ hZ (fun _ _ h => by simp at h) rfl hl.1 (Nat.le_of_ble_eq_true rfl) ⟨(Nat.le_of_ble_eq_true rfl), (Nat.le_of_ble_eq_true rfl)⟩ dX9_diameterAt_6
  dsimp only at hf
  exact (oml hf).elim
def fX9_passesOn (rp : Nat → Int32) (rco : Int32) (i1 : Int32) : Option (Nat ⊕ (Int32)) :=
  ((fX9_checkPiece rco i1).bind fun z => match z with | .inl e => some (.inl e) | .inr _ => (Option.map Sum.inr (((fX8_at 5 rp i1).bind fun r_2 => some r_2))))
set_option maxHeartbeats 4000000 in
set_option maxRecDepth 100000 in
theorem kX9_passesOn (l : Launch) (G : GG) (a0 aL0 aL1 aL2 aL3 aL4 aL5 aL6 aL7 aL8 aL9 aL10 aL11 aL12 aH0 aT0 aW0 aE0 : Nat) (md : Nat → Int32) (mch : Int32) (fra : Int32) (fwe : Int32) (fof : Int32) (fsi : Int32) (csh : Int32) (cde : Int32) (csp : Int32) (rd : Nat → Int32) (rw : Nat → Int32) (rp : Nat → Int32) (rco : Int32) (rmo : Int32) (apa : Int32) (awo : Int32) (ash : Int32) (aja : Int32) (abu : Int32) (ltol : Int32) (lchi : Int32) (ljam : Int32) (i1 : Int32) (r_0 : Int32) (hf : fX9_passesOn rp rco i1 = some (.inr r_0)) : Ro l G yX9_passesOn cX9_passesOn 2 (some .int) 8 123 [.ref a0, .int i1] [(a0, .inr (9, [.ref aL0, .ref aH0, .ref aT0, .ref aW0, .ref aE0])), (aL0, .inr (4, [.ref aL1, .ref aL3, .ref aL4, .ref aL5, .ref aL12, .int ltol, .int lchi, .int ljam])), (aL1, .inr (6, [.ref aL2, .int mch])), (aL2, .inl (G.2.1, 48, .inl md)), (aL3, .inr (2, [.int fra, .int fwe, .int fof, .int fsi])), (aL4, .inr (1, [.int csh, .int cde, .int csp])), (aL5, .inr (7, [.ref aL6, .ref aL8, .ref aL10, .int rco, .int rmo])), (aL6, .inr (8, [.ref aL7])), (aL7, .inl (G.2.1, 80, .inl rd)), (aL8, .inr (8, [.ref aL9])), (aL9, .inl (G.2.1, 5, .inl rw)), (aL10, .inr (8, [.ref aL11])), (aL11, .inl (G.2.1, 5, .inl rp)), (aL12, .inr (0, [.int apa, .int awo, .int ash, .int aja, .int abu]))] (some (.int r_0)) := by
  refine ro_of (by decide) (Nat.le_of_ble_eq_true rfl) ?_
  intro p e s m args below meth c ls hx hb hr hml hown hlk hA hZ hP hl
  replace hown : s.vm.findClass RX9 = some m.cls := hown
  replace hl : lv_has ls 2 [(0, .ref a0), (1, .int i1)] := hl
  unfold fX9_passesOn at hf
  refine lv_aload_n hx hb dX9_passesOn_0 rfl (lv_at hl 0 rfl) ?_
  refine lv_iload_n hx hb dX9_passesOn_1 rfl (lv_at hl 1 rfl) ?_
  obtain ⟨e9 | u9, q_1, hf⟩ := obd hf
  · dsimp only at hf
    cases hf
  dsimp only at hf
  replace hf := omr hf
  refine ro_v (n := 1) (As := [.int i1]) (q0 := 0) hx hb hml hown hA (kX9_checkPiece l G a0 aL0 aL1 aL2 aL3 aL4 aL5 aL6 aL7 aL8 aL9 aL10 aL11 aL12 aH0 aT0 aW0 aE0 md mch fra fwe fof fsi csh cde csp rd rw rp rco rmo apa awo ash aja abu ltol lchi ljam i1 q_1) g_X9_149 gd_X9_checkPiece ⟨(Nat.le_of_ble_eq_true rfl), (Nat.le_of_ble_eq_true rfl)⟩ hZ (hP.sub [0, 1, 2, 3, 4, 5, 6, 7, 8, 9, 10, 11, 12, 13] rfl) rfl rfl rfl hl.1 (Nat.le_of_ble_eq_true rfl) ⟨(Nat.le_of_ble_eq_true rfl), (Nat.le_of_ble_eq_true rfl)⟩ dX9_passesOn_2 ?_
  refine W.eq (g2 := F0 m 5 ls []) rfl ?_
  refine lv_aload_n hx hb dX9_passesOn_5 rfl (lv_at hl 0 rfl) ?_
  refine gf_X9_10 hx hb hown hA hP 0 rfl rfl dX9_passesOn_6 ?_
  refine gf_X9_133 hx hb hown hA hP 1 rfl rfl dX9_passesOn_9 ?_
  refine gf_X9_238 hx hb hown hA hP 6 rfl rfl dX9_passesOn_12 ?_
  refine lv_iload_n hx hb dX9_passesOn_15 rfl (lv_at hl 1 rfl) ?_
  obtain ⟨r_2, q_3, hf⟩ := obd hf
  refine ro_v (n := 1) (As := [.int i1]) (q0 := 0) hx hb hml hown hA (kX8_at l G aL10 aL11 5 rp i1 r_2 q_3 (by decide)) g_X9_204 gd_X8_at ⟨(Nat.le_of_ble_eq_true rfl), (Nat.le_of_ble_eq_true rfl)⟩ hZ (hP.sub [11, 12] rfl) rfl rfl rfl hl.1 (Nat.le_of_ble_eq_true rfl) ⟨(Nat.le_of_ble_eq_true rfl), (Nat.le_of_ble_eq_true rfl)⟩ dX9_passesOn_16 ?_
  refine W.eq (g2 := F0 m 19 ls [.int r_2]) rfl ?_
  cases hf
  exact ro_iret hx hb hr hlk dX9_passesOn_19
set_option maxHeartbeats 4000000 in
set_option maxRecDepth 100000 in
theorem tX9_passesOn (l : Launch) (hst : l.stackTraces = false) (G : GG) (a0 aL0 aL1 aL2 aL3 aL4 aL5 aL6 aL7 aL8 aL9 aL10 aL11 aL12 aH0 aT0 aW0 aE0 : Nat) (md : Nat → Int32) (mch : Int32) (fra : Int32) (fwe : Int32) (fof : Int32) (fsi : Int32) (csh : Int32) (cde : Int32) (csp : Int32) (rd : Nat → Int32) (rw : Nat → Int32) (rp : Nat → Int32) (rco : Int32) (rmo : Int32) (apa : Int32) (awo : Int32) (ash : Int32) (aja : Int32) (abu : Int32) (ltol : Int32) (lchi : Int32) (ljam : Int32) (i1 : Int32) (k9 : Nat) (hf : fX9_passesOn rp rco i1 = some (.inl k9)) : Th l G yX9_passesOn cX9_passesOn 2 (some .int) 8 123 [.ref a0, .int i1] [(a0, .inr (9, [.ref aL0, .ref aH0, .ref aT0, .ref aW0, .ref aE0])), (aL0, .inr (4, [.ref aL1, .ref aL3, .ref aL4, .ref aL5, .ref aL12, .int ltol, .int lchi, .int ljam])), (aL1, .inr (6, [.ref aL2, .int mch])), (aL2, .inl (G.2.1, 48, .inl md)), (aL3, .inr (2, [.int fra, .int fwe, .int fof, .int fsi])), (aL4, .inr (1, [.int csh, .int cde, .int csp])), (aL5, .inr (7, [.ref aL6, .ref aL8, .ref aL10, .int rco, .int rmo])), (aL6, .inr (8, [.ref aL7])), (aL7, .inl (G.2.1, 80, .inl rd)), (aL8, .inr (8, [.ref aL9])), (aL9, .inl (G.2.1, 5, .inl rw)), (aL10, .inr (8, [.ref aL11])), (aL11, .inl (G.2.1, 5, .inl rp)), (aL12, .inr (0, [.int apa, .int awo, .int ash, .int aja, .int abu]))] (exn k9) := by
  refine th_of (by decide) (Nat.le_of_ble_eq_true rfl) ?_
  intro p e s m args below meth c ls hx hb het hml hown hlk hA hZ hP hl
  replace hown : s.vm.findClass RX9 = some m.cls := hown
  replace hl : lv_has ls 2 [(0, .ref a0), (1, .int i1)] := hl
  unfold fX9_passesOn at hf
  refine lv_aload_n hx hb dX9_passesOn_0 rfl (lv_at hl 0 rfl) ?_
  refine lv_iload_n hx hb dX9_passesOn_1 rfl (lv_at hl 1 rfl) ?_
  obtain ⟨e9 | u9, q_1, hf⟩ := obd hf
  · dsimp only at hf
    cases hf
    exact th_v (n := 1) (As := [.int i1]) (q0 := 0) hx hb het hlk hml hown hA (tX9_checkPiece l hst G a0 aL0 aL1 aL2 aL3 aL4 aL5 aL6 aL7 aL8 aL9 aL10 aL11 aL12 aH0 aT0 aW0 aE0 md mch fra fwe fof fsi csh cde csp rd rw rp rco rmo apa awo ash aja abu ltol lchi ljam i1 _ q_1) g_X9_149 gd_X9_checkPiece ⟨(Nat.le_of_ble_eq_true rfl), (Nat.le_of_ble_eq_true rfl)⟩ hZ (hP.sub [0, 1, 2, 3, 4, 5, 6, 7, 8, 9, 10, 11, 12, 13] rfl) rfl rfl rfl hl.1 (Nat.le_of_ble_eq_true rfl) ⟨(Nat.le_of_ble_eq_true rfl), (Nat.le_of_ble_eq_true rfl)⟩ dX9_passesOn_2
  dsimp only at hf
  exact (oml hf).elim
def fX9_hasMounted (rmo : Int32)  : Option (Int32) :=
  ((fX7_isTurning rmo).bind fun r_1 => (if (r_1 = 0 ∨ r_1 = 1) then some r_1 else none))
set_option maxHeartbeats 4000000 in
set_option maxRecDepth 100000 in
theorem kX9_hasMounted (l : Launch) (G : GG) (a0 aL0 aL1 aL2 aL3 aL4 aL5 aL6 aL7 aL8 aL9 aL10 aL11 aL12 aH0 aT0 aW0 aE0 : Nat) (md : Nat → Int32) (mch : Int32) (fra : Int32) (fwe : Int32) (fof : Int32) (fsi : Int32) (csh : Int32) (cde : Int32) (csp : Int32) (rd : Nat → Int32) (rw : Nat → Int32) (rp : Nat → Int32) (rco : Int32) (rmo : Int32) (apa : Int32) (awo : Int32) (ash : Int32) (aja : Int32) (abu : Int32) (ltol : Int32) (lchi : Int32) (ljam : Int32)  (r_0 : Int32) (hf : fX9_hasMounted rmo = some r_0) : Ro l G yX9_hasMounted cX9_hasMounted 1 (some .boolean) 1 20 [.ref a0] [(a0, .inr (9, [.ref aL0, .ref aH0, .ref aT0, .ref aW0, .ref aE0])), (aL0, .inr (4, [.ref aL1, .ref aL3, .ref aL4, .ref aL5, .ref aL12, .int ltol, .int lchi, .int ljam])), (aL1, .inr (6, [.ref aL2, .int mch])), (aL2, .inl (G.2.1, 48, .inl md)), (aL3, .inr (2, [.int fra, .int fwe, .int fof, .int fsi])), (aL4, .inr (1, [.int csh, .int cde, .int csp])), (aL5, .inr (7, [.ref aL6, .ref aL8, .ref aL10, .int rco, .int rmo])), (aL6, .inr (8, [.ref aL7])), (aL7, .inl (G.2.1, 80, .inl rd)), (aL8, .inr (8, [.ref aL9])), (aL9, .inl (G.2.1, 5, .inl rw)), (aL10, .inr (8, [.ref aL11])), (aL11, .inl (G.2.1, 5, .inl rp)), (aL12, .inr (0, [.int apa, .int awo, .int ash, .int aja, .int abu]))] (some (.int r_0)) := by
  refine ro_of (by decide) (Nat.le_of_ble_eq_true rfl) ?_
  intro p e s m args below meth c ls hx hb hr hml hown hlk hA hZ hP hl
  replace hown : s.vm.findClass RX9 = some m.cls := hown
  replace hl : lv_has ls 1 [(0, .ref a0)] := hl
  unfold fX9_hasMounted at hf
  refine lv_aload_n hx hb dX9_hasMounted_0 rfl (lv_at hl 0 rfl) ?_
  refine gf_X9_10 hx hb hown hA hP 0 rfl rfl dX9_hasMounted_1 ?_
  refine gf_X9_133 hx hb hown hA hP 1 rfl rfl dX9_hasMounted_4 ?_
  obtain ⟨r_1, q_2, hf⟩ := obd hf
  refine ro_v (n := 0) (As := []) (q0 := 0) hx hb hml hown hA (kX7_isTurning l G aL5 aL6 aL7 aL8 aL9 aL10 aL11 rd rw rp rco rmo r_1 q_2) g_X9_161 gd_X7_isTurning ⟨(Nat.le_of_ble_eq_true rfl), (Nat.le_of_ble_eq_true rfl)⟩ hZ (hP.sub [6, 7, 8, 9, 10, 11, 12] rfl) rfl rfl rfl hl.1 (Nat.le_of_ble_eq_true rfl) ⟨(Nat.le_of_ble_eq_true rfl), (Nat.le_of_ble_eq_true rfl)⟩ dX9_hasMounted_7 ?_
  refine W.eq (g2 := F0 m 10 ls [.int r_1]) rfl ?_
  obtain ⟨z_3, hf⟩ := ock hf
  cases hf
  exact ro_zret hx hb hr hlk z_3 dX9_hasMounted_10
def fX9_checkMounted (rmo : Int32)  : Option (Nat ⊕ (Unit)) :=
  ((fX7_isTurning rmo).bind fun r_1 => ((fX9_checkState r_1).bind fun z => match z with | .inl e => some (.inl e) | .inr _ => (Option.map Sum.inr (some ()))))
set_option maxHeartbeats 4000000 in
set_option maxRecDepth 100000 in
theorem kX9_checkMounted (l : Launch) (G : GG) (a0 aL0 aL1 aL2 aL3 aL4 aL5 aL6 aL7 aL8 aL9 aL10 aL11 aL12 aH0 aT0 aW0 aE0 : Nat) (md : Nat → Int32) (mch : Int32) (fra : Int32) (fwe : Int32) (fof : Int32) (fsi : Int32) (csh : Int32) (cde : Int32) (csp : Int32) (rd : Nat → Int32) (rw : Nat → Int32) (rp : Nat → Int32) (rco : Int32) (rmo : Int32) (apa : Int32) (awo : Int32) (ash : Int32) (aja : Int32) (abu : Int32) (ltol : Int32) (lchi : Int32) (ljam : Int32)   (hf : fX9_checkMounted rmo = some (.inr ())) : Ro l G yX9_checkMounted cX9_checkMounted 1 none 7 101 [.ref a0] [(a0, .inr (9, [.ref aL0, .ref aH0, .ref aT0, .ref aW0, .ref aE0])), (aL0, .inr (4, [.ref aL1, .ref aL3, .ref aL4, .ref aL5, .ref aL12, .int ltol, .int lchi, .int ljam])), (aL1, .inr (6, [.ref aL2, .int mch])), (aL2, .inl (G.2.1, 48, .inl md)), (aL3, .inr (2, [.int fra, .int fwe, .int fof, .int fsi])), (aL4, .inr (1, [.int csh, .int cde, .int csp])), (aL5, .inr (7, [.ref aL6, .ref aL8, .ref aL10, .int rco, .int rmo])), (aL6, .inr (8, [.ref aL7])), (aL7, .inl (G.2.1, 80, .inl rd)), (aL8, .inr (8, [.ref aL9])), (aL9, .inl (G.2.1, 5, .inl rw)), (aL10, .inr (8, [.ref aL11])), (aL11, .inl (G.2.1, 5, .inl rp)), (aL12, .inr (0, [.int apa, .int awo, .int ash, .int aja, .int abu]))] none := by
  refine ro_of (by decide) (Nat.le_of_ble_eq_true rfl) ?_
  intro p e s m args below meth c ls hx hb hr hml hown hlk hA hZ hP hl
  replace hown : s.vm.findClass RX9 = some m.cls := hown
  replace hl : lv_has ls 1 [(0, .ref a0)] := hl
  unfold fX9_checkMounted at hf
  refine lv_aload_n hx hb dX9_checkMounted_0 rfl (lv_at hl 0 rfl) ?_
  refine gf_X9_10 hx hb hown hA hP 0 rfl rfl dX9_checkMounted_1 ?_
  refine gf_X9_133 hx hb hown hA hP 1 rfl rfl dX9_checkMounted_4 ?_
  obtain ⟨r_1, q_2, hf⟩ := obd hf
  refine ro_v (n := 0) (As := []) (q0 := 0) hx hb hml hown hA (kX7_isTurning l G aL5 aL6 aL7 aL8 aL9 aL10 aL11 rd rw rp rco rmo r_1 q_2) g_X9_161 gd_X7_isTurning ⟨(Nat.le_of_ble_eq_true rfl), (Nat.le_of_ble_eq_true rfl)⟩ hZ (hP.sub [6, 7, 8, 9, 10, 11, 12] rfl) rfl rfl rfl hl.1 (Nat.le_of_ble_eq_true rfl) ⟨(Nat.le_of_ble_eq_true rfl), (Nat.le_of_ble_eq_true rfl)⟩ dX9_checkMounted_7 ?_
  refine W.eq (g2 := F0 m 10 ls [.int r_1]) rfl ?_
  obtain ⟨e9 | u9, q_3, hf⟩ := obd hf
  · dsimp only at hf
    cases hf
  dsimp only at hf
  replace hf := omr hf
  refine ro_s (n := 1) (As := [.int r_1]) hx hb hml hown hA (kX9_checkState l G r_1 q_3) g_X9_142 gd_X9_checkState ⟨(Nat.le_of_ble_eq_true rfl), (Nat.le_of_ble_eq_true rfl)⟩ hZ (fun _ _ h => by simp at h) rfl hl.1 (Nat.le_of_ble_eq_true rfl) ⟨(Nat.le_of_ble_eq_true rfl), (Nat.le_of_ble_eq_true rfl)⟩ dX9_checkMounted_10 ?_
  refine W.eq (g2 := F0 m 13 ls []) rfl ?_
  cases hf
  exact ro_vret hx hb hr hlk dX9_checkMounted_13
set_option maxHeartbeats 4000000 in
set_option maxRecDepth 100000 in
theorem tX9_checkMounted (l : Launch) (hst : l.stackTraces = false) (G : GG) (a0 aL0 aL1 aL2 aL3 aL4 aL5 aL6 aL7 aL8 aL9 aL10 aL11 aL12 aH0 aT0 aW0 aE0 : Nat) (md : Nat → Int32) (mch : Int32) (fra : Int32) (fwe : Int32) (fof : Int32) (fsi : Int32) (csh : Int32) (cde : Int32) (csp : Int32) (rd : Nat → Int32) (rw : Nat → Int32) (rp : Nat → Int32) (rco : Int32) (rmo : Int32) (apa : Int32) (awo : Int32) (ash : Int32) (aja : Int32) (abu : Int32) (ltol : Int32) (lchi : Int32) (ljam : Int32)  (k9 : Nat) (hf : fX9_checkMounted rmo = some (.inl k9)) : Th l G yX9_checkMounted cX9_checkMounted 1 none 7 101 [.ref a0] [(a0, .inr (9, [.ref aL0, .ref aH0, .ref aT0, .ref aW0, .ref aE0])), (aL0, .inr (4, [.ref aL1, .ref aL3, .ref aL4, .ref aL5, .ref aL12, .int ltol, .int lchi, .int ljam])), (aL1, .inr (6, [.ref aL2, .int mch])), (aL2, .inl (G.2.1, 48, .inl md)), (aL3, .inr (2, [.int fra, .int fwe, .int fof, .int fsi])), (aL4, .inr (1, [.int csh, .int cde, .int csp])), (aL5, .inr (7, [.ref aL6, .ref aL8, .ref aL10, .int rco, .int rmo])), (aL6, .inr (8, [.ref aL7])), (aL7, .inl (G.2.1, 80, .inl rd)), (aL8, .inr (8, [.ref aL9])), (aL9, .inl (G.2.1, 5, .inl rw)), (aL10, .inr (8, [.ref aL11])), (aL11, .inl (G.2.1, 5, .inl rp)), (aL12, .inr (0, [.int apa, .int awo, .int ash, .int aja, .int abu]))] (exn k9) := by
  refine th_of (by decide) (Nat.le_of_ble_eq_true rfl) ?_
  intro p e s m args below meth c ls hx hb het hml hown hlk hA hZ hP hl
  replace hown : s.vm.findClass RX9 = some m.cls := hown
  replace hl : lv_has ls 1 [(0, .ref a0)] := hl
  unfold fX9_checkMounted at hf
  refine lv_aload_n hx hb dX9_checkMounted_0 rfl (lv_at hl 0 rfl) ?_
  refine gf_X9_10 hx hb hown hA hP 0 rfl rfl dX9_checkMounted_1 ?_
  refine gf_X9_133 hx hb hown hA hP 1 rfl rfl dX9_checkMounted_4 ?_
  obtain ⟨r_1, q_2, hf⟩ := obd hf
  refine ro_v (n := 0) (As := []) (q0 := 0) hx hb hml hown hA (kX7_isTurning l G aL5 aL6 aL7 aL8 aL9 aL10 aL11 rd rw rp rco rmo r_1 q_2) g_X9_161 gd_X7_isTurning ⟨(Nat.le_of_ble_eq_true rfl), (Nat.le_of_ble_eq_true rfl)⟩ hZ (hP.sub [6, 7, 8, 9, 10, 11, 12] rfl) rfl rfl rfl hl.1 (Nat.le_of_ble_eq_true rfl) ⟨(Nat.le_of_ble_eq_true rfl), (Nat.le_of_ble_eq_true rfl)⟩ dX9_checkMounted_7 ?_
  refine W.eq (g2 := F0 m 10 ls [.int r_1]) rfl ?_
  obtain ⟨e9 | u9, q_3, hf⟩ := obd hf
  · dsimp only at hf
    cases hf
    exact th_s (n := 1) (As := [.int r_1]) hx hb het hlk hml hown hA (tX9_checkState l hst G r_1 _ q_3) g_X9_142 gd_X9_checkState ⟨(Nat.le_of_ble_eq_true rfl), (Nat.le_of_ble_eq_true rfl)⟩ hZ (fun _ _ h => by simp at h) rfl hl.1 (Nat.le_of_ble_eq_true rfl) ⟨(Nat.le_of_ble_eq_true rfl), (Nat.le_of_ble_eq_true rfl)⟩ dX9_checkMounted_10
  dsimp only at hf
  exact (oml hf).elim
def fX9_mounted (rmo : Int32)  : Option (Nat ⊕ (Int32)) :=
  ((fX9_checkMounted rmo).bind fun z => match z with | .inl e => some (.inl e) | .inr _ => (Option.map Sum.inr (some rmo)))
set_option maxHeartbeats 4000000 in
set_option maxRecDepth 100000 in
theorem kX9_mounted (l : Launch) (G : GG) (a0 aL0 aL1 aL2 aL3 aL4 aL5 aL6 aL7 aL8 aL9 aL10 aL11 aL12 aH0 aT0 aW0 aE0 : Nat) (md : Nat → Int32) (mch : Int32) (fra : Int32) (fwe : Int32) (fof : Int32) (fsi : Int32) (csh : Int32) (cde : Int32) (csp : Int32) (rd : Nat → Int32) (rw : Nat → Int32) (rp : Nat → Int32) (rco : Int32) (rmo : Int32) (apa : Int32) (awo : Int32) (ash : Int32) (aja : Int32) (abu : Int32) (ltol : Int32) (lchi : Int32) (ljam : Int32)  (r_0 : Int32) (hf : fX9_mounted rmo = some (.inr r_0)) : Ro l G yX9_mounted cX9_mounted 1 (some .int) 8 121 [.ref a0] [(a0, .inr (9, [.ref aL0, .ref aH0, .ref aT0, .ref aW0, .ref aE0])), (aL0, .inr (4, [.ref aL1, .ref aL3, .ref aL4, .ref aL5, .ref aL12, .int ltol, .int lchi, .int ljam])), (aL1, .inr (6, [.ref aL2, .int mch])), (aL2, .inl (G.2.1, 48, .inl md)), (aL3, .inr (2, [.int fra, .int fwe, .int fof, .int fsi])), (aL4, .inr (1, [.int csh, .int cde, .int csp])), (aL5, .inr (7, [.ref aL6, .ref aL8, .ref aL10, .int rco, .int rmo])), (aL6, .inr (8, [.ref aL7])), (aL7, .inl (G.2.1, 80, .inl rd)), (aL8, .inr (8, [.ref aL9])), (aL9, .inl (G.2.1, 5, .inl rw)), (aL10, .inr (8, [.ref aL11])), (aL11, .inl (G.2.1, 5, .inl rp)), (aL12, .inr (0, [.int apa, .int awo, .int ash, .int aja, .int abu]))] (some (.int r_0)) := by
  refine ro_of (by decide) (Nat.le_of_ble_eq_true rfl) ?_
  intro p e s m args below meth c ls hx hb hr hml hown hlk hA hZ hP hl
  replace hown : s.vm.findClass RX9 = some m.cls := hown
  replace hl : lv_has ls 1 [(0, .ref a0)] := hl
  unfold fX9_mounted at hf
  refine lv_aload_n hx hb dX9_mounted_0 rfl (lv_at hl 0 rfl) ?_
  obtain ⟨e9 | u9, q_1, hf⟩ := obd hf
  · dsimp only at hf
    cases hf
  dsimp only at hf
  replace hf := omr hf
  refine ro_v (n := 0) (As := []) (q0 := 0) hx hb hml hown hA (kX9_checkMounted l G a0 aL0 aL1 aL2 aL3 aL4 aL5 aL6 aL7 aL8 aL9 aL10 aL11 aL12 aH0 aT0 aW0 aE0 md mch fra fwe fof fsi csh cde csp rd rw rp rco rmo apa awo ash aja abu ltol lchi ljam q_1) g_X9_165 gd_X9_checkMounted ⟨(Nat.le_of_ble_eq_true rfl), (Nat.le_of_ble_eq_true rfl)⟩ hZ (hP.sub [0, 1, 2, 3, 4, 5, 6, 7, 8, 9, 10, 11, 12, 13] rfl) rfl rfl rfl hl.1 (Nat.le_of_ble_eq_true rfl) ⟨(Nat.le_of_ble_eq_true rfl), (Nat.le_of_ble_eq_true rfl)⟩ dX9_mounted_1 ?_
  refine W.eq (g2 := F0 m 4 ls []) rfl ?_
  refine lv_aload_n hx hb dX9_mounted_4 rfl (lv_at hl 0 rfl) ?_
  refine gf_X9_10 hx hb hown hA hP 0 rfl rfl dX9_mounted_5 ?_
  refine gf_X9_133 hx hb hown hA hP 1 rfl rfl dX9_mounted_8 ?_
  refine gf_X9_152 hx hb hown hA hP 6 rfl rfl dX9_mounted_11 ?_
  cases hf
  exact ro_iret hx hb hr hlk dX9_mounted_14
set_option maxHeartbeats 4000000 in
set_option maxRecDepth 100000 in
theorem tX9_mounted (l : Launch) (hst : l.stackTraces = false) (G : GG) (a0 aL0 aL1 aL2 aL3 aL4 aL5 aL6 aL7 aL8 aL9 aL10 aL11 aL12 aH0 aT0 aW0 aE0 : Nat) (md : Nat → Int32) (mch : Int32) (fra : Int32) (fwe : Int32) (fof : Int32) (fsi : Int32) (csh : Int32) (cde : Int32) (csp : Int32) (rd : Nat → Int32) (rw : Nat → Int32) (rp : Nat → Int32) (rco : Int32) (rmo : Int32) (apa : Int32) (awo : Int32) (ash : Int32) (aja : Int32) (abu : Int32) (ltol : Int32) (lchi : Int32) (ljam : Int32)  (k9 : Nat) (hf : fX9_mounted rmo = some (.inl k9)) : Th l G yX9_mounted cX9_mounted 1 (some .int) 8 121 [.ref a0] [(a0, .inr (9, [.ref aL0, .ref aH0, .ref aT0, .ref aW0, .ref aE0])), (aL0, .inr (4, [.ref aL1, .ref aL3, .ref aL4, .ref aL5, .ref aL12, .int ltol, .int lchi, .int ljam])), (aL1, .inr (6, [.ref aL2, .int mch])), (aL2, .inl (G.2.1, 48, .inl md)), (aL3, .inr (2, [.int fra, .int fwe, .int fof, .int fsi])), (aL4, .inr (1, [.int csh, .int cde, .int csp])), (aL5, .inr (7, [.ref aL6, .ref aL8, .ref aL10, .int rco, .int rmo])), (aL6, .inr (8, [.ref aL7])), (aL7, .inl (G.2.1, 80, .inl rd)), (aL8, .inr (8, [.ref aL9])), (aL9, .inl (G.2.1, 5, .inl rw)), (aL10, .inr (8, [.ref aL11])), (aL11, .inl (G.2.1, 5, .inl rp)), (aL12, .inr (0, [.int apa, .int awo, .int ash, .int aja, .int abu]))] (exn k9) := by
  refine th_of (by decide) (Nat.le_of_ble_eq_true rfl) ?_
  intro p e s m args below meth c ls hx hb het hml hown hlk hA hZ hP hl
  replace hown : s.vm.findClass RX9 = some m.cls := hown
  replace hl : lv_has ls 1 [(0, .ref a0)] := hl
  unfold fX9_mounted at hf
  refine lv_aload_n hx hb dX9_mounted_0 rfl (lv_at hl 0 rfl) ?_
  obtain ⟨e9 | u9, q_1, hf⟩ := obd hf
  · dsimp only at hf
    cases hf
    exact th_v (n := 0) (As := []) (q0 := 0) hx hb het hlk hml hown hA (tX9_checkMounted l hst G a0 aL0 aL1 aL2 aL3 aL4 aL5 aL6 aL7 aL8 aL9 aL10 aL11 aL12 aH0 aT0 aW0 aE0 md mch fra fwe fof fsi csh cde csp rd rw rp rco rmo apa awo ash aja abu ltol lchi ljam _ q_1) g_X9_165 gd_X9_checkMounted ⟨(Nat.le_of_ble_eq_true rfl), (Nat.le_of_ble_eq_true rfl)⟩ hZ (hP.sub [0, 1, 2, 3, 4, 5, 6, 7, 8, 9, 10, 11, 12, 13] rfl) rfl rfl rfl hl.1 (Nat.le_of_ble_eq_true rfl) ⟨(Nat.le_of_ble_eq_true rfl), (Nat.le_of_ble_eq_true rfl)⟩ dX9_mounted_1
  dsimp only at hf
  exact (oml hf).elim
def fX9_priceOf (rd : Nat → Int32) (rw : Nat → Int32) (rco : Int32) (i1 : Int32) : Option (Nat ⊕ (Int32)) :=
  ((fX9_checkPiece rco i1).bind fun z => match z with | .inl e => some (.inl e) | .inr _ => (Option.map Sum.inr (((fX7_price rd rw i1).bind fun r_2 => some r_2))))
set_option maxHeartbeats 4000000 in
set_option maxRecDepth 100000 in
theorem kX9_priceOf (l : Launch) (G : GG) (a0 aL0 aL1 aL2 aL3 aL4 aL5 aL6 aL7 aL8 aL9 aL10 aL11 aL12 aH0 aT0 aW0 aE0 : Nat) (md : Nat → Int32) (mch : Int32) (fra : Int32) (fwe : Int32) (fof : Int32) (fsi : Int32) (csh : Int32) (cde : Int32) (csp : Int32) (rd : Nat → Int32) (rw : Nat → Int32) (rp : Nat → Int32) (rco : Int32) (rmo : Int32) (apa : Int32) (awo : Int32) (ash : Int32) (aja : Int32) (abu : Int32) (ltol : Int32) (lchi : Int32) (ljam : Int32) (i1 : Int32) (r_0 : Int32) (hf : fX9_priceOf rd rw rco i1 = some (.inr r_0)) : Ro l G yX9_priceOf cX9_priceOf 2 (some .int) 8 123 [.ref a0, .int i1] [(a0, .inr (9, [.ref aL0, .ref aH0, .ref aT0, .ref aW0, .ref aE0])), (aL0, .inr (4, [.ref aL1, .ref aL3, .ref aL4, .ref aL5, .ref aL12, .int ltol, .int lchi, .int ljam])), (aL1, .inr (6, [.ref aL2, .int mch])), (aL2, .inl (G.2.1, 48, .inl md)), (aL3, .inr (2, [.int fra, .int fwe, .int fof, .int fsi])), (aL4, .inr (1, [.int csh, .int cde, .int csp])), (aL5, .inr (7, [.ref aL6, .ref aL8, .ref aL10, .int rco, .int rmo])), (aL6, .inr (8, [.ref aL7])), (aL7, .inl (G.2.1, 80, .inl rd)), (aL8, .inr (8, [.ref aL9])), (aL9, .inl (G.2.1, 5, .inl rw)), (aL10, .inr (8, [.ref aL11])), (aL11, .inl (G.2.1, 5, .inl rp)), (aL12, .inr (0, [.int apa, .int awo, .int ash, .int aja, .int abu]))] (some (.int r_0)) := by
  refine ro_of (by decide) (Nat.le_of_ble_eq_true rfl) ?_
  intro p e s m args below meth c ls hx hb hr hml hown hlk hA hZ hP hl
  replace hown : s.vm.findClass RX9 = some m.cls := hown
  replace hl : lv_has ls 2 [(0, .ref a0), (1, .int i1)] := hl
  unfold fX9_priceOf at hf
  refine lv_aload_n hx hb dX9_priceOf_0 rfl (lv_at hl 0 rfl) ?_
  refine lv_iload_n hx hb dX9_priceOf_1 rfl (lv_at hl 1 rfl) ?_
  obtain ⟨e9 | u9, q_1, hf⟩ := obd hf
  · dsimp only at hf
    cases hf
  dsimp only at hf
  replace hf := omr hf
  refine ro_v (n := 1) (As := [.int i1]) (q0 := 0) hx hb hml hown hA (kX9_checkPiece l G a0 aL0 aL1 aL2 aL3 aL4 aL5 aL6 aL7 aL8 aL9 aL10 aL11 aL12 aH0 aT0 aW0 aE0 md mch fra fwe fof fsi csh cde csp rd rw rp rco rmo apa awo ash aja abu ltol lchi ljam i1 q_1) g_X9_149 gd_X9_checkPiece ⟨(Nat.le_of_ble_eq_true rfl), (Nat.le_of_ble_eq_true rfl)⟩ hZ (hP.sub [0, 1, 2, 3, 4, 5, 6, 7, 8, 9, 10, 11, 12, 13] rfl) rfl rfl rfl hl.1 (Nat.le_of_ble_eq_true rfl) ⟨(Nat.le_of_ble_eq_true rfl), (Nat.le_of_ble_eq_true rfl)⟩ dX9_priceOf_2 ?_
  refine W.eq (g2 := F0 m 5 ls []) rfl ?_
  refine lv_aload_n hx hb dX9_priceOf_5 rfl (lv_at hl 0 rfl) ?_
  refine gf_X9_10 hx hb hown hA hP 0 rfl rfl dX9_priceOf_6 ?_
  refine gf_X9_133 hx hb hown hA hP 1 rfl rfl dX9_priceOf_9 ?_
  refine lv_iload_n hx hb dX9_priceOf_12 rfl (lv_at hl 1 rfl) ?_
  obtain ⟨r_2, q_3, hf⟩ := obd hf
  refine ro_v (n := 1) (As := [.int i1]) (q0 := 0) hx hb hml hown hA (kX7_price l G aL5 aL6 aL7 aL8 aL9 aL10 aL11 rd rw rp rco rmo i1 r_2 q_3) g_X9_241 gd_X7_price ⟨(Nat.le_of_ble_eq_true rfl), (Nat.le_of_ble_eq_true rfl)⟩ hZ (hP.sub [6, 7, 8, 9, 10, 11, 12] rfl) rfl rfl rfl hl.1 (Nat.le_of_ble_eq_true rfl) ⟨(Nat.le_of_ble_eq_true rfl), (Nat.le_of_ble_eq_true rfl)⟩ dX9_priceOf_13 ?_
  refine W.eq (g2 := F0 m 16 ls [.int r_2]) rfl ?_
  cases hf
  exact ro_iret hx hb hr hlk dX9_priceOf_16
set_option maxHeartbeats 4000000 in
set_option maxRecDepth 100000 in
theorem tX9_priceOf (l : Launch) (hst : l.stackTraces = false) (G : GG) (a0 aL0 aL1 aL2 aL3 aL4 aL5 aL6 aL7 aL8 aL9 aL10 aL11 aL12 aH0 aT0 aW0 aE0 : Nat) (md : Nat → Int32) (mch : Int32) (fra : Int32) (fwe : Int32) (fof : Int32) (fsi : Int32) (csh : Int32) (cde : Int32) (csp : Int32) (rd : Nat → Int32) (rw : Nat → Int32) (rp : Nat → Int32) (rco : Int32) (rmo : Int32) (apa : Int32) (awo : Int32) (ash : Int32) (aja : Int32) (abu : Int32) (ltol : Int32) (lchi : Int32) (ljam : Int32) (i1 : Int32) (k9 : Nat) (hf : fX9_priceOf rd rw rco i1 = some (.inl k9)) : Th l G yX9_priceOf cX9_priceOf 2 (some .int) 8 123 [.ref a0, .int i1] [(a0, .inr (9, [.ref aL0, .ref aH0, .ref aT0, .ref aW0, .ref aE0])), (aL0, .inr (4, [.ref aL1, .ref aL3, .ref aL4, .ref aL5, .ref aL12, .int ltol, .int lchi, .int ljam])), (aL1, .inr (6, [.ref aL2, .int mch])), (aL2, .inl (G.2.1, 48, .inl md)), (aL3, .inr (2, [.int fra, .int fwe, .int fof, .int fsi])), (aL4, .inr (1, [.int csh, .int cde, .int csp])), (aL5, .inr (7, [.ref aL6, .ref aL8, .ref aL10, .int rco, .int rmo])), (aL6, .inr (8, [.ref aL7])), (aL7, .inl (G.2.1, 80, .inl rd)), (aL8, .inr (8, [.ref aL9])), (aL9, .inl (G.2.1, 5, .inl rw)), (aL10, .inr (8, [.ref aL11])), (aL11, .inl (G.2.1, 5, .inl rp)), (aL12, .inr (0, [.int apa, .int awo, .int ash, .int aja, .int abu]))] (exn k9) := by
  refine th_of (by decide) (Nat.le_of_ble_eq_true rfl) ?_
  intro p e s m args below meth c ls hx hb het hml hown hlk hA hZ hP hl
  replace hown : s.vm.findClass RX9 = some m.cls := hown
  replace hl : lv_has ls 2 [(0, .ref a0), (1, .int i1)] := hl
  unfold fX9_priceOf at hf
  refine lv_aload_n hx hb dX9_priceOf_0 rfl (lv_at hl 0 rfl) ?_
  refine lv_iload_n hx hb dX9_priceOf_1 rfl (lv_at hl 1 rfl) ?_
  obtain ⟨e9 | u9, q_1, hf⟩ := obd hf
  · dsimp only at hf
    cases hf
    exact th_v (n := 1) (As := [.int i1]) (q0 := 0) hx hb het hlk hml hown hA (tX9_checkPiece l hst G a0 aL0 aL1 aL2 aL3 aL4 aL5 aL6 aL7 aL8 aL9 aL10 aL11 aL12 aH0 aT0 aW0 aE0 md mch fra fwe fof fsi csh cde csp rd rw rp rco rmo apa awo ash aja abu ltol lchi ljam i1 _ q_1) g_X9_149 gd_X9_checkPiece ⟨(Nat.le_of_ble_eq_true rfl), (Nat.le_of_ble_eq_true rfl)⟩ hZ (hP.sub [0, 1, 2, 3, 4, 5, 6, 7, 8, 9, 10, 11, 12, 13] rfl) rfl rfl rfl hl.1 (Nat.le_of_ble_eq_true rfl) ⟨(Nat.le_of_ble_eq_true rfl), (Nat.le_of_ble_eq_true rfl)⟩ dX9_priceOf_2
  dsimp only at hf
  exact (oml hf).elim
def fX9_passes (apa : Int32)  : Option (Int32) :=
  some apa
set_option maxHeartbeats 4000000 in
set_option maxRecDepth 100000 in
theorem kX9_passes (l : Launch) (G : GG) (a0 aL0 aL1 aL2 aL3 aL4 aL5 aL6 aL7 aL8 aL9 aL10 aL11 aL12 aH0 aT0 aW0 aE0 : Nat) (md : Nat → Int32) (mch : Int32) (fra : Int32) (fwe : Int32) (fof : Int32) (fsi : Int32) (csh : Int32) (cde : Int32) (csp : Int32) (rd : Nat → Int32) (rw : Nat → Int32) (rp : Nat → Int32) (rco : Int32) (rmo : Int32) (apa : Int32) (awo : Int32) (ash : Int32) (aja : Int32) (abu : Int32) (ltol : Int32) (lchi : Int32) (ljam : Int32)  (r_0 : Int32) (hf : fX9_passes apa = some r_0) : Ro l G yX9_passes cX9_passes 1 (some .int) 0 0 [.ref a0] [(a0, .inr (9, [.ref aL0, .ref aH0, .ref aT0, .ref aW0, .ref aE0])), (aL0, .inr (4, [.ref aL1, .ref aL3, .ref aL4, .ref aL5, .ref aL12, .int ltol, .int lchi, .int ljam])), (aL1, .inr (6, [.ref aL2, .int mch])), (aL2, .inl (G.2.1, 48, .inl md)), (aL3, .inr (2, [.int fra, .int fwe, .int fof, .int fsi])), (aL4, .inr (1, [.int csh, .int cde, .int csp])), (aL5, .inr (7, [.ref aL6, .ref aL8, .ref aL10, .int rco, .int rmo])), (aL6, .inr (8, [.ref aL7])), (aL7, .inl (G.2.1, 80, .inl rd)), (aL8, .inr (8, [.ref aL9])), (aL9, .inl (G.2.1, 5, .inl rw)), (aL10, .inr (8, [.ref aL11])), (aL11, .inl (G.2.1, 5, .inl rp)), (aL12, .inr (0, [.int apa, .int awo, .int ash, .int aja, .int abu]))] (some (.int r_0)) := by
  refine ro_of (by decide) (Nat.le_of_ble_eq_true rfl) ?_
  intro p e s m args below meth c ls hx hb hr hml hown hlk hA hZ hP hl
  replace hown : s.vm.findClass RX9 = some m.cls := hown
  replace hl : lv_has ls 1 [(0, .ref a0)] := hl
  unfold fX9_passes at hf
  refine lv_aload_n hx hb dX9_passes_0 rfl (lv_at hl 0 rfl) ?_
  refine gf_X9_10 hx hb hown hA hP 0 rfl rfl dX9_passes_1 ?_
  refine gf_X9_104 hx hb hown hA hP 1 rfl rfl dX9_passes_4 ?_
  refine gf_X9_244 hx hb hown hA hP 13 rfl rfl dX9_passes_7 ?_
  cases hf
  exact ro_iret hx hb hr hlk dX9_passes_10
def fX9_woodTaken (awo : Int32)  : Option (Int32) :=
  some awo
set_option maxHeartbeats 4000000 in
set_option maxRecDepth 100000 in
theorem kX9_woodTaken (l : Launch) (G : GG) (a0 aL0 aL1 aL2 aL3 aL4 aL5 aL6 aL7 aL8 aL9 aL10 aL11 aL12 aH0 aT0 aW0 aE0 : Nat) (md : Nat → Int32) (mch : Int32) (fra : Int32) (fwe : Int32) (fof : Int32) (fsi : Int32) (csh : Int32) (cde : Int32) (csp : Int32) (rd : Nat → Int32) (rw : Nat → Int32) (rp : Nat → Int32) (rco : Int32) (rmo : Int32) (apa : Int32) (awo : Int32) (ash : Int32) (aja : Int32) (abu : Int32) (ltol : Int32) (lchi : Int32) (ljam : Int32)  (r_0 : Int32) (hf : fX9_woodTaken awo = some r_0) : Ro l G yX9_woodTaken cX9_woodTaken 1 (some .int) 0 0 [.ref a0] [(a0, .inr (9, [.ref aL0, .ref aH0, .ref aT0, .ref aW0, .ref aE0])), (aL0, .inr (4, [.ref aL1, .ref aL3, .ref aL4, .ref aL5, .ref aL12, .int ltol, .int lchi, .int ljam])), (aL1, .inr (6, [.ref aL2, .int mch])), (aL2, .inl (G.2.1, 48, .inl md)), (aL3, .inr (2, [.int fra, .int fwe, .int fof, .int fsi])), (aL4, .inr (1, [.int csh, .int cde, .int csp])), (aL5, .inr (7, [.ref aL6, .ref aL8, .ref aL10, .int rco, .int rmo])), (aL6, .inr (8, [.ref aL7])), (aL7, .inl (G.2.1, 80, .inl rd)), (aL8, .inr (8, [.ref aL9])), (aL9, .inl (G.2.1, 5, .inl rw)), (aL10, .inr (8, [.ref aL11])), (aL11, .inl (G.2.1, 5, .inl rp)), (aL12, .inr (0, [.int apa, .int awo, .int ash, .int aja, .int abu]))] (some (.int r_0)) := by
  refine ro_of (by decide) (Nat.le_of_ble_eq_true rfl) ?_
  intro p e s m args below meth c ls hx hb hr hml hown hlk hA hZ hP hl
  replace hown : s.vm.findClass RX9 = some m.cls := hown
  replace hl : lv_has ls 1 [(0, .ref a0)] := hl
  unfold fX9_woodTaken at hf
  refine lv_aload_n hx hb dX9_woodTaken_0 rfl (lv_at hl 0 rfl) ?_
  refine gf_X9_10 hx hb hown hA hP 0 rfl rfl dX9_woodTaken_1 ?_
  refine gf_X9_104 hx hb hown hA hP 1 rfl rfl dX9_woodTaken_4 ?_
  refine gf_X9_247 hx hb hown hA hP 13 rfl rfl dX9_woodTaken_7 ?_
  cases hf
  exact ro_iret hx hb hr hlk dX9_woodTaken_10
def fX9_sharpenings (ash : Int32)  : Option (Int32) :=
  some ash
set_option maxHeartbeats 4000000 in
set_option maxRecDepth 100000 in
theorem kX9_sharpenings (l : Launch) (G : GG) (a0 aL0 aL1 aL2 aL3 aL4 aL5 aL6 aL7 aL8 aL9 aL10 aL11 aL12 aH0 aT0 aW0 aE0 : Nat) (md : Nat → Int32) (mch : Int32) (fra : Int32) (fwe : Int32) (fof : Int32) (fsi : Int32) (csh : Int32) (cde : Int32) (csp : Int32) (rd : Nat → Int32) (rw : Nat → Int32) (rp : Nat → Int32) (rco : Int32) (rmo : Int32) (apa : Int32) (awo : Int32) (ash : Int32) (aja : Int32) (abu : Int32) (ltol : Int32) (lchi : Int32) (ljam : Int32)  (r_0 : Int32) (hf : fX9_sharpenings ash = some r_0) : Ro l G yX9_sharpenings cX9_sharpenings 1 (some .int) 0 0 [.ref a0] [(a0, .inr (9, [.ref aL0, .ref aH0, .ref aT0, .ref aW0, .ref aE0])), (aL0, .inr (4, [.ref aL1, .ref aL3, .ref aL4, .ref aL5, .ref aL12, .int ltol, .int lchi, .int ljam])), (aL1, .inr (6, [.ref aL2, .int mch])), (aL2, .inl (G.2.1, 48, .inl md)), (aL3, .inr (2, [.int fra, .int fwe, .int fof, .int fsi])), (aL4, .inr (1, [.int csh, .int cde, .int csp])), (aL5, .inr (7, [.ref aL6, .ref aL8, .ref aL10, .int rco, .int rmo])), (aL6, .inr (8, [.ref aL7])), (aL7, .inl (G.2.1, 80, .inl rd)), (aL8, .inr (8, [.ref aL9])), (aL9, .inl (G.2.1, 5, .inl rw)), (aL10, .inr (8, [.ref aL11])), (aL11, .inl (G.2.1, 5, .inl rp)), (aL12, .inr (0, [.int apa, .int awo, .int ash, .int aja, .int abu]))] (some (.int r_0)) := by
  refine ro_of (by decide) (Nat.le_of_ble_eq_true rfl) ?_
  intro p e s m args below meth c ls hx hb hr hml hown hlk hA hZ hP hl
  replace hown : s.vm.findClass RX9 = some m.cls := hown
  replace hl : lv_has ls 1 [(0, .ref a0)] := hl
  unfold fX9_sharpenings at hf
  refine lv_aload_n hx hb dX9_sharpenings_0 rfl (lv_at hl 0 rfl) ?_
  refine gf_X9_10 hx hb hown hA hP 0 rfl rfl dX9_sharpenings_1 ?_
  refine gf_X9_104 hx hb hown hA hP 1 rfl rfl dX9_sharpenings_4 ?_
  refine gf_X9_108 hx hb hown hA hP 13 rfl rfl dX9_sharpenings_7 ?_
  cases hf
  exact ro_iret hx hb hr hlk dX9_sharpenings_10
def fX9_jams (aja : Int32)  : Option (Int32) :=
  some aja
set_option maxHeartbeats 4000000 in
set_option maxRecDepth 100000 in
theorem kX9_jams (l : Launch) (G : GG) (a0 aL0 aL1 aL2 aL3 aL4 aL5 aL6 aL7 aL8 aL9 aL10 aL11 aL12 aH0 aT0 aW0 aE0 : Nat) (md : Nat → Int32) (mch : Int32) (fra : Int32) (fwe : Int32) (fof : Int32) (fsi : Int32) (csh : Int32) (cde : Int32) (csp : Int32) (rd : Nat → Int32) (rw : Nat → Int32) (rp : Nat → Int32) (rco : Int32) (rmo : Int32) (apa : Int32) (awo : Int32) (ash : Int32) (aja : Int32) (abu : Int32) (ltol : Int32) (lchi : Int32) (ljam : Int32)  (r_0 : Int32) (hf : fX9_jams aja = some r_0) : Ro l G yX9_jams cX9_jams 1 (some .int) 0 0 [.ref a0] [(a0, .inr (9, [.ref aL0, .ref aH0, .ref aT0, .ref aW0, .ref aE0])), (aL0, .inr (4, [.ref aL1, .ref aL3, .ref aL4, .ref aL5, .ref aL12, .int ltol, .int lchi, .int ljam])), (aL1, .inr (6, [.ref aL2, .int mch])), (aL2, .inl (G.2.1, 48, .inl md)), (aL3, .inr (2, [.int fra, .int fwe, .int fof, .int fsi])), (aL4, .inr (1, [.int csh, .int cde, .int csp])), (aL5, .inr (7, [.ref aL6, .ref aL8, .ref aL10, .int rco, .int rmo])), (aL6, .inr (8, [.ref aL7])), (aL7, .inl (G.2.1, 80, .inl rd)), (aL8, .inr (8, [.ref aL9])), (aL9, .inl (G.2.1, 5, .inl rw)), (aL10, .inr (8, [.ref aL11])), (aL11, .inl (G.2.1, 5, .inl rp)), (aL12, .inr (0, [.int apa, .int awo, .int ash, .int aja, .int abu]))] (some (.int r_0)) := by
  refine ro_of (by decide) (Nat.le_of_ble_eq_true rfl) ?_
  intro p e s m args below meth c ls hx hb hr hml hown hlk hA hZ hP hl
  replace hown : s.vm.findClass RX9 = some m.cls := hown
  replace hl : lv_has ls 1 [(0, .ref a0)] := hl
  unfold fX9_jams at hf
  refine lv_aload_n hx hb dX9_jams_0 rfl (lv_at hl 0 rfl) ?_
  refine gf_X9_10 hx hb hown hA hP 0 rfl rfl dX9_jams_1 ?_
  refine gf_X9_104 hx hb hown hA hP 1 rfl rfl dX9_jams_4 ?_
  refine gf_X9_250 hx hb hown hA hP 13 rfl rfl dX9_jams_7 ?_
  cases hf
  exact ro_iret hx hb hr hlk dX9_jams_10
def fX9_burnt (abu : Int32)  : Option (Int32) :=
  some abu
set_option maxHeartbeats 4000000 in
set_option maxRecDepth 100000 in
theorem kX9_burnt (l : Launch) (G : GG) (a0 aL0 aL1 aL2 aL3 aL4 aL5 aL6 aL7 aL8 aL9 aL10 aL11 aL12 aH0 aT0 aW0 aE0 : Nat) (md : Nat → Int32) (mch : Int32) (fra : Int32) (fwe : Int32) (fof : Int32) (fsi : Int32) (csh : Int32) (cde : Int32) (csp : Int32) (rd : Nat → Int32) (rw : Nat → Int32) (rp : Nat → Int32) (rco : Int32) (rmo : Int32) (apa : Int32) (awo : Int32) (ash : Int32) (aja : Int32) (abu : Int32) (ltol : Int32) (lchi : Int32) (ljam : Int32)  (r_0 : Int32) (hf : fX9_burnt abu = some r_0) : Ro l G yX9_burnt cX9_burnt 1 (some .int) 0 0 [.ref a0] [(a0, .inr (9, [.ref aL0, .ref aH0, .ref aT0, .ref aW0, .ref aE0])), (aL0, .inr (4, [.ref aL1, .ref aL3, .ref aL4, .ref aL5, .ref aL12, .int ltol, .int lchi, .int ljam])), (aL1, .inr (6, [.ref aL2, .int mch])), (aL2, .inl (G.2.1, 48, .inl md)), (aL3, .inr (2, [.int fra, .int fwe, .int fof, .int fsi])), (aL4, .inr (1, [.int csh, .int cde, .int csp])), (aL5, .inr (7, [.ref aL6, .ref aL8, .ref aL10, .int rco, .int rmo])), (aL6, .inr (8, [.ref aL7])), (aL7, .inl (G.2.1, 80, .inl rd)), (aL8, .inr (8, [.ref aL9])), (aL9, .inl (G.2.1, 5, .inl rw)), (aL10, .inr (8, [.ref aL11])), (aL11, .inl (G.2.1, 5, .inl rp)), (aL12, .inr (0, [.int apa, .int awo, .int ash, .int aja, .int abu]))] (some (.int r_0)) := by
  refine ro_of (by decide) (Nat.le_of_ble_eq_true rfl) ?_
  intro p e s m args below meth c ls hx hb hr hml hown hlk hA hZ hP hl
  replace hown : s.vm.findClass RX9 = some m.cls := hown
  replace hl : lv_has ls 1 [(0, .ref a0)] := hl
  unfold fX9_burnt at hf
  refine lv_aload_n hx hb dX9_burnt_0 rfl (lv_at hl 0 rfl) ?_
  refine gf_X9_10 hx hb hown hA hP 0 rfl rfl dX9_burnt_1 ?_
  refine gf_X9_104 hx hb hown hA hP 1 rfl rfl dX9_burnt_4 ?_
  refine gf_X9_158 hx hb hown hA hP 13 rfl rfl dX9_burnt_7 ?_
  cases hf
  exact ro_iret hx hb hr hlk dX9_burnt_10
def fX9_readingByLooking (md : Nat → Int32) (mch : Int32) (fra : Int32) (i1 : Int32) : Option (Nat ⊕ (Int32)) :=
  ((fX9_checkStep i1).bind fun z => match z with | .inl e => some (.inl e) | .inr _ => (Option.map Sum.inr (((fX4_reading md mch fra i1).bind fun r_2 => some r_2))))
set_option maxHeartbeats 4000000 in
set_option maxRecDepth 100000 in
theorem kX9_readingByLooking (l : Launch) (G : GG) (a0 aL0 aL1 aL2 aL3 aL4 aL5 aL6 aL7 aL8 aL9 aL10 aL11 aL12 aH0 aT0 aW0 aE0 : Nat) (md : Nat → Int32) (mch : Int32) (fra : Int32) (fwe : Int32) (fof : Int32) (fsi : Int32) (csh : Int32) (cde : Int32) (csp : Int32) (rd : Nat → Int32) (rw : Nat → Int32) (rp : Nat → Int32) (rco : Int32) (rmo : Int32) (apa : Int32) (awo : Int32) (ash : Int32) (aja : Int32) (abu : Int32) (ltol : Int32) (lchi : Int32) (ljam : Int32) (i1 : Int32) (r_0 : Int32) (hf : fX9_readingByLooking md mch fra i1 = some (.inr r_0)) : Ro l G yX9_readingByLooking cX9_readingByLooking 2 (some .int) 8 122 [.ref a0, .int i1] [(a0, .inr (9, [.ref aL0, .ref aH0, .ref aT0, .ref aW0, .ref aE0])), (aL0, .inr (4, [.ref aL1, .ref aL3, .ref aL4, .ref aL5, .ref aL12, .int ltol, .int lchi, .int ljam])), (aL1, .inr (6, [.ref aL2, .int mch])), (aL2, .inl (G.2.1, 48, .inl md)), (aL3, .inr (2, [.int fra, .int fwe, .int fof, .int fsi])), (aL4, .inr (1, [.int csh, .int cde, .int csp])), (aL5, .inr (7, [.ref aL6, .ref aL8, .ref aL10, .int rco, .int rmo])), (aL6, .inr (8, [.ref aL7])), (aL7, .inl (G.2.1, 80, .inl rd)), (aL8, .inr (8, [.ref aL9])), (aL9, .inl (G.2.1, 5, .inl rw)), (aL10, .inr (8, [.ref aL11])), (aL11, .inl (G.2.1, 5, .inl rp)), (aL12, .inr (0, [.int apa, .int awo, .int ash, .int aja, .int abu]))] (some (.int r_0)) := by
  refine ro_of (by decide) (Nat.le_of_ble_eq_true rfl) ?_
  intro p e s m args below meth c ls hx hb hr hml hown hlk hA hZ hP hl
  replace hown : s.vm.findClass RX9 = some m.cls := hown
  replace hl : lv_has ls 2 [(0, .ref a0), (1, .int i1)] := hl
  unfold fX9_readingByLooking at hf
  refine lv_iload_n hx hb dX9_readingByLooking_0 rfl (lv_at hl 1 rfl) ?_
  obtain ⟨e9 | u9, q_1, hf⟩ := obd hf
  · dsimp only at hf
    cases hf
  dsimp only at hf
  replace hf := omr hf
  refine ro_s (n := 1) (As := [.int i1]) hx hb hml hown hA (kX9_checkStep l G i1 q_1) g_X9_45 gd_X9_checkStep ⟨(Nat.le_of_ble_eq_true rfl), (Nat.le_of_ble_eq_true rfl)⟩ hZ (fun _ _ h => by simp at h) rfl hl.1 (Nat.le_of_ble_eq_true rfl) ⟨(Nat.le_of_ble_eq_true rfl), (Nat.le_of_ble_eq_true rfl)⟩ dX9_readingByLooking_1 ?_
  refine W.eq (g2 := F0 m 4 ls []) rfl ?_
  refine lv_aload_n hx hb dX9_readingByLooking_4 rfl (lv_at hl 0 rfl) ?_
  refine gf_X9_10 hx hb hown hA hP 0 rfl rfl dX9_readingByLooking_5 ?_
  refine lv_iload_n hx hb dX9_readingByLooking_8 rfl (lv_at hl 1 rfl) ?_
  obtain ⟨r_2, q_3, hf⟩ := obd hf
  refine ro_v (n := 1) (As := [.int i1]) (q0 := 0) hx hb hml hown hA (kX4_reading l G aL0 aL1 aL2 aL3 aL4 aL5 aL6 aL7 aL8 aL9 aL10 aL11 aL12 md mch fra fwe fof fsi csh cde csp rd rw rp rco rmo apa awo ash aja abu ltol lchi ljam i1 r_2 q_3) g_X9_253 gd_X4_reading ⟨(Nat.le_of_ble_eq_true rfl), (Nat.le_of_ble_eq_true rfl)⟩ hZ (hP.sub [1, 2, 3, 4, 5, 6, 7, 8, 9, 10, 11, 12, 13] rfl) rfl rfl rfl hl.1 (Nat.le_of_ble_eq_true rfl) ⟨(Nat.le_of_ble_eq_true rfl), (Nat.le_of_ble_eq_true rfl)⟩ dX9_readingByLooking_9 ?_
  refine W.eq (g2 := F0 m 12 ls [.int r_2]) rfl ?_
  cases hf
  exact ro_iret hx hb hr hlk dX9_readingByLooking_12
set_option maxHeartbeats 4000000 in
set_option maxRecDepth 100000 in
theorem tX9_readingByLooking (l : Launch) (hst : l.stackTraces = false) (G : GG) (a0 aL0 aL1 aL2 aL3 aL4 aL5 aL6 aL7 aL8 aL9 aL10 aL11 aL12 aH0 aT0 aW0 aE0 : Nat) (md : Nat → Int32) (mch : Int32) (fra : Int32) (fwe : Int32) (fof : Int32) (fsi : Int32) (csh : Int32) (cde : Int32) (csp : Int32) (rd : Nat → Int32) (rw : Nat → Int32) (rp : Nat → Int32) (rco : Int32) (rmo : Int32) (apa : Int32) (awo : Int32) (ash : Int32) (aja : Int32) (abu : Int32) (ltol : Int32) (lchi : Int32) (ljam : Int32) (i1 : Int32) (k9 : Nat) (hf : fX9_readingByLooking md mch fra i1 = some (.inl k9)) : Th l G yX9_readingByLooking cX9_readingByLooking 2 (some .int) 8 122 [.ref a0, .int i1] [(a0, .inr (9, [.ref aL0, .ref aH0, .ref aT0, .ref aW0, .ref aE0])), (aL0, .inr (4, [.ref aL1, .ref aL3, .ref aL4, .ref aL5, .ref aL12, .int ltol, .int lchi, .int ljam])), (aL1, .inr (6, [.ref aL2, .int mch])), (aL2, .inl (G.2.1, 48, .inl md)), (aL3, .inr (2, [.int fra, .int fwe, .int fof, .int fsi])), (aL4, .inr (1, [.int csh, .int cde, .int csp])), (aL5, .inr (7, [.ref aL6, .ref aL8, .ref aL10, .int rco, .int rmo])), (aL6, .inr (8, [.ref aL7])), (aL7, .inl (G.2.1, 80, .inl rd)), (aL8, .inr (8, [.ref aL9])), (aL9, .inl (G.2.1, 5, .inl rw)), (aL10, .inr (8, [.ref aL11])), (aL11, .inl (G.2.1, 5, .inl rp)), (aL12, .inr (0, [.int apa, .int awo, .int ash, .int aja, .int abu]))] (exn k9) := by
  refine th_of (by decide) (Nat.le_of_ble_eq_true rfl) ?_
  intro p e s m args below meth c ls hx hb het hml hown hlk hA hZ hP hl
  replace hown : s.vm.findClass RX9 = some m.cls := hown
  replace hl : lv_has ls 2 [(0, .ref a0), (1, .int i1)] := hl
  unfold fX9_readingByLooking at hf
  refine lv_iload_n hx hb dX9_readingByLooking_0 rfl (lv_at hl 1 rfl) ?_
  obtain ⟨e9 | u9, q_1, hf⟩ := obd hf
  · dsimp only at hf
    cases hf
    exact th_s (n := 1) (As := [.int i1]) hx hb het hlk hml hown hA (tX9_checkStep l hst G i1 _ q_1) g_X9_45 gd_X9_checkStep ⟨(Nat.le_of_ble_eq_true rfl), (Nat.le_of_ble_eq_true rfl)⟩ hZ (fun _ _ h => by simp at h) rfl hl.1 (Nat.le_of_ble_eq_true rfl) ⟨(Nat.le_of_ble_eq_true rfl), (Nat.le_of_ble_eq_true rfl)⟩ dX9_readingByLooking_1
  dsimp only at hf
  exact (oml hf).elim
def fX9_isNotThicker (md : Nat → Int32) (mch : Int32) (i1 : Int32) (i2 : Int32) : Option (Int32) :=
  ((fX6_chosenAt md mch i1).bind fun r_1 => ((fX6_chosenAt md mch i2).bind fun r_3 => (if r_3 < r_1 then some 0 else some 1)))
set_option maxHeartbeats 4000000 in
set_option maxRecDepth 100000 in
theorem kX9_isNotThicker (l : Launch) (G : GG) (a0 aL0 aL1 aL2 aL3 aL4 aL5 aL6 aL7 aL8 aL9 aL10 aL11 aL12 aH0 aT0 aW0 aE0 : Nat) (md : Nat → Int32) (mch : Int32) (fra : Int32) (fwe : Int32) (fof : Int32) (fsi : Int32) (csh : Int32) (cde : Int32) (csp : Int32) (rd : Nat → Int32) (rw : Nat → Int32) (rp : Nat → Int32) (rco : Int32) (rmo : Int32) (apa : Int32) (awo : Int32) (ash : Int32) (aja : Int32) (abu : Int32) (ltol : Int32) (lchi : Int32) (ljam : Int32) (i1 : Int32) (i2 : Int32) (r_0 : Int32) (hf : fX9_isNotThicker md mch i1 i2 = some r_0) : Ro l G yX9_isNotThicker cX9_isNotThicker 3 (some .boolean) 2 44 [.ref a0, .int i1, .int i2] [(a0, .inr (9, [.ref aL0, .ref aH0, .ref aT0, .ref aW0, .ref aE0])), (aL0, .inr (4, [.ref aL1, .ref aL3, .ref aL4, .ref aL5, .ref aL12, .int ltol, .int lchi, .int ljam])), (aL1, .inr (6, [.ref aL2, .int mch])), (aL2, .inl (G.2.1, 48, .inl md)), (aL3, .inr (2, [.int fra, .int fwe, .int fof, .int fsi])), (aL4, .inr (1, [.int csh, .int cde, .int csp])), (aL5, .inr (7, [.ref aL6, .ref aL8, .ref aL10, .int rco, .int rmo])), (aL6, .inr (8, [.ref aL7])), (aL7, .inl (G.2.1, 80, .inl rd)), (aL8, .inr (8, [.ref aL9])), (aL9, .inl (G.2.1, 5, .inl rw)), (aL10, .inr (8, [.ref aL11])), (aL11, .inl (G.2.1, 5, .inl rp)), (aL12, .inr (0, [.int apa, .int awo, .int ash, .int aja, .int abu]))] (some (.int r_0)) := by
  refine ro_of (by decide) (Nat.le_of_ble_eq_true rfl) ?_
  intro p e s m args below meth c ls hx hb hr hml hown hlk hA hZ hP hl
  replace hown : s.vm.findClass RX9 = some m.cls := hown
  replace hl : lv_has ls 3 [(0, .ref a0), (1, .int i1), (2, .int i2)] := hl
  unfold fX9_isNotThicker at hf
  refine lv_aload_n hx hb dX9_isNotThicker_0 rfl (lv_at hl 0 rfl) ?_
  refine gf_X9_10 hx hb hown hA hP 0 rfl rfl dX9_isNotThicker_1 ?_
  refine gf_X9_56 hx hb hown hA hP 1 rfl rfl dX9_isNotThicker_4 ?_
  refine lv_iload_n hx hb dX9_isNotThicker_7 rfl (lv_at hl 1 rfl) ?_
  obtain ⟨r_1, q_2, hf⟩ := obd hf
  refine ro_v (n := 1) (As := [.int i1]) (q0 := 0) hx hb hml hown hA (kX6_chosenAt l G aL1 aL2 md mch i1 r_1 q_2) g_X9_262 gd_X6_chosenAt ⟨(Nat.le_of_ble_eq_true rfl), (Nat.le_of_ble_eq_true rfl)⟩ hZ (hP.sub [2, 3] rfl) rfl rfl rfl hl.1 (Nat.le_of_ble_eq_true rfl) ⟨(Nat.le_of_ble_eq_true rfl), (Nat.le_of_ble_eq_true rfl)⟩ dX9_isNotThicker_8 ?_
  refine W.eq (g2 := F0 m 11 ls [.int r_1]) rfl ?_
  refine lv_aload_n hx hb dX9_isNotThicker_11 rfl (lv_at hl 0 rfl) ?_
  refine gf_X9_10 hx hb hown hA hP 0 rfl rfl dX9_isNotThicker_12 ?_
  refine gf_X9_56 hx hb hown hA hP 1 rfl rfl dX9_isNotThicker_15 ?_
  refine lv_iload_n hx hb dX9_isNotThicker_18 rfl (lv_at hl 2 rfl) ?_
  obtain ⟨r_3, q_4, hf⟩ := obd hf
  refine ro_v (n := 1) (As := [.int i2]) (q0 := 0) hx hb hml hown hA (kX6_chosenAt l G aL1 aL2 md mch i2 r_3 q_4) g_X9_262 gd_X6_chosenAt ⟨(Nat.le_of_ble_eq_true rfl), (Nat.le_of_ble_eq_true rfl)⟩ hZ (hP.sub [2, 3] rfl) rfl rfl rfl hl.1 (Nat.le_of_ble_eq_true rfl) ⟨(Nat.le_of_ble_eq_true rfl), (Nat.le_of_ble_eq_true rfl)⟩ dX9_isNotThicker_19 ?_
  refine W.eq (g2 := F0 m 22 ls [.int r_3, .int r_1]) rfl ?_
  refine lv_icmp_gt (tgt := 29) hx hb dX9_isNotThicker_22 (by decide) (fun c_5 => ?_) (fun c_5 => ?_)
  · replace hf := ifp c_5 hf
    refine lv_iconst (v := 0) hx hb dX9_isNotThicker_29 (by decide) ?_
    cases hf
    exact ro_zret hx hb hr hlk (Or.inl rfl) dX9_isNotThicker_30
  · replace hf := ifn c_5 hf
    refine lv_iconst (v := 1) hx hb dX9_isNotThicker_25 (by decide) ?_
    refine lv_goto (tgt := 30) hx hb dX9_isNotThicker_26 (by decide) ?_
    cases hf
    exact ro_zret hx hb hr hlk (Or.inr rfl) dX9_isNotThicker_30
def fX9_firstWaiting_L85 (wa : Nat → Int32) (v2 : Int32) (v4 : Int32) (v5 : Int32) : Nat → Int32 → Option (Int32)
  | 0, _ => none
  | n9 + 1, v3 => (if v4 ≤ v3 then some v3 else ((fX8_at 16 wa v3).bind fun r_4 => (if (v5 - v2) ≤ r_4 then some v3 else fX9_firstWaiting_L85 wa v2 v4 v5 n9 (v3 + 1))))
def fX9_firstWaiting_L39 (md : Nat → Int32) (mch : Int32) (wa : Nat → Int32) (v3 : Int32) (v6 : Int32) : Nat → Int32 → Option (Int32)
  | 0, _ => none
  | n9 + 1, v4 => (if v4 ≤ v3 then some v4 else ((fX8_at 16 wa (v4 - 1)).bind fun r_10 => ((fX9_isNotThicker md mch r_10 v6).bind fun r_12 => (if r_12 = 0 then some v4 else fX9_firstWaiting_L39 md mch wa v3 v6 n9 (v4 + (-1))))))
def fX9_firstWaiting_L20 (md : Nat → Int32) (mch : Int32) (v1 : Int32) (v2 : Int32) : Nat → Int32 → Int32 → Int32 → (Nat → Int32) → Option (Int32 × (Nat → Int32))
  | 0, _, _, _, _ => none
  | n9 + 1, v3, v4, v5, wa => (if v1 < v5 then some (v3, wa) else (if 16 ≤ (v5 + v2) then ((fX9_firstWaiting_L85 wa v2 v4 v5 2000 v3).bind fun x3_7 => fX9_firstWaiting_L20 md mch v1 v2 n9 x3_7 v4 (v5 + 1) wa) else ((fX9_firstWaiting_L39 md mch wa v3 (v5 + v2) 2000 v4).bind fun x4_15 => ((fX8_put 16 wa x4_15 (v5 + v2)).bind fun rf_17 => ((fX9_firstWaiting_L85 rf_17 v2 (x4_15 + 1) v5 2000 v3).bind fun x3_23 => fX9_firstWaiting_L20 md mch v1 v2 n9 x3_23 (x4_15 + 1) (v5 + 1) rf_17)))))
def fX9_firstWaiting (md : Nat → Int32) (mch : Int32) (fra : Int32) (wa : Nat → Int32) (i1 : Int32) : Option (Int32 × (Nat → Int32)) :=
  ((fX9_firstWaiting_L20 md mch i1 fra 2000 0 0 (-fra) wa).bind fun (x3_25, wa_26) => ((fX8_at 16 wa_26 x3_25).bind fun r_28 => ((fX6_chosenAt md mch r_28).bind fun r_30 => some (r_30, wa_26))))
set_option maxHeartbeats 4000000 in
set_option maxRecDepth 100000 in
theorem kX9_firstWaiting (l : Launch) (G : GG) (a0 aL0 aL1 aL2 aL3 aL4 aL5 aL6 aL7 aL8 aL9 aL10 aL11 aL12 aW0 aW1 aH0 aT0 aE0 : Nat) (md : Nat → Int32) (mch : Int32) (fra : Int32) (fwe : Int32) (fof : Int32) (fsi : Int32) (csh : Int32) (cde : Int32) (csp : Int32) (rd : Nat → Int32) (rw : Nat → Int32) (rp : Nat → Int32) (rco : Int32) (rmo : Int32) (apa : Int32) (awo : Int32) (ash : Int32) (aja : Int32) (abu : Int32) (ltol : Int32) (lchi : Int32) (ljam : Int32) (wa : Nat → Int32) (i1 : Int32) (r_0 : Int32) (wa_0 : Nat → Int32) (hf : fX9_firstWaiting md mch fra wa i1 = some (r_0, wa_0)) : Wr l G yX9_firstWaiting cX9_firstWaiting 7 (some .int) 3 66 0 0 [.ref a0, .int i1] [(a0, .inr (9, [.ref aL0, .ref aH0, .ref aT0, .ref aW0, .ref aE0])), (aL0, .inr (4, [.ref aL1, .ref aL3, .ref aL4, .ref aL5, .ref aL12, .int ltol, .int lchi, .int ljam])), (aL1, .inr (6, [.ref aL2, .int mch])), (aL2, .inl (G.2.1, 48, .inl md)), (aL3, .inr (2, [.int fra, .int fwe, .int fof, .int fsi])), (aL4, .inr (1, [.int csh, .int cde, .int csp])), (aL5, .inr (7, [.ref aL6, .ref aL8, .ref aL10, .int rco, .int rmo])), (aL6, .inr (8, [.ref aL7])), (aL7, .inl (G.2.1, 80, .inl rd)), (aL8, .inr (8, [.ref aL9])), (aL9, .inl (G.2.1, 5, .inl rw)), (aL10, .inr (8, [.ref aL11])), (aL11, .inl (G.2.1, 5, .inl rp)), (aL12, .inr (0, [.int apa, .int awo, .int ash, .int aja, .int abu])), (aW0, .inr (8, [.ref aW1])), (aW1, .inl (G.2.1, 16, .inl wa))] (X := Unit) (fun _ => [(a0, .inr (9, [.ref aL0, .ref aH0, .ref aT0, .ref aW0, .ref aE0])), (aL0, .inr (4, [.ref aL1, .ref aL3, .ref aL4, .ref aL5, .ref aL12, .int ltol, .int lchi, .int ljam])), (aL1, .inr (6, [.ref aL2, .int mch])), (aL2, .inl (G.2.1, 48, .inl md)), (aL3, .inr (2, [.int fra, .int fwe, .int fof, .int fsi])), (aL4, .inr (1, [.int csh, .int cde, .int csp])), (aL5, .inr (7, [.ref aL6, .ref aL8, .ref aL10, .int rco, .int rmo])), (aL6, .inr (8, [.ref aL7])), (aL7, .inl (G.2.1, 80, .inl rd)), (aL8, .inr (8, [.ref aL9])), (aL9, .inl (G.2.1, 5, .inl rw)), (aL10, .inr (8, [.ref aL11])), (aL11, .inl (G.2.1, 5, .inl rp)), (aL12, .inr (0, [.int apa, .int awo, .int ash, .int aja, .int abu])), (aW0, .inr (8, [.ref aW1])), (aW1, .inl (G.2.1, 16, .inl wa_0))]) (some (.int r_0)) := by
  refine wr_of (by decide) (Nat.le_of_ble_eq_true rfl) ?_
  intro p e s m args below meth c ls A hx hb hr hml hown hlk hA hZ hP hD hS hA0 hin hl
  have hP : va_P G.1 vwCl [(a0, .inr (9, [.ref aL0, .ref aH0, .ref aT0, .ref aW0, .ref aE0])), (aL0, .inr (4, [.ref aL1, .ref aL3, .ref aL4, .ref aL5, .ref aL12, .int ltol, .int lchi, .int ljam])), (aL1, .inr (6, [.ref aL2, .int mch])), (aL2, .inl (G.2.1, 48, .inl md)), (aL3, .inr (2, [.int fra, .int fwe, .int fof, .int fsi])), (aL4, .inr (1, [.int csh, .int cde, .int csp])), (aL5, .inr (7, [.ref aL6, .ref aL8, .ref aL10, .int rco, .int rmo])), (aL6, .inr (8, [.ref aL7])), (aL7, .inl (G.2.1, 80, .inl rd)), (aL8, .inr (8, [.ref aL9])), (aL9, .inl (G.2.1, 5, .inl rw)), (aL10, .inr (8, [.ref aL11])), (aL11, .inl (G.2.1, 5, .inl rp)), (aL12, .inr (0, [.int apa, .int awo, .int ash, .int aja, .int abu])), (aW0, .inr (8, [.ref aW1])), (aW1, .inl (G.2.1, 16, .inl wa))] s.heap := hP
  replace hown : s.vm.findClass RX9 = some m.cls := hown
  replace hl : lv_has ls 7 [(0, .ref a0), (1, .int i1)] := hl
  unfold fX9_firstWaiting at hf
  refine lv_aload_n hx hb dX9_firstWaiting_0 rfl (lv_at hl 0 rfl) ?_
  refine gf_X9_10 hx hb hown hA hP 0 rfl rfl dX9_firstWaiting_1 ?_
  refine gf_X9_80 hx hb hown hA hP 1 rfl rfl dX9_firstWaiting_4 ?_
  refine gf_X9_228 hx hb hown hA hP 4 rfl rfl dX9_firstWaiting_7 ?_
  refine lv_istore_n (lv' := [(2, .int fra), (0, .ref a0), (1, .int i1)]) hx hb dX9_firstWaiting_10 rfl hl (by decide) rfl (fun ls hl => ?_)
  refine lv_iconst (v := 0) hx hb dX9_firstWaiting_11 (by decide) ?_
  refine lv_istore_n (lv' := [(3, .int 0), (2, .int fra), (0, .ref a0), (1, .int i1)]) hx hb dX9_firstWaiting_12 rfl hl (by decide) rfl (fun ls hl => ?_)
  refine lv_iconst (v := 0) hx hb dX9_firstWaiting_13 (by decide) ?_
  refine lv_istore (lv' := [(4, .int 0), (3, .int 0), (2, .int fra), (0, .ref a0), (1, .int i1)]) hx hb dX9_firstWaiting_14 hl (by decide) rfl (fun ls hl => ?_)
  refine lv_iload_n hx hb dX9_firstWaiting_16 rfl (lv_at hl 2 rfl) ?_
  refine lv_ineg hx hb dX9_firstWaiting_17 ?_
  refine lv_istore (lv' := [(5, .int (-fra)), (4, .int 0), (3, .int 0), (2, .int fra), (0, .ref a0), (1, .int i1)]) hx hb dX9_firstWaiting_18 hl (by decide) rfl (fun ls hl => ?_)
  have lp20 : ∀ (v1 : Int32) (v2 : Int32)  (n : Nat) (v3 : Int32) (v4 : Int32) (v5 : Int32) (wa : Nat → Int32) (x3_25 : Int32) (wa_26 : Nat → Int32) (Q : State → Prop), fX9_firstWaiting_L20 md mch v1 v2 n v3 v4 v5 wa = some (x3_25, wa_26) → ∀ (H : Heap) (locs : List Loc), va_P G.1 vwCl [(a0, .inr (9, [.ref aL0, .ref aH0, .ref aT0, .ref aW0, .ref aE0])), (aL0, .inr (4, [.ref aL1, .ref aL3, .ref aL4, .ref aL5, .ref aL12, .int ltol, .int lchi, .int ljam])), (aL1, .inr (6, [.ref aL2, .int mch])), (aL2, .inl (G.2.1, 48, .inl md)), (aL3, .inr (2, [.int fra, .int fwe, .int fof, .int fsi])), (aL4, .inr (1, [.int csh, .int cde, .int csp])), (aL5, .inr (7, [.ref aL6, .ref aL8, .ref aL10, .int rco, .int rmo])), (aL6, .inr (8, [.ref aL7])), (aL7, .inl (G.2.1, 80, .inl rd)), (aL8, .inr (8, [.ref aL9])), (aL9, .inl (G.2.1, 5, .inl rw)), (aL10, .inr (8, [.ref aL11])), (aL11, .inl (G.2.1, 5, .inl rp)), (aL12, .inr (0, [.int apa, .int awo, .int ash, .int aja, .int abu])), (aW0, .inr (8, [.ref aW1])), (aW1, .inl (G.2.1, 16, .inl wa))] H → va_D A [(a0, .inr (9, [.ref aL0, .ref aH0, .ref aT0, .ref aW0, .ref aE0])), (aL0, .inr (4, [.ref aL1, .ref aL3, .ref aL4, .ref aL5, .ref aL12, .int ltol, .int lchi, .int ljam])), (aL1, .inr (6, [.ref aL2, .int mch])), (aL2, .inl (G.2.1, 48, .inl md)), (aL3, .inr (2, [.int fra, .int fwe, .int fof, .int fsi])), (aL4, .inr (1, [.int csh, .int cde, .int csp])), (aL5, .inr (7, [.ref aL6, .ref aL8, .ref aL10, .int rco, .int rmo])), (aL6, .inr (8, [.ref aL7])), (aL7, .inl (G.2.1, 80, .inl rd)), (aL8, .inr (8, [.ref aL9])), (aL9, .inl (G.2.1, 5, .inl rw)), (aL10, .inr (8, [.ref aL11])), (aL11, .inl (G.2.1, 5, .inl rp)), (aL12, .inr (0, [.int apa, .int awo, .int ash, .int aja, .int abu])), (aW0, .inr (8, [.ref aW1])), (aW1, .inl (G.2.1, 16, .inl wa))] → va_S A s.heap H locs → ∀ (ls : Array Slot), lv_has ls 7 [(0, .ref a0), (1, .int v1), (2, .int v2), (3, .int v3), (4, .int v4), (5, .int v5)] → (∀ (H : Heap) (locs : List Loc) (ls : Array Slot), va_P G.1 vwCl [(a0, .inr (9, [.ref aL0, .ref aH0, .ref aT0, .ref aW0, .ref aE0])), (aL0, .inr (4, [.ref aL1, .ref aL3, .ref aL4, .ref aL5, .ref aL12, .int ltol, .int lchi, .int ljam])), (aL1, .inr (6, [.ref aL2, .int mch])), (aL2, .inl (G.2.1, 48, .inl md)), (aL3, .inr (2, [.int fra, .int fwe, .int fof, .int fsi])), (aL4, .inr (1, [.int csh, .int cde, .int csp])), (aL5, .inr (7, [.ref aL6, .ref aL8, .ref aL10, .int rco, .int rmo])), (aL6, .inr (8, [.ref aL7])), (aL7, .inl (G.2.1, 80, .inl rd)), (aL8, .inr (8, [.ref aL9])), (aL9, .inl (G.2.1, 5, .inl rw)), (aL10, .inr (8, [.ref aL11])), (aL11, .inl (G.2.1, 5, .inl rp)), (aL12, .inr (0, [.int apa, .int awo, .int ash, .int aja, .int abu])), (aW0, .inr (8, [.ref aW1])), (aW1, .inl (G.2.1, 16, .inl wa_26))] H → va_D A [(a0, .inr (9, [.ref aL0, .ref aH0, .ref aT0, .ref aW0, .ref aE0])), (aL0, .inr (4, [.ref aL1, .ref aL3, .ref aL4, .ref aL5, .ref aL12, .int ltol, .int lchi, .int ljam])), (aL1, .inr (6, [.ref aL2, .int mch])), (aL2, .inl (G.2.1, 48, .inl md)), (aL3, .inr (2, [.int fra, .int fwe, .int fof, .int fsi])), (aL4, .inr (1, [.int csh, .int cde, .int csp])), (aL5, .inr (7, [.ref aL6, .ref aL8, .ref aL10, .int rco, .int rmo])), (aL6, .inr (8, [.ref aL7])), (aL7, .inl (G.2.1, 80, .inl rd)), (aL8, .inr (8, [.ref aL9])), (aL9, .inl (G.2.1, 5, .inl rw)), (aL10, .inr (8, [.ref aL11])), (aL11, .inl (G.2.1, 5, .inl rp)), (aL12, .inr (0, [.int apa, .int awo, .int ash, .int aja, .int abu])), (aW0, .inr (8, [.ref aW1])), (aW1, .inl (G.2.1, 16, .inl wa_26))] → va_S A s.heap H locs → lv_has ls 7 [(0, .ref a0), (3, .int x3_25)] → W p l e { frames := 3, cells := 0, slots := 0, locals := 66 } s m args below meth c H locs 0 0 Q (F0 m 118 ls [])) → W p l e { frames := 3, cells := 0, slots := 0, locals := 66 } s m args below meth c H locs 0 0 Q (F0 m 20 ls []) := by
    intro v1 v2 n
    induction n with
    | zero => intro v3 v4 v5 wa x3_25 wa_26 Q hf; rw [fX9_firstWaiting_L20] at hf; cases hf
    | succ n ih =>
      intro v3 v4 v5 wa x3_25 wa_26 Q hf H locs hP hD hS ls hl kk
      rw [fX9_firstWaiting_L20] at hf
      refine lv_iload hx hb dX9_firstWaiting_20 (lv_at hl 5 rfl) ?_
      refine lv_iload_n hx hb dX9_firstWaiting_22 rfl (lv_at hl 1 rfl) ?_
      refine lv_icmp_gt (tgt := 118) hx hb dX9_firstWaiting_23 (by decide) (fun c_1 => ?_) (fun c_1 => ?_)
      · replace hf := ifp c_1 hf
        cases hf
        exact kk _ _ ls hP hD hS (lv_sub hl [0, 3] rfl)
      · replace hf := ifn c_1 hf
        refine lv_iload hx hb dX9_firstWaiting_26 (lv_at hl 5 rfl) ?_
        refine lv_iload_n hx hb dX9_firstWaiting_28 rfl (lv_at hl 2 rfl) ?_
        refine lv_iadd hx hb dX9_firstWaiting_29 ?_
        refine lv_istore (lv' := [(6, .int (v5 + v2)), (0, .ref a0), (1, .int v1), (2, .int v2), (3, .int v3), (4, .int v4), (5, .int v5)]) hx hb dX9_firstWaiting_30 hl (by decide) rfl (fun ls hl => ?_)
        refine lv_iload hx hb dX9_firstWaiting_32 (lv_at hl 0 rfl) ?_
        refine lv_bipush (v := 16) hx hb dX9_firstWaiting_34 (by decide) ?_
        refine lv_icmp_ge (tgt := 85) hx hb dX9_firstWaiting_36 (by decide) (fun c_2 => ?_) (fun c_2 => ?_)
        · replace hf := ifp c_2 hf
          have lp85 : ∀ (v1 : Int32) (v2 : Int32) (v4 : Int32) (v5 : Int32) (wa : Nat → Int32) (n : Nat) (v3 : Int32)  (x3_7 : Int32) (Q : State → Prop), fX9_firstWaiting_L85 wa v2 v4 v5 n v3 = some x3_7 → ∀ (H : Heap) (locs : List Loc), va_P G.1 vwCl [(a0, .inr (9, [.ref aL0, .ref aH0, .ref aT0, .ref aW0, .ref aE0])), (aL0, .inr (4, [.ref aL1, .ref aL3, .ref aL4, .ref aL5, .ref aL12, .int ltol, .int lchi, .int ljam])), (aL1, .inr (6, [.ref aL2, .int mch])), (aL2, .inl (G.2.1, 48, .inl md)), (aL3, .inr (2, [.int fra, .int fwe, .int fof, .int fsi])), (aL4, .inr (1, [.int csh, .int cde, .int csp])), (aL5, .inr (7, [.ref aL6, .ref aL8, .ref aL10, .int rco, .int rmo])), (aL6, .inr (8, [.ref aL7])), (aL7, .inl (G.2.1, 80, .inl rd)), (aL8, .inr (8, [.ref aL9])), (aL9, .inl (G.2.1, 5, .inl rw)), (aL10, .inr (8, [.ref aL11])), (aL11, .inl (G.2.1, 5, .inl rp)), (aL12, .inr (0, [.int apa, .int awo, .int ash, .int aja, .int abu])), (aW0, .inr (8, [.ref aW1])), (aW1, .inl (G.2.1, 16, .inl wa))] H → va_D A [(a0, .inr (9, [.ref aL0, .ref aH0, .ref aT0, .ref aW0, .ref aE0])), (aL0, .inr (4, [.ref aL1, .ref aL3, .ref aL4, .ref aL5, .ref aL12, .int ltol, .int lchi, .int ljam])), (aL1, .inr (6, [.ref aL2, .int mch])), (aL2, .inl (G.2.1, 48, .inl md)), (aL3, .inr (2, [.int fra, .int fwe, .int fof, .int fsi])), (aL4, .inr (1, [.int csh, .int cde, .int csp])), (aL5, .inr (7, [.ref aL6, .ref aL8, .ref aL10, .int rco, .int rmo])), (aL6, .inr (8, [.ref aL7])), (aL7, .inl (G.2.1, 80, .inl rd)), (aL8, .inr (8, [.ref aL9])), (aL9, .inl (G.2.1, 5, .inl rw)), (aL10, .inr (8, [.ref aL11])), (aL11, .inl (G.2.1, 5, .inl rp)), (aL12, .inr (0, [.int apa, .int awo, .int ash, .int aja, .int abu])), (aW0, .inr (8, [.ref aW1])), (aW1, .inl (G.2.1, 16, .inl wa))] → va_S A s.heap H locs → ∀ (ls : Array Slot), lv_has ls 7 [(0, .ref a0), (1, .int v1), (2, .int v2), (3, .int v3), (4, .int v4), (5, .int v5)] → (∀ (H : Heap) (locs : List Loc) (ls : Array Slot), va_P G.1 vwCl [(a0, .inr (9, [.ref aL0, .ref aH0, .ref aT0, .ref aW0, .ref aE0])), (aL0, .inr (4, [.ref aL1, .ref aL3, .ref aL4, .ref aL5, .ref aL12, .int ltol, .int lchi, .int ljam])), (aL1, .inr (6, [.ref aL2, .int mch])), (aL2, .inl (G.2.1, 48, .inl md)), (aL3, .inr (2, [.int fra, .int fwe, .int fof, .int fsi])), (aL4, .inr (1, [.int csh, .int cde, .int csp])), (aL5, .inr (7, [.ref aL6, .ref aL8, .ref aL10, .int rco, .int rmo])), (aL6, .inr (8, [.ref aL7])), (aL7, .inl (G.2.1, 80, .inl rd)), (aL8, .inr (8, [.ref aL9])), (aL9, .inl (G.2.1, 5, .inl rw)), (aL10, .inr (8, [.ref aL11])), (aL11, .inl (G.2.1, 5, .inl rp)), (aL12, .inr (0, [.int apa, .int awo, .int ash, .int aja, .int abu])), (aW0, .inr (8, [.ref aW1])), (aW1, .inl (G.2.1, 16, .inl wa))] H → va_D A [(a0, .inr (9, [.ref aL0, .ref aH0, .ref aT0, .ref aW0, .ref aE0])), (aL0, .inr (4, [.ref aL1, .ref aL3, .ref aL4, .ref aL5, .ref aL12, .int ltol, .int lchi, .int ljam])), (aL1, .inr (6, [.ref aL2, .int mch])), (aL2, .inl (G.2.1, 48, .inl md)), (aL3, .inr (2, [.int fra, .int fwe, .int fof, .int fsi])), (aL4, .inr (1, [.int csh, .int cde, .int csp])), (aL5, .inr (7, [.ref aL6, .ref aL8, .ref aL10, .int rco, .int rmo])), (aL6, .inr (8, [.ref aL7])), (aL7, .inl (G.2.1, 80, .inl rd)), (aL8, .inr (8, [.ref aL9])), (aL9, .inl (G.2.1, 5, .inl rw)), (aL10, .inr (8, [.ref aL11])), (aL11, .inl (G.2.1, 5, .inl rp)), (aL12, .inr (0, [.int apa, .int awo, .int ash, .int aja, .int abu])), (aW0, .inr (8, [.ref aW1])), (aW1, .inl (G.2.1, 16, .inl wa))] → va_S A s.heap H locs → lv_has ls 7 [(0, .ref a0), (1, .int v1), (2, .int v2), (3, .int x3_7), (4, .int v4), (5, .int v5)] → W p l e { frames := 3, cells := 0, slots := 0, locals := 66 } s m args below meth c H locs 0 0 Q (F0 m 112 ls [])) → W p l e { frames := 3, cells := 0, slots := 0, locals := 66 } s m args below meth c H locs 0 0 Q (F0 m 85 ls []) := by
            intro v1 v2 v4 v5 wa n
            induction n with
            | zero => intro v3 x3_7 Q hf; rw [fX9_firstWaiting_L85] at hf; cases hf
            | succ n ih =>
              intro v3 x3_7 Q hf H locs hP hD hS ls hl kk
              rw [fX9_firstWaiting_L85] at hf
              refine lv_iload_n hx hb dX9_firstWaiting_85 rfl (lv_at hl 3 rfl) ?_
              refine lv_iload hx hb dX9_firstWaiting_86 (lv_at hl 4 rfl) ?_
              refine lv_icmp_ge (tgt := 112) hx hb dX9_firstWaiting_88 (by decide) (fun c_3 => ?_) (fun c_3 => ?_)
              · replace hf := ifp c_3 hf
                cases hf
                exact kk _ _ ls hP hD hS (lv_sub hl [0, 1, 2, 3, 4, 5] rfl)
              · replace hf := ifn c_3 hf
                refine lv_aload_n hx hb dX9_firstWaiting_91 rfl (lv_at hl 0 rfl) ?_
                refine gf_X9_35 hx hb hown hA hP 0 rfl rfl dX9_firstWaiting_92 ?_
                refine lv_iload_n hx hb dX9_firstWaiting_95 rfl (lv_at hl 3 rfl) ?_
                obtain ⟨r_4, q_5, hf⟩ := obd hf
                refine ro_v (n := 1) (As := [.int v3]) (q0 := 0) hx hb hml hown hA (kX8_at l G aW0 aW1 16 wa v3 r_4 q_5 (by decide)) g_X9_204 gd_X8_at ⟨(Nat.le_of_ble_eq_true rfl), (Nat.le_of_ble_eq_true rfl)⟩ (hZ.at hS) (hP.sub [14, 15] rfl) rfl rfl rfl hl.1 (Nat.le_of_ble_eq_true rfl) ⟨(Nat.le_of_ble_eq_true rfl), (Nat.le_of_ble_eq_true rfl)⟩ dX9_firstWaiting_96 ?_
                refine W.eq (g2 := F0 m 99 ls [.int r_4]) rfl ?_
                refine lv_iload hx hb dX9_firstWaiting_99 (lv_at hl 5 rfl) ?_
                refine lv_iload_n hx hb dX9_firstWaiting_101 rfl (lv_at hl 2 rfl) ?_
                refine lv_isub hx hb dX9_firstWaiting_102 ?_
                refine lv_icmp_ge (tgt := 112) hx hb dX9_firstWaiting_103 (by decide) (fun c_6 => ?_) (fun c_6 => ?_)
                · replace hf := ifp c_6 hf
                  cases hf
                  exact kk _ _ ls hP hD hS (lv_sub hl [0, 1, 2, 3, 4, 5] rfl)
                · replace hf := ifn c_6 hf
                  refine lv_iinc (v := v3 + 1) (lv' := [(3, .int (v3 + 1)), (0, .ref a0), (1, .int v1), (2, .int v2), (4, .int v4), (5, .int v5)]) hx hb dX9_firstWaiting_106 hl (k := 3) rfl rfl (by decide) rfl (fun ls hl => ?_)
                  refine lv_goto (tgt := 85) hx hb dX9_firstWaiting_109 (by decide) ?_
                  exact ih _ _ _ hf _ _ hP hD hS ls (lv_sub hl [1, 2, 3, 0, 4, 5] rfl) kk
          obtain ⟨x3_7, q_8, hf⟩ := obd hf
          refine lp85 _ _ _ _ _ _ _ _ _ q_8 _ _ hP hD hS ls (lv_sub hl [1, 2, 3, 4, 5, 6] rfl) (fun H locs ls hP hD hS hl => ?_)
          refine lv_iinc (v := v5 + 1) (lv' := [(5, .int (v5 + 1)), (0, .ref a0), (1, .int v1), (2, .int v2), (3, .int x3_7), (4, .int v4)]) hx hb dX9_firstWaiting_112 hl (k := 5) rfl rfl (by decide) rfl (fun ls hl => ?_)
          refine lv_goto (tgt := 20) hx hb dX9_firstWaiting_115 (by decide) ?_
          exact ih _ _ _ _ _ _ _ hf _ _ hP hD hS ls (lv_sub hl [1, 2, 3, 4, 5, 0] rfl) kk
        · replace hf := ifn c_2 hf
          have lp39 : ∀ (v1 : Int32) (v2 : Int32) (v3 : Int32) (v5 : Int32) (v6 : Int32) (wa : Nat → Int32) (n : Nat) (v4 : Int32)  (x4_15 : Int32) (Q : State → Prop), fX9_firstWaiting_L39 md mch wa v3 v6 n v4 = some x4_15 → ∀ (H : Heap) (locs : List Loc), va_P G.1 vwCl [(a0, .inr (9, [.ref aL0, .ref aH0, .ref aT0, .ref aW0, .ref aE0])), (aL0, .inr (4, [.ref aL1, .ref aL3, .ref aL4, .ref aL5, .ref aL12, .int ltol, .int lchi, .int ljam])), (aL1, .inr (6, [.ref aL2, .int mch])), (aL2, .inl (G.2.1, 48, .inl md)), (aL3, .inr (2, [.int fra, .int fwe, .int fof, .int fsi])), (aL4, .inr (1, [.int csh, .int cde, .int csp])), (aL5, .inr (7, [.ref aL6, .ref aL8, .ref aL10, .int rco, .int rmo])), (aL6, .inr (8, [.ref aL7])), (aL7, .inl (G.2.1, 80, .inl rd)), (aL8, .inr (8, [.ref aL9])), (aL9, .inl (G.2.1, 5, .inl rw)), (aL10, .inr (8, [.ref aL11])), (aL11, .inl (G.2.1, 5, .inl rp)), (aL12, .inr (0, [.int apa, .int awo, .int ash, .int aja, .int abu])), (aW0, .inr (8, [.ref aW1])), (aW1, .inl (G.2.1, 16, .inl wa))] H → va_D A [(a0, .inr (9, [.ref aL0, .ref aH0, .ref aT0, .ref aW0, .ref aE0])), (aL0, .inr (4, [.ref aL1, .ref aL3, .ref aL4, .ref aL5, .ref aL12, .int ltol, .int lchi, .int ljam])), (aL1, .inr (6, [.ref aL2, .int mch])), (aL2, .inl (G.2.1, 48, .inl md)), (aL3, .inr (2, [.int fra, .int fwe, .int fof, .int fsi])), (aL4, .inr (1, [.int csh, .int cde, .int csp])), (aL5, .inr (7, [.ref aL6, .ref aL8, .ref aL10, .int rco, .int rmo])), (aL6, .inr (8, [.ref aL7])), (aL7, .inl (G.2.1, 80, .inl rd)), (aL8, .inr (8, [.ref aL9])), (aL9, .inl (G.2.1, 5, .inl rw)), (aL10, .inr (8, [.ref aL11])), (aL11, .inl (G.2.1, 5, .inl rp)), (aL12, .inr (0, [.int apa, .int awo, .int ash, .int aja, .int abu])), (aW0, .inr (8, [.ref aW1])), (aW1, .inl (G.2.1, 16, .inl wa))] → va_S A s.heap H locs → ∀ (ls : Array Slot), lv_has ls 7 [(0, .ref a0), (1, .int v1), (2, .int v2), (3, .int v3), (4, .int v4), (5, .int v5), (6, .int v6)] → (∀ (H : Heap) (locs : List Loc) (ls : Array Slot), va_P G.1 vwCl [(a0, .inr (9, [.ref aL0, .ref aH0, .ref aT0, .ref aW0, .ref aE0])), (aL0, .inr (4, [.ref aL1, .ref aL3, .ref aL4, .ref aL5, .ref aL12, .int ltol, .int lchi, .int ljam])), (aL1, .inr (6, [.ref aL2, .int mch])), (aL2, .inl (G.2.1, 48, .inl md)), (aL3, .inr (2, [.int fra, .int fwe, .int fof, .int fsi])), (aL4, .inr (1, [.int csh, .int cde, .int csp])), (aL5, .inr (7, [.ref aL6, .ref aL8, .ref aL10, .int rco, .int rmo])), (aL6, .inr (8, [.ref aL7])), (aL7, .inl (G.2.1, 80, .inl rd)), (aL8, .inr (8, [.ref aL9])), (aL9, .inl (G.2.1, 5, .inl rw)), (aL10, .inr (8, [.ref aL11])), (aL11, .inl (G.2.1, 5, .inl rp)), (aL12, .inr (0, [.int apa, .int awo, .int ash, .int aja, .int abu])), (aW0, .inr (8, [.ref aW1])), (aW1, .inl (G.2.1, 16, .inl wa))] H → va_D A [(a0, .inr (9, [.ref aL0, .ref aH0, .ref aT0, .ref aW0, .ref aE0])), (aL0, .inr (4, [.ref aL1, .ref aL3, .ref aL4, .ref aL5, .ref aL12, .int ltol, .int lchi, .int ljam])), (aL1, .inr (6, [.ref aL2, .int mch])), (aL2, .inl (G.2.1, 48, .inl md)), (aL3, .inr (2, [.int fra, .int fwe, .int fof, .int fsi])), (aL4, .inr (1, [.int csh, .int cde, .int csp])), (aL5, .inr (7, [.ref aL6, .ref aL8, .ref aL10, .int rco, .int rmo])), (aL6, .inr (8, [.ref aL7])), (aL7, .inl (G.2.1, 80, .inl rd)), (aL8, .inr (8, [.ref aL9])), (aL9, .inl (G.2.1, 5, .inl rw)), (aL10, .inr (8, [.ref aL11])), (aL11, .inl (G.2.1, 5, .inl rp)), (aL12, .inr (0, [.int apa, .int awo, .int ash, .int aja, .int abu])), (aW0, .inr (8, [.ref aW1])), (aW1, .inl (G.2.1, 16, .inl wa))] → va_S A s.heap H locs → lv_has ls 7 [(0, .ref a0), (1, .int v1), (2, .int v2), (3, .int v3), (4, .int x4_15), (5, .int v5), (6, .int v6)] → W p l e { frames := 3, cells := 0, slots := 0, locals := 66 } s m args below meth c H locs 0 0 Q (F0 m 71 ls [])) → W p l e { frames := 3, cells := 0, slots := 0, locals := 66 } s m args below meth c H locs 0 0 Q (F0 m 39 ls []) := by
            intro v1 v2 v3 v5 v6 wa n
            induction n with
            | zero => intro v4 x4_15 Q hf; rw [fX9_firstWaiting_L39] at hf; cases hf
            | succ n ih =>
              intro v4 x4_15 Q hf H locs hP hD hS ls hl kk
              rw [fX9_firstWaiting_L39] at hf
              refine lv_iload hx hb dX9_firstWaiting_39 (lv_at hl 4 rfl) ?_
              refine lv_iload_n hx hb dX9_firstWaiting_41 rfl (lv_at hl 3 rfl) ?_
              refine lv_icmp_le (tgt := 71) hx hb dX9_firstWaiting_42 (by decide) (fun c_9 => ?_) (fun c_9 => ?_)
              · replace hf := ifp c_9 hf
                cases hf
                exact kk _ _ ls hP hD hS (lv_sub hl [0, 1, 2, 3, 4, 5, 6] rfl)
              · replace hf := ifn c_9 hf
                refine lv_aload_n hx hb dX9_firstWaiting_45 rfl (lv_at hl 0 rfl) ?_
                refine lv_aload_n hx hb dX9_firstWaiting_46 rfl (lv_at hl 0 rfl) ?_
                refine gf_X9_35 hx hb hown hA hP 0 rfl rfl dX9_firstWaiting_47 ?_
                refine lv_iload hx hb dX9_firstWaiting_50 (lv_at hl 4 rfl) ?_
                refine lv_iconst (v := 1) hx hb dX9_firstWaiting_52 (by decide) ?_
                refine lv_isub hx hb dX9_firstWaiting_53 ?_
                obtain ⟨r_10, q_11, hf⟩ := obd hf
                refine ro_v (n := 1) (As := [.int (v4 - 1)]) (q0 := 0) hx hb hml hown hA (kX8_at l G aW0 aW1 16 wa (v4 - 1) r_10 q_11 (by decide)) g_X9_204 gd_X8_at ⟨(Nat.le_of_ble_eq_true rfl), (Nat.le_of_ble_eq_true rfl)⟩ (hZ.at hS) (hP.sub [14, 15] rfl) rfl rfl rfl hl.1 (Nat.le_of_ble_eq_true rfl) ⟨(Nat.le_of_ble_eq_true rfl), (Nat.le_of_ble_eq_true rfl)⟩ dX9_firstWaiting_54 ?_
                refine W.eq (g2 := F0 m 57 ls [.int r_10, .ref a0]) rfl ?_
                refine lv_iload hx hb dX9_firstWaiting_57 (lv_at hl 6 rfl) ?_
                obtain ⟨r_12, q_13, hf⟩ := obd hf
                refine ro_v (n := 2) (As := [.int r_10, .int v6]) (q0 := 0) hx hb hml hown hA (kX9_isNotThicker l G a0 aL0 aL1 aL2 aL3 aL4 aL5 aL6 aL7 aL8 aL9 aL10 aL11 aL12 aH0 aT0 aW0 aE0 md mch fra fwe fof fsi csh cde csp rd rw rp rco rmo apa awo ash aja abu ltol lchi ljam r_10 v6 r_12 q_13) g_X9_354 gd_X9_isNotThicker ⟨(Nat.le_of_ble_eq_true rfl), (Nat.le_of_ble_eq_true rfl)⟩ (hZ.at hS) (hP.sub [0, 1, 2, 3, 4, 5, 6, 7, 8, 9, 10, 11, 12, 13] rfl) rfl rfl rfl hl.1 (Nat.le_of_ble_eq_true rfl) ⟨(Nat.le_of_ble_eq_true rfl), (Nat.le_of_ble_eq_true rfl)⟩ dX9_firstWaiting_59 ?_
                refine W.eq (g2 := F0 m 62 ls [.int r_12]) rfl ?_
                refine lv_if_eq (tgt := 71) hx hb dX9_firstWaiting_62 (by decide) (fun c_14 => ?_) (fun c_14 => ?_)
                · replace hf := ifp c_14 hf
                  cases hf
                  exact kk _ _ ls hP hD hS (lv_sub hl [0, 1, 2, 3, 4, 5, 6] rfl)
                · replace hf := ifn c_14 hf
                  refine lv_iinc (v := v4 + (-1)) (lv' := [(4, .int (v4 + (-1))), (0, .ref a0), (1, .int v1), (2, .int v2), (3, .int v3), (5, .int v5), (6, .int v6)]) hx hb dX9_firstWaiting_65 hl (k := 4) rfl rfl (by decide) rfl (fun ls hl => ?_)
                  refine lv_goto (tgt := 39) hx hb dX9_firstWaiting_68 (by decide) ?_
                  exact ih _ _ _ hf _ _ hP hD hS ls (lv_sub hl [1, 2, 3, 4, 0, 5, 6] rfl) kk
          obtain ⟨x4_15, q_16, hf⟩ := obd hf
          refine lp39 _ _ _ _ _ _ _ _ _ _ q_16 _ _ hP hD hS ls (lv_sub hl [1, 2, 3, 4, 5, 6, 0] rfl) (fun H locs ls hP hD hS hl => ?_)
          refine lv_aload_n hx hb dX9_firstWaiting_71 rfl (lv_at hl 0 rfl) ?_
          refine gf_X9_35 hx hb hown hA hP 0 rfl rfl dX9_firstWaiting_72 ?_
          refine lv_iload hx hb dX9_firstWaiting_75 (lv_at hl 4 rfl) ?_
          refine lv_iload hx hb dX9_firstWaiting_77 (lv_at hl 6 rfl) ?_
          obtain ⟨rf_17, q_18, hf⟩ := obd hf
          refine wr_v (n := 2) (As := [.int x4_15, .int (v5 + v2)]) (q0 := 0) (wr := [(a0, .inr (9, [.ref aL0, .ref aH0, .ref aT0, .ref aW0, .ref aE0])), (aL0, .inr (4, [.ref aL1, .ref aL3, .ref aL4, .ref aL5, .ref aL12, .int ltol, .int lchi, .int ljam])), (aL1, .inr (6, [.ref aL2, .int mch])), (aL2, .inl (G.2.1, 48, .inl md)), (aL3, .inr (2, [.int fra, .int fwe, .int fof, .int fsi])), (aL4, .inr (1, [.int csh, .int cde, .int csp])), (aL5, .inr (7, [.ref aL6, .ref aL8, .ref aL10, .int rco, .int rmo])), (aL6, .inr (8, [.ref aL7])), (aL7, .inl (G.2.1, 80, .inl rd)), (aL8, .inr (8, [.ref aL9])), (aL9, .inl (G.2.1, 5, .inl rw)), (aL10, .inr (8, [.ref aL11])), (aL11, .inl (G.2.1, 5, .inl rp)), (aL12, .inr (0, [.int apa, .int awo, .int ash, .int aja, .int abu]))]) (w2 := fun _ => [(a0, .inr (9, [.ref aL0, .ref aH0, .ref aT0, .ref aW0, .ref aE0])), (aL0, .inr (4, [.ref aL1, .ref aL3, .ref aL4, .ref aL5, .ref aL12, .int ltol, .int lchi, .int ljam])), (aL1, .inr (6, [.ref aL2, .int mch])), (aL2, .inl (G.2.1, 48, .inl md)), (aL3, .inr (2, [.int fra, .int fwe, .int fof, .int fsi])), (aL4, .inr (1, [.int csh, .int cde, .int csp])), (aL5, .inr (7, [.ref aL6, .ref aL8, .ref aL10, .int rco, .int rmo])), (aL6, .inr (8, [.ref aL7])), (aL7, .inl (G.2.1, 80, .inl rd)), (aL8, .inr (8, [.ref aL9])), (aL9, .inl (G.2.1, 5, .inl rw)), (aL10, .inr (8, [.ref aL11])), (aL11, .inl (G.2.1, 5, .inl rp)), (aL12, .inr (0, [.int apa, .int awo, .int ash, .int aja, .int abu])), (aW0, .inr (8, [.ref aW1])), (aW1, .inl (G.2.1, 16, .inl rf_17))]) hx hb hml hown hA (kX8_put l G aW0 aW1 16 wa x4_15 (v5 + v2) rf_17 q_18 (by decide)) g_X9_357 gd_X8_put ⟨(Nat.le_of_ble_eq_true rfl), (Nat.le_of_ble_eq_true rfl)⟩ hZ hP hD hS hA0 rfl rfl [14, 15] [0, 1, 2, 3, 4, 5, 6, 7, 8, 9, 10, 11, 12, 13] [0, 1, 2, 3, 4, 5, 6, 7, 8, 9, 10, 11, 12, 13, 14, 15] rfl rfl rfl rfl (by decide) (fun _ => rfl) rfl rfl hl.1 (Nat.le_of_ble_eq_true rfl) ⟨(Nat.le_of_ble_eq_true rfl), (Nat.le_of_ble_eq_true rfl)⟩ dX9_firstWaiting_79 (fun _ H locs hP hD hS => ?_)
          refine W.eq (g2 := F0 m 82 ls []) rfl ?_
          refine lv_iinc (v := x4_15 + 1) (lv' := [(4, .int (x4_15 + 1)), (0, .ref a0), (1, .int v1), (2, .int v2), (3, .int v3), (5, .int v5), (6, .int (v5 + v2))]) hx hb dX9_firstWaiting_82 hl (k := 4) rfl rfl (by decide) rfl (fun ls hl => ?_)
          have lp85 : ∀ (v1 : Int32) (v2 : Int32) (v4 : Int32) (v5 : Int32) (wa : Nat → Int32) (n : Nat) (v3 : Int32)  (x3_23 : Int32) (Q : State → Prop), fX9_firstWaiting_L85 wa v2 v4 v5 n v3 = some x3_23 → ∀ (H : Heap) (locs : List Loc), va_P G.1 vwCl [(a0, .inr (9, [.ref aL0, .ref aH0, .ref aT0, .ref aW0, .ref aE0])), (aL0, .inr (4, [.ref aL1, .ref aL3, .ref aL4, .ref aL5, .ref aL12, .int ltol, .int lchi, .int ljam])), (aL1, .inr (6, [.ref aL2, .int mch])), (aL2, .inl (G.2.1, 48, .inl md)), (aL3, .inr (2, [.int fra, .int fwe, .int fof, .int fsi])), (aL4, .inr (1, [.int csh, .int cde, .int csp])), (aL5, .inr (7, [.ref aL6, .ref aL8, .ref aL10, .int rco, .int rmo])), (aL6, .inr (8, [.ref aL7])), (aL7, .inl (G.2.1, 80, .inl rd)), (aL8, .inr (8, [.ref aL9])), (aL9, .inl (G.2.1, 5, .inl rw)), (aL10, .inr (8, [.ref aL11])), (aL11, .inl (G.2.1, 5, .inl rp)), (aL12, .inr (0, [.int apa, .int awo, .int ash, .int aja, .int abu])), (aW0, .inr (8, [.ref aW1])), (aW1, .inl (G.2.1, 16, .inl wa))] H → va_D A [(a0, .inr (9, [.ref aL0, .ref aH0, .ref aT0, .ref aW0, .ref aE0])), (aL0, .inr (4, [.ref aL1, .ref aL3, .ref aL4, .ref aL5, .ref aL12, .int ltol, .int lchi, .int ljam])), (aL1, .inr (6, [.ref aL2, .int mch])), (aL2, .inl (G.2.1, 48, .inl md)), (aL3, .inr (2, [.int fra, .int fwe, .int fof, .int fsi])), (aL4, .inr (1, [.int csh, .int cde, .int csp])), (aL5, .inr (7, [.ref aL6, .ref aL8, .ref aL10, .int rco, .int rmo])), (aL6, .inr (8, [.ref aL7])), (aL7, .inl (G.2.1, 80, .inl rd)), (aL8, .inr (8, [.ref aL9])), (aL9, .inl (G.2.1, 5, .inl rw)), (aL10, .inr (8, [.ref aL11])), (aL11, .inl (G.2.1, 5, .inl rp)), (aL12, .inr (0, [.int apa, .int awo, .int ash, .int aja, .int abu])), (aW0, .inr (8, [.ref aW1])), (aW1, .inl (G.2.1, 16, .inl wa))] → va_S A s.heap H locs → ∀ (ls : Array Slot), lv_has ls 7 [(0, .ref a0), (1, .int v1), (2, .int v2), (3, .int v3), (4, .int v4), (5, .int v5)] → (∀ (H : Heap) (locs : List Loc) (ls : Array Slot), va_P G.1 vwCl [(a0, .inr (9, [.ref aL0, .ref aH0, .ref aT0, .ref aW0, .ref aE0])), (aL0, .inr (4, [.ref aL1, .ref aL3, .ref aL4, .ref aL5, .ref aL12, .int ltol, .int lchi, .int ljam])), (aL1, .inr (6, [.ref aL2, .int mch])), (aL2, .inl (G.2.1, 48, .inl md)), (aL3, .inr (2, [.int fra, .int fwe, .int fof, .int fsi])), (aL4, .inr (1, [.int csh, .int cde, .int csp])), (aL5, .inr (7, [.ref aL6, .ref aL8, .ref aL10, .int rco, .int rmo])), (aL6, .inr (8, [.ref aL7])), (aL7, .inl (G.2.1, 80, .inl rd)), (aL8, .inr (8, [.ref aL9])), (aL9, .inl (G.2.1, 5, .inl rw)), (aL10, .inr (8, [.ref aL11])), (aL11, .inl (G.2.1, 5, .inl rp)), (aL12, .inr (0, [.int apa, .int awo, .int ash, .int aja, .int abu])), (aW0, .inr (8, [.ref aW1])), (aW1, .inl (G.2.1, 16, .inl wa))] H → va_D A [(a0, .inr (9, [.ref aL0, .ref aH0, .ref aT0, .ref aW0, .ref aE0])), (aL0, .inr (4, [.ref aL1, .ref aL3, .ref aL4, .ref aL5, .ref aL12, .int ltol, .int lchi, .int ljam])), (aL1, .inr (6, [.ref aL2, .int mch])), (aL2, .inl (G.2.1, 48, .inl md)), (aL3, .inr (2, [.int fra, .int fwe, .int fof, .int fsi])), (aL4, .inr (1, [.int csh, .int cde, .int csp])), (aL5, .inr (7, [.ref aL6, .ref aL8, .ref aL10, .int rco, .int rmo])), (aL6, .inr (8, [.ref aL7])), (aL7, .inl (G.2.1, 80, .inl rd)), (aL8, .inr (8, [.ref aL9])), (aL9, .inl (G.2.1, 5, .inl rw)), (aL10, .inr (8, [.ref aL11])), (aL11, .inl (G.2.1, 5, .inl rp)), (aL12, .inr (0, [.int apa, .int awo, .int ash, .int aja, .int abu])), (aW0, .inr (8, [.ref aW1])), (aW1, .inl (G.2.1, 16, .inl wa))] → va_S A s.heap H locs → lv_has ls 7 [(0, .ref a0), (1, .int v1), (2, .int v2), (3, .int x3_23), (4, .int v4), (5, .int v5)] → W p l e { frames := 3, cells := 0, slots := 0, locals := 66 } s m args below meth c H locs 0 0 Q (F0 m 112 ls [])) → W p l e { frames := 3, cells := 0, slots := 0, locals := 66 } s m args below meth c H locs 0 0 Q (F0 m 85 ls []) := by
            intro v1 v2 v4 v5 wa n
            induction n with
            | zero => intro v3 x3_23 Q hf; rw [fX9_firstWaiting_L85] at hf; cases hf
            | succ n ih =>
              intro v3 x3_23 Q hf H locs hP hD hS ls hl kk
              rw [fX9_firstWaiting_L85] at hf
              refine lv_iload_n hx hb dX9_firstWaiting_85 rfl (lv_at hl 3 rfl) ?_
              refine lv_iload hx hb dX9_firstWaiting_86 (lv_at hl 4 rfl) ?_
              refine lv_icmp_ge (tgt := 112) hx hb dX9_firstWaiting_88 (by decide) (fun c_19 => ?_) (fun c_19 => ?_)
              · replace hf := ifp c_19 hf
                cases hf
                exact kk _ _ ls hP hD hS (lv_sub hl [0, 1, 2, 3, 4, 5] rfl)
              · replace hf := ifn c_19 hf
                refine lv_aload_n hx hb dX9_firstWaiting_91 rfl (lv_at hl 0 rfl) ?_
                refine gf_X9_35 hx hb hown hA hP 0 rfl rfl dX9_firstWaiting_92 ?_
                refine lv_iload_n hx hb dX9_firstWaiting_95 rfl (lv_at hl 3 rfl) ?_
                obtain ⟨r_20, q_21, hf⟩ := obd hf
                refine ro_v (n := 1) (As := [.int v3]) (q0 := 0) hx hb hml hown hA (kX8_at l G aW0 aW1 16 wa v3 r_20 q_21 (by decide)) g_X9_204 gd_X8_at ⟨(Nat.le_of_ble_eq_true rfl), (Nat.le_of_ble_eq_true rfl)⟩ (hZ.at hS) (hP.sub [14, 15] rfl) rfl rfl rfl hl.1 (Nat.le_of_ble_eq_true rfl) ⟨(Nat.le_of_ble_eq_true rfl), (Nat.le_of_ble_eq_true rfl)⟩ dX9_firstWaiting_96 ?_
                refine W.eq (g2 := F0 m 99 ls [.int r_20]) rfl ?_
                refine lv_iload hx hb dX9_firstWaiting_99 (lv_at hl 5 rfl) ?_
                refine lv_iload_n hx hb dX9_firstWaiting_101 rfl (lv_at hl 2 rfl) ?_
                refine lv_isub hx hb dX9_firstWaiting_102 ?_
                refine lv_icmp_ge (tgt := 112) hx hb dX9_firstWaiting_103 (by decide) (fun c_22 => ?_) (fun c_22 => ?_)
                · replace hf := ifp c_22 hf
                  cases hf
                  exact kk _ _ ls hP hD hS (lv_sub hl [0, 1, 2, 3, 4, 5] rfl)
                · replace hf := ifn c_22 hf
                  refine lv_iinc (v := v3 + 1) (lv' := [(3, .int (v3 + 1)), (0, .ref a0), (1, .int v1), (2, .int v2), (4, .int v4), (5, .int v5)]) hx hb dX9_firstWaiting_106 hl (k := 3) rfl rfl (by decide) rfl (fun ls hl => ?_)
                  refine lv_goto (tgt := 85) hx hb dX9_firstWaiting_109 (by decide) ?_
                  exact ih _ _ _ hf _ _ hP hD hS ls (lv_sub hl [1, 2, 3, 0, 4, 5] rfl) kk
          obtain ⟨x3_23, q_24, hf⟩ := obd hf
          refine lp85 _ _ _ _ _ _ _ _ _ q_24 _ _ hP hD hS ls (lv_sub hl [1, 2, 3, 4, 0, 5] rfl) (fun H locs ls hP hD hS hl => ?_)
          refine lv_iinc (v := v5 + 1) (lv' := [(5, .int (v5 + 1)), (0, .ref a0), (1, .int v1), (2, .int v2), (3, .int x3_23), (4, .int (x4_15 + 1))]) hx hb dX9_firstWaiting_112 hl (k := 5) rfl rfl (by decide) rfl (fun ls hl => ?_)
          refine lv_goto (tgt := 20) hx hb dX9_firstWaiting_115 (by decide) ?_
          exact ih _ _ _ _ _ _ _ hf _ _ hP hD hS ls (lv_sub hl [1, 2, 3, 4, 5, 0] rfl) kk
  obtain ⟨⟨x3_25, wa_26⟩, q_27, hf⟩ := obd hf
  dsimp only at hf
  refine lp20 _ _ _ _ _ _ _ _ _ _ q_27 _ _ hP hD hS ls (lv_sub hl [4, 5, 3, 2, 1, 0] rfl) (fun H locs ls hP hD hS hl => ?_)
  refine lv_aload_n hx hb dX9_firstWaiting_118 rfl (lv_at hl 0 rfl) ?_
  refine gf_X9_10 hx hb hown hA hP 0 rfl rfl dX9_firstWaiting_119 ?_
  refine gf_X9_56 hx hb hown hA hP 1 rfl rfl dX9_firstWaiting_122 ?_
  refine lv_aload_n hx hb dX9_firstWaiting_125 rfl (lv_at hl 0 rfl) ?_
  refine gf_X9_35 hx hb hown hA hP 0 rfl rfl dX9_firstWaiting_126 ?_
  refine lv_iload_n hx hb dX9_firstWaiting_129 rfl (lv_at hl 1 rfl) ?_
  obtain ⟨r_28, q_29, hf⟩ := obd hf
  refine ro_v (n := 1) (As := [.int x3_25]) (q0 := 0) hx hb hml hown hA (kX8_at l G aW0 aW1 16 wa_26 x3_25 r_28 q_29 (by decide)) g_X9_204 gd_X8_at ⟨(Nat.le_of_ble_eq_true rfl), (Nat.le_of_ble_eq_true rfl)⟩ (hZ.at hS) (hP.sub [14, 15] rfl) rfl rfl rfl hl.1 (Nat.le_of_ble_eq_true rfl) ⟨(Nat.le_of_ble_eq_true rfl), (Nat.le_of_ble_eq_true rfl)⟩ dX9_firstWaiting_130 ?_
  refine W.eq (g2 := F0 m 133 ls [.int r_28, .ref aL1]) rfl ?_
  obtain ⟨r_30, q_31, hf⟩ := obd hf
  refine ro_v (n := 1) (As := [.int r_28]) (q0 := 0) hx hb hml hown hA (kX6_chosenAt l G aL1 aL2 md mch r_28 r_30 q_31) g_X9_262 gd_X6_chosenAt ⟨(Nat.le_of_ble_eq_true rfl), (Nat.le_of_ble_eq_true rfl)⟩ (hZ.at hS) (hP.sub [2, 3] rfl) rfl rfl rfl hl.1 (Nat.le_of_ble_eq_true rfl) ⟨(Nat.le_of_ble_eq_true rfl), (Nat.le_of_ble_eq_true rfl)⟩ dX9_firstWaiting_133 ?_
  refine W.eq (g2 := F0 m 136 ls [.int r_30]) rfl ?_
  cases hf
  exact wr_iret () hx hb hr hlk hP hD hS dX9_firstWaiting_136
def fX9_readingByQueue (md : Nat → Int32) (mch : Int32) (fra : Int32) (wa : Nat → Int32) (i1 : Int32) : Option (Nat ⊕ (Int32 × (Nat → Int32))) :=
  ((fX9_checkStep i1).bind fun z => match z with | .inl e => some (.inl e) | .inr _ => (Option.map Sum.inr (((fX9_firstWaiting md mch fra wa i1).bind fun (r_2, wa_3) => some (r_2, wa_3)))))
set_option maxHeartbeats 4000000 in
set_option maxRecDepth 100000 in
theorem kX9_readingByQueue (l : Launch) (G : GG) (a0 aL0 aL1 aL2 aL3 aL4 aL5 aL6 aL7 aL8 aL9 aL10 aL11 aL12 aW0 aW1 aH0 aT0 aE0 : Nat) (md : Nat → Int32) (mch : Int32) (fra : Int32) (fwe : Int32) (fof : Int32) (fsi : Int32) (csh : Int32) (cde : Int32) (csp : Int32) (rd : Nat → Int32) (rw : Nat → Int32) (rp : Nat → Int32) (rco : Int32) (rmo : Int32) (apa : Int32) (awo : Int32) (ash : Int32) (aja : Int32) (abu : Int32) (ltol : Int32) (lchi : Int32) (ljam : Int32) (wa : Nat → Int32) (i1 : Int32) (r_0 : Int32) (wa_0 : Nat → Int32) (hf : fX9_readingByQueue md mch fra wa i1 = some (.inr (r_0, wa_0))) : Wr l G yX9_readingByQueue cX9_readingByQueue 2 (some .int) 8 122 0 0 [.ref a0, .int i1] [(a0, .inr (9, [.ref aL0, .ref aH0, .ref aT0, .ref aW0, .ref aE0])), (aL0, .inr (4, [.ref aL1, .ref aL3, .ref aL4, .ref aL5, .ref aL12, .int ltol, .int lchi, .int ljam])), (aL1, .inr (6, [.ref aL2, .int mch])), (aL2, .inl (G.2.1, 48, .inl md)), (aL3, .inr (2, [.int fra, .int fwe, .int fof, .int fsi])), (aL4, .inr (1, [.int csh, .int cde, .int csp])), (aL5, .inr (7, [.ref aL6, .ref aL8, .ref aL10, .int rco, .int rmo])), (aL6, .inr (8, [.ref aL7])), (aL7, .inl (G.2.1, 80, .inl rd)), (aL8, .inr (8, [.ref aL9])), (aL9, .inl (G.2.1, 5, .inl rw)), (aL10, .inr (8, [.ref aL11])), (aL11, .inl (G.2.1, 5, .inl rp)), (aL12, .inr (0, [.int apa, .int awo, .int ash, .int aja, .int abu])), (aW0, .inr (8, [.ref aW1])), (aW1, .inl (G.2.1, 16, .inl wa))] (X := Unit) (fun _ => [(a0, .inr (9, [.ref aL0, .ref aH0, .ref aT0, .ref aW0, .ref aE0])), (aL0, .inr (4, [.ref aL1, .ref aL3, .ref aL4, .ref aL5, .ref aL12, .int ltol, .int lchi, .int ljam])), (aL1, .inr (6, [.ref aL2, .int mch])), (aL2, .inl (G.2.1, 48, .inl md)), (aL3, .inr (2, [.int fra, .int fwe, .int fof, .int fsi])), (aL4, .inr (1, [.int csh, .int cde, .int csp])), (aL5, .inr (7, [.ref aL6, .ref aL8, .ref aL10, .int rco, .int rmo])), (aL6, .inr (8, [.ref aL7])), (aL7, .inl (G.2.1, 80, .inl rd)), (aL8, .inr (8, [.ref aL9])), (aL9, .inl (G.2.1, 5, .inl rw)), (aL10, .inr (8, [.ref aL11])), (aL11, .inl (G.2.1, 5, .inl rp)), (aL12, .inr (0, [.int apa, .int awo, .int ash, .int aja, .int abu])), (aW0, .inr (8, [.ref aW1])), (aW1, .inl (G.2.1, 16, .inl wa_0))]) (some (.int r_0)) := by
  refine wr_of (by decide) (Nat.le_of_ble_eq_true rfl) ?_
  intro p e s m args below meth c ls A hx hb hr hml hown hlk hA hZ hP hD hS hA0 hin hl
  have hP : va_P G.1 vwCl [(a0, .inr (9, [.ref aL0, .ref aH0, .ref aT0, .ref aW0, .ref aE0])), (aL0, .inr (4, [.ref aL1, .ref aL3, .ref aL4, .ref aL5, .ref aL12, .int ltol, .int lchi, .int ljam])), (aL1, .inr (6, [.ref aL2, .int mch])), (aL2, .inl (G.2.1, 48, .inl md)), (aL3, .inr (2, [.int fra, .int fwe, .int fof, .int fsi])), (aL4, .inr (1, [.int csh, .int cde, .int csp])), (aL5, .inr (7, [.ref aL6, .ref aL8, .ref aL10, .int rco, .int rmo])), (aL6, .inr (8, [.ref aL7])), (aL7, .inl (G.2.1, 80, .inl rd)), (aL8, .inr (8, [.ref aL9])), (aL9, .inl (G.2.1, 5, .inl rw)), (aL10, .inr (8, [.ref aL11])), (aL11, .inl (G.2.1, 5, .inl rp)), (aL12, .inr (0, [.int apa, .int awo, .int ash, .int aja, .int abu])), (aW0, .inr (8, [.ref aW1])), (aW1, .inl (G.2.1, 16, .inl wa))] s.heap := hP
  replace hown : s.vm.findClass RX9 = some m.cls := hown
  replace hl : lv_has ls 2 [(0, .ref a0), (1, .int i1)] := hl
  unfold fX9_readingByQueue at hf
  refine lv_iload_n hx hb dX9_readingByQueue_0 rfl (lv_at hl 1 rfl) ?_
  obtain ⟨e9 | u9, q_1, hf⟩ := obd hf
  · dsimp only at hf
    cases hf
  dsimp only at hf
  replace hf := omr hf
  refine ro_s (n := 1) (As := [.int i1]) hx hb hml hown hA (kX9_checkStep l G i1 q_1) g_X9_45 gd_X9_checkStep ⟨(Nat.le_of_ble_eq_true rfl), (Nat.le_of_ble_eq_true rfl)⟩ (hZ.at hS) (fun _ _ h => by simp at h) rfl hl.1 (Nat.le_of_ble_eq_true rfl) ⟨(Nat.le_of_ble_eq_true rfl), (Nat.le_of_ble_eq_true rfl)⟩ dX9_readingByQueue_1 ?_
  refine W.eq (g2 := F0 m 4 ls []) rfl ?_
  refine lv_aload_n hx hb dX9_readingByQueue_4 rfl (lv_at hl 0 rfl) ?_
  refine lv_iload_n hx hb dX9_readingByQueue_5 rfl (lv_at hl 1 rfl) ?_
  obtain ⟨⟨r_2, wa_3⟩, q_4, hf⟩ := obd hf
  dsimp only at hf
  refine wr_v (n := 1) (As := [.int i1]) (q0 := 0) (wr := []) (w2 := fun _ => [(a0, .inr (9, [.ref aL0, .ref aH0, .ref aT0, .ref aW0, .ref aE0])), (aL0, .inr (4, [.ref aL1, .ref aL3, .ref aL4, .ref aL5, .ref aL12, .int ltol, .int lchi, .int ljam])), (aL1, .inr (6, [.ref aL2, .int mch])), (aL2, .inl (G.2.1, 48, .inl md)), (aL3, .inr (2, [.int fra, .int fwe, .int fof, .int fsi])), (aL4, .inr (1, [.int csh, .int cde, .int csp])), (aL5, .inr (7, [.ref aL6, .ref aL8, .ref aL10, .int rco, .int rmo])), (aL6, .inr (8, [.ref aL7])), (aL7, .inl (G.2.1, 80, .inl rd)), (aL8, .inr (8, [.ref aL9])), (aL9, .inl (G.2.1, 5, .inl rw)), (aL10, .inr (8, [.ref aL11])), (aL11, .inl (G.2.1, 5, .inl rp)), (aL12, .inr (0, [.int apa, .int awo, .int ash, .int aja, .int abu])), (aW0, .inr (8, [.ref aW1])), (aW1, .inl (G.2.1, 16, .inl wa_3))]) hx hb hml hown hA (kX9_firstWaiting l G a0 aL0 aL1 aL2 aL3 aL4 aL5 aL6 aL7 aL8 aL9 aL10 aL11 aL12 aW0 aW1 aH0 aT0 aE0 md mch fra fwe fof fsi csh cde csp rd rw rp rco rmo apa awo ash aja abu ltol lchi ljam wa i1 r_2 wa_3 q_4) g_X9_256 gd_X9_firstWaiting ⟨(Nat.le_of_ble_eq_true rfl), (Nat.le_of_ble_eq_true rfl)⟩ hZ hP hD hS hA0 rfl rfl [0, 1, 2, 3, 4, 5, 6, 7, 8, 9, 10, 11, 12, 13, 14, 15] [] [0, 1, 2, 3, 4, 5, 6, 7, 8, 9, 10, 11, 12, 13, 14, 15] rfl rfl rfl rfl (by decide) (fun _ => rfl) rfl rfl hl.1 (Nat.le_of_ble_eq_true rfl) ⟨(Nat.le_of_ble_eq_true rfl), (Nat.le_of_ble_eq_true rfl)⟩ dX9_readingByQueue_6 (fun _ H locs hP hD hS => ?_)
  refine W.eq (g2 := F0 m 9 ls [.int r_2]) rfl ?_
  cases hf
  exact wr_iret () hx hb hr hlk hP hD hS dX9_readingByQueue_9
set_option maxHeartbeats 4000000 in
set_option maxRecDepth 100000 in
theorem tX9_readingByQueue (l : Launch) (hst : l.stackTraces = false) (G : GG) (a0 aL0 aL1 aL2 aL3 aL4 aL5 aL6 aL7 aL8 aL9 aL10 aL11 aL12 aW0 aW1 aH0 aT0 aE0 : Nat) (md : Nat → Int32) (mch : Int32) (fra : Int32) (fwe : Int32) (fof : Int32) (fsi : Int32) (csh : Int32) (cde : Int32) (csp : Int32) (rd : Nat → Int32) (rw : Nat → Int32) (rp : Nat → Int32) (rco : Int32) (rmo : Int32) (apa : Int32) (awo : Int32) (ash : Int32) (aja : Int32) (abu : Int32) (ltol : Int32) (lchi : Int32) (ljam : Int32) (wa : Nat → Int32) (i1 : Int32) (k9 : Nat) (hf : fX9_readingByQueue md mch fra wa i1 = some (.inl k9)) : Th l G yX9_readingByQueue cX9_readingByQueue 2 (some .int) 8 122 [.ref a0, .int i1] [(a0, .inr (9, [.ref aL0, .ref aH0, .ref aT0, .ref aW0, .ref aE0])), (aL0, .inr (4, [.ref aL1, .ref aL3, .ref aL4, .ref aL5, .ref aL12, .int ltol, .int lchi, .int ljam])), (aL1, .inr (6, [.ref aL2, .int mch])), (aL2, .inl (G.2.1, 48, .inl md)), (aL3, .inr (2, [.int fra, .int fwe, .int fof, .int fsi])), (aL4, .inr (1, [.int csh, .int cde, .int csp])), (aL5, .inr (7, [.ref aL6, .ref aL8, .ref aL10, .int rco, .int rmo])), (aL6, .inr (8, [.ref aL7])), (aL7, .inl (G.2.1, 80, .inl rd)), (aL8, .inr (8, [.ref aL9])), (aL9, .inl (G.2.1, 5, .inl rw)), (aL10, .inr (8, [.ref aL11])), (aL11, .inl (G.2.1, 5, .inl rp)), (aL12, .inr (0, [.int apa, .int awo, .int ash, .int aja, .int abu])), (aW0, .inr (8, [.ref aW1])), (aW1, .inl (G.2.1, 16, .inl wa))] (exn k9) := by
  refine th_of (by decide) (Nat.le_of_ble_eq_true rfl) ?_
  intro p e s m args below meth c ls hx hb het hml hown hlk hA hZ hP hl
  replace hown : s.vm.findClass RX9 = some m.cls := hown
  replace hl : lv_has ls 2 [(0, .ref a0), (1, .int i1)] := hl
  unfold fX9_readingByQueue at hf
  refine lv_iload_n hx hb dX9_readingByQueue_0 rfl (lv_at hl 1 rfl) ?_
  obtain ⟨e9 | u9, q_1, hf⟩ := obd hf
  · dsimp only at hf
    cases hf
    exact th_s (n := 1) (As := [.int i1]) hx hb het hlk hml hown hA (tX9_checkStep l hst G i1 _ q_1) g_X9_45 gd_X9_checkStep ⟨(Nat.le_of_ble_eq_true rfl), (Nat.le_of_ble_eq_true rfl)⟩ hZ (fun _ _ h => by simp at h) rfl hl.1 (Nat.le_of_ble_eq_true rfl) ⟨(Nat.le_of_ble_eq_true rfl), (Nat.le_of_ble_eq_true rfl)⟩ dX9_readingByQueue_1
  dsimp only at hf
  exact (oml hf).elim
def fX9_targetAt (md : Nat → Int32) (mch : Int32) (fra : Int32) (fwe : Int32) (fof : Int32) (i1 : Int32) : Option (Nat ⊕ (Int32)) :=
  ((fX9_checkStep i1).bind fun z => match z with | .inl e => some (.inl e) | .inr _ => (Option.map Sum.inr (((fX4_target md mch fra fwe fof i1).bind fun r_2 => some r_2))))
set_option maxHeartbeats 4000000 in
set_option maxRecDepth 100000 in
theorem kX9_targetAt (l : Launch) (G : GG) (a0 aL0 aL1 aL2 aL3 aL4 aL5 aL6 aL7 aL8 aL9 aL10 aL11 aL12 aH0 aT0 aW0 aE0 : Nat) (md : Nat → Int32) (mch : Int32) (fra : Int32) (fwe : Int32) (fof : Int32) (fsi : Int32) (csh : Int32) (cde : Int32) (csp : Int32) (rd : Nat → Int32) (rw : Nat → Int32) (rp : Nat → Int32) (rco : Int32) (rmo : Int32) (apa : Int32) (awo : Int32) (ash : Int32) (aja : Int32) (abu : Int32) (ltol : Int32) (lchi : Int32) (ljam : Int32) (i1 : Int32) (r_0 : Int32) (hf : fX9_targetAt md mch fra fwe fof i1 = some (.inr r_0)) : Ro l G yX9_targetAt cX9_targetAt 2 (some .int) 8 122 [.ref a0, .int i1] [(a0, .inr (9, [.ref aL0, .ref aH0, .ref aT0, .ref aW0, .ref aE0])), (aL0, .inr (4, [.ref aL1, .ref aL3, .ref aL4, .ref aL5, .ref aL12, .int ltol, .int lchi, .int ljam])), (aL1, .inr (6, [.ref aL2, .int mch])), (aL2, .inl (G.2.1, 48, .inl md)), (aL3, .inr (2, [.int fra, .int fwe, .int fof, .int fsi])), (aL4, .inr (1, [.int csh, .int cde, .int csp])), (aL5, .inr (7, [.ref aL6, .ref aL8, .ref aL10, .int rco, .int rmo])), (aL6, .inr (8, [.ref aL7])), (aL7, .inl (G.2.1, 80, .inl rd)), (aL8, .inr (8, [.ref aL9])), (aL9, .inl (G.2.1, 5, .inl rw)), (aL10, .inr (8, [.ref aL11])), (aL11, .inl (G.2.1, 5, .inl rp)), (aL12, .inr (0, [.int apa, .int awo, .int ash, .int aja, .int abu]))] (some (.int r_0)) := by
  refine ro_of (by decide) (Nat.le_of_ble_eq_true rfl) ?_
  intro p e s m args below meth c ls hx hb hr hml hown hlk hA hZ hP hl
  replace hown : s.vm.findClass RX9 = some m.cls := hown
  replace hl : lv_has ls 2 [(0, .ref a0), (1, .int i1)] := hl
  unfold fX9_targetAt at hf
  refine lv_iload_n hx hb dX9_targetAt_0 rfl (lv_at hl 1 rfl) ?_
  obtain ⟨e9 | u9, q_1, hf⟩ := obd hf
  · dsimp only at hf
    cases hf
  dsimp only at hf
  replace hf := omr hf
  refine ro_s (n := 1) (As := [.int i1]) hx hb hml hown hA (kX9_checkStep l G i1 q_1) g_X9_45 gd_X9_checkStep ⟨(Nat.le_of_ble_eq_true rfl), (Nat.le_of_ble_eq_true rfl)⟩ hZ (fun _ _ h => by simp at h) rfl hl.1 (Nat.le_of_ble_eq_true rfl) ⟨(Nat.le_of_ble_eq_true rfl), (Nat.le_of_ble_eq_true rfl)⟩ dX9_targetAt_1 ?_
  refine W.eq (g2 := F0 m 4 ls []) rfl ?_
  refine lv_aload_n hx hb dX9_targetAt_4 rfl (lv_at hl 0 rfl) ?_
  refine gf_X9_10 hx hb hown hA hP 0 rfl rfl dX9_targetAt_5 ?_
  refine lv_iload_n hx hb dX9_targetAt_8 rfl (lv_at hl 1 rfl) ?_
  obtain ⟨r_2, q_3, hf⟩ := obd hf
  refine ro_v (n := 1) (As := [.int i1]) (q0 := 0) hx hb hml hown hA (kX4_target l G aL0 aL1 aL2 aL3 aL4 aL5 aL6 aL7 aL8 aL9 aL10 aL11 aL12 md mch fra fwe fof fsi csh cde csp rd rw rp rco rmo apa awo ash aja abu ltol lchi ljam i1 r_2 q_3) g_X9_259 gd_X4_target ⟨(Nat.le_of_ble_eq_true rfl), (Nat.le_of_ble_eq_true rfl)⟩ hZ (hP.sub [1, 2, 3, 4, 5, 6, 7, 8, 9, 10, 11, 12, 13] rfl) rfl rfl rfl hl.1 (Nat.le_of_ble_eq_true rfl) ⟨(Nat.le_of_ble_eq_true rfl), (Nat.le_of_ble_eq_true rfl)⟩ dX9_targetAt_9 ?_
  refine W.eq (g2 := F0 m 12 ls [.int r_2]) rfl ?_
  cases hf
  exact ro_iret hx hb hr hlk dX9_targetAt_12
set_option maxHeartbeats 4000000 in
set_option maxRecDepth 100000 in
theorem tX9_targetAt (l : Launch) (hst : l.stackTraces = false) (G : GG) (a0 aL0 aL1 aL2 aL3 aL4 aL5 aL6 aL7 aL8 aL9 aL10 aL11 aL12 aH0 aT0 aW0 aE0 : Nat) (md : Nat → Int32) (mch : Int32) (fra : Int32) (fwe : Int32) (fof : Int32) (fsi : Int32) (csh : Int32) (cde : Int32) (csp : Int32) (rd : Nat → Int32) (rw : Nat → Int32) (rp : Nat → Int32) (rco : Int32) (rmo : Int32) (apa : Int32) (awo : Int32) (ash : Int32) (aja : Int32) (abu : Int32) (ltol : Int32) (lchi : Int32) (ljam : Int32) (i1 : Int32) (k9 : Nat) (hf : fX9_targetAt md mch fra fwe fof i1 = some (.inl k9)) : Th l G yX9_targetAt cX9_targetAt 2 (some .int) 8 122 [.ref a0, .int i1] [(a0, .inr (9, [.ref aL0, .ref aH0, .ref aT0, .ref aW0, .ref aE0])), (aL0, .inr (4, [.ref aL1, .ref aL3, .ref aL4, .ref aL5, .ref aL12, .int ltol, .int lchi, .int ljam])), (aL1, .inr (6, [.ref aL2, .int mch])), (aL2, .inl (G.2.1, 48, .inl md)), (aL3, .inr (2, [.int fra, .int fwe, .int fof, .int fsi])), (aL4, .inr (1, [.int csh, .int cde, .int csp])), (aL5, .inr (7, [.ref aL6, .ref aL8, .ref aL10, .int rco, .int rmo])), (aL6, .inr (8, [.ref aL7])), (aL7, .inl (G.2.1, 80, .inl rd)), (aL8, .inr (8, [.ref aL9])), (aL9, .inl (G.2.1, 5, .inl rw)), (aL10, .inr (8, [.ref aL11])), (aL11, .inl (G.2.1, 5, .inl rp)), (aL12, .inr (0, [.int apa, .int awo, .int ash, .int aja, .int abu]))] (exn k9) := by
  refine th_of (by decide) (Nat.le_of_ble_eq_true rfl) ?_
  intro p e s m args below meth c ls hx hb het hml hown hlk hA hZ hP hl
  replace hown : s.vm.findClass RX9 = some m.cls := hown
  replace hl : lv_has ls 2 [(0, .ref a0), (1, .int i1)] := hl
  unfold fX9_targetAt at hf
  refine lv_iload_n hx hb dX9_targetAt_0 rfl (lv_at hl 1 rfl) ?_
  obtain ⟨e9 | u9, q_1, hf⟩ := obd hf
  · dsimp only at hf
    cases hf
    exact th_s (n := 1) (As := [.int i1]) hx hb het hlk hml hown hA (tX9_checkStep l hst G i1 _ q_1) g_X9_45 gd_X9_checkStep ⟨(Nat.le_of_ble_eq_true rfl), (Nat.le_of_ble_eq_true rfl)⟩ hZ (fun _ _ h => by simp at h) rfl hl.1 (Nat.le_of_ble_eq_true rfl) ⟨(Nat.le_of_ble_eq_true rfl), (Nat.le_of_ble_eq_true rfl)⟩ dX9_targetAt_1
  dsimp only at hf
  exact (oml hf).elim
def fX9_lostGrooves_L4 (md : Nat → Int32) (mch : Int32) (fra : Int32)  : Nat → Int32 → Int32 → Option (Int32)
  | 0, _, _ => none
  | n9 + 1, v1, v2 => (if 16 ≤ v2 then some v1 else ((fX4_reading md mch fra v2).bind fun r_2 => ((fX6_chosenAt md mch v2).bind fun r_4 => (if r_2 ≤ r_4 then fX9_lostGrooves_L4 md mch fra n9 v1 (v2 + 1) else fX9_lostGrooves_L4 md mch fra n9 (v1 + 1) (v2 + 1)))))
def fX9_lostGrooves (md : Nat → Int32) (mch : Int32) (fra : Int32)  : Option (Int32) :=
  ((fX9_lostGrooves_L4 md mch fra 2000 0 0).bind fun x1_7 => some x1_7)
set_option maxHeartbeats 4000000 in
set_option maxRecDepth 100000 in
theorem kX9_lostGrooves (l : Launch) (G : GG) (a0 aL0 aL1 aL2 aL3 aL4 aL5 aL6 aL7 aL8 aL9 aL10 aL11 aL12 aH0 aT0 aW0 aE0 : Nat) (md : Nat → Int32) (mch : Int32) (fra : Int32) (fwe : Int32) (fof : Int32) (fsi : Int32) (csh : Int32) (cde : Int32) (csp : Int32) (rd : Nat → Int32) (rw : Nat → Int32) (rp : Nat → Int32) (rco : Int32) (rmo : Int32) (apa : Int32) (awo : Int32) (ash : Int32) (aja : Int32) (abu : Int32) (ltol : Int32) (lchi : Int32) (ljam : Int32)  (r_0 : Int32) (hf : fX9_lostGrooves md mch fra = some r_0) : Ro l G yX9_lostGrooves cX9_lostGrooves 3 (some .int) 2 47 [.ref a0] [(a0, .inr (9, [.ref aL0, .ref aH0, .ref aT0, .ref aW0, .ref aE0])), (aL0, .inr (4, [.ref aL1, .ref aL3, .ref aL4, .ref aL5, .ref aL12, .int ltol, .int lchi, .int ljam])), (aL1, .inr (6, [.ref aL2, .int mch])), (aL2, .inl (G.2.1, 48, .inl md)), (aL3, .inr (2, [.int fra, .int fwe, .int fof, .int fsi])), (aL4, .inr (1, [.int csh, .int cde, .int csp])), (aL5, .inr (7, [.ref aL6, .ref aL8, .ref aL10, .int rco, .int rmo])), (aL6, .inr (8, [.ref aL7])), (aL7, .inl (G.2.1, 80, .inl rd)), (aL8, .inr (8, [.ref aL9])), (aL9, .inl (G.2.1, 5, .inl rw)), (aL10, .inr (8, [.ref aL11])), (aL11, .inl (G.2.1, 5, .inl rp)), (aL12, .inr (0, [.int apa, .int awo, .int ash, .int aja, .int abu]))] (some (.int r_0)) := by
  refine ro_of (by decide) (Nat.le_of_ble_eq_true rfl) ?_
  intro p e s m args below meth c ls hx hb hr hml hown hlk hA hZ hP hl
  replace hown : s.vm.findClass RX9 = some m.cls := hown
  replace hl : lv_has ls 3 [(0, .ref a0)] := hl
  unfold fX9_lostGrooves at hf
  refine lv_iconst (v := 0) hx hb dX9_lostGrooves_0 (by decide) ?_
  refine lv_istore_n (lv' := [(1, .int 0), (0, .ref a0)]) hx hb dX9_lostGrooves_1 rfl hl (by decide) rfl (fun ls hl => ?_)
  refine lv_iconst (v := 0) hx hb dX9_lostGrooves_2 (by decide) ?_
  refine lv_istore_n (lv' := [(2, .int 0), (1, .int 0), (0, .ref a0)]) hx hb dX9_lostGrooves_3 rfl hl (by decide) rfl (fun ls hl => ?_)
  have lp4 : ∀   (n : Nat) (v1 : Int32) (v2 : Int32)  (x1_7 : Int32) (Q : State → Prop), fX9_lostGrooves_L4 md mch fra n v1 v2 = some x1_7 → ∀ (ls : Array Slot), lv_has ls 3 [(0, .ref a0), (1, .int v1), (2, .int v2)] → (∀ (ls : Array Slot), lv_has ls 3 [(1, .int x1_7)] → W p l e { frames := 2, cells := 0, slots := 0, locals := 47 } s m args below meth c s.heap [] 0 0 Q (F0 m 41 ls [])) → W p l e { frames := 2, cells := 0, slots := 0, locals := 47 } s m args below meth c s.heap [] 0 0 Q (F0 m 4 ls []) := by
    intro  n
    induction n with
    | zero => intro v1 v2 x1_7 Q hf; rw [fX9_lostGrooves_L4] at hf; cases hf
    | succ n ih =>
      intro v1 v2 x1_7 Q hf ls hl kk
      rw [fX9_lostGrooves_L4] at hf
      refine lv_iload_n hx hb dX9_lostGrooves_4 rfl (lv_at hl 2 rfl) ?_
      refine lv_bipush (v := 16) hx hb dX9_lostGrooves_5 (by decide) ?_
      refine lv_icmp_ge (tgt := 41) hx hb dX9_lostGrooves_7 (by decide) (fun c_1 => ?_) (fun c_1 => ?_)
      · replace hf := ifp c_1 hf
        cases hf
        exact kk ls (lv_sub hl [1] rfl)
      · replace hf := ifn c_1 hf
        refine lv_aload_n hx hb dX9_lostGrooves_10 rfl (lv_at hl 0 rfl) ?_
        refine gf_X9_10 hx hb hown hA hP 0 rfl rfl dX9_lostGrooves_11 ?_
        refine lv_iload_n hx hb dX9_lostGrooves_14 rfl (lv_at hl 2 rfl) ?_
        obtain ⟨r_2, q_3, hf⟩ := obd hf
        refine ro_v (n := 1) (As := [.int v2]) (q0 := 0) hx hb hml hown hA (kX4_reading l G aL0 aL1 aL2 aL3 aL4 aL5 aL6 aL7 aL8 aL9 aL10 aL11 aL12 md mch fra fwe fof fsi csh cde csp rd rw rp rco rmo apa awo ash aja abu ltol lchi ljam v2 r_2 q_3) g_X9_253 gd_X4_reading ⟨(Nat.le_of_ble_eq_true rfl), (Nat.le_of_ble_eq_true rfl)⟩ hZ (hP.sub [1, 2, 3, 4, 5, 6, 7, 8, 9, 10, 11, 12, 13] rfl) rfl rfl rfl hl.1 (Nat.le_of_ble_eq_true rfl) ⟨(Nat.le_of_ble_eq_true rfl), (Nat.le_of_ble_eq_true rfl)⟩ dX9_lostGrooves_15 ?_
        refine W.eq (g2 := F0 m 18 ls [.int r_2]) rfl ?_
        refine lv_aload_n hx hb dX9_lostGrooves_18 rfl (lv_at hl 0 rfl) ?_
        refine gf_X9_10 hx hb hown hA hP 0 rfl rfl dX9_lostGrooves_19 ?_
        refine gf_X9_56 hx hb hown hA hP 1 rfl rfl dX9_lostGrooves_22 ?_
        refine lv_iload_n hx hb dX9_lostGrooves_25 rfl (lv_at hl 2 rfl) ?_
        obtain ⟨r_4, q_5, hf⟩ := obd hf
        refine ro_v (n := 1) (As := [.int v2]) (q0 := 0) hx hb hml hown hA (kX6_chosenAt l G aL1 aL2 md mch v2 r_4 q_5) g_X9_262 gd_X6_chosenAt ⟨(Nat.le_of_ble_eq_true rfl), (Nat.le_of_ble_eq_true rfl)⟩ hZ (hP.sub [2, 3] rfl) rfl rfl rfl hl.1 (Nat.le_of_ble_eq_true rfl) ⟨(Nat.le_of_ble_eq_true rfl), (Nat.le_of_ble_eq_true rfl)⟩ dX9_lostGrooves_26 ?_
        refine W.eq (g2 := F0 m 29 ls [.int r_4, .int r_2]) rfl ?_
        refine lv_icmp_le (tgt := 35) hx hb dX9_lostGrooves_29 (by decide) (fun c_6 => ?_) (fun c_6 => ?_)
        · replace hf := ifp c_6 hf
          refine lv_iinc (v := v2 + 1) (lv' := [(2, .int (v2 + 1)), (0, .ref a0), (1, .int v1)]) hx hb dX9_lostGrooves_35 hl (k := 2) rfl rfl (by decide) rfl (fun ls hl => ?_)
          refine lv_goto (tgt := 4) hx hb dX9_lostGrooves_38 (by decide) ?_
          exact ih _ _ _ _ hf ls (lv_sub hl [1, 2, 0] rfl) kk
        · replace hf := ifn c_6 hf
          refine lv_iinc (v := v1 + 1) (lv' := [(1, .int (v1 + 1)), (0, .ref a0), (2, .int v2)]) hx hb dX9_lostGrooves_32 hl (k := 1) rfl rfl (by decide) rfl (fun ls hl => ?_)
          refine lv_iinc (v := v2 + 1) (lv' := [(2, .int (v2 + 1)), (1, .int (v1 + 1)), (0, .ref a0)]) hx hb dX9_lostGrooves_35 hl (k := 2) rfl rfl (by decide) rfl (fun ls hl => ?_)
          refine lv_goto (tgt := 4) hx hb dX9_lostGrooves_38 (by decide) ?_
          exact ih _ _ _ _ hf ls (lv_sub hl [2, 1, 0] rfl) kk
  obtain ⟨x1_7, q_8, hf⟩ := obd hf
  refine lp4 _ _ _ _ _ q_8 ls (lv_sub hl [2, 1, 0] rfl) (fun ls hl => ?_)
  refine lv_iload_n hx hb dX9_lostGrooves_41 rfl (lv_at hl 0 rfl) ?_
  cases hf
  exact ro_iret hx hb hr hlk dX9_lostGrooves_42
def fX9_slimmestMaster_L4 (md : Nat → Int32)  : Nat → Int32 → Int32 → Option (Int32)
  | 0, _, _ => none
  | n9 + 1, v1, v2 => (if 3 ≤ v2 then some v1 else ((fX6_sumOf md v2).bind fun r_2 => ((fX6_sumOf md v1).bind fun r_4 => (if r_4 ≤ r_2 then fX9_slimmestMaster_L4 md n9 v1 (v2 + 1) else fX9_slimmestMaster_L4 md n9 v2 (v2 + 1)))))
def fX9_slimmestMaster (md : Nat → Int32)  : Option (Int32) :=
  ((fX9_slimmestMaster_L4 md 2000 0 1).bind fun x1_7 => some x1_7)
set_option maxHeartbeats 4000000 in
set_option maxRecDepth 100000 in
theorem kX9_slimmestMaster (l : Launch) (G : GG) (a0 aL0 aL1 aL2 aL3 aL4 aL5 aL6 aL7 aL8 aL9 aL10 aL11 aL12 aH0 aT0 aW0 aE0 : Nat) (md : Nat → Int32) (mch : Int32) (fra : Int32) (fwe : Int32) (fof : Int32) (fsi : Int32) (csh : Int32) (cde : Int32) (csp : Int32) (rd : Nat → Int32) (rw : Nat → Int32) (rp : Nat → Int32) (rco : Int32) (rmo : Int32) (apa : Int32) (awo : Int32) (ash : Int32) (aja : Int32) (abu : Int32) (ltol : Int32) (lchi : Int32) (ljam : Int32)  (r_0 : Int32) (hf : fX9_slimmestMaster md = some r_0) : Ro l G yX9_slimmestMaster cX9_slimmestMaster 3 (some .int) 2 46 [.ref a0] [(a0, .inr (9, [.ref aL0, .ref aH0, .ref aT0, .ref aW0, .ref aE0])), (aL0, .inr (4, [.ref aL1, .ref aL3, .ref aL4, .ref aL5, .ref aL12, .int ltol, .int lchi, .int ljam])), (aL1, .inr (6, [.ref aL2, .int mch])), (aL2, .inl (G.2.1, 48, .inl md)), (aL3, .inr (2, [.int fra, .int fwe, .int fof, .int fsi])), (aL4, .inr (1, [.int csh, .int cde, .int csp])), (aL5, .inr (7, [.ref aL6, .ref aL8, .ref aL10, .int rco, .int rmo])), (aL6, .inr (8, [.ref aL7])), (aL7, .inl (G.2.1, 80, .inl rd)), (aL8, .inr (8, [.ref aL9])), (aL9, .inl (G.2.1, 5, .inl rw)), (aL10, .inr (8, [.ref aL11])), (aL11, .inl (G.2.1, 5, .inl rp)), (aL12, .inr (0, [.int apa, .int awo, .int ash, .int aja, .int abu]))] (some (.int r_0)) := by
  refine ro_of (by decide) (Nat.le_of_ble_eq_true rfl) ?_
  intro p e s m args below meth c ls hx hb hr hml hown hlk hA hZ hP hl
  replace hown : s.vm.findClass RX9 = some m.cls := hown
  replace hl : lv_has ls 3 [(0, .ref a0)] := hl
  unfold fX9_slimmestMaster at hf
  refine lv_iconst (v := 0) hx hb dX9_slimmestMaster_0 (by decide) ?_
  refine lv_istore_n (lv' := [(1, .int 0), (0, .ref a0)]) hx hb dX9_slimmestMaster_1 rfl hl (by decide) rfl (fun ls hl => ?_)
  refine lv_iconst (v := 1) hx hb dX9_slimmestMaster_2 (by decide) ?_
  refine lv_istore_n (lv' := [(2, .int 1), (1, .int 0), (0, .ref a0)]) hx hb dX9_slimmestMaster_3 rfl hl (by decide) rfl (fun ls hl => ?_)
  have lp4 : ∀   (n : Nat) (v1 : Int32) (v2 : Int32)  (x1_7 : Int32) (Q : State → Prop), fX9_slimmestMaster_L4 md n v1 v2 = some x1_7 → ∀ (ls : Array Slot), lv_has ls 3 [(0, .ref a0), (1, .int v1), (2, .int v2)] → (∀ (ls : Array Slot), lv_has ls 3 [(1, .int x1_7)] → W p l e { frames := 2, cells := 0, slots := 0, locals := 46 } s m args below meth c s.heap [] 0 0 Q (F0 m 42 ls [])) → W p l e { frames := 2, cells := 0, slots := 0, locals := 46 } s m args below meth c s.heap [] 0 0 Q (F0 m 4 ls []) := by
    intro  n
    induction n with
    | zero => intro v1 v2 x1_7 Q hf; rw [fX9_slimmestMaster_L4] at hf; cases hf
    | succ n ih =>
      intro v1 v2 x1_7 Q hf ls hl kk
      rw [fX9_slimmestMaster_L4] at hf
      refine lv_iload_n hx hb dX9_slimmestMaster_4 rfl (lv_at hl 2 rfl) ?_
      refine lv_iconst (v := 3) hx hb dX9_slimmestMaster_5 (by decide) ?_
      refine lv_icmp_ge (tgt := 42) hx hb dX9_slimmestMaster_6 (by decide) (fun c_1 => ?_) (fun c_1 => ?_)
      · replace hf := ifp c_1 hf
        cases hf
        exact kk ls (lv_sub hl [1] rfl)
      · replace hf := ifn c_1 hf
        refine lv_aload_n hx hb dX9_slimmestMaster_9 rfl (lv_at hl 0 rfl) ?_
        refine gf_X9_10 hx hb hown hA hP 0 rfl rfl dX9_slimmestMaster_10 ?_
        refine gf_X9_56 hx hb hown hA hP 1 rfl rfl dX9_slimmestMaster_13 ?_
        refine lv_iload_n hx hb dX9_slimmestMaster_16 rfl (lv_at hl 2 rfl) ?_
        obtain ⟨r_2, q_3, hf⟩ := obd hf
        refine ro_v (n := 1) (As := [.int v2]) (q0 := 0) hx hb hml hown hA (kX6_sumOf l G aL1 aL2 md mch v2 r_2 q_3) g_X9_265 gd_X6_sumOf ⟨(Nat.le_of_ble_eq_true rfl), (Nat.le_of_ble_eq_true rfl)⟩ hZ (hP.sub [2, 3] rfl) rfl rfl rfl hl.1 (Nat.le_of_ble_eq_true rfl) ⟨(Nat.le_of_ble_eq_true rfl), (Nat.le_of_ble_eq_true rfl)⟩ dX9_slimmestMaster_17 ?_
        refine W.eq (g2 := F0 m 20 ls [.int r_2]) rfl ?_
        refine lv_aload_n hx hb dX9_slimmestMaster_20 rfl (lv_at hl 0 rfl) ?_
        refine gf_X9_10 hx hb hown hA hP 0 rfl rfl dX9_slimmestMaster_21 ?_
        refine gf_X9_56 hx hb hown hA hP 1 rfl rfl dX9_slimmestMaster_24 ?_
        refine lv_iload_n hx hb dX9_slimmestMaster_27 rfl (lv_at hl 1 rfl) ?_
        obtain ⟨r_4, q_5, hf⟩ := obd hf
        refine ro_v (n := 1) (As := [.int v1]) (q0 := 0) hx hb hml hown hA (kX6_sumOf l G aL1 aL2 md mch v1 r_4 q_5) g_X9_265 gd_X6_sumOf ⟨(Nat.le_of_ble_eq_true rfl), (Nat.le_of_ble_eq_true rfl)⟩ hZ (hP.sub [2, 3] rfl) rfl rfl rfl hl.1 (Nat.le_of_ble_eq_true rfl) ⟨(Nat.le_of_ble_eq_true rfl), (Nat.le_of_ble_eq_true rfl)⟩ dX9_slimmestMaster_28 ?_
        refine W.eq (g2 := F0 m 31 ls [.int r_4, .int r_2]) rfl ?_
        refine lv_icmp_ge (tgt := 36) hx hb dX9_slimmestMaster_31 (by decide) (fun c_6 => ?_) (fun c_6 => ?_)
        · replace hf := ifp c_6 hf
          refine lv_iinc (v := v2 + 1) (lv' := [(2, .int (v2 + 1)), (0, .ref a0), (1, .int v1)]) hx hb dX9_slimmestMaster_36 hl (k := 2) rfl rfl (by decide) rfl (fun ls hl => ?_)
          refine lv_goto (tgt := 4) hx hb dX9_slimmestMaster_39 (by decide) ?_
          exact ih _ _ _ _ hf ls (lv_sub hl [1, 2, 0] rfl) kk
        · replace hf := ifn c_6 hf
          refine lv_iload_n hx hb dX9_slimmestMaster_34 rfl (lv_at hl 2 rfl) ?_
          refine lv_istore_n (lv' := [(1, .int v2), (0, .ref a0), (2, .int v2)]) hx hb dX9_slimmestMaster_35 rfl hl (by decide) rfl (fun ls hl => ?_)
          refine lv_iinc (v := v2 + 1) (lv' := [(2, .int (v2 + 1)), (1, .int v2), (0, .ref a0)]) hx hb dX9_slimmestMaster_36 hl (k := 2) rfl rfl (by decide) rfl (fun ls hl => ?_)
          refine lv_goto (tgt := 4) hx hb dX9_slimmestMaster_39 (by decide) ?_
          exact ih _ _ _ _ hf ls (lv_sub hl [2, 1, 0] rfl) kk
  obtain ⟨x1_7, q_8, hf⟩ := obd hf
  refine lp4 _ _ _ _ _ q_8 ls (lv_sub hl [2, 1, 0] rfl) (fun ls hl => ?_)
  refine lv_iload_n hx hb dX9_slimmestMaster_42 rfl (lv_at hl 0 rfl) ?_
  cases hf
  exact ro_iret hx hb hr hlk dX9_slimmestMaster_43
def fX9_tooThick_L9 (md : Nat → Int32) (mch : Int32) (rd : Nat → Int32) (v1 : Int32) : Nat → Int32 → Int32 → Option (Int32)
  | 0, _, _ => none
  | n9 + 1, v2, v3 => (if 16 ≤ v3 then some v2 else ((fX4_difference md rd v1 mch v3).bind fun r_3 => fX9_tooThick_L9 md mch rd v1 n9 (mxI v2 r_3) (v3 + 1)))
def fX9_tooThick (md : Nat → Int32) (mch : Int32) (rd : Nat → Int32) (rco : Int32) (i1 : Int32) : Option (Nat ⊕ (Int32)) :=
  ((fX9_checkPiece rco i1).bind fun z => match z with | .inl e => some (.inl e) | .inr _ => (Option.map Sum.inr (((fX9_tooThick_L9 md mch rd i1 2000 0 0).bind fun x2_5 => some x2_5))))
set_option maxHeartbeats 4000000 in
set_option maxRecDepth 100000 in
theorem kX9_tooThick (l : Launch) (G : GG) (a0 aL0 aL1 aL2 aL3 aL4 aL5 aL6 aL7 aL8 aL9 aL10 aL11 aL12 aH0 aT0 aW0 aE0 : Nat) (md : Nat → Int32) (mch : Int32) (fra : Int32) (fwe : Int32) (fof : Int32) (fsi : Int32) (csh : Int32) (cde : Int32) (csp : Int32) (rd : Nat → Int32) (rw : Nat → Int32) (rp : Nat → Int32) (rco : Int32) (rmo : Int32) (apa : Int32) (awo : Int32) (ash : Int32) (aja : Int32) (abu : Int32) (ltol : Int32) (lchi : Int32) (ljam : Int32) (i1 : Int32) (r_0 : Int32) (hf : fX9_tooThick md mch rd rco i1 = some (.inr r_0)) : Ro l G yX9_tooThick cX9_tooThick 4 (some .int) 8 123 [.ref a0, .int i1] [(a0, .inr (9, [.ref aL0, .ref aH0, .ref aT0, .ref aW0, .ref aE0])), (aL0, .inr (4, [.ref aL1, .ref aL3, .ref aL4, .ref aL5, .ref aL12, .int ltol, .int lchi, .int ljam])), (aL1, .inr (6, [.ref aL2, .int mch])), (aL2, .inl (G.2.1, 48, .inl md)), (aL3, .inr (2, [.int fra, .int fwe, .int fof, .int fsi])), (aL4, .inr (1, [.int csh, .int cde, .int csp])), (aL5, .inr (7, [.ref aL6, .ref aL8, .ref aL10, .int rco, .int rmo])), (aL6, .inr (8, [.ref aL7])), (aL7, .inl (G.2.1, 80, .inl rd)), (aL8, .inr (8, [.ref aL9])), (aL9, .inl (G.2.1, 5, .inl rw)), (aL10, .inr (8, [.ref aL11])), (aL11, .inl (G.2.1, 5, .inl rp)), (aL12, .inr (0, [.int apa, .int awo, .int ash, .int aja, .int abu]))] (some (.int r_0)) := by
  refine ro_of (by decide) (Nat.le_of_ble_eq_true rfl) ?_
  intro p e s m args below meth c ls hx hb hr hml hown hlk hA hZ hP hl
  replace hown : s.vm.findClass RX9 = some m.cls := hown
  replace hl : lv_has ls 4 [(0, .ref a0), (1, .int i1)] := hl
  unfold fX9_tooThick at hf
  refine lv_aload_n hx hb dX9_tooThick_0 rfl (lv_at hl 0 rfl) ?_
  refine lv_iload_n hx hb dX9_tooThick_1 rfl (lv_at hl 1 rfl) ?_
  obtain ⟨e9 | u9, q_1, hf⟩ := obd hf
  · dsimp only at hf
    cases hf
  dsimp only at hf
  replace hf := omr hf
  refine ro_v (n := 1) (As := [.int i1]) (q0 := 0) hx hb hml hown hA (kX9_checkPiece l G a0 aL0 aL1 aL2 aL3 aL4 aL5 aL6 aL7 aL8 aL9 aL10 aL11 aL12 aH0 aT0 aW0 aE0 md mch fra fwe fof fsi csh cde csp rd rw rp rco rmo apa awo ash aja abu ltol lchi ljam i1 q_1) g_X9_149 gd_X9_checkPiece ⟨(Nat.le_of_ble_eq_true rfl), (Nat.le_of_ble_eq_true rfl)⟩ hZ (hP.sub [0, 1, 2, 3, 4, 5, 6, 7, 8, 9, 10, 11, 12, 13] rfl) rfl rfl rfl hl.1 (Nat.le_of_ble_eq_true rfl) ⟨(Nat.le_of_ble_eq_true rfl), (Nat.le_of_ble_eq_true rfl)⟩ dX9_tooThick_2 ?_
  refine W.eq (g2 := F0 m 5 ls []) rfl ?_
  refine lv_iconst (v := 0) hx hb dX9_tooThick_5 (by decide) ?_
  refine lv_istore_n (lv' := [(2, .int 0), (0, .ref a0), (1, .int i1)]) hx hb dX9_tooThick_6 rfl hl (by decide) rfl (fun ls hl => ?_)
  refine lv_iconst (v := 0) hx hb dX9_tooThick_7 (by decide) ?_
  refine lv_istore_n (lv' := [(3, .int 0), (2, .int 0), (0, .ref a0), (1, .int i1)]) hx hb dX9_tooThick_8 rfl hl (by decide) rfl (fun ls hl => ?_)
  have lp9 : ∀ (v1 : Int32)  (n : Nat) (v2 : Int32) (v3 : Int32)  (x2_5 : Int32) (Q : State → Prop), fX9_tooThick_L9 md mch rd v1 n v2 v3 = some x2_5 → ∀ (ls : Array Slot), lv_has ls 4 [(0, .ref a0), (1, .int v1), (2, .int v2), (3, .int v3)] → (∀ (ls : Array Slot), lv_has ls 4 [(2, .int x2_5)] → W p l e { frames := 8, cells := 0, slots := 0, locals := 123 } s m args below meth c s.heap [] 0 0 Q (F0 m 45 ls [])) → W p l e { frames := 8, cells := 0, slots := 0, locals := 123 } s m args below meth c s.heap [] 0 0 Q (F0 m 9 ls []) := by
    intro v1 n
    induction n with
    | zero => intro v2 v3 x2_5 Q hf; rw [fX9_tooThick_L9] at hf; cases hf
    | succ n ih =>
      intro v2 v3 x2_5 Q hf ls hl kk
      rw [fX9_tooThick_L9] at hf
      refine lv_iload_n hx hb dX9_tooThick_9 rfl (lv_at hl 3 rfl) ?_
      refine lv_bipush (v := 16) hx hb dX9_tooThick_10 (by decide) ?_
      refine lv_icmp_ge (tgt := 45) hx hb dX9_tooThick_12 (by decide) (fun c_2 => ?_) (fun c_2 => ?_)
      · replace hf := ifp c_2 hf
        cases hf
        exact kk ls (lv_sub hl [2] rfl)
      · replace hf := ifn c_2 hf
        refine lv_iload_n hx hb dX9_tooThick_15 rfl (lv_at hl 2 rfl) ?_
        refine lv_aload_n hx hb dX9_tooThick_16 rfl (lv_at hl 0 rfl) ?_
        refine gf_X9_10 hx hb hown hA hP 0 rfl rfl dX9_tooThick_17 ?_
        refine lv_iload_n hx hb dX9_tooThick_20 rfl (lv_at hl 1 rfl) ?_
        refine lv_aload_n hx hb dX9_tooThick_21 rfl (lv_at hl 0 rfl) ?_
        refine gf_X9_10 hx hb hown hA hP 0 rfl rfl dX9_tooThick_22 ?_
        refine gf_X9_56 hx hb hown hA hP 1 rfl rfl dX9_tooThick_25 ?_
        refine gf_X9_76 hx hb hown hA hP 2 rfl rfl dX9_tooThick_28 ?_
        refine lv_iload_n hx hb dX9_tooThick_31 rfl (lv_at hl 3 rfl) ?_
        obtain ⟨r_3, q_4, hf⟩ := obd hf
        refine ro_v (n := 3) (As := [.int v1, .int mch, .int v3]) (q0 := 0) hx hb hml hown hA (kX4_difference l G aL0 aL1 aL2 aL3 aL4 aL5 aL6 aL7 aL8 aL9 aL10 aL11 aL12 md mch fra fwe fof fsi csh cde csp rd rw rp rco rmo apa awo ash aja abu ltol lchi ljam v1 mch v3 r_3 q_4) g_X9_268 gd_X4_difference ⟨(Nat.le_of_ble_eq_true rfl), (Nat.le_of_ble_eq_true rfl)⟩ hZ (hP.sub [1, 2, 3, 4, 5, 6, 7, 8, 9, 10, 11, 12, 13] rfl) rfl rfl rfl hl.1 (Nat.le_of_ble_eq_true rfl) ⟨(Nat.le_of_ble_eq_true rfl), (Nat.le_of_ble_eq_true rfl)⟩ dX9_tooThick_32 ?_
        refine W.eq (g2 := F0 m 35 ls [.int r_3, .int v2]) rfl ?_
        refine va_mmax hx hb (hml.trans hl.1.symm) hown (hA.hts _ wd_504) (hA.hts _ wd_23) (hA.hts _ wd_24) (hA.hts _ wd_25) (Nat.le_of_ble_eq_true rfl) (Nat.le_of_ble_eq_true rfl) (Nat.le_of_ble_eq_true rfl) (Nat.le_of_ble_eq_true rfl) dX9_tooThick_35 ?_
        refine lv_istore_n (lv' := [(2, .int (mxI v2 r_3)), (0, .ref a0), (1, .int v1), (3, .int v3)]) hx hb dX9_tooThick_38 rfl hl (by decide) rfl (fun ls hl => ?_)
        refine lv_iinc (v := v3 + 1) (lv' := [(3, .int (v3 + 1)), (2, .int (mxI v2 r_3)), (0, .ref a0), (1, .int v1)]) hx hb dX9_tooThick_39 hl (k := 3) rfl rfl (by decide) rfl (fun ls hl => ?_)
        refine lv_goto (tgt := 9) hx hb dX9_tooThick_42 (by decide) ?_
        exact ih _ _ _ _ hf ls (lv_sub hl [2, 3, 1, 0] rfl) kk
  obtain ⟨x2_5, q_6, hf⟩ := obd hf
  refine lp9 _ _ _ _ _ _ q_6 ls (lv_sub hl [2, 3, 1, 0] rfl) (fun ls hl => ?_)
  refine lv_iload_n hx hb dX9_tooThick_45 rfl (lv_at hl 0 rfl) ?_
  cases hf
  exact ro_iret hx hb hr hlk dX9_tooThick_46
set_option maxHeartbeats 4000000 in
set_option maxRecDepth 100000 in
theorem tX9_tooThick (l : Launch) (hst : l.stackTraces = false) (G : GG) (a0 aL0 aL1 aL2 aL3 aL4 aL5 aL6 aL7 aL8 aL9 aL10 aL11 aL12 aH0 aT0 aW0 aE0 : Nat) (md : Nat → Int32) (mch : Int32) (fra : Int32) (fwe : Int32) (fof : Int32) (fsi : Int32) (csh : Int32) (cde : Int32) (csp : Int32) (rd : Nat → Int32) (rw : Nat → Int32) (rp : Nat → Int32) (rco : Int32) (rmo : Int32) (apa : Int32) (awo : Int32) (ash : Int32) (aja : Int32) (abu : Int32) (ltol : Int32) (lchi : Int32) (ljam : Int32) (i1 : Int32) (k9 : Nat) (hf : fX9_tooThick md mch rd rco i1 = some (.inl k9)) : Th l G yX9_tooThick cX9_tooThick 4 (some .int) 8 123 [.ref a0, .int i1] [(a0, .inr (9, [.ref aL0, .ref aH0, .ref aT0, .ref aW0, .ref aE0])), (aL0, .inr (4, [.ref aL1, .ref aL3, .ref aL4, .ref aL5, .ref aL12, .int ltol, .int lchi, .int ljam])), (aL1, .inr (6, [.ref aL2, .int mch])), (aL2, .inl (G.2.1, 48, .inl md)), (aL3, .inr (2, [.int fra, .int fwe, .int fof, .int fsi])), (aL4, .inr (1, [.int csh, .int cde, .int csp])), (aL5, .inr (7, [.ref aL6, .ref aL8, .ref aL10, .int rco, .int rmo])), (aL6, .inr (8, [.ref aL7])), (aL7, .inl (G.2.1, 80, .inl rd)), (aL8, .inr (8, [.ref aL9])), (aL9, .inl (G.2.1, 5, .inl rw)), (aL10, .inr (8, [.ref aL11])), (aL11, .inl (G.2.1, 5, .inl rp)), (aL12, .inr (0, [.int apa, .int awo, .int ash, .int aja, .int abu]))] (exn k9) := by
  refine th_of (by decide) (Nat.le_of_ble_eq_true rfl) ?_
  intro p e s m args below meth c ls hx hb het hml hown hlk hA hZ hP hl
  replace hown : s.vm.findClass RX9 = some m.cls := hown
  replace hl : lv_has ls 4 [(0, .ref a0), (1, .int i1)] := hl
  unfold fX9_tooThick at hf
  refine lv_aload_n hx hb dX9_tooThick_0 rfl (lv_at hl 0 rfl) ?_
  refine lv_iload_n hx hb dX9_tooThick_1 rfl (lv_at hl 1 rfl) ?_
  obtain ⟨e9 | u9, q_1, hf⟩ := obd hf
  · dsimp only at hf
    cases hf
    exact th_v (n := 1) (As := [.int i1]) (q0 := 0) hx hb het hlk hml hown hA (tX9_checkPiece l hst G a0 aL0 aL1 aL2 aL3 aL4 aL5 aL6 aL7 aL8 aL9 aL10 aL11 aL12 aH0 aT0 aW0 aE0 md mch fra fwe fof fsi csh cde csp rd rw rp rco rmo apa awo ash aja abu ltol lchi ljam i1 _ q_1) g_X9_149 gd_X9_checkPiece ⟨(Nat.le_of_ble_eq_true rfl), (Nat.le_of_ble_eq_true rfl)⟩ hZ (hP.sub [0, 1, 2, 3, 4, 5, 6, 7, 8, 9, 10, 11, 12, 13] rfl) rfl rfl rfl hl.1 (Nat.le_of_ble_eq_true rfl) ⟨(Nat.le_of_ble_eq_true rfl), (Nat.le_of_ble_eq_true rfl)⟩ dX9_tooThick_2
  dsimp only at hf
  exact (oml hf).elim
def fX9_tooThin_L9 (md : Nat → Int32) (mch : Int32) (rd : Nat → Int32) (v1 : Int32) : Nat → Int32 → Int32 → Option (Int32)
  | 0, _, _ => none
  | n9 + 1, v2, v3 => (if 16 ≤ v3 then some v2 else ((fX4_difference md rd v1 mch v3).bind fun r_3 => fX9_tooThin_L9 md mch rd v1 n9 (mxI v2 (-r_3)) (v3 + 1)))
def fX9_tooThin (md : Nat → Int32) (mch : Int32) (rd : Nat → Int32) (rco : Int32) (i1 : Int32) : Option (Nat ⊕ (Int32)) :=
  ((fX9_checkPiece rco i1).bind fun z => match z with | .inl e => some (.inl e) | .inr _ => (Option.map Sum.inr (((fX9_tooThin_L9 md mch rd i1 2000 0 0).bind fun x2_5 => some x2_5))))
set_option maxHeartbeats 4000000 in
set_option maxRecDepth 100000 in
theorem kX9_tooThin (l : Launch) (G : GG) (a0 aL0 aL1 aL2 aL3 aL4 aL5 aL6 aL7 aL8 aL9 aL10 aL11 aL12 aH0 aT0 aW0 aE0 : Nat) (md : Nat → Int32) (mch : Int32) (fra : Int32) (fwe : Int32) (fof : Int32) (fsi : Int32) (csh : Int32) (cde : Int32) (csp : Int32) (rd : Nat → Int32) (rw : Nat → Int32) (rp : Nat → Int32) (rco : Int32) (rmo : Int32) (apa : Int32) (awo : Int32) (ash : Int32) (aja : Int32) (abu : Int32) (ltol : Int32) (lchi : Int32) (ljam : Int32) (i1 : Int32) (r_0 : Int32) (hf : fX9_tooThin md mch rd rco i1 = some (.inr r_0)) : Ro l G yX9_tooThin cX9_tooThin 4 (some .int) 8 123 [.ref a0, .int i1] [(a0, .inr (9, [.ref aL0, .ref aH0, .ref aT0, .ref aW0, .ref aE0])), (aL0, .inr (4, [.ref aL1, .ref aL3, .ref aL4, .ref aL5, .ref aL12, .int ltol, .int lchi, .int ljam])), (aL1, .inr (6, [.ref aL2, .int mch])), (aL2, .inl (G.2.1, 48, .inl md)), (aL3, .inr (2, [.int fra, .int fwe, .int fof, .int fsi])), (aL4, .inr (1, [.int csh, .int cde, .int csp])), (aL5, .inr (7, [.ref aL6, .ref aL8, .ref aL10, .int rco, .int rmo])), (aL6, .inr (8, [.ref aL7])), (aL7, .inl (G.2.1, 80, .inl rd)), (aL8, .inr (8, [.ref aL9])), (aL9, .inl (G.2.1, 5, .inl rw)), (aL10, .inr (8, [.ref aL11])), (aL11, .inl (G.2.1, 5, .inl rp)), (aL12, .inr (0, [.int apa, .int awo, .int ash, .int aja, .int abu]))] (some (.int r_0)) := by
  refine ro_of (by decide) (Nat.le_of_ble_eq_true rfl) ?_
  intro p e s m args below meth c ls hx hb hr hml hown hlk hA hZ hP hl
  replace hown : s.vm.findClass RX9 = some m.cls := hown
  replace hl : lv_has ls 4 [(0, .ref a0), (1, .int i1)] := hl
  unfold fX9_tooThin at hf
  refine lv_aload_n hx hb dX9_tooThin_0 rfl (lv_at hl 0 rfl) ?_
  refine lv_iload_n hx hb dX9_tooThin_1 rfl (lv_at hl 1 rfl) ?_
  obtain ⟨e9 | u9, q_1, hf⟩ := obd hf
  · dsimp only at hf
    cases hf
  dsimp only at hf
  replace hf := omr hf
  refine ro_v (n := 1) (As := [.int i1]) (q0 := 0) hx hb hml hown hA (kX9_checkPiece l G a0 aL0 aL1 aL2 aL3 aL4 aL5 aL6 aL7 aL8 aL9 aL10 aL11 aL12 aH0 aT0 aW0 aE0 md mch fra fwe fof fsi csh cde csp rd rw rp rco rmo apa awo ash aja abu ltol lchi ljam i1 q_1) g_X9_149 gd_X9_checkPiece ⟨(Nat.le_of_ble_eq_true rfl), (Nat.le_of_ble_eq_true rfl)⟩ hZ (hP.sub [0, 1, 2, 3, 4, 5, 6, 7, 8, 9, 10, 11, 12, 13] rfl) rfl rfl rfl hl.1 (Nat.le_of_ble_eq_true rfl) ⟨(Nat.le_of_ble_eq_true rfl), (Nat.le_of_ble_eq_true rfl)⟩ dX9_tooThin_2 ?_
  refine W.eq (g2 := F0 m 5 ls []) rfl ?_
  refine lv_iconst (v := 0) hx hb dX9_tooThin_5 (by decide) ?_
  refine lv_istore_n (lv' := [(2, .int 0), (0, .ref a0), (1, .int i1)]) hx hb dX9_tooThin_6 rfl hl (by decide) rfl (fun ls hl => ?_)
  refine lv_iconst (v := 0) hx hb dX9_tooThin_7 (by decide) ?_
  refine lv_istore_n (lv' := [(3, .int 0), (2, .int 0), (0, .ref a0), (1, .int i1)]) hx hb dX9_tooThin_8 rfl hl (by decide) rfl (fun ls hl => ?_)
  have lp9 : ∀ (v1 : Int32)  (n : Nat) (v2 : Int32) (v3 : Int32)  (x2_5 : Int32) (Q : State → Prop), fX9_tooThin_L9 md mch rd v1 n v2 v3 = some x2_5 → ∀ (ls : Array Slot), lv_has ls 4 [(0, .ref a0), (1, .int v1), (2, .int v2), (3, .int v3)] → (∀ (ls : Array Slot), lv_has ls 4 [(2, .int x2_5)] → W p l e { frames := 8, cells := 0, slots := 0, locals := 123 } s m args below meth c s.heap [] 0 0 Q (F0 m 46 ls [])) → W p l e { frames := 8, cells := 0, slots := 0, locals := 123 } s m args below meth c s.heap [] 0 0 Q (F0 m 9 ls []) := by
    intro v1 n
    induction n with
    | zero => intro v2 v3 x2_5 Q hf; rw [fX9_tooThin_L9] at hf; cases hf
    | succ n ih =>
      intro v2 v3 x2_5 Q hf ls hl kk
      rw [fX9_tooThin_L9] at hf
      refine lv_iload_n hx hb dX9_tooThin_9 rfl (lv_at hl 3 rfl) ?_
      refine lv_bipush (v := 16) hx hb dX9_tooThin_10 (by decide) ?_
      refine lv_icmp_ge (tgt := 46) hx hb dX9_tooThin_12 (by decide) (fun c_2 => ?_) (fun c_2 => ?_)
      · replace hf := ifp c_2 hf
        cases hf
        exact kk ls (lv_sub hl [2] rfl)
      · replace hf := ifn c_2 hf
        refine lv_iload_n hx hb dX9_tooThin_15 rfl (lv_at hl 2 rfl) ?_
        refine lv_aload_n hx hb dX9_tooThin_16 rfl (lv_at hl 0 rfl) ?_
        refine gf_X9_10 hx hb hown hA hP 0 rfl rfl dX9_tooThin_17 ?_
        refine lv_iload_n hx hb dX9_tooThin_20 rfl (lv_at hl 1 rfl) ?_
        refine lv_aload_n hx hb dX9_tooThin_21 rfl (lv_at hl 0 rfl) ?_
        refine gf_X9_10 hx hb hown hA hP 0 rfl rfl dX9_tooThin_22 ?_
        refine gf_X9_56 hx hb hown hA hP 1 rfl rfl dX9_tooThin_25 ?_
        refine gf_X9_76 hx hb hown hA hP 2 rfl rfl dX9_tooThin_28 ?_
        refine lv_iload_n hx hb dX9_tooThin_31 rfl (lv_at hl 3 rfl) ?_
        obtain ⟨r_3, q_4, hf⟩ := obd hf
        refine ro_v (n := 3) (As := [.int v1, .int mch, .int v3]) (q0 := 0) hx hb hml hown hA (kX4_difference l G aL0 aL1 aL2 aL3 aL4 aL5 aL6 aL7 aL8 aL9 aL10 aL11 aL12 md mch fra fwe fof fsi csh cde csp rd rw rp rco rmo apa awo ash aja abu ltol lchi ljam v1 mch v3 r_3 q_4) g_X9_268 gd_X4_difference ⟨(Nat.le_of_ble_eq_true rfl), (Nat.le_of_ble_eq_true rfl)⟩ hZ (hP.sub [1, 2, 3, 4, 5, 6, 7, 8, 9, 10, 11, 12, 13] rfl) rfl rfl rfl hl.1 (Nat.le_of_ble_eq_true rfl) ⟨(Nat.le_of_ble_eq_true rfl), (Nat.le_of_ble_eq_true rfl)⟩ dX9_tooThin_32 ?_
        refine W.eq (g2 := F0 m 35 ls [.int r_3, .int v2]) rfl ?_
        refine lv_ineg hx hb dX9_tooThin_35 ?_
        refine va_mmax hx hb (hml.trans hl.1.symm) hown (hA.hts _ wd_504) (hA.hts _ wd_23) (hA.hts _ wd_24) (hA.hts _ wd_25) (Nat.le_of_ble_eq_true rfl) (Nat.le_of_ble_eq_true rfl) (Nat.le_of_ble_eq_true rfl) (Nat.le_of_ble_eq_true rfl) dX9_tooThin_36 ?_
        refine lv_istore_n (lv' := [(2, .int (mxI v2 (-r_3))), (0, .ref a0), (1, .int v1), (3, .int v3)]) hx hb dX9_tooThin_39 rfl hl (by decide) rfl (fun ls hl => ?_)
        refine lv_iinc (v := v3 + 1) (lv' := [(3, .int (v3 + 1)), (2, .int (mxI v2 (-r_3))), (0, .ref a0), (1, .int v1)]) hx hb dX9_tooThin_40 hl (k := 3) rfl rfl (by decide) rfl (fun ls hl => ?_)
        refine lv_goto (tgt := 9) hx hb dX9_tooThin_43 (by decide) ?_
        exact ih _ _ _ _ hf ls (lv_sub hl [2, 3, 1, 0] rfl) kk
  obtain ⟨x2_5, q_6, hf⟩ := obd hf
  refine lp9 _ _ _ _ _ _ q_6 ls (lv_sub hl [2, 3, 1, 0] rfl) (fun ls hl => ?_)
  refine lv_iload_n hx hb dX9_tooThin_46 rfl (lv_at hl 0 rfl) ?_
  cases hf
  exact ro_iret hx hb hr hlk dX9_tooThin_47
set_option maxHeartbeats 4000000 in
set_option maxRecDepth 100000 in
theorem tX9_tooThin (l : Launch) (hst : l.stackTraces = false) (G : GG) (a0 aL0 aL1 aL2 aL3 aL4 aL5 aL6 aL7 aL8 aL9 aL10 aL11 aL12 aH0 aT0 aW0 aE0 : Nat) (md : Nat → Int32) (mch : Int32) (fra : Int32) (fwe : Int32) (fof : Int32) (fsi : Int32) (csh : Int32) (cde : Int32) (csp : Int32) (rd : Nat → Int32) (rw : Nat → Int32) (rp : Nat → Int32) (rco : Int32) (rmo : Int32) (apa : Int32) (awo : Int32) (ash : Int32) (aja : Int32) (abu : Int32) (ltol : Int32) (lchi : Int32) (ljam : Int32) (i1 : Int32) (k9 : Nat) (hf : fX9_tooThin md mch rd rco i1 = some (.inl k9)) : Th l G yX9_tooThin cX9_tooThin 4 (some .int) 8 123 [.ref a0, .int i1] [(a0, .inr (9, [.ref aL0, .ref aH0, .ref aT0, .ref aW0, .ref aE0])), (aL0, .inr (4, [.ref aL1, .ref aL3, .ref aL4, .ref aL5, .ref aL12, .int ltol, .int lchi, .int ljam])), (aL1, .inr (6, [.ref aL2, .int mch])), (aL2, .inl (G.2.1, 48, .inl md)), (aL3, .inr (2, [.int fra, .int fwe, .int fof, .int fsi])), (aL4, .inr (1, [.int csh, .int cde, .int csp])), (aL5, .inr (7, [.ref aL6, .ref aL8, .ref aL10, .int rco, .int rmo])), (aL6, .inr (8, [.ref aL7])), (aL7, .inl (G.2.1, 80, .inl rd)), (aL8, .inr (8, [.ref aL9])), (aL9, .inl (G.2.1, 5, .inl rw)), (aL10, .inr (8, [.ref aL11])), (aL11, .inl (G.2.1, 5, .inl rp)), (aL12, .inr (0, [.int apa, .int awo, .int ash, .int aja, .int abu]))] (exn k9) := by
  refine th_of (by decide) (Nat.le_of_ble_eq_true rfl) ?_
  intro p e s m args below meth c ls hx hb het hml hown hlk hA hZ hP hl
  replace hown : s.vm.findClass RX9 = some m.cls := hown
  replace hl : lv_has ls 4 [(0, .ref a0), (1, .int i1)] := hl
  unfold fX9_tooThin at hf
  refine lv_aload_n hx hb dX9_tooThin_0 rfl (lv_at hl 0 rfl) ?_
  refine lv_iload_n hx hb dX9_tooThin_1 rfl (lv_at hl 1 rfl) ?_
  obtain ⟨e9 | u9, q_1, hf⟩ := obd hf
  · dsimp only at hf
    cases hf
    exact th_v (n := 1) (As := [.int i1]) (q0 := 0) hx hb het hlk hml hown hA (tX9_checkPiece l hst G a0 aL0 aL1 aL2 aL3 aL4 aL5 aL6 aL7 aL8 aL9 aL10 aL11 aL12 aH0 aT0 aW0 aE0 md mch fra fwe fof fsi csh cde csp rd rw rp rco rmo apa awo ash aja abu ltol lchi ljam i1 _ q_1) g_X9_149 gd_X9_checkPiece ⟨(Nat.le_of_ble_eq_true rfl), (Nat.le_of_ble_eq_true rfl)⟩ hZ (hP.sub [0, 1, 2, 3, 4, 5, 6, 7, 8, 9, 10, 11, 12, 13] rfl) rfl rfl rfl hl.1 (Nat.le_of_ble_eq_true rfl) ⟨(Nat.le_of_ble_eq_true rfl), (Nat.le_of_ble_eq_true rfl)⟩ dX9_tooThin_2
  dsimp only at hf
  exact (oml hf).elim
def fX9_faultsOf (md : Nat → Int32) (mch : Int32) (rd : Nat → Int32) (rco : Int32) (ltol : Int32) (i1 : Int32) : Option (Nat ⊕ (Int32)) :=
  ((fX9_checkPiece rco i1).bind fun z => match z with | .inl e => some (.inl e) | .inr _ => (Option.map Sum.inr (((fX4_faults md mch rd ltol i1).bind fun r_2 => some r_2))))
set_option maxHeartbeats 4000000 in
set_option maxRecDepth 100000 in
theorem kX9_faultsOf (l : Launch) (G : GG) (a0 aL0 aL1 aL2 aL3 aL4 aL5 aL6 aL7 aL8 aL9 aL10 aL11 aL12 aH0 aT0 aW0 aE0 : Nat) (md : Nat → Int32) (mch : Int32) (fra : Int32) (fwe : Int32) (fof : Int32) (fsi : Int32) (csh : Int32) (cde : Int32) (csp : Int32) (rd : Nat → Int32) (rw : Nat → Int32) (rp : Nat → Int32) (rco : Int32) (rmo : Int32) (apa : Int32) (awo : Int32) (ash : Int32) (aja : Int32) (abu : Int32) (ltol : Int32) (lchi : Int32) (ljam : Int32) (i1 : Int32) (r_0 : Int32) (hf : fX9_faultsOf md mch rd rco ltol i1 = some (.inr r_0)) : Ro l G yX9_faultsOf cX9_faultsOf 2 (some .int) 8 123 [.ref a0, .int i1] [(a0, .inr (9, [.ref aL0, .ref aH0, .ref aT0, .ref aW0, .ref aE0])), (aL0, .inr (4, [.ref aL1, .ref aL3, .ref aL4, .ref aL5, .ref aL12, .int ltol, .int lchi, .int ljam])), (aL1, .inr (6, [.ref aL2, .int mch])), (aL2, .inl (G.2.1, 48, .inl md)), (aL3, .inr (2, [.int fra, .int fwe, .int fof, .int fsi])), (aL4, .inr (1, [.int csh, .int cde, .int csp])), (aL5, .inr (7, [.ref aL6, .ref aL8, .ref aL10, .int rco, .int rmo])), (aL6, .inr (8, [.ref aL7])), (aL7, .inl (G.2.1, 80, .inl rd)), (aL8, .inr (8, [.ref aL9])), (aL9, .inl (G.2.1, 5, .inl rw)), (aL10, .inr (8, [.ref aL11])), (aL11, .inl (G.2.1, 5, .inl rp)), (aL12, .inr (0, [.int apa, .int awo, .int ash, .int aja, .int abu]))] (some (.int r_0)) := by
  refine ro_of (by decide) (Nat.le_of_ble_eq_true rfl) ?_
  intro p e s m args below meth c ls hx hb hr hml hown hlk hA hZ hP hl
  replace hown : s.vm.findClass RX9 = some m.cls := hown
  replace hl : lv_has ls 2 [(0, .ref a0), (1, .int i1)] := hl
  unfold fX9_faultsOf at hf
  refine lv_aload_n hx hb dX9_faultsOf_0 rfl (lv_at hl 0 rfl) ?_
  refine lv_iload_n hx hb dX9_faultsOf_1 rfl (lv_at hl 1 rfl) ?_
  obtain ⟨e9 | u9, q_1, hf⟩ := obd hf
  · dsimp only at hf
    cases hf
  dsimp only at hf
  replace hf := omr hf
  refine ro_v (n := 1) (As := [.int i1]) (q0 := 0) hx hb hml hown hA (kX9_checkPiece l G a0 aL0 aL1 aL2 aL3 aL4 aL5 aL6 aL7 aL8 aL9 aL10 aL11 aL12 aH0 aT0 aW0 aE0 md mch fra fwe fof fsi csh cde csp rd rw rp rco rmo apa awo ash aja abu ltol lchi ljam i1 q_1) g_X9_149 gd_X9_checkPiece ⟨(Nat.le_of_ble_eq_true rfl), (Nat.le_of_ble_eq_true rfl)⟩ hZ (hP.sub [0, 1, 2, 3, 4, 5, 6, 7, 8, 9, 10, 11, 12, 13] rfl) rfl rfl rfl hl.1 (Nat.le_of_ble_eq_true rfl) ⟨(Nat.le_of_ble_eq_true rfl), (Nat.le_of_ble_eq_true rfl)⟩ dX9_faultsOf_2 ?_
  refine W.eq (g2 := F0 m 5 ls []) rfl ?_
  refine lv_aload_n hx hb dX9_faultsOf_5 rfl (lv_at hl 0 rfl) ?_
  refine gf_X9_10 hx hb hown hA hP 0 rfl rfl dX9_faultsOf_6 ?_
  refine lv_iload_n hx hb dX9_faultsOf_9 rfl (lv_at hl 1 rfl) ?_
  obtain ⟨r_2, q_3, hf⟩ := obd hf
  refine ro_v (n := 1) (As := [.int i1]) (q0 := 0) hx hb hml hown hA (kX4_faults l G aL0 aL1 aL2 aL3 aL4 aL5 aL6 aL7 aL8 aL9 aL10 aL11 aL12 md mch fra fwe fof fsi csh cde csp rd rw rp rco rmo apa awo ash aja abu ltol lchi ljam i1 r_2 q_3) g_X9_277 gd_X4_faults ⟨(Nat.le_of_ble_eq_true rfl), (Nat.le_of_ble_eq_true rfl)⟩ hZ (hP.sub [1, 2, 3, 4, 5, 6, 7, 8, 9, 10, 11, 12, 13] rfl) rfl rfl rfl hl.1 (Nat.le_of_ble_eq_true rfl) ⟨(Nat.le_of_ble_eq_true rfl), (Nat.le_of_ble_eq_true rfl)⟩ dX9_faultsOf_10 ?_
  refine W.eq (g2 := F0 m 13 ls [.int r_2]) rfl ?_
  cases hf
  exact ro_iret hx hb hr hlk dX9_faultsOf_13
set_option maxHeartbeats 4000000 in
set_option maxRecDepth 100000 in
theorem tX9_faultsOf (l : Launch) (hst : l.stackTraces = false) (G : GG) (a0 aL0 aL1 aL2 aL3 aL4 aL5 aL6 aL7 aL8 aL9 aL10 aL11 aL12 aH0 aT0 aW0 aE0 : Nat) (md : Nat → Int32) (mch : Int32) (fra : Int32) (fwe : Int32) (fof : Int32) (fsi : Int32) (csh : Int32) (cde : Int32) (csp : Int32) (rd : Nat → Int32) (rw : Nat → Int32) (rp : Nat → Int32) (rco : Int32) (rmo : Int32) (apa : Int32) (awo : Int32) (ash : Int32) (aja : Int32) (abu : Int32) (ltol : Int32) (lchi : Int32) (ljam : Int32) (i1 : Int32) (k9 : Nat) (hf : fX9_faultsOf md mch rd rco ltol i1 = some (.inl k9)) : Th l G yX9_faultsOf cX9_faultsOf 2 (some .int) 8 123 [.ref a0, .int i1] [(a0, .inr (9, [.ref aL0, .ref aH0, .ref aT0, .ref aW0, .ref aE0])), (aL0, .inr (4, [.ref aL1, .ref aL3, .ref aL4, .ref aL5, .ref aL12, .int ltol, .int lchi, .int ljam])), (aL1, .inr (6, [.ref aL2, .int mch])), (aL2, .inl (G.2.1, 48, .inl md)), (aL3, .inr (2, [.int fra, .int fwe, .int fof, .int fsi])), (aL4, .inr (1, [.int csh, .int cde, .int csp])), (aL5, .inr (7, [.ref aL6, .ref aL8, .ref aL10, .int rco, .int rmo])), (aL6, .inr (8, [.ref aL7])), (aL7, .inl (G.2.1, 80, .inl rd)), (aL8, .inr (8, [.ref aL9])), (aL9, .inl (G.2.1, 5, .inl rw)), (aL10, .inr (8, [.ref aL11])), (aL11, .inl (G.2.1, 5, .inl rp)), (aL12, .inr (0, [.int apa, .int awo, .int ash, .int aja, .int abu]))] (exn k9) := by
  refine th_of (by decide) (Nat.le_of_ble_eq_true rfl) ?_
  intro p e s m args below meth c ls hx hb het hml hown hlk hA hZ hP hl
  replace hown : s.vm.findClass RX9 = some m.cls := hown
  replace hl : lv_has ls 2 [(0, .ref a0), (1, .int i1)] := hl
  unfold fX9_faultsOf at hf
  refine lv_aload_n hx hb dX9_faultsOf_0 rfl (lv_at hl 0 rfl) ?_
  refine lv_iload_n hx hb dX9_faultsOf_1 rfl (lv_at hl 1 rfl) ?_
  obtain ⟨e9 | u9, q_1, hf⟩ := obd hf
  · dsimp only at hf
    cases hf
    exact th_v (n := 1) (As := [.int i1]) (q0 := 0) hx hb het hlk hml hown hA (tX9_checkPiece l hst G a0 aL0 aL1 aL2 aL3 aL4 aL5 aL6 aL7 aL8 aL9 aL10 aL11 aL12 aH0 aT0 aW0 aE0 md mch fra fwe fof fsi csh cde csp rd rw rp rco rmo apa awo ash aja abu ltol lchi ljam i1 _ q_1) g_X9_149 gd_X9_checkPiece ⟨(Nat.le_of_ble_eq_true rfl), (Nat.le_of_ble_eq_true rfl)⟩ hZ (hP.sub [0, 1, 2, 3, 4, 5, 6, 7, 8, 9, 10, 11, 12, 13] rfl) rfl rfl rfl hl.1 (Nat.le_of_ble_eq_true rfl) ⟨(Nat.le_of_ble_eq_true rfl), (Nat.le_of_ble_eq_true rfl)⟩ dX9_faultsOf_2
  dsimp only at hf
  exact (oml hf).elim
def fX9_isGood (md : Nat → Int32) (mch : Int32) (rd : Nat → Int32) (rco : Int32) (ltol : Int32) (i1 : Int32) : Option (Nat ⊕ (Int32)) :=
  ((fX9_checkPiece rco i1).bind fun z => match z with | .inl e => some (.inl e) | .inr _ => (Option.map Sum.inr (((fX4_faults md mch rd ltol i1).bind fun r_2 => (if r_2 = 0 then some 1 else some 0)))))
set_option maxHeartbeats 4000000 in
set_option maxRecDepth 100000 in
theorem kX9_isGood (l : Launch) (G : GG) (a0 aL0 aL1 aL2 aL3 aL4 aL5 aL6 aL7 aL8 aL9 aL10 aL11 aL12 aH0 aT0 aW0 aE0 : Nat) (md : Nat → Int32) (mch : Int32) (fra : Int32) (fwe : Int32) (fof : Int32) (fsi : Int32) (csh : Int32) (cde : Int32) (csp : Int32) (rd : Nat → Int32) (rw : Nat → Int32) (rp : Nat → Int32) (rco : Int32) (rmo : Int32) (apa : Int32) (awo : Int32) (ash : Int32) (aja : Int32) (abu : Int32) (ltol : Int32) (lchi : Int32) (ljam : Int32) (i1 : Int32) (r_0 : Int32) (hf : fX9_isGood md mch rd rco ltol i1 = some (.inr r_0)) : Ro l G yX9_isGood cX9_isGood 2 (some .boolean) 8 123 [.ref a0, .int i1] [(a0, .inr (9, [.ref aL0, .ref aH0, .ref aT0, .ref aW0, .ref aE0])), (aL0, .inr (4, [.ref aL1, .ref aL3, .ref aL4, .ref aL5, .ref aL12, .int ltol, .int lchi, .int ljam])), (aL1, .inr (6, [.ref aL2, .int mch])), (aL2, .inl (G.2.1, 48, .inl md)), (aL3, .inr (2, [.int fra, .int fwe, .int fof, .int fsi])), (aL4, .inr (1, [.int csh, .int cde, .int csp])), (aL5, .inr (7, [.ref aL6, .ref aL8, .ref aL10, .int rco, .int rmo])), (aL6, .inr (8, [.ref aL7])), (aL7, .inl (G.2.1, 80, .inl rd)), (aL8, .inr (8, [.ref aL9])), (aL9, .inl (G.2.1, 5, .inl rw)), (aL10, .inr (8, [.ref aL11])), (aL11, .inl (G.2.1, 5, .inl rp)), (aL12, .inr (0, [.int apa, .int awo, .int ash, .int aja, .int abu]))] (some (.int r_0)) := by
  refine ro_of (by decide) (Nat.le_of_ble_eq_true rfl) ?_
  intro p e s m args below meth c ls hx hb hr hml hown hlk hA hZ hP hl
  replace hown : s.vm.findClass RX9 = some m.cls := hown
  replace hl : lv_has ls 2 [(0, .ref a0), (1, .int i1)] := hl
  unfold fX9_isGood at hf
  refine lv_aload_n hx hb dX9_isGood_0 rfl (lv_at hl 0 rfl) ?_
  refine lv_iload_n hx hb dX9_isGood_1 rfl (lv_at hl 1 rfl) ?_
  obtain ⟨e9 | u9, q_1, hf⟩ := obd hf
  · dsimp only at hf
    cases hf
  dsimp only at hf
  replace hf := omr hf
  refine ro_v (n := 1) (As := [.int i1]) (q0 := 0) hx hb hml hown hA (kX9_checkPiece l G a0 aL0 aL1 aL2 aL3 aL4 aL5 aL6 aL7 aL8 aL9 aL10 aL11 aL12 aH0 aT0 aW0 aE0 md mch fra fwe fof fsi csh cde csp rd rw rp rco rmo apa awo ash aja abu ltol lchi ljam i1 q_1) g_X9_149 gd_X9_checkPiece ⟨(Nat.le_of_ble_eq_true rfl), (Nat.le_of_ble_eq_true rfl)⟩ hZ (hP.sub [0, 1, 2, 3, 4, 5, 6, 7, 8, 9, 10, 11, 12, 13] rfl) rfl rfl rfl hl.1 (Nat.le_of_ble_eq_true rfl) ⟨(Nat.le_of_ble_eq_true rfl), (Nat.le_of_ble_eq_true rfl)⟩ dX9_isGood_2 ?_
  refine W.eq (g2 := F0 m 5 ls []) rfl ?_
  refine lv_aload_n hx hb dX9_isGood_5 rfl (lv_at hl 0 rfl) ?_
  refine gf_X9_10 hx hb hown hA hP 0 rfl rfl dX9_isGood_6 ?_
  refine lv_iload_n hx hb dX9_isGood_9 rfl (lv_at hl 1 rfl) ?_
  obtain ⟨r_2, q_3, hf⟩ := obd hf
  refine ro_v (n := 1) (As := [.int i1]) (q0 := 0) hx hb hml hown hA (kX4_faults l G aL0 aL1 aL2 aL3 aL4 aL5 aL6 aL7 aL8 aL9 aL10 aL11 aL12 md mch fra fwe fof fsi csh cde csp rd rw rp rco rmo apa awo ash aja abu ltol lchi ljam i1 r_2 q_3) g_X9_277 gd_X4_faults ⟨(Nat.le_of_ble_eq_true rfl), (Nat.le_of_ble_eq_true rfl)⟩ hZ (hP.sub [1, 2, 3, 4, 5, 6, 7, 8, 9, 10, 11, 12, 13] rfl) rfl rfl rfl hl.1 (Nat.le_of_ble_eq_true rfl) ⟨(Nat.le_of_ble_eq_true rfl), (Nat.le_of_ble_eq_true rfl)⟩ dX9_isGood_10 ?_
  refine W.eq (g2 := F0 m 13 ls [.int r_2]) rfl ?_
  refine lv_if_ne (tgt := 20) hx hb dX9_isGood_13 (by decide) (fun c_4 => ?_) (fun c_4 => ?_)
  · replace hf := ifn c_4 hf
    refine lv_iconst (v := 0) hx hb dX9_isGood_20 (by decide) ?_
    cases hf
    exact ro_zret hx hb hr hlk (Or.inl rfl) dX9_isGood_21
  · replace hf := ifp c_4 hf
    refine lv_iconst (v := 1) hx hb dX9_isGood_16 (by decide) ?_
    refine lv_goto (tgt := 21) hx hb dX9_isGood_17 (by decide) ?_
    cases hf
    exact ro_zret hx hb hr hlk (Or.inr rfl) dX9_isGood_21
set_option maxHeartbeats 4000000 in
set_option maxRecDepth 100000 in
theorem tX9_isGood (l : Launch) (hst : l.stackTraces = false) (G : GG) (a0 aL0 aL1 aL2 aL3 aL4 aL5 aL6 aL7 aL8 aL9 aL10 aL11 aL12 aH0 aT0 aW0 aE0 : Nat) (md : Nat → Int32) (mch : Int32) (fra : Int32) (fwe : Int32) (fof : Int32) (fsi : Int32) (csh : Int32) (cde : Int32) (csp : Int32) (rd : Nat → Int32) (rw : Nat → Int32) (rp : Nat → Int32) (rco : Int32) (rmo : Int32) (apa : Int32) (awo : Int32) (ash : Int32) (aja : Int32) (abu : Int32) (ltol : Int32) (lchi : Int32) (ljam : Int32) (i1 : Int32) (k9 : Nat) (hf : fX9_isGood md mch rd rco ltol i1 = some (.inl k9)) : Th l G yX9_isGood cX9_isGood 2 (some .boolean) 8 123 [.ref a0, .int i1] [(a0, .inr (9, [.ref aL0, .ref aH0, .ref aT0, .ref aW0, .ref aE0])), (aL0, .inr (4, [.ref aL1, .ref aL3, .ref aL4, .ref aL5, .ref aL12, .int ltol, .int lchi, .int ljam])), (aL1, .inr (6, [.ref aL2, .int mch])), (aL2, .inl (G.2.1, 48, .inl md)), (aL3, .inr (2, [.int fra, .int fwe, .int fof, .int fsi])), (aL4, .inr (1, [.int csh, .int cde, .int csp])), (aL5, .inr (7, [.ref aL6, .ref aL8, .ref aL10, .int rco, .int rmo])), (aL6, .inr (8, [.ref aL7])), (aL7, .inl (G.2.1, 80, .inl rd)), (aL8, .inr (8, [.ref aL9])), (aL9, .inl (G.2.1, 5, .inl rw)), (aL10, .inr (8, [.ref aL11])), (aL11, .inl (G.2.1, 5, .inl rp)), (aL12, .inr (0, [.int apa, .int awo, .int ash, .int aja, .int abu]))] (exn k9) := by
  refine th_of (by decide) (Nat.le_of_ble_eq_true rfl) ?_
  intro p e s m args below meth c ls hx hb het hml hown hlk hA hZ hP hl
  replace hown : s.vm.findClass RX9 = some m.cls := hown
  replace hl : lv_has ls 2 [(0, .ref a0), (1, .int i1)] := hl
  unfold fX9_isGood at hf
  refine lv_aload_n hx hb dX9_isGood_0 rfl (lv_at hl 0 rfl) ?_
  refine lv_iload_n hx hb dX9_isGood_1 rfl (lv_at hl 1 rfl) ?_
  obtain ⟨e9 | u9, q_1, hf⟩ := obd hf
  · dsimp only at hf
    cases hf
    exact th_v (n := 1) (As := [.int i1]) (q0 := 0) hx hb het hlk hml hown hA (tX9_checkPiece l hst G a0 aL0 aL1 aL2 aL3 aL4 aL5 aL6 aL7 aL8 aL9 aL10 aL11 aL12 aH0 aT0 aW0 aE0 md mch fra fwe fof fsi csh cde csp rd rw rp rco rmo apa awo ash aja abu ltol lchi ljam i1 _ q_1) g_X9_149 gd_X9_checkPiece ⟨(Nat.le_of_ble_eq_true rfl), (Nat.le_of_ble_eq_true rfl)⟩ hZ (hP.sub [0, 1, 2, 3, 4, 5, 6, 7, 8, 9, 10, 11, 12, 13] rfl) rfl rfl rfl hl.1 (Nat.le_of_ble_eq_true rfl) ⟨(Nat.le_of_ble_eq_true rfl), (Nat.le_of_ble_eq_true rfl)⟩ dX9_isGood_2
  dsimp only at hf
  exact (oml hf).elim
def fX9_mostLike_L9 (md : Nat → Int32) (rd : Nat → Int32) (v1 : Int32) : Nat → Int32 → Int32 → Option (Int32)
  | 0, _, _ => none
  | n9 + 1, v2, v3 => (if 3 ≤ v3 then some v2 else ((fX4_differences md rd v1 v3).bind fun r_3 => ((fX4_differences md rd v1 v2).bind fun r_5 => (if r_5 ≤ r_3 then fX9_mostLike_L9 md rd v1 n9 v2 (v3 + 1) else fX9_mostLike_L9 md rd v1 n9 v3 (v3 + 1)))))
def fX9_mostLike (md : Nat → Int32) (rd : Nat → Int32) (rco : Int32) (i1 : Int32) : Option (Nat ⊕ (Int32)) :=
  ((fX9_checkPiece rco i1).bind fun z => match z with | .inl e => some (.inl e) | .inr _ => (Option.map Sum.inr (((fX9_mostLike_L9 md rd i1 2000 0 1).bind fun x2_8 => some x2_8))))
set_option maxHeartbeats 4000000 in
set_option maxRecDepth 100000 in
theorem kX9_mostLike (l : Launch) (G : GG) (a0 aL0 aL1 aL2 aL3 aL4 aL5 aL6 aL7 aL8 aL9 aL10 aL11 aL12 aH0 aT0 aW0 aE0 : Nat) (md : Nat → Int32) (mch : Int32) (fra : Int32) (fwe : Int32) (fof : Int32) (fsi : Int32) (csh : Int32) (cde : Int32) (csp : Int32) (rd : Nat → Int32) (rw : Nat → Int32) (rp : Nat → Int32) (rco : Int32) (rmo : Int32) (apa : Int32) (awo : Int32) (ash : Int32) (aja : Int32) (abu : Int32) (ltol : Int32) (lchi : Int32) (ljam : Int32) (i1 : Int32) (r_0 : Int32) (hf : fX9_mostLike md rd rco i1 = some (.inr r_0)) : Ro l G yX9_mostLike cX9_mostLike 4 (some .int) 8 123 [.ref a0, .int i1] [(a0, .inr (9, [.ref aL0, .ref aH0, .ref aT0, .ref aW0, .ref aE0])), (aL0, .inr (4, [.ref aL1, .ref aL3, .ref aL4, .ref aL5, .ref aL12, .int ltol, .int lchi, .int ljam])), (aL1, .inr (6, [.ref aL2, .int mch])), (aL2, .inl (G.2.1, 48, .inl md)), (aL3, .inr (2, [.int fra, .int fwe, .int fof, .int fsi])), (aL4, .inr (1, [.int csh, .int cde, .int csp])), (aL5, .inr (7, [.ref aL6, .ref aL8, .ref aL10, .int rco, .int rmo])), (aL6, .inr (8, [.ref aL7])), (aL7, .inl (G.2.1, 80, .inl rd)), (aL8, .inr (8, [.ref aL9])), (aL9, .inl (G.2.1, 5, .inl rw)), (aL10, .inr (8, [.ref aL11])), (aL11, .inl (G.2.1, 5, .inl rp)), (aL12, .inr (0, [.int apa, .int awo, .int ash, .int aja, .int abu]))] (some (.int r_0)) := by
  refine ro_of (by decide) (Nat.le_of_ble_eq_true rfl) ?_
  intro p e s m args below meth c ls hx hb hr hml hown hlk hA hZ hP hl
  replace hown : s.vm.findClass RX9 = some m.cls := hown
  replace hl : lv_has ls 4 [(0, .ref a0), (1, .int i1)] := hl
  unfold fX9_mostLike at hf
  refine lv_aload_n hx hb dX9_mostLike_0 rfl (lv_at hl 0 rfl) ?_
  refine lv_iload_n hx hb dX9_mostLike_1 rfl (lv_at hl 1 rfl) ?_
  obtain ⟨e9 | u9, q_1, hf⟩ := obd hf
  · dsimp only at hf
    cases hf
  dsimp only at hf
  replace hf := omr hf
  refine ro_v (n := 1) (As := [.int i1]) (q0 := 0) hx hb hml hown hA (kX9_checkPiece l G a0 aL0 aL1 aL2 aL3 aL4 aL5 aL6 aL7 aL8 aL9 aL10 aL11 aL12 aH0 aT0 aW0 aE0 md mch fra fwe fof fsi csh cde csp rd rw rp rco rmo apa awo ash aja abu ltol lchi ljam i1 q_1) g_X9_149 gd_X9_checkPiece ⟨(Nat.le_of_ble_eq_true rfl), (Nat.le_of_ble_eq_true rfl)⟩ hZ (hP.sub [0, 1, 2, 3, 4, 5, 6, 7, 8, 9, 10, 11, 12, 13] rfl) rfl rfl rfl hl.1 (Nat.le_of_ble_eq_true rfl) ⟨(Nat.le_of_ble_eq_true rfl), (Nat.le_of_ble_eq_true rfl)⟩ dX9_mostLike_2 ?_
  refine W.eq (g2 := F0 m 5 ls []) rfl ?_
  refine lv_iconst (v := 0) hx hb dX9_mostLike_5 (by decide) ?_
  refine lv_istore_n (lv' := [(2, .int 0), (0, .ref a0), (1, .int i1)]) hx hb dX9_mostLike_6 rfl hl (by decide) rfl (fun ls hl => ?_)
  refine lv_iconst (v := 1) hx hb dX9_mostLike_7 (by decide) ?_
  refine lv_istore_n (lv' := [(3, .int 1), (2, .int 0), (0, .ref a0), (1, .int i1)]) hx hb dX9_mostLike_8 rfl hl (by decide) rfl (fun ls hl => ?_)
  have lp9 : ∀ (v1 : Int32)  (n : Nat) (v2 : Int32) (v3 : Int32)  (x2_8 : Int32) (Q : State → Prop), fX9_mostLike_L9 md rd v1 n v2 v3 = some x2_8 → ∀ (ls : Array Slot), lv_has ls 4 [(0, .ref a0), (1, .int v1), (2, .int v2), (3, .int v3)] → (∀ (ls : Array Slot), lv_has ls 4 [(2, .int x2_8)] → W p l e { frames := 8, cells := 0, slots := 0, locals := 123 } s m args below meth c s.heap [] 0 0 Q (F0 m 43 ls [])) → W p l e { frames := 8, cells := 0, slots := 0, locals := 123 } s m args below meth c s.heap [] 0 0 Q (F0 m 9 ls []) := by
    intro v1 n
    induction n with
    | zero => intro v2 v3 x2_8 Q hf; rw [fX9_mostLike_L9] at hf; cases hf
    | succ n ih =>
      intro v2 v3 x2_8 Q hf ls hl kk
      rw [fX9_mostLike_L9] at hf
      refine lv_iload_n hx hb dX9_mostLike_9 rfl (lv_at hl 3 rfl) ?_
      refine lv_iconst (v := 3) hx hb dX9_mostLike_10 (by decide) ?_
      refine lv_icmp_ge (tgt := 43) hx hb dX9_mostLike_11 (by decide) (fun c_2 => ?_) (fun c_2 => ?_)
      · replace hf := ifp c_2 hf
        cases hf
        exact kk ls (lv_sub hl [2] rfl)
      · replace hf := ifn c_2 hf
        refine lv_aload_n hx hb dX9_mostLike_14 rfl (lv_at hl 0 rfl) ?_
        refine gf_X9_10 hx hb hown hA hP 0 rfl rfl dX9_mostLike_15 ?_
        refine lv_iload_n hx hb dX9_mostLike_18 rfl (lv_at hl 1 rfl) ?_
        refine lv_iload_n hx hb dX9_mostLike_19 rfl (lv_at hl 3 rfl) ?_
        obtain ⟨r_3, q_4, hf⟩ := obd hf
        refine ro_v (n := 2) (As := [.int v1, .int v3]) (q0 := 0) hx hb hml hown hA (kX4_differences l G aL0 aL1 aL2 aL3 aL4 aL5 aL6 aL7 aL8 aL9 aL10 aL11 aL12 md mch fra fwe fof fsi csh cde csp rd rw rp rco rmo apa awo ash aja abu ltol lchi ljam v1 v3 r_3 q_4) g_X9_280 gd_X4_differences ⟨(Nat.le_of_ble_eq_true rfl), (Nat.le_of_ble_eq_true rfl)⟩ hZ (hP.sub [1, 2, 3, 4, 5, 6, 7, 8, 9, 10, 11, 12, 13] rfl) rfl rfl rfl hl.1 (Nat.le_of_ble_eq_true rfl) ⟨(Nat.le_of_ble_eq_true rfl), (Nat.le_of_ble_eq_true rfl)⟩ dX9_mostLike_20 ?_
        refine W.eq (g2 := F0 m 23 ls [.int r_3]) rfl ?_
        refine lv_aload_n hx hb dX9_mostLike_23 rfl (lv_at hl 0 rfl) ?_
        refine gf_X9_10 hx hb hown hA hP 0 rfl rfl dX9_mostLike_24 ?_
        refine lv_iload_n hx hb dX9_mostLike_27 rfl (lv_at hl 1 rfl) ?_
        refine lv_iload_n hx hb dX9_mostLike_28 rfl (lv_at hl 2 rfl) ?_
        obtain ⟨r_5, q_6, hf⟩ := obd hf
        refine ro_v (n := 2) (As := [.int v1, .int v2]) (q0 := 0) hx hb hml hown hA (kX4_differences l G aL0 aL1 aL2 aL3 aL4 aL5 aL6 aL7 aL8 aL9 aL10 aL11 aL12 md mch fra fwe fof fsi csh cde csp rd rw rp rco rmo apa awo ash aja abu ltol lchi ljam v1 v2 r_5 q_6) g_X9_280 gd_X4_differences ⟨(Nat.le_of_ble_eq_true rfl), (Nat.le_of_ble_eq_true rfl)⟩ hZ (hP.sub [1, 2, 3, 4, 5, 6, 7, 8, 9, 10, 11, 12, 13] rfl) rfl rfl rfl hl.1 (Nat.le_of_ble_eq_true rfl) ⟨(Nat.le_of_ble_eq_true rfl), (Nat.le_of_ble_eq_true rfl)⟩ dX9_mostLike_29 ?_
        refine W.eq (g2 := F0 m 32 ls [.int r_5, .int r_3]) rfl ?_
        refine lv_icmp_ge (tgt := 37) hx hb dX9_mostLike_32 (by decide) (fun c_7 => ?_) (fun c_7 => ?_)
        · replace hf := ifp c_7 hf
          refine lv_iinc (v := v3 + 1) (lv' := [(3, .int (v3 + 1)), (0, .ref a0), (1, .int v1), (2, .int v2)]) hx hb dX9_mostLike_37 hl (k := 3) rfl rfl (by decide) rfl (fun ls hl => ?_)
          refine lv_goto (tgt := 9) hx hb dX9_mostLike_40 (by decide) ?_
          exact ih _ _ _ _ hf ls (lv_sub hl [1, 2, 3, 0] rfl) kk
        · replace hf := ifn c_7 hf
          refine lv_iload_n hx hb dX9_mostLike_35 rfl (lv_at hl 3 rfl) ?_
          refine lv_istore_n (lv' := [(2, .int v3), (0, .ref a0), (1, .int v1), (3, .int v3)]) hx hb dX9_mostLike_36 rfl hl (by decide) rfl (fun ls hl => ?_)
          refine lv_iinc (v := v3 + 1) (lv' := [(3, .int (v3 + 1)), (2, .int v3), (0, .ref a0), (1, .int v1)]) hx hb dX9_mostLike_37 hl (k := 3) rfl rfl (by decide) rfl (fun ls hl => ?_)
          refine lv_goto (tgt := 9) hx hb dX9_mostLike_40 (by decide) ?_
          exact ih _ _ _ _ hf ls (lv_sub hl [2, 3, 1, 0] rfl) kk
  obtain ⟨x2_8, q_9, hf⟩ := obd hf
  refine lp9 _ _ _ _ _ _ q_9 ls (lv_sub hl [2, 3, 1, 0] rfl) (fun ls hl => ?_)
  refine lv_iload_n hx hb dX9_mostLike_43 rfl (lv_at hl 0 rfl) ?_
  cases hf
  exact ro_iret hx hb hr hlk dX9_mostLike_44
set_option maxHeartbeats 4000000 in
set_option maxRecDepth 100000 in
theorem tX9_mostLike (l : Launch) (hst : l.stackTraces = false) (G : GG) (a0 aL0 aL1 aL2 aL3 aL4 aL5 aL6 aL7 aL8 aL9 aL10 aL11 aL12 aH0 aT0 aW0 aE0 : Nat) (md : Nat → Int32) (mch : Int32) (fra : Int32) (fwe : Int32) (fof : Int32) (fsi : Int32) (csh : Int32) (cde : Int32) (csp : Int32) (rd : Nat → Int32) (rw : Nat → Int32) (rp : Nat → Int32) (rco : Int32) (rmo : Int32) (apa : Int32) (awo : Int32) (ash : Int32) (aja : Int32) (abu : Int32) (ltol : Int32) (lchi : Int32) (ljam : Int32) (i1 : Int32) (k9 : Nat) (hf : fX9_mostLike md rd rco i1 = some (.inl k9)) : Th l G yX9_mostLike cX9_mostLike 4 (some .int) 8 123 [.ref a0, .int i1] [(a0, .inr (9, [.ref aL0, .ref aH0, .ref aT0, .ref aW0, .ref aE0])), (aL0, .inr (4, [.ref aL1, .ref aL3, .ref aL4, .ref aL5, .ref aL12, .int ltol, .int lchi, .int ljam])), (aL1, .inr (6, [.ref aL2, .int mch])), (aL2, .inl (G.2.1, 48, .inl md)), (aL3, .inr (2, [.int fra, .int fwe, .int fof, .int fsi])), (aL4, .inr (1, [.int csh, .int cde, .int csp])), (aL5, .inr (7, [.ref aL6, .ref aL8, .ref aL10, .int rco, .int rmo])), (aL6, .inr (8, [.ref aL7])), (aL7, .inl (G.2.1, 80, .inl rd)), (aL8, .inr (8, [.ref aL9])), (aL9, .inl (G.2.1, 5, .inl rw)), (aL10, .inr (8, [.ref aL11])), (aL11, .inl (G.2.1, 5, .inl rp)), (aL12, .inr (0, [.int apa, .int awo, .int ash, .int aja, .int abu]))] (exn k9) := by
  refine th_of (by decide) (Nat.le_of_ble_eq_true rfl) ?_
  intro p e s m args below meth c ls hx hb het hml hown hlk hA hZ hP hl
  replace hown : s.vm.findClass RX9 = some m.cls := hown
  replace hl : lv_has ls 4 [(0, .ref a0), (1, .int i1)] := hl
  unfold fX9_mostLike at hf
  refine lv_aload_n hx hb dX9_mostLike_0 rfl (lv_at hl 0 rfl) ?_
  refine lv_iload_n hx hb dX9_mostLike_1 rfl (lv_at hl 1 rfl) ?_
  obtain ⟨e9 | u9, q_1, hf⟩ := obd hf
  · dsimp only at hf
    cases hf
    exact th_v (n := 1) (As := [.int i1]) (q0 := 0) hx hb het hlk hml hown hA (tX9_checkPiece l hst G a0 aL0 aL1 aL2 aL3 aL4 aL5 aL6 aL7 aL8 aL9 aL10 aL11 aL12 aH0 aT0 aW0 aE0 md mch fra fwe fof fsi csh cde csp rd rw rp rco rmo apa awo ash aja abu ltol lchi ljam i1 _ q_1) g_X9_149 gd_X9_checkPiece ⟨(Nat.le_of_ble_eq_true rfl), (Nat.le_of_ble_eq_true rfl)⟩ hZ (hP.sub [0, 1, 2, 3, 4, 5, 6, 7, 8, 9, 10, 11, 12, 13] rfl) rfl rfl rfl hl.1 (Nat.le_of_ble_eq_true rfl) ⟨(Nat.le_of_ble_eq_true rfl), (Nat.le_of_ble_eq_true rfl)⟩ dX9_mostLike_2
  dsimp only at hf
  exact (oml hf).elim
def fX9_bestCopy_L25 (md : Nat → Int32) (mch : Int32) (rd : Nat → Int32) (rco : Int32) (ltol : Int32)  : Nat → Int32 → Int32 → Option (Int32)
  | 0, _, _ => none
  | n9 + 1, v1, v2 => (if rco ≤ v2 then some v1 else ((fX4_isBetter md mch rd ltol v2 v1).bind fun r_4 => (if r_4 = 0 then fX9_bestCopy_L25 md mch rd rco ltol n9 v1 (v2 + 1) else fX9_bestCopy_L25 md mch rd rco ltol n9 v2 (v2 + 1))))
def fX9_bestCopy (md : Nat → Int32) (mch : Int32) (rd : Nat → Int32) (rco : Int32) (ltol : Int32)  : Option (Nat ⊕ (Int32)) :=
  (if rco ≤ 0 then ((fX9_checkState 0).bind fun z => match z with | .inl e => some (.inl e) | .inr _ => (Option.map Sum.inr (((fX9_bestCopy_L25 md mch rd rco ltol 2000 0 1).bind fun x1_7 => some x1_7)))) else ((fX9_checkState 1).bind fun z => match z with | .inl e => some (.inl e) | .inr _ => (Option.map Sum.inr (((fX9_bestCopy_L25 md mch rd rco ltol 2000 0 1).bind fun x1_14 => some x1_14)))))
set_option maxHeartbeats 4000000 in
set_option maxRecDepth 100000 in
theorem kX9_bestCopy (l : Launch) (G : GG) (a0 aL0 aL1 aL2 aL3 aL4 aL5 aL6 aL7 aL8 aL9 aL10 aL11 aL12 aH0 aT0 aW0 aE0 : Nat) (md : Nat → Int32) (mch : Int32) (fra : Int32) (fwe : Int32) (fof : Int32) (fsi : Int32) (csh : Int32) (cde : Int32) (csp : Int32) (rd : Nat → Int32) (rw : Nat → Int32) (rp : Nat → Int32) (rco : Int32) (rmo : Int32) (apa : Int32) (awo : Int32) (ash : Int32) (aja : Int32) (abu : Int32) (ltol : Int32) (lchi : Int32) (ljam : Int32)  (r_0 : Int32) (hf : fX9_bestCopy md mch rd rco ltol = some (.inr r_0)) : Ro l G yX9_bestCopy cX9_bestCopy 3 (some .int) 7 114 [.ref a0] [(a0, .inr (9, [.ref aL0, .ref aH0, .ref aT0, .ref aW0, .ref aE0])), (aL0, .inr (4, [.ref aL1, .ref aL3, .ref aL4, .ref aL5, .ref aL12, .int ltol, .int lchi, .int ljam])), (aL1, .inr (6, [.ref aL2, .int mch])), (aL2, .inl (G.2.1, 48, .inl md)), (aL3, .inr (2, [.int fra, .int fwe, .int fof, .int fsi])), (aL4, .inr (1, [.int csh, .int cde, .int csp])), (aL5, .inr (7, [.ref aL6, .ref aL8, .ref aL10, .int rco, .int rmo])), (aL6, .inr (8, [.ref aL7])), (aL7, .inl (G.2.1, 80, .inl rd)), (aL8, .inr (8, [.ref aL9])), (aL9, .inl (G.2.1, 5, .inl rw)), (aL10, .inr (8, [.ref aL11])), (aL11, .inl (G.2.1, 5, .inl rp)), (aL12, .inr (0, [.int apa, .int awo, .int ash, .int aja, .int abu]))] (some (.int r_0)) := by
  refine ro_of (by decide) (Nat.le_of_ble_eq_true rfl) ?_
  intro p e s m args below meth c ls hx hb hr hml hown hlk hA hZ hP hl
  replace hown : s.vm.findClass RX9 = some m.cls := hown
  replace hl : lv_has ls 3 [(0, .ref a0)] := hl
  unfold fX9_bestCopy at hf
  refine lv_aload_n hx hb dX9_bestCopy_0 rfl (lv_at hl 0 rfl) ?_
  refine gf_X9_10 hx hb hown hA hP 0 rfl rfl dX9_bestCopy_1 ?_
  refine gf_X9_133 hx hb hown hA hP 1 rfl rfl dX9_bestCopy_4 ?_
  refine gf_X9_137 hx hb hown hA hP 6 rfl rfl dX9_bestCopy_7 ?_
  refine lv_if_le (tgt := 17) hx hb dX9_bestCopy_10 (by decide) (fun c_1 => ?_) (fun c_1 => ?_)
  · replace hf := ifp c_1 hf
    refine lv_iconst (v := 0) hx hb dX9_bestCopy_17 (by decide) ?_
    obtain ⟨e9 | u9, q_2, hf⟩ := obd hf
    · dsimp only at hf
      cases hf
    dsimp only at hf
    replace hf := omr hf
    refine ro_s (n := 1) (As := [.int 0]) hx hb hml hown hA (kX9_checkState l G 0 q_2) g_X9_142 gd_X9_checkState ⟨(Nat.le_of_ble_eq_true rfl), (Nat.le_of_ble_eq_true rfl)⟩ hZ (fun _ _ h => by simp at h) rfl hl.1 (Nat.le_of_ble_eq_true rfl) ⟨(Nat.le_of_ble_eq_true rfl), (Nat.le_of_ble_eq_true rfl)⟩ dX9_bestCopy_18 ?_
    refine W.eq (g2 := F0 m 21 ls []) rfl ?_
    refine lv_iconst (v := 0) hx hb dX9_bestCopy_21 (by decide) ?_
    refine lv_istore_n (lv' := [(1, .int 0), (0, .ref a0)]) hx hb dX9_bestCopy_22 rfl hl (by decide) rfl (fun ls hl => ?_)
    refine lv_iconst (v := 1) hx hb dX9_bestCopy_23 (by decide) ?_
    refine lv_istore_n (lv' := [(2, .int 1), (1, .int 0), (0, .ref a0)]) hx hb dX9_bestCopy_24 rfl hl (by decide) rfl (fun ls hl => ?_)
    have lp25 : ∀   (n : Nat) (v1 : Int32) (v2 : Int32)  (x1_7 : Int32) (Q : State → Prop), fX9_bestCopy_L25 md mch rd rco ltol n v1 v2 = some x1_7 → ∀ (ls : Array Slot), lv_has ls 3 [(0, .ref a0), (1, .int v1), (2, .int v2)] → (∀ (ls : Array Slot), lv_has ls 3 [(1, .int x1_7)] → W p l e { frames := 7, cells := 0, slots := 0, locals := 114 } s m args below meth c s.heap [] 0 0 Q (F0 m 59 ls [])) → W p l e { frames := 7, cells := 0, slots := 0, locals := 114 } s m args below meth c s.heap [] 0 0 Q (F0 m 25 ls []) := by
      intro  n
      induction n with
      | zero => intro v1 v2 x1_7 Q hf; rw [fX9_bestCopy_L25] at hf; cases hf
      | succ n ih =>
        intro v1 v2 x1_7 Q hf ls hl kk
        rw [fX9_bestCopy_L25] at hf
        refine lv_iload_n hx hb dX9_bestCopy_25 rfl (lv_at hl 2 rfl) ?_
        refine lv_aload_n hx hb dX9_bestCopy_26 rfl (lv_at hl 0 rfl) ?_
        refine gf_X9_10 hx hb hown hA hP 0 rfl rfl dX9_bestCopy_27 ?_
        refine gf_X9_133 hx hb hown hA hP 1 rfl rfl dX9_bestCopy_30 ?_
        refine gf_X9_137 hx hb hown hA hP 6 rfl rfl dX9_bestCopy_33 ?_
        refine lv_icmp_ge (tgt := 59) hx hb dX9_bestCopy_36 (by decide) (fun c_3 => ?_) (fun c_3 => ?_)
        · replace hf := ifp c_3 hf
          cases hf
          exact kk ls (lv_sub hl [1] rfl)
        · replace hf := ifn c_3 hf
          refine lv_aload_n hx hb dX9_bestCopy_39 rfl (lv_at hl 0 rfl) ?_
          refine gf_X9_10 hx hb hown hA hP 0 rfl rfl dX9_bestCopy_40 ?_
          refine lv_iload_n hx hb dX9_bestCopy_43 rfl (lv_at hl 2 rfl) ?_
          refine lv_iload_n hx hb dX9_bestCopy_44 rfl (lv_at hl 1 rfl) ?_
          obtain ⟨r_4, q_5, hf⟩ := obd hf
          refine ro_v (n := 2) (As := [.int v2, .int v1]) (q0 := 0) hx hb hml hown hA (kX4_isBetter l G aL0 aL1 aL2 aL3 aL4 aL5 aL6 aL7 aL8 aL9 aL10 aL11 aL12 md mch fra fwe fof fsi csh cde csp rd rw rp rco rmo apa awo ash aja abu ltol lchi ljam v2 v1 r_4 q_5) g_X9_283 gd_X4_isBetter ⟨(Nat.le_of_ble_eq_true rfl), (Nat.le_of_ble_eq_true rfl)⟩ hZ (hP.sub [1, 2, 3, 4, 5, 6, 7, 8, 9, 10, 11, 12, 13] rfl) rfl rfl rfl hl.1 (Nat.le_of_ble_eq_true rfl) ⟨(Nat.le_of_ble_eq_true rfl), (Nat.le_of_ble_eq_true rfl)⟩ dX9_bestCopy_45 ?_
          refine W.eq (g2 := F0 m 48 ls [.int r_4]) rfl ?_
          refine lv_if_eq (tgt := 53) hx hb dX9_bestCopy_48 (by decide) (fun c_6 => ?_) (fun c_6 => ?_)
          · replace hf := ifp c_6 hf
            refine lv_iinc (v := v2 + 1) (lv' := [(2, .int (v2 + 1)), (0, .ref a0), (1, .int v1)]) hx hb dX9_bestCopy_53 hl (k := 2) rfl rfl (by decide) rfl (fun ls hl => ?_)
            refine lv_goto (tgt := 25) hx hb dX9_bestCopy_56 (by decide) ?_
            exact ih _ _ _ _ hf ls (lv_sub hl [1, 2, 0] rfl) kk
          · replace hf := ifn c_6 hf
            refine lv_iload_n hx hb dX9_bestCopy_51 rfl (lv_at hl 2 rfl) ?_
            refine lv_istore_n (lv' := [(1, .int v2), (0, .ref a0), (2, .int v2)]) hx hb dX9_bestCopy_52 rfl hl (by decide) rfl (fun ls hl => ?_)
            refine lv_iinc (v := v2 + 1) (lv' := [(2, .int (v2 + 1)), (1, .int v2), (0, .ref a0)]) hx hb dX9_bestCopy_53 hl (k := 2) rfl rfl (by decide) rfl (fun ls hl => ?_)
            refine lv_goto (tgt := 25) hx hb dX9_bestCopy_56 (by decide) ?_
            exact ih _ _ _ _ hf ls (lv_sub hl [2, 1, 0] rfl) kk
    obtain ⟨x1_7, q_8, hf⟩ := obd hf
    refine lp25 _ _ _ _ _ q_8 ls (lv_sub hl [2, 1, 0] rfl) (fun ls hl => ?_)
    refine lv_iload_n hx hb dX9_bestCopy_59 rfl (lv_at hl 0 rfl) ?_
    cases hf
    exact ro_iret hx hb hr hlk dX9_bestCopy_60
  · replace hf := ifn c_1 hf
    refine lv_iconst (v := 1) hx hb dX9_bestCopy_13 (by decide) ?_
    refine lv_goto (tgt := 18) hx hb dX9_bestCopy_14 (by decide) ?_
    obtain ⟨e9 | u9, q_9, hf⟩ := obd hf
    · dsimp only at hf
      cases hf
    dsimp only at hf
    replace hf := omr hf
    refine ro_s (n := 1) (As := [.int 1]) hx hb hml hown hA (kX9_checkState l G 1 q_9) g_X9_142 gd_X9_checkState ⟨(Nat.le_of_ble_eq_true rfl), (Nat.le_of_ble_eq_true rfl)⟩ hZ (fun _ _ h => by simp at h) rfl hl.1 (Nat.le_of_ble_eq_true rfl) ⟨(Nat.le_of_ble_eq_true rfl), (Nat.le_of_ble_eq_true rfl)⟩ dX9_bestCopy_18 ?_
    refine W.eq (g2 := F0 m 21 ls []) rfl ?_
    refine lv_iconst (v := 0) hx hb dX9_bestCopy_21 (by decide) ?_
    refine lv_istore_n (lv' := [(1, .int 0), (0, .ref a0)]) hx hb dX9_bestCopy_22 rfl hl (by decide) rfl (fun ls hl => ?_)
    refine lv_iconst (v := 1) hx hb dX9_bestCopy_23 (by decide) ?_
    refine lv_istore_n (lv' := [(2, .int 1), (1, .int 0), (0, .ref a0)]) hx hb dX9_bestCopy_24 rfl hl (by decide) rfl (fun ls hl => ?_)
    have lp25 : ∀   (n : Nat) (v1 : Int32) (v2 : Int32)  (x1_14 : Int32) (Q : State → Prop), fX9_bestCopy_L25 md mch rd rco ltol n v1 v2 = some x1_14 → ∀ (ls : Array Slot), lv_has ls 3 [(0, .ref a0), (1, .int v1), (2, .int v2)] → (∀ (ls : Array Slot), lv_has ls 3 [(1, .int x1_14)] → W p l e { frames := 7, cells := 0, slots := 0, locals := 114 } s m args below meth c s.heap [] 0 0 Q (F0 m 59 ls [])) → W p l e { frames := 7, cells := 0, slots := 0, locals := 114 } s m args below meth c s.heap [] 0 0 Q (F0 m 25 ls []) := by
      intro  n
      induction n with
      | zero => intro v1 v2 x1_14 Q hf; rw [fX9_bestCopy_L25] at hf; cases hf
      | succ n ih =>
        intro v1 v2 x1_14 Q hf ls hl kk
        rw [fX9_bestCopy_L25] at hf
        refine lv_iload_n hx hb dX9_bestCopy_25 rfl (lv_at hl 2 rfl) ?_
        refine lv_aload_n hx hb dX9_bestCopy_26 rfl (lv_at hl 0 rfl) ?_
        refine gf_X9_10 hx hb hown hA hP 0 rfl rfl dX9_bestCopy_27 ?_
        refine gf_X9_133 hx hb hown hA hP 1 rfl rfl dX9_bestCopy_30 ?_
        refine gf_X9_137 hx hb hown hA hP 6 rfl rfl dX9_bestCopy_33 ?_
        refine lv_icmp_ge (tgt := 59) hx hb dX9_bestCopy_36 (by decide) (fun c_10 => ?_) (fun c_10 => ?_)
        · replace hf := ifp c_10 hf
          cases hf
          exact kk ls (lv_sub hl [1] rfl)
        · replace hf := ifn c_10 hf
          refine lv_aload_n hx hb dX9_bestCopy_39 rfl (lv_at hl 0 rfl) ?_
          refine gf_X9_10 hx hb hown hA hP 0 rfl rfl dX9_bestCopy_40 ?_
          refine lv_iload_n hx hb dX9_bestCopy_43 rfl (lv_at hl 2 rfl) ?_
          refine lv_iload_n hx hb dX9_bestCopy_44 rfl (lv_at hl 1 rfl) ?_
          obtain ⟨r_11, q_12, hf⟩ := obd hf
          refine ro_v (n := 2) (As := [.int v2, .int v1]) (q0 := 0) hx hb hml hown hA (kX4_isBetter l G aL0 aL1 aL2 aL3 aL4 aL5 aL6 aL7 aL8 aL9 aL10 aL11 aL12 md mch fra fwe fof fsi csh cde csp rd rw rp rco rmo apa awo ash aja abu ltol lchi ljam v2 v1 r_11 q_12) g_X9_283 gd_X4_isBetter ⟨(Nat.le_of_ble_eq_true rfl), (Nat.le_of_ble_eq_true rfl)⟩ hZ (hP.sub [1, 2, 3, 4, 5, 6, 7, 8, 9, 10, 11, 12, 13] rfl) rfl rfl rfl hl.1 (Nat.le_of_ble_eq_true rfl) ⟨(Nat.le_of_ble_eq_true rfl), (Nat.le_of_ble_eq_true rfl)⟩ dX9_bestCopy_45 ?_
          refine W.eq (g2 := F0 m 48 ls [.int r_11]) rfl ?_
          refine lv_if_eq (tgt := 53) hx hb dX9_bestCopy_48 (by decide) (fun c_13 => ?_) (fun c_13 => ?_)
          · replace hf := ifp c_13 hf
            refine lv_iinc (v := v2 + 1) (lv' := [(2, .int (v2 + 1)), (0, .ref a0), (1, .int v1)]) hx hb dX9_bestCopy_53 hl (k := 2) rfl rfl (by decide) rfl (fun ls hl => ?_)
            refine lv_goto (tgt := 25) hx hb dX9_bestCopy_56 (by decide) ?_
            exact ih _ _ _ _ hf ls (lv_sub hl [1, 2, 0] rfl) kk
          · replace hf := ifn c_13 hf
            refine lv_iload_n hx hb dX9_bestCopy_51 rfl (lv_at hl 2 rfl) ?_
            refine lv_istore_n (lv' := [(1, .int v2), (0, .ref a0), (2, .int v2)]) hx hb dX9_bestCopy_52 rfl hl (by decide) rfl (fun ls hl => ?_)
            refine lv_iinc (v := v2 + 1) (lv' := [(2, .int (v2 + 1)), (1, .int v2), (0, .ref a0)]) hx hb dX9_bestCopy_53 hl (k := 2) rfl rfl (by decide) rfl (fun ls hl => ?_)
            refine lv_goto (tgt := 25) hx hb dX9_bestCopy_56 (by decide) ?_
            exact ih _ _ _ _ hf ls (lv_sub hl [2, 1, 0] rfl) kk
    obtain ⟨x1_14, q_15, hf⟩ := obd hf
    refine lp25 _ _ _ _ _ q_15 ls (lv_sub hl [2, 1, 0] rfl) (fun ls hl => ?_)
    refine lv_iload_n hx hb dX9_bestCopy_59 rfl (lv_at hl 0 rfl) ?_
    cases hf
    exact ro_iret hx hb hr hlk dX9_bestCopy_60
set_option maxHeartbeats 4000000 in
set_option maxRecDepth 100000 in
theorem tX9_bestCopy (l : Launch) (hst : l.stackTraces = false) (G : GG) (a0 aL0 aL1 aL2 aL3 aL4 aL5 aL6 aL7 aL8 aL9 aL10 aL11 aL12 aH0 aT0 aW0 aE0 : Nat) (md : Nat → Int32) (mch : Int32) (fra : Int32) (fwe : Int32) (fof : Int32) (fsi : Int32) (csh : Int32) (cde : Int32) (csp : Int32) (rd : Nat → Int32) (rw : Nat → Int32) (rp : Nat → Int32) (rco : Int32) (rmo : Int32) (apa : Int32) (awo : Int32) (ash : Int32) (aja : Int32) (abu : Int32) (ltol : Int32) (lchi : Int32) (ljam : Int32)  (k9 : Nat) (hf : fX9_bestCopy md mch rd rco ltol = some (.inl k9)) : Th l G yX9_bestCopy cX9_bestCopy 3 (some .int) 7 114 [.ref a0] [(a0, .inr (9, [.ref aL0, .ref aH0, .ref aT0, .ref aW0, .ref aE0])), (aL0, .inr (4, [.ref aL1, .ref aL3, .ref aL4, .ref aL5, .ref aL12, .int ltol, .int lchi, .int ljam])), (aL1, .inr (6, [.ref aL2, .int mch])), (aL2, .inl (G.2.1, 48, .inl md)), (aL3, .inr (2, [.int fra, .int fwe, .int fof, .int fsi])), (aL4, .inr (1, [.int csh, .int cde, .int csp])), (aL5, .inr (7, [.ref aL6, .ref aL8, .ref aL10, .int rco, .int rmo])), (aL6, .inr (8, [.ref aL7])), (aL7, .inl (G.2.1, 80, .inl rd)), (aL8, .inr (8, [.ref aL9])), (aL9, .inl (G.2.1, 5, .inl rw)), (aL10, .inr (8, [.ref aL11])), (aL11, .inl (G.2.1, 5, .inl rp)), (aL12, .inr (0, [.int apa, .int awo, .int ash, .int aja, .int abu]))] (exn k9) := by
  refine th_of (by decide) (Nat.le_of_ble_eq_true rfl) ?_
  intro p e s m args below meth c ls hx hb het hml hown hlk hA hZ hP hl
  replace hown : s.vm.findClass RX9 = some m.cls := hown
  replace hl : lv_has ls 3 [(0, .ref a0)] := hl
  unfold fX9_bestCopy at hf
  refine lv_aload_n hx hb dX9_bestCopy_0 rfl (lv_at hl 0 rfl) ?_
  refine gf_X9_10 hx hb hown hA hP 0 rfl rfl dX9_bestCopy_1 ?_
  refine gf_X9_133 hx hb hown hA hP 1 rfl rfl dX9_bestCopy_4 ?_
  refine gf_X9_137 hx hb hown hA hP 6 rfl rfl dX9_bestCopy_7 ?_
  refine lv_if_le (tgt := 17) hx hb dX9_bestCopy_10 (by decide) (fun c_1 => ?_) (fun c_1 => ?_)
  · replace hf := ifp c_1 hf
    refine lv_iconst (v := 0) hx hb dX9_bestCopy_17 (by decide) ?_
    obtain ⟨e9 | u9, q_2, hf⟩ := obd hf
    · dsimp only at hf
      cases hf
      exact th_s (n := 1) (As := [.int 0]) hx hb het hlk hml hown hA (tX9_checkState l hst G 0 _ q_2) g_X9_142 gd_X9_checkState ⟨(Nat.le_of_ble_eq_true rfl), (Nat.le_of_ble_eq_true rfl)⟩ hZ (fun _ _ h => by simp at h) rfl hl.1 (Nat.le_of_ble_eq_true rfl) ⟨(Nat.le_of_ble_eq_true rfl), (Nat.le_of_ble_eq_true rfl)⟩ dX9_bestCopy_18
    dsimp only at hf
    exact (oml hf).elim
  · replace hf := ifn c_1 hf
    refine lv_iconst (v := 1) hx hb dX9_bestCopy_13 (by decide) ?_
    refine lv_goto (tgt := 18) hx hb dX9_bestCopy_14 (by decide) ?_
    obtain ⟨e9 | u9, q_9, hf⟩ := obd hf
    · dsimp only at hf
      cases hf
      exact th_s (n := 1) (As := [.int 1]) hx hb het hlk hml hown hA (tX9_checkState l hst G 1 _ q_9) g_X9_142 gd_X9_checkState ⟨(Nat.le_of_ble_eq_true rfl), (Nat.le_of_ble_eq_true rfl)⟩ hZ (fun _ _ h => by simp at h) rfl hl.1 (Nat.le_of_ble_eq_true rfl) ⟨(Nat.le_of_ble_eq_true rfl), (Nat.le_of_ble_eq_true rfl)⟩ dX9_bestCopy_18
    dsimp only at hf
    exact (oml hf).elim
def fX9_isFinished (md : Nat → Int32) (mch : Int32) (fra : Int32) (fwe : Int32) (fof : Int32) (rd : Nat → Int32) (rmo : Int32)  : Option (Nat ⊕ (Int32)) :=
  ((fX9_checkMounted rmo).bind fun z => match z with | .inl e => some (.inl e) | .inr _ => (Option.map Sum.inr (((fX4_mostAbove md mch fra fwe fof rd rmo).bind fun r_2 => (if r_2 = 0 then some 1 else some 0)))))
set_option maxHeartbeats 4000000 in
set_option maxRecDepth 100000 in
theorem kX9_isFinished (l : Launch) (G : GG) (a0 aL0 aL1 aL2 aL3 aL4 aL5 aL6 aL7 aL8 aL9 aL10 aL11 aL12 aH0 aT0 aW0 aE0 : Nat) (md : Nat → Int32) (mch : Int32) (fra : Int32) (fwe : Int32) (fof : Int32) (fsi : Int32) (csh : Int32) (cde : Int32) (csp : Int32) (rd : Nat → Int32) (rw : Nat → Int32) (rp : Nat → Int32) (rco : Int32) (rmo : Int32) (apa : Int32) (awo : Int32) (ash : Int32) (aja : Int32) (abu : Int32) (ltol : Int32) (lchi : Int32) (ljam : Int32)  (r_0 : Int32) (hf : fX9_isFinished md mch fra fwe fof rd rmo = some (.inr r_0)) : Ro l G yX9_isFinished cX9_isFinished 1 (some .boolean) 8 121 [.ref a0] [(a0, .inr (9, [.ref aL0, .ref aH0, .ref aT0, .ref aW0, .ref aE0])), (aL0, .inr (4, [.ref aL1, .ref aL3, .ref aL4, .ref aL5, .ref aL12, .int ltol, .int lchi, .int ljam])), (aL1, .inr (6, [.ref aL2, .int mch])), (aL2, .inl (G.2.1, 48, .inl md)), (aL3, .inr (2, [.int fra, .int fwe, .int fof, .int fsi])), (aL4, .inr (1, [.int csh, .int cde, .int csp])), (aL5, .inr (7, [.ref aL6, .ref aL8, .ref aL10, .int rco, .int rmo])), (aL6, .inr (8, [.ref aL7])), (aL7, .inl (G.2.1, 80, .inl rd)), (aL8, .inr (8, [.ref aL9])), (aL9, .inl (G.2.1, 5, .inl rw)), (aL10, .inr (8, [.ref aL11])), (aL11, .inl (G.2.1, 5, .inl rp)), (aL12, .inr (0, [.int apa, .int awo, .int ash, .int aja, .int abu]))] (some (.int r_0)) := by
  refine ro_of (by decide) (Nat.le_of_ble_eq_true rfl) ?_
  intro p e s m args below meth c ls hx hb hr hml hown hlk hA hZ hP hl
  replace hown : s.vm.findClass RX9 = some m.cls := hown
  replace hl : lv_has ls 1 [(0, .ref a0)] := hl
  unfold fX9_isFinished at hf
  refine lv_aload_n hx hb dX9_isFinished_0 rfl (lv_at hl 0 rfl) ?_
  obtain ⟨e9 | u9, q_1, hf⟩ := obd hf
  · dsimp only at hf
    cases hf
  dsimp only at hf
  replace hf := omr hf
  refine ro_v (n := 0) (As := []) (q0 := 0) hx hb hml hown hA (kX9_checkMounted l G a0 aL0 aL1 aL2 aL3 aL4 aL5 aL6 aL7 aL8 aL9 aL10 aL11 aL12 aH0 aT0 aW0 aE0 md mch fra fwe fof fsi csh cde csp rd rw rp rco rmo apa awo ash aja abu ltol lchi ljam q_1) g_X9_165 gd_X9_checkMounted ⟨(Nat.le_of_ble_eq_true rfl), (Nat.le_of_ble_eq_true rfl)⟩ hZ (hP.sub [0, 1, 2, 3, 4, 5, 6, 7, 8, 9, 10, 11, 12, 13] rfl) rfl rfl rfl hl.1 (Nat.le_of_ble_eq_true rfl) ⟨(Nat.le_of_ble_eq_true rfl), (Nat.le_of_ble_eq_true rfl)⟩ dX9_isFinished_1 ?_
  refine W.eq (g2 := F0 m 4 ls []) rfl ?_
  refine lv_aload_n hx hb dX9_isFinished_4 rfl (lv_at hl 0 rfl) ?_
  refine gf_X9_10 hx hb hown hA hP 0 rfl rfl dX9_isFinished_5 ?_
  refine lv_aload_n hx hb dX9_isFinished_8 rfl (lv_at hl 0 rfl) ?_
  refine gf_X9_10 hx hb hown hA hP 0 rfl rfl dX9_isFinished_9 ?_
  refine gf_X9_133 hx hb hown hA hP 1 rfl rfl dX9_isFinished_12 ?_
  refine gf_X9_152 hx hb hown hA hP 6 rfl rfl dX9_isFinished_15 ?_
  obtain ⟨r_2, q_3, hf⟩ := obd hf
  refine ro_v (n := 1) (As := [.int rmo]) (q0 := 0) hx hb hml hown hA (kX4_mostAbove l G aL0 aL1 aL2 aL3 aL4 aL5 aL6 aL7 aL8 aL9 aL10 aL11 aL12 md mch fra fwe fof fsi csh cde csp rd rw rp rco rmo apa awo ash aja abu ltol lchi ljam rmo r_2 q_3) g_X9_178 gd_X4_mostAbove ⟨(Nat.le_of_ble_eq_true rfl), (Nat.le_of_ble_eq_true rfl)⟩ hZ (hP.sub [1, 2, 3, 4, 5, 6, 7, 8, 9, 10, 11, 12, 13] rfl) rfl rfl rfl hl.1 (Nat.le_of_ble_eq_true rfl) ⟨(Nat.le_of_ble_eq_true rfl), (Nat.le_of_ble_eq_true rfl)⟩ dX9_isFinished_18 ?_
  refine W.eq (g2 := F0 m 21 ls [.int r_2]) rfl ?_
  refine lv_if_ne (tgt := 28) hx hb dX9_isFinished_21 (by decide) (fun c_4 => ?_) (fun c_4 => ?_)
  · replace hf := ifn c_4 hf
    refine lv_iconst (v := 0) hx hb dX9_isFinished_28 (by decide) ?_
    cases hf
    exact ro_zret hx hb hr hlk (Or.inl rfl) dX9_isFinished_29
  · replace hf := ifp c_4 hf
    refine lv_iconst (v := 1) hx hb dX9_isFinished_24 (by decide) ?_
    refine lv_goto (tgt := 29) hx hb dX9_isFinished_25 (by decide) ?_
    cases hf
    exact ro_zret hx hb hr hlk (Or.inr rfl) dX9_isFinished_29
set_option maxHeartbeats 4000000 in
set_option maxRecDepth 100000 in
theorem tX9_isFinished (l : Launch) (hst : l.stackTraces = false) (G : GG) (a0 aL0 aL1 aL2 aL3 aL4 aL5 aL6 aL7 aL8 aL9 aL10 aL11 aL12 aH0 aT0 aW0 aE0 : Nat) (md : Nat → Int32) (mch : Int32) (fra : Int32) (fwe : Int32) (fof : Int32) (fsi : Int32) (csh : Int32) (cde : Int32) (csp : Int32) (rd : Nat → Int32) (rw : Nat → Int32) (rp : Nat → Int32) (rco : Int32) (rmo : Int32) (apa : Int32) (awo : Int32) (ash : Int32) (aja : Int32) (abu : Int32) (ltol : Int32) (lchi : Int32) (ljam : Int32)  (k9 : Nat) (hf : fX9_isFinished md mch fra fwe fof rd rmo = some (.inl k9)) : Th l G yX9_isFinished cX9_isFinished 1 (some .boolean) 8 121 [.ref a0] [(a0, .inr (9, [.ref aL0, .ref aH0, .ref aT0, .ref aW0, .ref aE0])), (aL0, .inr (4, [.ref aL1, .ref aL3, .ref aL4, .ref aL5, .ref aL12, .int ltol, .int lchi, .int ljam])), (aL1, .inr (6, [.ref aL2, .int mch])), (aL2, .inl (G.2.1, 48, .inl md)), (aL3, .inr (2, [.int fra, .int fwe, .int fof, .int fsi])), (aL4, .inr (1, [.int csh, .int cde, .int csp])), (aL5, .inr (7, [.ref aL6, .ref aL8, .ref aL10, .int rco, .int rmo])), (aL6, .inr (8, [.ref aL7])), (aL7, .inl (G.2.1, 80, .inl rd)), (aL8, .inr (8, [.ref aL9])), (aL9, .inl (G.2.1, 5, .inl rw)), (aL10, .inr (8, [.ref aL11])), (aL11, .inl (G.2.1, 5, .inl rp)), (aL12, .inr (0, [.int apa, .int awo, .int ash, .int aja, .int abu]))] (exn k9) := by
  refine th_of (by decide) (Nat.le_of_ble_eq_true rfl) ?_
  intro p e s m args below meth c ls hx hb het hml hown hlk hA hZ hP hl
  replace hown : s.vm.findClass RX9 = some m.cls := hown
  replace hl : lv_has ls 1 [(0, .ref a0)] := hl
  unfold fX9_isFinished at hf
  refine lv_aload_n hx hb dX9_isFinished_0 rfl (lv_at hl 0 rfl) ?_
  obtain ⟨e9 | u9, q_1, hf⟩ := obd hf
  · dsimp only at hf
    cases hf
    exact th_v (n := 0) (As := []) (q0 := 0) hx hb het hlk hml hown hA (tX9_checkMounted l hst G a0 aL0 aL1 aL2 aL3 aL4 aL5 aL6 aL7 aL8 aL9 aL10 aL11 aL12 aH0 aT0 aW0 aE0 md mch fra fwe fof fsi csh cde csp rd rw rp rco rmo apa awo ash aja abu ltol lchi ljam _ q_1) g_X9_165 gd_X9_checkMounted ⟨(Nat.le_of_ble_eq_true rfl), (Nat.le_of_ble_eq_true rfl)⟩ hZ (hP.sub [0, 1, 2, 3, 4, 5, 6, 7, 8, 9, 10, 11, 12, 13] rfl) rfl rfl rfl hl.1 (Nat.le_of_ble_eq_true rfl) ⟨(Nat.le_of_ble_eq_true rfl), (Nat.le_of_ble_eq_true rfl)⟩ dX9_isFinished_1
  dsimp only at hf
  exact (oml hf).elim
def fX9_checkReady (csh : Int32) (rmo : Int32) (ljam : Int32)  : Option (Nat ⊕ (Unit)) :=
  ((fX9_checkMounted rmo).bind fun z => match z with | .inl e => some (.inl e) | .inr _ => ((fX4_canRun csh ljam).bind fun r_2 => ((fX9_checkState r_2).bind fun z => match z with | .inl e => some (.inl e) | .inr _ => (Option.map Sum.inr (some ())))))
set_option maxHeartbeats 4000000 in
set_option maxRecDepth 100000 in
theorem kX9_checkReady (l : Launch) (G : GG) (a0 aL0 aL1 aL2 aL3 aL4 aL5 aL6 aL7 aL8 aL9 aL10 aL11 aL12 aH0 aT0 aW0 aE0 : Nat) (md : Nat → Int32) (mch : Int32) (fra : Int32) (fwe : Int32) (fof : Int32) (fsi : Int32) (csh : Int32) (cde : Int32) (csp : Int32) (rd : Nat → Int32) (rw : Nat → Int32) (rp : Nat → Int32) (rco : Int32) (rmo : Int32) (apa : Int32) (awo : Int32) (ash : Int32) (aja : Int32) (abu : Int32) (ltol : Int32) (lchi : Int32) (ljam : Int32)   (hf : fX9_checkReady csh rmo ljam = some (.inr ())) : Ro l G yX9_checkReady cX9_checkReady 1 none 8 121 [.ref a0] [(a0, .inr (9, [.ref aL0, .ref aH0, .ref aT0, .ref aW0, .ref aE0])), (aL0, .inr (4, [.ref aL1, .ref aL3, .ref aL4, .ref aL5, .ref aL12, .int ltol, .int lchi, .int ljam])), (aL1, .inr (6, [.ref aL2, .int mch])), (aL2, .inl (G.2.1, 48, .inl md)), (aL3, .inr (2, [.int fra, .int fwe, .int fof, .int fsi])), (aL4, .inr (1, [.int csh, .int cde, .int csp])), (aL5, .inr (7, [.ref aL6, .ref aL8, .ref aL10, .int rco, .int rmo])), (aL6, .inr (8, [.ref aL7])), (aL7, .inl (G.2.1, 80, .inl rd)), (aL8, .inr (8, [.ref aL9])), (aL9, .inl (G.2.1, 5, .inl rw)), (aL10, .inr (8, [.ref aL11])), (aL11, .inl (G.2.1, 5, .inl rp)), (aL12, .inr (0, [.int apa, .int awo, .int ash, .int aja, .int abu]))] none := by
  refine ro_of (by decide) (Nat.le_of_ble_eq_true rfl) ?_
  intro p e s m args below meth c ls hx hb hr hml hown hlk hA hZ hP hl
  replace hown : s.vm.findClass RX9 = some m.cls := hown
  replace hl : lv_has ls 1 [(0, .ref a0)] := hl
  unfold fX9_checkReady at hf
  refine lv_aload_n hx hb dX9_checkReady_0 rfl (lv_at hl 0 rfl) ?_
  obtain ⟨e9 | u9, q_1, hf⟩ := obd hf
  · dsimp only at hf
    cases hf
  dsimp only at hf
  refine ro_v (n := 0) (As := []) (q0 := 0) hx hb hml hown hA (kX9_checkMounted l G a0 aL0 aL1 aL2 aL3 aL4 aL5 aL6 aL7 aL8 aL9 aL10 aL11 aL12 aH0 aT0 aW0 aE0 md mch fra fwe fof fsi csh cde csp rd rw rp rco rmo apa awo ash aja abu ltol lchi ljam q_1) g_X9_165 gd_X9_checkMounted ⟨(Nat.le_of_ble_eq_true rfl), (Nat.le_of_ble_eq_true rfl)⟩ hZ (hP.sub [0, 1, 2, 3, 4, 5, 6, 7, 8, 9, 10, 11, 12, 13] rfl) rfl rfl rfl hl.1 (Nat.le_of_ble_eq_true rfl) ⟨(Nat.le_of_ble_eq_true rfl), (Nat.le_of_ble_eq_true rfl)⟩ dX9_checkReady_1 ?_
  refine W.eq (g2 := F0 m 4 ls []) rfl ?_
  refine lv_aload_n hx hb dX9_checkReady_4 rfl (lv_at hl 0 rfl) ?_
  refine gf_X9_10 hx hb hown hA hP 0 rfl rfl dX9_checkReady_5 ?_
  obtain ⟨r_2, q_3, hf⟩ := obd hf
  refine ro_v (n := 0) (As := []) (q0 := 0) hx hb hml hown hA (kX4_canRun l G aL0 aL1 aL2 aL3 aL4 aL5 aL6 aL7 aL8 aL9 aL10 aL11 aL12 md mch fra fwe fof fsi csh cde csp rd rw rp rco rmo apa awo ash aja abu ltol lchi ljam r_2 q_3) g_X9_175 gd_X4_canRun ⟨(Nat.le_of_ble_eq_true rfl), (Nat.le_of_ble_eq_true rfl)⟩ hZ (hP.sub [1, 2, 3, 4, 5, 6, 7, 8, 9, 10, 11, 12, 13] rfl) rfl rfl rfl hl.1 (Nat.le_of_ble_eq_true rfl) ⟨(Nat.le_of_ble_eq_true rfl), (Nat.le_of_ble_eq_true rfl)⟩ dX9_checkReady_8 ?_
  refine W.eq (g2 := F0 m 11 ls [.int r_2]) rfl ?_
  obtain ⟨e9 | u9, q_4, hf⟩ := obd hf
  · dsimp only at hf
    cases hf
  dsimp only at hf
  replace hf := omr hf
  refine ro_s (n := 1) (As := [.int r_2]) hx hb hml hown hA (kX9_checkState l G r_2 q_4) g_X9_142 gd_X9_checkState ⟨(Nat.le_of_ble_eq_true rfl), (Nat.le_of_ble_eq_true rfl)⟩ hZ (fun _ _ h => by simp at h) rfl hl.1 (Nat.le_of_ble_eq_true rfl) ⟨(Nat.le_of_ble_eq_true rfl), (Nat.le_of_ble_eq_true rfl)⟩ dX9_checkReady_11 ?_
  refine W.eq (g2 := F0 m 14 ls []) rfl ?_
  cases hf
  exact ro_vret hx hb hr hlk dX9_checkReady_14
set_option maxHeartbeats 4000000 in
set_option maxRecDepth 100000 in
theorem tX9_checkReady (l : Launch) (hst : l.stackTraces = false) (G : GG) (a0 aL0 aL1 aL2 aL3 aL4 aL5 aL6 aL7 aL8 aL9 aL10 aL11 aL12 aH0 aT0 aW0 aE0 : Nat) (md : Nat → Int32) (mch : Int32) (fra : Int32) (fwe : Int32) (fof : Int32) (fsi : Int32) (csh : Int32) (cde : Int32) (csp : Int32) (rd : Nat → Int32) (rw : Nat → Int32) (rp : Nat → Int32) (rco : Int32) (rmo : Int32) (apa : Int32) (awo : Int32) (ash : Int32) (aja : Int32) (abu : Int32) (ltol : Int32) (lchi : Int32) (ljam : Int32)  (k9 : Nat) (hf : fX9_checkReady csh rmo ljam = some (.inl k9)) : Th l G yX9_checkReady cX9_checkReady 1 none 8 121 [.ref a0] [(a0, .inr (9, [.ref aL0, .ref aH0, .ref aT0, .ref aW0, .ref aE0])), (aL0, .inr (4, [.ref aL1, .ref aL3, .ref aL4, .ref aL5, .ref aL12, .int ltol, .int lchi, .int ljam])), (aL1, .inr (6, [.ref aL2, .int mch])), (aL2, .inl (G.2.1, 48, .inl md)), (aL3, .inr (2, [.int fra, .int fwe, .int fof, .int fsi])), (aL4, .inr (1, [.int csh, .int cde, .int csp])), (aL5, .inr (7, [.ref aL6, .ref aL8, .ref aL10, .int rco, .int rmo])), (aL6, .inr (8, [.ref aL7])), (aL7, .inl (G.2.1, 80, .inl rd)), (aL8, .inr (8, [.ref aL9])), (aL9, .inl (G.2.1, 5, .inl rw)), (aL10, .inr (8, [.ref aL11])), (aL11, .inl (G.2.1, 5, .inl rp)), (aL12, .inr (0, [.int apa, .int awo, .int ash, .int aja, .int abu]))] (exn k9) := by
  refine th_of (by decide) (Nat.le_of_ble_eq_true rfl) ?_
  intro p e s m args below meth c ls hx hb het hml hown hlk hA hZ hP hl
  replace hown : s.vm.findClass RX9 = some m.cls := hown
  replace hl : lv_has ls 1 [(0, .ref a0)] := hl
  unfold fX9_checkReady at hf
  refine lv_aload_n hx hb dX9_checkReady_0 rfl (lv_at hl 0 rfl) ?_
  obtain ⟨e9 | u9, q_1, hf⟩ := obd hf
  · dsimp only at hf
    cases hf
    exact th_v (n := 0) (As := []) (q0 := 0) hx hb het hlk hml hown hA (tX9_checkMounted l hst G a0 aL0 aL1 aL2 aL3 aL4 aL5 aL6 aL7 aL8 aL9 aL10 aL11 aL12 aH0 aT0 aW0 aE0 md mch fra fwe fof fsi csh cde csp rd rw rp rco rmo apa awo ash aja abu ltol lchi ljam _ q_1) g_X9_165 gd_X9_checkMounted ⟨(Nat.le_of_ble_eq_true rfl), (Nat.le_of_ble_eq_true rfl)⟩ hZ (hP.sub [0, 1, 2, 3, 4, 5, 6, 7, 8, 9, 10, 11, 12, 13] rfl) rfl rfl rfl hl.1 (Nat.le_of_ble_eq_true rfl) ⟨(Nat.le_of_ble_eq_true rfl), (Nat.le_of_ble_eq_true rfl)⟩ dX9_checkReady_1
  dsimp only at hf
  refine ro_v (n := 0) (As := []) (q0 := 0) hx hb hml hown hA (kX9_checkMounted l G a0 aL0 aL1 aL2 aL3 aL4 aL5 aL6 aL7 aL8 aL9 aL10 aL11 aL12 aH0 aT0 aW0 aE0 md mch fra fwe fof fsi csh cde csp rd rw rp rco rmo apa awo ash aja abu ltol lchi ljam q_1) g_X9_165 gd_X9_checkMounted ⟨(Nat.le_of_ble_eq_true rfl), (Nat.le_of_ble_eq_true rfl)⟩ hZ (hP.sub [0, 1, 2, 3, 4, 5, 6, 7, 8, 9, 10, 11, 12, 13] rfl) rfl rfl rfl hl.1 (Nat.le_of_ble_eq_true rfl) ⟨(Nat.le_of_ble_eq_true rfl), (Nat.le_of_ble_eq_true rfl)⟩ dX9_checkReady_1 ?_
  refine W.eq (g2 := F0 m 4 ls []) rfl ?_
  refine lv_aload_n hx hb dX9_checkReady_4 rfl (lv_at hl 0 rfl) ?_
  refine gf_X9_10 hx hb hown hA hP 0 rfl rfl dX9_checkReady_5 ?_
  obtain ⟨r_2, q_3, hf⟩ := obd hf
  refine ro_v (n := 0) (As := []) (q0 := 0) hx hb hml hown hA (kX4_canRun l G aL0 aL1 aL2 aL3 aL4 aL5 aL6 aL7 aL8 aL9 aL10 aL11 aL12 md mch fra fwe fof fsi csh cde csp rd rw rp rco rmo apa awo ash aja abu ltol lchi ljam r_2 q_3) g_X9_175 gd_X4_canRun ⟨(Nat.le_of_ble_eq_true rfl), (Nat.le_of_ble_eq_true rfl)⟩ hZ (hP.sub [1, 2, 3, 4, 5, 6, 7, 8, 9, 10, 11, 12, 13] rfl) rfl rfl rfl hl.1 (Nat.le_of_ble_eq_true rfl) ⟨(Nat.le_of_ble_eq_true rfl), (Nat.le_of_ble_eq_true rfl)⟩ dX9_checkReady_8 ?_
  refine W.eq (g2 := F0 m 11 ls [.int r_2]) rfl ?_
  obtain ⟨e9 | u9, q_4, hf⟩ := obd hf
  · dsimp only at hf
    cases hf
    exact th_s (n := 1) (As := [.int r_2]) hx hb het hlk hml hown hA (tX9_checkState l hst G r_2 _ q_4) g_X9_142 gd_X9_checkState ⟨(Nat.le_of_ble_eq_true rfl), (Nat.le_of_ble_eq_true rfl)⟩ hZ (fun _ _ h => by simp at h) rfl hl.1 (Nat.le_of_ble_eq_true rfl) ⟨(Nat.le_of_ble_eq_true rfl), (Nat.le_of_ble_eq_true rfl)⟩ dX9_checkReady_11
  dsimp only at hf
  exact (oml hf).elim
def fX9_ifPassed (md : Nat → Int32) (mch : Int32) (fra : Int32) (fwe : Int32) (fof : Int32) (csh : Int32) (cde : Int32) (rd : Nat → Int32) (rmo : Int32) (lchi : Int32) (ljam : Int32)  : Option (Nat ⊕ (Int32)) :=
  ((fX9_checkReady csh rmo ljam).bind fun z => match z with | .inl e => some (.inl e) | .inr _ => (Option.map Sum.inr (((fX4_wouldCut md mch fra fwe fof csh cde rd rmo lchi).bind fun r_2 => some r_2))))
set_option maxHeartbeats 4000000 in
set_option maxRecDepth 100000 in
theorem kX9_ifPassed (l : Launch) (G : GG) (a0 aL0 aL1 aL2 aL3 aL4 aL5 aL6 aL7 aL8 aL9 aL10 aL11 aL12 aH0 aT0 aW0 aE0 : Nat) (md : Nat → Int32) (mch : Int32) (fra : Int32) (fwe : Int32) (fof : Int32) (fsi : Int32) (csh : Int32) (cde : Int32) (csp : Int32) (rd : Nat → Int32) (rw : Nat → Int32) (rp : Nat → Int32) (rco : Int32) (rmo : Int32) (apa : Int32) (awo : Int32) (ash : Int32) (aja : Int32) (abu : Int32) (ltol : Int32) (lchi : Int32) (ljam : Int32)  (r_0 : Int32) (hf : fX9_ifPassed md mch fra fwe fof csh cde rd rmo lchi ljam = some (.inr r_0)) : Ro l G yX9_ifPassed cX9_ifPassed 1 (some .int) 9 141 [.ref a0] [(a0, .inr (9, [.ref aL0, .ref aH0, .ref aT0, .ref aW0, .ref aE0])), (aL0, .inr (4, [.ref aL1, .ref aL3, .ref aL4, .ref aL5, .ref aL12, .int ltol, .int lchi, .int ljam])), (aL1, .inr (6, [.ref aL2, .int mch])), (aL2, .inl (G.2.1, 48, .inl md)), (aL3, .inr (2, [.int fra, .int fwe, .int fof, .int fsi])), (aL4, .inr (1, [.int csh, .int cde, .int csp])), (aL5, .inr (7, [.ref aL6, .ref aL8, .ref aL10, .int rco, .int rmo])), (aL6, .inr (8, [.ref aL7])), (aL7, .inl (G.2.1, 80, .inl rd)), (aL8, .inr (8, [.ref aL9])), (aL9, .inl (G.2.1, 5, .inl rw)), (aL10, .inr (8, [.ref aL11])), (aL11, .inl (G.2.1, 5, .inl rp)), (aL12, .inr (0, [.int apa, .int awo, .int ash, .int aja, .int abu]))] (some (.int r_0)) := by
  refine ro_of (by decide) (Nat.le_of_ble_eq_true rfl) ?_
  intro p e s m args below meth c ls hx hb hr hml hown hlk hA hZ hP hl
  replace hown : s.vm.findClass RX9 = some m.cls := hown
  replace hl : lv_has ls 1 [(0, .ref a0)] := hl
  unfold fX9_ifPassed at hf
  refine lv_aload_n hx hb dX9_ifPassed_0 rfl (lv_at hl 0 rfl) ?_
  obtain ⟨e9 | u9, q_1, hf⟩ := obd hf
  · dsimp only at hf
    cases hf
  dsimp only at hf
  replace hf := omr hf
  refine ro_v (n := 0) (As := []) (q0 := 0) hx hb hml hown hA (kX9_checkReady l G a0 aL0 aL1 aL2 aL3 aL4 aL5 aL6 aL7 aL8 aL9 aL10 aL11 aL12 aH0 aT0 aW0 aE0 md mch fra fwe fof fsi csh cde csp rd rw rp rco rmo apa awo ash aja abu ltol lchi ljam q_1) g_X9_168 gd_X9_checkReady ⟨(Nat.le_of_ble_eq_true rfl), (Nat.le_of_ble_eq_true rfl)⟩ hZ (hP.sub [0, 1, 2, 3, 4, 5, 6, 7, 8, 9, 10, 11, 12, 13] rfl) rfl rfl rfl hl.1 (Nat.le_of_ble_eq_true rfl) ⟨(Nat.le_of_ble_eq_true rfl), (Nat.le_of_ble_eq_true rfl)⟩ dX9_ifPassed_1 ?_
  refine W.eq (g2 := F0 m 4 ls []) rfl ?_
  refine lv_aload_n hx hb dX9_ifPassed_4 rfl (lv_at hl 0 rfl) ?_
  refine gf_X9_10 hx hb hown hA hP 0 rfl rfl dX9_ifPassed_5 ?_
  obtain ⟨r_2, q_3, hf⟩ := obd hf
  refine ro_v (n := 0) (As := []) (q0 := 0) hx hb hml hown hA (kX4_wouldCut l G aL0 aL1 aL2 aL3 aL4 aL5 aL6 aL7 aL8 aL9 aL10 aL11 aL12 md mch fra fwe fof fsi csh cde csp rd rw rp rco rmo apa awo ash aja abu ltol lchi ljam r_2 q_3) g_X9_286 gd_X4_wouldCut ⟨(Nat.le_of_ble_eq_true rfl), (Nat.le_of_ble_eq_true rfl)⟩ hZ (hP.sub [1, 2, 3, 4, 5, 6, 7, 8, 9, 10, 11, 12, 13] rfl) rfl rfl rfl hl.1 (Nat.le_of_ble_eq_true rfl) ⟨(Nat.le_of_ble_eq_true rfl), (Nat.le_of_ble_eq_true rfl)⟩ dX9_ifPassed_8 ?_
  refine W.eq (g2 := F0 m 11 ls [.int r_2]) rfl ?_
  cases hf
  exact ro_iret hx hb hr hlk dX9_ifPassed_11
set_option maxHeartbeats 4000000 in
set_option maxRecDepth 100000 in
theorem tX9_ifPassed (l : Launch) (hst : l.stackTraces = false) (G : GG) (a0 aL0 aL1 aL2 aL3 aL4 aL5 aL6 aL7 aL8 aL9 aL10 aL11 aL12 aH0 aT0 aW0 aE0 : Nat) (md : Nat → Int32) (mch : Int32) (fra : Int32) (fwe : Int32) (fof : Int32) (fsi : Int32) (csh : Int32) (cde : Int32) (csp : Int32) (rd : Nat → Int32) (rw : Nat → Int32) (rp : Nat → Int32) (rco : Int32) (rmo : Int32) (apa : Int32) (awo : Int32) (ash : Int32) (aja : Int32) (abu : Int32) (ltol : Int32) (lchi : Int32) (ljam : Int32)  (k9 : Nat) (hf : fX9_ifPassed md mch fra fwe fof csh cde rd rmo lchi ljam = some (.inl k9)) : Th l G yX9_ifPassed cX9_ifPassed 1 (some .int) 9 141 [.ref a0] [(a0, .inr (9, [.ref aL0, .ref aH0, .ref aT0, .ref aW0, .ref aE0])), (aL0, .inr (4, [.ref aL1, .ref aL3, .ref aL4, .ref aL5, .ref aL12, .int ltol, .int lchi, .int ljam])), (aL1, .inr (6, [.ref aL2, .int mch])), (aL2, .inl (G.2.1, 48, .inl md)), (aL3, .inr (2, [.int fra, .int fwe, .int fof, .int fsi])), (aL4, .inr (1, [.int csh, .int cde, .int csp])), (aL5, .inr (7, [.ref aL6, .ref aL8, .ref aL10, .int rco, .int rmo])), (aL6, .inr (8, [.ref aL7])), (aL7, .inl (G.2.1, 80, .inl rd)), (aL8, .inr (8, [.ref aL9])), (aL9, .inl (G.2.1, 5, .inl rw)), (aL10, .inr (8, [.ref aL11])), (aL11, .inl (G.2.1, 5, .inl rp)), (aL12, .inr (0, [.int apa, .int awo, .int ash, .int aja, .int abu]))] (exn k9) := by
  refine th_of (by decide) (Nat.le_of_ble_eq_true rfl) ?_
  intro p e s m args below meth c ls hx hb het hml hown hlk hA hZ hP hl
  replace hown : s.vm.findClass RX9 = some m.cls := hown
  replace hl : lv_has ls 1 [(0, .ref a0)] := hl
  unfold fX9_ifPassed at hf
  refine lv_aload_n hx hb dX9_ifPassed_0 rfl (lv_at hl 0 rfl) ?_
  obtain ⟨e9 | u9, q_1, hf⟩ := obd hf
  · dsimp only at hf
    cases hf
    exact th_v (n := 0) (As := []) (q0 := 0) hx hb het hlk hml hown hA (tX9_checkReady l hst G a0 aL0 aL1 aL2 aL3 aL4 aL5 aL6 aL7 aL8 aL9 aL10 aL11 aL12 aH0 aT0 aW0 aE0 md mch fra fwe fof fsi csh cde csp rd rw rp rco rmo apa awo ash aja abu ltol lchi ljam _ q_1) g_X9_168 gd_X9_checkReady ⟨(Nat.le_of_ble_eq_true rfl), (Nat.le_of_ble_eq_true rfl)⟩ hZ (hP.sub [0, 1, 2, 3, 4, 5, 6, 7, 8, 9, 10, 11, 12, 13] rfl) rfl rfl rfl hl.1 (Nat.le_of_ble_eq_true rfl) ⟨(Nat.le_of_ble_eq_true rfl), (Nat.le_of_ble_eq_true rfl)⟩ dX9_ifPassed_1
  dsimp only at hf
  exact (oml hf).elim
def fX9_countPasses_L2 (md : Nat → Int32) (mch : Int32) (fra : Int32) (fwe : Int32) (fof : Int32) (rd : Nat → Int32) (rmo : Int32)  : Nat → Int32 → (Nat → Int32) → Option ((Nat → Int32))
  | 0, _, _ => none
  | n9 + 1, v1, le => (if 16 ≤ v1 then some le else ((fX4_above md mch fra fwe fof rd rmo v1).bind fun r_2 => ((fX8_put 16 le v1 r_2).bind fun rf_4 => fX9_countPasses_L2 md mch fra fwe fof rd rmo n9 (v1 + 1) rf_4)))
def fX9_countPasses_L61 (csh : Int32) (cde : Int32)  : Nat → Int32 → (Nat → Int32) → Option ((Nat → Int32))
  | 0, _, _ => none
  | n9 + 1, v2, le => (if 16 ≤ v2 then some le else ((fX8_at 16 le v2).bind fun r_13 => ((fX1_reach csh cde).bind fun r_15 => ((fX8_put 16 le v2 (mxI 0 (r_13 - r_15))).bind fun rf_17 => fX9_countPasses_L61 csh cde n9 (v2 + 1) rf_17))))
def fX9_countPasses_L42 (csh : Int32) (cde : Int32)  : Nat → Int32 → (Nat → Int32) → Option (Int32 × (Nat → Int32))
  | 0, _, _ => none
  | n9 + 1, v1, le => (if 1000 ≤ v1 then some (v1, le) else ((fX8_greatest 16 le).bind fun r_9 => (if r_9 ≤ 0 then some (v1, le) else ((fX9_countPasses_L61 csh cde 2000 0 le).bind fun le_19 => fX9_countPasses_L42 csh cde n9 (v1 + 1) le_19))))
def fX9_countPasses (md : Nat → Int32) (mch : Int32) (fra : Int32) (fwe : Int32) (fof : Int32) (csh : Int32) (cde : Int32) (rd : Nat → Int32) (rmo : Int32) (le : Nat → Int32)  : Option (Int32 × (Nat → Int32)) :=
  ((fX9_countPasses_L2 md mch fra fwe fof rd rmo 2000 0 le).bind fun le_6 => ((fX9_countPasses_L42 csh cde 2000 0 le_6).bind fun (x1_21, le_22) => some (x1_21, le_22)))
set_option maxHeartbeats 4000000 in
set_option maxRecDepth 100000 in
theorem kX9_countPasses (l : Launch) (G : GG) (a0 aL0 aL1 aL2 aL3 aL4 aL5 aL6 aL7 aL8 aL9 aL10 aL11 aL12 aE0 aE1 aH0 aT0 aW0 : Nat) (md : Nat → Int32) (mch : Int32) (fra : Int32) (fwe : Int32) (fof : Int32) (fsi : Int32) (csh : Int32) (cde : Int32) (csp : Int32) (rd : Nat → Int32) (rw : Nat → Int32) (rp : Nat → Int32) (rco : Int32) (rmo : Int32) (apa : Int32) (awo : Int32) (ash : Int32) (aja : Int32) (abu : Int32) (ltol : Int32) (lchi : Int32) (ljam : Int32) (le : Nat → Int32)  (r_0 : Int32) (le_0 : Nat → Int32) (hf : fX9_countPasses md mch fra fwe fof csh cde rd rmo le = some (r_0, le_0)) : Wr l G yX9_countPasses cX9_countPasses 3 (some .int) 4 90 0 0 [.ref a0] [(a0, .inr (9, [.ref aL0, .ref aH0, .ref aT0, .ref aW0, .ref aE0])), (aL0, .inr (4, [.ref aL1, .ref aL3, .ref aL4, .ref aL5, .ref aL12, .int ltol, .int lchi, .int ljam])), (aL1, .inr (6, [.ref aL2, .int mch])), (aL2, .inl (G.2.1, 48, .inl md)), (aL3, .inr (2, [.int fra, .int fwe, .int fof, .int fsi])), (aL4, .inr (1, [.int csh, .int cde, .int csp])), (aL5, .inr (7, [.ref aL6, .ref aL8, .ref aL10, .int rco, .int rmo])), (aL6, .inr (8, [.ref aL7])), (aL7, .inl (G.2.1, 80, .inl rd)), (aL8, .inr (8, [.ref aL9])), (aL9, .inl (G.2.1, 5, .inl rw)), (aL10, .inr (8, [.ref aL11])), (aL11, .inl (G.2.1, 5, .inl rp)), (aL12, .inr (0, [.int apa, .int awo, .int ash, .int aja, .int abu])), (aE0, .inr (8, [.ref aE1])), (aE1, .inl (G.2.1, 16, .inl le))] (X := Unit) (fun _ => [(a0, .inr (9, [.ref aL0, .ref aH0, .ref aT0, .ref aW0, .ref aE0])), (aL0, .inr (4, [.ref aL1, .ref aL3, .ref aL4, .ref aL5, .ref aL12, .int ltol, .int lchi, .int ljam])), (aL1, .inr (6, [.ref aL2, .int mch])), (aL2, .inl (G.2.1, 48, .inl md)), (aL3, .inr (2, [.int fra, .int fwe, .int fof, .int fsi])), (aL4, .inr (1, [.int csh, .int cde, .int csp])), (aL5, .inr (7, [.ref aL6, .ref aL8, .ref aL10, .int rco, .int rmo])), (aL6, .inr (8, [.ref aL7])), (aL7, .inl (G.2.1, 80, .inl rd)), (aL8, .inr (8, [.ref aL9])), (aL9, .inl (G.2.1, 5, .inl rw)), (aL10, .inr (8, [.ref aL11])), (aL11, .inl (G.2.1, 5, .inl rp)), (aL12, .inr (0, [.int apa, .int awo, .int ash, .int aja, .int abu])), (aE0, .inr (8, [.ref aE1])), (aE1, .inl (G.2.1, 16, .inl le_0))]) (some (.int r_0)) := by
  refine wr_of (by decide) (Nat.le_of_ble_eq_true rfl) ?_
  intro p e s m args below meth c ls A hx hb hr hml hown hlk hA hZ hP hD hS hA0 hin hl
  have hP : va_P G.1 vwCl [(a0, .inr (9, [.ref aL0, .ref aH0, .ref aT0, .ref aW0, .ref aE0])), (aL0, .inr (4, [.ref aL1, .ref aL3, .ref aL4, .ref aL5, .ref aL12, .int ltol, .int lchi, .int ljam])), (aL1, .inr (6, [.ref aL2, .int mch])), (aL2, .inl (G.2.1, 48, .inl md)), (aL3, .inr (2, [.int fra, .int fwe, .int fof, .int fsi])), (aL4, .inr (1, [.int csh, .int cde, .int csp])), (aL5, .inr (7, [.ref aL6, .ref aL8, .ref aL10, .int rco, .int rmo])), (aL6, .inr (8, [.ref aL7])), (aL7, .inl (G.2.1, 80, .inl rd)), (aL8, .inr (8, [.ref aL9])), (aL9, .inl (G.2.1, 5, .inl rw)), (aL10, .inr (8, [.ref aL11])), (aL11, .inl (G.2.1, 5, .inl rp)), (aL12, .inr (0, [.int apa, .int awo, .int ash, .int aja, .int abu])), (aE0, .inr (8, [.ref aE1])), (aE1, .inl (G.2.1, 16, .inl le))] s.heap := hP
  replace hown : s.vm.findClass RX9 = some m.cls := hown
  replace hl : lv_has ls 3 [(0, .ref a0)] := hl
  unfold fX9_countPasses at hf
  refine lv_iconst (v := 0) hx hb dX9_countPasses_0 (by decide) ?_
  refine lv_istore_n (lv' := [(1, .int 0), (0, .ref a0)]) hx hb dX9_countPasses_1 rfl hl (by decide) rfl (fun ls hl => ?_)
  have lp2 : ∀   (n : Nat) (v1 : Int32) (le : Nat → Int32) (le_6 : Nat → Int32) (Q : State → Prop), fX9_countPasses_L2 md mch fra fwe fof rd rmo n v1 le = some le_6 → ∀ (H : Heap) (locs : List Loc), va_P G.1 vwCl [(a0, .inr (9, [.ref aL0, .ref aH0, .ref aT0, .ref aW0, .ref aE0])), (aL0, .inr (4, [.ref aL1, .ref aL3, .ref aL4, .ref aL5, .ref aL12, .int ltol, .int lchi, .int ljam])), (aL1, .inr (6, [.ref aL2, .int mch])), (aL2, .inl (G.2.1, 48, .inl md)), (aL3, .inr (2, [.int fra, .int fwe, .int fof, .int fsi])), (aL4, .inr (1, [.int csh, .int cde, .int csp])), (aL5, .inr (7, [.ref aL6, .ref aL8, .ref aL10, .int rco, .int rmo])), (aL6, .inr (8, [.ref aL7])), (aL7, .inl (G.2.1, 80, .inl rd)), (aL8, .inr (8, [.ref aL9])), (aL9, .inl (G.2.1, 5, .inl rw)), (aL10, .inr (8, [.ref aL11])), (aL11, .inl (G.2.1, 5, .inl rp)), (aL12, .inr (0, [.int apa, .int awo, .int ash, .int aja, .int abu])), (aE0, .inr (8, [.ref aE1])), (aE1, .inl (G.2.1, 16, .inl le))] H → va_D A [(a0, .inr (9, [.ref aL0, .ref aH0, .ref aT0, .ref aW0, .ref aE0])), (aL0, .inr (4, [.ref aL1, .ref aL3, .ref aL4, .ref aL5, .ref aL12, .int ltol, .int lchi, .int ljam])), (aL1, .inr (6, [.ref aL2, .int mch])), (aL2, .inl (G.2.1, 48, .inl md)), (aL3, .inr (2, [.int fra, .int fwe, .int fof, .int fsi])), (aL4, .inr (1, [.int csh, .int cde, .int csp])), (aL5, .inr (7, [.ref aL6, .ref aL8, .ref aL10, .int rco, .int rmo])), (aL6, .inr (8, [.ref aL7])), (aL7, .inl (G.2.1, 80, .inl rd)), (aL8, .inr (8, [.ref aL9])), (aL9, .inl (G.2.1, 5, .inl rw)), (aL10, .inr (8, [.ref aL11])), (aL11, .inl (G.2.1, 5, .inl rp)), (aL12, .inr (0, [.int apa, .int awo, .int ash, .int aja, .int abu])), (aE0, .inr (8, [.ref aE1])), (aE1, .inl (G.2.1, 16, .inl le))] → va_S A s.heap H locs → ∀ (ls : Array Slot), lv_has ls 3 [(0, .ref a0), (1, .int v1)] → (∀ (H : Heap) (locs : List Loc) (ls : Array Slot), va_P G.1 vwCl [(a0, .inr (9, [.ref aL0, .ref aH0, .ref aT0, .ref aW0, .ref aE0])), (aL0, .inr (4, [.ref aL1, .ref aL3, .ref aL4, .ref aL5, .ref aL12, .int ltol, .int lchi, .int ljam])), (aL1, .inr (6, [.ref aL2, .int mch])), (aL2, .inl (G.2.1, 48, .inl md)), (aL3, .inr (2, [.int fra, .int fwe, .int fof, .int fsi])), (aL4, .inr (1, [.int csh, .int cde, .int csp])), (aL5, .inr (7, [.ref aL6, .ref aL8, .ref aL10, .int rco, .int rmo])), (aL6, .inr (8, [.ref aL7])), (aL7, .inl (G.2.1, 80, .inl rd)), (aL8, .inr (8, [.ref aL9])), (aL9, .inl (G.2.1, 5, .inl rw)), (aL10, .inr (8, [.ref aL11])), (aL11, .inl (G.2.1, 5, .inl rp)), (aL12, .inr (0, [.int apa, .int awo, .int ash, .int aja, .int abu])), (aE0, .inr (8, [.ref aE1])), (aE1, .inl (G.2.1, 16, .inl le_6))] H → va_D A [(a0, .inr (9, [.ref aL0, .ref aH0, .ref aT0, .ref aW0, .ref aE0])), (aL0, .inr (4, [.ref aL1, .ref aL3, .ref aL4, .ref aL5, .ref aL12, .int ltol, .int lchi, .int ljam])), (aL1, .inr (6, [.ref aL2, .int mch])), (aL2, .inl (G.2.1, 48, .inl md)), (aL3, .inr (2, [.int fra, .int fwe, .int fof, .int fsi])), (aL4, .inr (1, [.int csh, .int cde, .int csp])), (aL5, .inr (7, [.ref aL6, .ref aL8, .ref aL10, .int rco, .int rmo])), (aL6, .inr (8, [.ref aL7])), (aL7, .inl (G.2.1, 80, .inl rd)), (aL8, .inr (8, [.ref aL9])), (aL9, .inl (G.2.1, 5, .inl rw)), (aL10, .inr (8, [.ref aL11])), (aL11, .inl (G.2.1, 5, .inl rp)), (aL12, .inr (0, [.int apa, .int awo, .int ash, .int aja, .int abu])), (aE0, .inr (8, [.ref aE1])), (aE1, .inl (G.2.1, 16, .inl le_6))] → va_S A s.heap H locs → lv_has ls 3 [(0, .ref a0)] → W p l e { frames := 4, cells := 0, slots := 0, locals := 90 } s m args below meth c H locs 0 0 Q (F0 m 40 ls [])) → W p l e { frames := 4, cells := 0, slots := 0, locals := 90 } s m args below meth c H locs 0 0 Q (F0 m 2 ls []) := by
    intro  n
    induction n with
    | zero => intro v1 le le_6 Q hf; rw [fX9_countPasses_L2] at hf; cases hf
    | succ n ih =>
      intro v1 le le_6 Q hf H locs hP hD hS ls hl kk
      rw [fX9_countPasses_L2] at hf
      refine lv_iload_n hx hb dX9_countPasses_2 rfl (lv_at hl 1 rfl) ?_
      refine lv_bipush (v := 16) hx hb dX9_countPasses_3 (by decide) ?_
      refine lv_icmp_ge (tgt := 40) hx hb dX9_countPasses_5 (by decide) (fun c_1 => ?_) (fun c_1 => ?_)
      · replace hf := ifp c_1 hf
        cases hf
        exact kk _ _ ls hP hD hS (lv_sub hl [0] rfl)
      · replace hf := ifn c_1 hf
        refine lv_aload_n hx hb dX9_countPasses_8 rfl (lv_at hl 0 rfl) ?_
        refine gf_X9_39 hx hb hown hA hP 0 rfl rfl dX9_countPasses_9 ?_
        refine lv_iload_n hx hb dX9_countPasses_12 rfl (lv_at hl 1 rfl) ?_
        refine lv_aload_n hx hb dX9_countPasses_13 rfl (lv_at hl 0 rfl) ?_
        refine gf_X9_10 hx hb hown hA hP 0 rfl rfl dX9_countPasses_14 ?_
        refine lv_aload_n hx hb dX9_countPasses_17 rfl (lv_at hl 0 rfl) ?_
        refine gf_X9_10 hx hb hown hA hP 0 rfl rfl dX9_countPasses_18 ?_
        refine gf_X9_133 hx hb hown hA hP 1 rfl rfl dX9_countPasses_21 ?_
        refine gf_X9_152 hx hb hown hA hP 6 rfl rfl dX9_countPasses_24 ?_
        refine lv_iload_n hx hb dX9_countPasses_27 rfl (lv_at hl 1 rfl) ?_
        obtain ⟨r_2, q_3, hf⟩ := obd hf
        refine ro_v (n := 2) (As := [.int rmo, .int v1]) (q0 := 0) hx hb hml hown hA (kX4_above l G aL0 aL1 aL2 aL3 aL4 aL5 aL6 aL7 aL8 aL9 aL10 aL11 aL12 md mch fra fwe fof fsi csh cde csp rd rw rp rco rmo apa awo ash aja abu ltol lchi ljam rmo v1 r_2 q_3) g_X9_359 gd_X4_above ⟨(Nat.le_of_ble_eq_true rfl), (Nat.le_of_ble_eq_true rfl)⟩ (hZ.at hS) (hP.sub [1, 2, 3, 4, 5, 6, 7, 8, 9, 10, 11, 12, 13] rfl) rfl rfl rfl hl.1 (Nat.le_of_ble_eq_true rfl) ⟨(Nat.le_of_ble_eq_true rfl), (Nat.le_of_ble_eq_true rfl)⟩ dX9_countPasses_28 ?_
        refine W.eq (g2 := F0 m 31 ls [.int r_2, .int v1, .ref aE0]) rfl ?_
        obtain ⟨rf_4, q_5, hf⟩ := obd hf
        refine wr_v (n := 2) (As := [.int v1, .int r_2]) (q0 := 0) (wr := [(a0, .inr (9, [.ref aL0, .ref aH0, .ref aT0, .ref aW0, .ref aE0])), (aL0, .inr (4, [.ref aL1, .ref aL3, .ref aL4, .ref aL5, .ref aL12, .int ltol, .int lchi, .int ljam])), (aL1, .inr (6, [.ref aL2, .int mch])), (aL2, .inl (G.2.1, 48, .inl md)), (aL3, .inr (2, [.int fra, .int fwe, .int fof, .int fsi])), (aL4, .inr (1, [.int csh, .int cde, .int csp])), (aL5, .inr (7, [.ref aL6, .ref aL8, .ref aL10, .int rco, .int rmo])), (aL6, .inr (8, [.ref aL7])), (aL7, .inl (G.2.1, 80, .inl rd)), (aL8, .inr (8, [.ref aL9])), (aL9, .inl (G.2.1, 5, .inl rw)), (aL10, .inr (8, [.ref aL11])), (aL11, .inl (G.2.1, 5, .inl rp)), (aL12, .inr (0, [.int apa, .int awo, .int ash, .int aja, .int abu]))]) (w2 := fun _ => [(a0, .inr (9, [.ref aL0, .ref aH0, .ref aT0, .ref aW0, .ref aE0])), (aL0, .inr (4, [.ref aL1, .ref aL3, .ref aL4, .ref aL5, .ref aL12, .int ltol, .int lchi, .int ljam])), (aL1, .inr (6, [.ref aL2, .int mch])), (aL2, .inl (G.2.1, 48, .inl md)), (aL3, .inr (2, [.int fra, .int fwe, .int fof, .int fsi])), (aL4, .inr (1, [.int csh, .int cde, .int csp])), (aL5, .inr (7, [.ref aL6, .ref aL8, .ref aL10, .int rco, .int rmo])), (aL6, .inr (8, [.ref aL7])), (aL7, .inl (G.2.1, 80, .inl rd)), (aL8, .inr (8, [.ref aL9])), (aL9, .inl (G.2.1, 5, .inl rw)), (aL10, .inr (8, [.ref aL11])), (aL11, .inl (G.2.1, 5, .inl rp)), (aL12, .inr (0, [.int apa, .int awo, .int ash, .int aja, .int abu])), (aE0, .inr (8, [.ref aE1])), (aE1, .inl (G.2.1, 16, .inl rf_4))]) hx hb hml hown hA (kX8_put l G aE0 aE1 16 le v1 r_2 rf_4 q_5 (by decide)) g_X9_357 gd_X8_put ⟨(Nat.le_of_ble_eq_true rfl), (Nat.le_of_ble_eq_true rfl)⟩ hZ hP hD hS hA0 rfl rfl [14, 15] [0, 1, 2, 3, 4, 5, 6, 7, 8, 9, 10, 11, 12, 13] [0, 1, 2, 3, 4, 5, 6, 7, 8, 9, 10, 11, 12, 13, 14, 15] rfl rfl rfl rfl (by decide) (fun _ => rfl) rfl rfl hl.1 (Nat.le_of_ble_eq_true rfl) ⟨(Nat.le_of_ble_eq_true rfl), (Nat.le_of_ble_eq_true rfl)⟩ dX9_countPasses_31 (fun _ H locs hP hD hS => ?_)
        refine W.eq (g2 := F0 m 34 ls []) rfl ?_
        refine lv_iinc (v := v1 + 1) (lv' := [(1, .int (v1 + 1)), (0, .ref a0)]) hx hb dX9_countPasses_34 hl (k := 1) rfl rfl (by decide) rfl (fun ls hl => ?_)
        refine lv_goto (tgt := 2) hx hb dX9_countPasses_37 (by decide) ?_
        exact ih _ _ _ _ hf _ _ hP hD hS ls (lv_sub hl [1, 0] rfl) kk
  obtain ⟨le_6, q_7, hf⟩ := obd hf
  refine lp2 _ _ _ _ _ q_7 _ _ hP hD hS ls (lv_sub hl [1, 0] rfl) (fun H locs ls hP hD hS hl => ?_)
  refine lv_iconst (v := 0) hx hb dX9_countPasses_40 (by decide) ?_
  refine lv_istore_n (lv' := [(1, .int 0), (0, .ref a0)]) hx hb dX9_countPasses_41 rfl hl (by decide) rfl (fun ls hl => ?_)
  have lp42 : ∀   (n : Nat) (v1 : Int32) (le : Nat → Int32) (x1_21 : Int32) (le_22 : Nat → Int32) (Q : State → Prop), fX9_countPasses_L42 csh cde n v1 le = some (x1_21, le_22) → ∀ (H : Heap) (locs : List Loc), va_P G.1 vwCl [(a0, .inr (9, [.ref aL0, .ref aH0, .ref aT0, .ref aW0, .ref aE0])), (aL0, .inr (4, [.ref aL1, .ref aL3, .ref aL4, .ref aL5, .ref aL12, .int ltol, .int lchi, .int ljam])), (aL1, .inr (6, [.ref aL2, .int mch])), (aL2, .inl (G.2.1, 48, .inl md)), (aL3, .inr (2, [.int fra, .int fwe, .int fof, .int fsi])), (aL4, .inr (1, [.int csh, .int cde, .int csp])), (aL5, .inr (7, [.ref aL6, .ref aL8, .ref aL10, .int rco, .int rmo])), (aL6, .inr (8, [.ref aL7])), (aL7, .inl (G.2.1, 80, .inl rd)), (aL8, .inr (8, [.ref aL9])), (aL9, .inl (G.2.1, 5, .inl rw)), (aL10, .inr (8, [.ref aL11])), (aL11, .inl (G.2.1, 5, .inl rp)), (aL12, .inr (0, [.int apa, .int awo, .int ash, .int aja, .int abu])), (aE0, .inr (8, [.ref aE1])), (aE1, .inl (G.2.1, 16, .inl le))] H → va_D A [(a0, .inr (9, [.ref aL0, .ref aH0, .ref aT0, .ref aW0, .ref aE0])), (aL0, .inr (4, [.ref aL1, .ref aL3, .ref aL4, .ref aL5, .ref aL12, .int ltol, .int lchi, .int ljam])), (aL1, .inr (6, [.ref aL2, .int mch])), (aL2, .inl (G.2.1, 48, .inl md)), (aL3, .inr (2, [.int fra, .int fwe, .int fof, .int fsi])), (aL4, .inr (1, [.int csh, .int cde, .int csp])), (aL5, .inr (7, [.ref aL6, .ref aL8, .ref aL10, .int rco, .int rmo])), (aL6, .inr (8, [.ref aL7])), (aL7, .inl (G.2.1, 80, .inl rd)), (aL8, .inr (8, [.ref aL9])), (aL9, .inl (G.2.1, 5, .inl rw)), (aL10, .inr (8, [.ref aL11])), (aL11, .inl (G.2.1, 5, .inl rp)), (aL12, .inr (0, [.int apa, .int awo, .int ash, .int aja, .int abu])), (aE0, .inr (8, [.ref aE1])), (aE1, .inl (G.2.1, 16, .inl le))] → va_S A s.heap H locs → ∀ (ls : Array Slot), lv_has ls 3 [(0, .ref a0), (1, .int v1)] → (∀ (H : Heap) (locs : List Loc) (ls : Array Slot), va_P G.1 vwCl [(a0, .inr (9, [.ref aL0, .ref aH0, .ref aT0, .ref aW0, .ref aE0])), (aL0, .inr (4, [.ref aL1, .ref aL3, .ref aL4, .ref aL5, .ref aL12, .int ltol, .int lchi, .int ljam])), (aL1, .inr (6, [.ref aL2, .int mch])), (aL2, .inl (G.2.1, 48, .inl md)), (aL3, .inr (2, [.int fra, .int fwe, .int fof, .int fsi])), (aL4, .inr (1, [.int csh, .int cde, .int csp])), (aL5, .inr (7, [.ref aL6, .ref aL8, .ref aL10, .int rco, .int rmo])), (aL6, .inr (8, [.ref aL7])), (aL7, .inl (G.2.1, 80, .inl rd)), (aL8, .inr (8, [.ref aL9])), (aL9, .inl (G.2.1, 5, .inl rw)), (aL10, .inr (8, [.ref aL11])), (aL11, .inl (G.2.1, 5, .inl rp)), (aL12, .inr (0, [.int apa, .int awo, .int ash, .int aja, .int abu])), (aE0, .inr (8, [.ref aE1])), (aE1, .inl (G.2.1, 16, .inl le_22))] H → va_D A [(a0, .inr (9, [.ref aL0, .ref aH0, .ref aT0, .ref aW0, .ref aE0])), (aL0, .inr (4, [.ref aL1, .ref aL3, .ref aL4, .ref aL5, .ref aL12, .int ltol, .int lchi, .int ljam])), (aL1, .inr (6, [.ref aL2, .int mch])), (aL2, .inl (G.2.1, 48, .inl md)), (aL3, .inr (2, [.int fra, .int fwe, .int fof, .int fsi])), (aL4, .inr (1, [.int csh, .int cde, .int csp])), (aL5, .inr (7, [.ref aL6, .ref aL8, .ref aL10, .int rco, .int rmo])), (aL6, .inr (8, [.ref aL7])), (aL7, .inl (G.2.1, 80, .inl rd)), (aL8, .inr (8, [.ref aL9])), (aL9, .inl (G.2.1, 5, .inl rw)), (aL10, .inr (8, [.ref aL11])), (aL11, .inl (G.2.1, 5, .inl rp)), (aL12, .inr (0, [.int apa, .int awo, .int ash, .int aja, .int abu])), (aE0, .inr (8, [.ref aE1])), (aE1, .inl (G.2.1, 16, .inl le_22))] → va_S A s.heap H locs → lv_has ls 3 [(1, .int x1_21)] → W p l e { frames := 4, cells := 0, slots := 0, locals := 90 } s m args below meth c H locs 0 0 Q (F0 m 110 ls [])) → W p l e { frames := 4, cells := 0, slots := 0, locals := 90 } s m args below meth c H locs 0 0 Q (F0 m 42 ls []) := by
    intro  n
    induction n with
    | zero => intro v1 le x1_21 le_22 Q hf; rw [fX9_countPasses_L42] at hf; cases hf
    | succ n ih =>
      intro v1 le x1_21 le_22 Q hf H locs hP hD hS ls hl kk
      rw [fX9_countPasses_L42] at hf
      refine lv_iload_n hx hb dX9_countPasses_42 rfl (lv_at hl 1 rfl) ?_
      refine lv_sipush (v := 1000) hx hb dX9_countPasses_43 (by decide) ?_
      refine lv_icmp_ge (tgt := 110) hx hb dX9_countPasses_46 (by decide) (fun c_8 => ?_) (fun c_8 => ?_)
      · replace hf := ifp c_8 hf
        cases hf
        exact kk _ _ ls hP hD hS (lv_sub hl [1] rfl)
      · replace hf := ifn c_8 hf
        refine lv_aload_n hx hb dX9_countPasses_49 rfl (lv_at hl 0 rfl) ?_
        refine gf_X9_39 hx hb hown hA hP 0 rfl rfl dX9_countPasses_50 ?_
        obtain ⟨r_9, q_10, hf⟩ := obd hf
        refine ro_v (n := 0) (As := []) (q0 := 0) hx hb hml hown hA (kX8_greatest l G aE0 aE1 16 le r_9 q_10 (by decide)) g_X9_362 gd_X8_greatest ⟨(Nat.le_of_ble_eq_true rfl), (Nat.le_of_ble_eq_true rfl)⟩ (hZ.at hS) (hP.sub [14, 15] rfl) rfl rfl rfl hl.1 (Nat.le_of_ble_eq_true rfl) ⟨(Nat.le_of_ble_eq_true rfl), (Nat.le_of_ble_eq_true rfl)⟩ dX9_countPasses_53 ?_
        refine W.eq (g2 := F0 m 56 ls [.int r_9]) rfl ?_
        refine lv_if_le (tgt := 110) hx hb dX9_countPasses_56 (by decide) (fun c_11 => ?_) (fun c_11 => ?_)
        · replace hf := ifp c_11 hf
          cases hf
          exact kk _ _ ls hP hD hS (lv_sub hl [1] rfl)
        · replace hf := ifn c_11 hf
          refine lv_iconst (v := 0) hx hb dX9_countPasses_59 (by decide) ?_
          refine lv_istore_n (lv' := [(2, .int 0), (0, .ref a0), (1, .int v1)]) hx hb dX9_countPasses_60 rfl hl (by decide) rfl (fun ls hl => ?_)
          have lp61 : ∀ (v1 : Int32)  (n : Nat) (v2 : Int32) (le : Nat → Int32) (le_19 : Nat → Int32) (Q : State → Prop), fX9_countPasses_L61 csh cde n v2 le = some le_19 → ∀ (H : Heap) (locs : List Loc), va_P G.1 vwCl [(a0, .inr (9, [.ref aL0, .ref aH0, .ref aT0, .ref aW0, .ref aE0])), (aL0, .inr (4, [.ref aL1, .ref aL3, .ref aL4, .ref aL5, .ref aL12, .int ltol, .int lchi, .int ljam])), (aL1, .inr (6, [.ref aL2, .int mch])), (aL2, .inl (G.2.1, 48, .inl md)), (aL3, .inr (2, [.int fra, .int fwe, .int fof, .int fsi])), (aL4, .inr (1, [.int csh, .int cde, .int csp])), (aL5, .inr (7, [.ref aL6, .ref aL8, .ref aL10, .int rco, .int rmo])), (aL6, .inr (8, [.ref aL7])), (aL7, .inl (G.2.1, 80, .inl rd)), (aL8, .inr (8, [.ref aL9])), (aL9, .inl (G.2.1, 5, .inl rw)), (aL10, .inr (8, [.ref aL11])), (aL11, .inl (G.2.1, 5, .inl rp)), (aL12, .inr (0, [.int apa, .int awo, .int ash, .int aja, .int abu])), (aE0, .inr (8, [.ref aE1])), (aE1, .inl (G.2.1, 16, .inl le))] H → va_D A [(a0, .inr (9, [.ref aL0, .ref aH0, .ref aT0, .ref aW0, .ref aE0])), (aL0, .inr (4, [.ref aL1, .ref aL3, .ref aL4, .ref aL5, .ref aL12, .int ltol, .int lchi, .int ljam])), (aL1, .inr (6, [.ref aL2, .int mch])), (aL2, .inl (G.2.1, 48, .inl md)), (aL3, .inr (2, [.int fra, .int fwe, .int fof, .int fsi])), (aL4, .inr (1, [.int csh, .int cde, .int csp])), (aL5, .inr (7, [.ref aL6, .ref aL8, .ref aL10, .int rco, .int rmo])), (aL6, .inr (8, [.ref aL7])), (aL7, .inl (G.2.1, 80, .inl rd)), (aL8, .inr (8, [.ref aL9])), (aL9, .inl (G.2.1, 5, .inl rw)), (aL10, .inr (8, [.ref aL11])), (aL11, .inl (G.2.1, 5, .inl rp)), (aL12, .inr (0, [.int apa, .int awo, .int ash, .int aja, .int abu])), (aE0, .inr (8, [.ref aE1])), (aE1, .inl (G.2.1, 16, .inl le))] → va_S A s.heap H locs → ∀ (ls : Array Slot), lv_has ls 3 [(0, .ref a0), (1, .int v1), (2, .int v2)] → (∀ (H : Heap) (locs : List Loc) (ls : Array Slot), va_P G.1 vwCl [(a0, .inr (9, [.ref aL0, .ref aH0, .ref aT0, .ref aW0, .ref aE0])), (aL0, .inr (4, [.ref aL1, .ref aL3, .ref aL4, .ref aL5, .ref aL12, .int ltol, .int lchi, .int ljam])), (aL1, .inr (6, [.ref aL2, .int mch])), (aL2, .inl (G.2.1, 48, .inl md)), (aL3, .inr (2, [.int fra, .int fwe, .int fof, .int fsi])), (aL4, .inr (1, [.int csh, .int cde, .int csp])), (aL5, .inr (7, [.ref aL6, .ref aL8, .ref aL10, .int rco, .int rmo])), (aL6, .inr (8, [.ref aL7])), (aL7, .inl (G.2.1, 80, .inl rd)), (aL8, .inr (8, [.ref aL9])), (aL9, .inl (G.2.1, 5, .inl rw)), (aL10, .inr (8, [.ref aL11])), (aL11, .inl (G.2.1, 5, .inl rp)), (aL12, .inr (0, [.int apa, .int awo, .int ash, .int aja, .int abu])), (aE0, .inr (8, [.ref aE1])), (aE1, .inl (G.2.1, 16, .inl le_19))] H → va_D A [(a0, .inr (9, [.ref aL0, .ref aH0, .ref aT0, .ref aW0, .ref aE0])), (aL0, .inr (4, [.ref aL1, .ref aL3, .ref aL4, .ref aL5, .ref aL12, .int ltol, .int lchi, .int ljam])), (aL1, .inr (6, [.ref aL2, .int mch])), (aL2, .inl (G.2.1, 48, .inl md)), (aL3, .inr (2, [.int fra, .int fwe, .int fof, .int fsi])), (aL4, .inr (1, [.int csh, .int cde, .int csp])), (aL5, .inr (7, [.ref aL6, .ref aL8, .ref aL10, .int rco, .int rmo])), (aL6, .inr (8, [.ref aL7])), (aL7, .inl (G.2.1, 80, .inl rd)), (aL8, .inr (8, [.ref aL9])), (aL9, .inl (G.2.1, 5, .inl rw)), (aL10, .inr (8, [.ref aL11])), (aL11, .inl (G.2.1, 5, .inl rp)), (aL12, .inr (0, [.int apa, .int awo, .int ash, .int aja, .int abu])), (aE0, .inr (8, [.ref aE1])), (aE1, .inl (G.2.1, 16, .inl le_19))] → va_S A s.heap H locs → lv_has ls 3 [(0, .ref a0), (1, .int v1)] → W p l e { frames := 4, cells := 0, slots := 0, locals := 90 } s m args below meth c H locs 0 0 Q (F0 m 104 ls [])) → W p l e { frames := 4, cells := 0, slots := 0, locals := 90 } s m args below meth c H locs 0 0 Q (F0 m 61 ls []) := by
            intro v1 n
            induction n with
            | zero => intro v2 le le_19 Q hf; rw [fX9_countPasses_L61] at hf; cases hf
            | succ n ih =>
              intro v2 le le_19 Q hf H locs hP hD hS ls hl kk
              rw [fX9_countPasses_L61] at hf
              refine lv_iload_n hx hb dX9_countPasses_61 rfl (lv_at hl 2 rfl) ?_
              refine lv_bipush (v := 16) hx hb dX9_countPasses_62 (by decide) ?_
              refine lv_icmp_ge (tgt := 104) hx hb dX9_countPasses_64 (by decide) (fun c_12 => ?_) (fun c_12 => ?_)
              · replace hf := ifp c_12 hf
                cases hf
                exact kk _ _ ls hP hD hS (lv_sub hl [0, 1] rfl)
              · replace hf := ifn c_12 hf
                refine lv_aload_n hx hb dX9_countPasses_67 rfl (lv_at hl 0 rfl) ?_
                refine gf_X9_39 hx hb hown hA hP 0 rfl rfl dX9_countPasses_68 ?_
                refine lv_iload_n hx hb dX9_countPasses_71 rfl (lv_at hl 2 rfl) ?_
                refine lv_iconst (v := 0) hx hb dX9_countPasses_72 (by decide) ?_
                refine lv_aload_n hx hb dX9_countPasses_73 rfl (lv_at hl 0 rfl) ?_
                refine gf_X9_39 hx hb hown hA hP 0 rfl rfl dX9_countPasses_74 ?_
                refine lv_iload_n hx hb dX9_countPasses_77 rfl (lv_at hl 2 rfl) ?_
                obtain ⟨r_13, q_14, hf⟩ := obd hf
                refine ro_v (n := 1) (As := [.int v2]) (q0 := 0) hx hb hml hown hA (kX8_at l G aE0 aE1 16 le v2 r_13 q_14 (by decide)) g_X9_204 gd_X8_at ⟨(Nat.le_of_ble_eq_true rfl), (Nat.le_of_ble_eq_true rfl)⟩ (hZ.at hS) (hP.sub [14, 15] rfl) rfl rfl rfl hl.1 (Nat.le_of_ble_eq_true rfl) ⟨(Nat.le_of_ble_eq_true rfl), (Nat.le_of_ble_eq_true rfl)⟩ dX9_countPasses_78 ?_
                refine W.eq (g2 := F0 m 81 ls [.int r_13, .int 0, .int v2, .ref aE0]) rfl ?_
                refine lv_aload_n hx hb dX9_countPasses_81 rfl (lv_at hl 0 rfl) ?_
                refine gf_X9_10 hx hb hown hA hP 0 rfl rfl dX9_countPasses_82 ?_
                refine gf_X9_95 hx hb hown hA hP 1 rfl rfl dX9_countPasses_85 ?_
                obtain ⟨r_15, q_16, hf⟩ := obd hf
                refine ro_v (n := 0) (As := []) (q0 := 0) hx hb hml hown hA (kX1_reach l G aL4 csh cde csp r_15 q_16) g_X9_231 gd_X1_reach ⟨(Nat.le_of_ble_eq_true rfl), (Nat.le_of_ble_eq_true rfl)⟩ (hZ.at hS) (hP.sub [5] rfl) rfl rfl rfl hl.1 (Nat.le_of_ble_eq_true rfl) ⟨(Nat.le_of_ble_eq_true rfl), (Nat.le_of_ble_eq_true rfl)⟩ dX9_countPasses_88 ?_
                refine W.eq (g2 := F0 m 91 ls [.int r_15, .int r_13, .int 0, .int v2, .ref aE0]) rfl ?_
                refine lv_isub hx hb dX9_countPasses_91 ?_
                refine va_mmax hx hb (hml.trans hl.1.symm) hown (hA.hts _ wd_504) (hA.hts _ wd_23) (hA.hts _ wd_24) (hA.hts _ wd_25) (Nat.le_of_ble_eq_true rfl) (Nat.le_of_ble_eq_true rfl) (Nat.le_of_ble_eq_true rfl) (Nat.le_of_ble_eq_true rfl) dX9_countPasses_92 ?_
                obtain ⟨rf_17, q_18, hf⟩ := obd hf
                refine wr_v (n := 2) (As := [.int v2, .int (mxI 0 (r_13 - r_15))]) (q0 := 0) (wr := [(a0, .inr (9, [.ref aL0, .ref aH0, .ref aT0, .ref aW0, .ref aE0])), (aL0, .inr (4, [.ref aL1, .ref aL3, .ref aL4, .ref aL5, .ref aL12, .int ltol, .int lchi, .int ljam])), (aL1, .inr (6, [.ref aL2, .int mch])), (aL2, .inl (G.2.1, 48, .inl md)), (aL3, .inr (2, [.int fra, .int fwe, .int fof, .int fsi])), (aL4, .inr (1, [.int csh, .int cde, .int csp])), (aL5, .inr (7, [.ref aL6, .ref aL8, .ref aL10, .int rco, .int rmo])), (aL6, .inr (8, [.ref aL7])), (aL7, .inl (G.2.1, 80, .inl rd)), (aL8, .inr (8, [.ref aL9])), (aL9, .inl (G.2.1, 5, .inl rw)), (aL10, .inr (8, [.ref aL11])), (aL11, .inl (G.2.1, 5, .inl rp)), (aL12, .inr (0, [.int apa, .int awo, .int ash, .int aja, .int abu]))]) (w2 := fun _ => [(a0, .inr (9, [.ref aL0, .ref aH0, .ref aT0, .ref aW0, .ref aE0])), (aL0, .inr (4, [.ref aL1, .ref aL3, .ref aL4, .ref aL5, .ref aL12, .int ltol, .int lchi, .int ljam])), (aL1, .inr (6, [.ref aL2, .int mch])), (aL2, .inl (G.2.1, 48, .inl md)), (aL3, .inr (2, [.int fra, .int fwe, .int fof, .int fsi])), (aL4, .inr (1, [.int csh, .int cde, .int csp])), (aL5, .inr (7, [.ref aL6, .ref aL8, .ref aL10, .int rco, .int rmo])), (aL6, .inr (8, [.ref aL7])), (aL7, .inl (G.2.1, 80, .inl rd)), (aL8, .inr (8, [.ref aL9])), (aL9, .inl (G.2.1, 5, .inl rw)), (aL10, .inr (8, [.ref aL11])), (aL11, .inl (G.2.1, 5, .inl rp)), (aL12, .inr (0, [.int apa, .int awo, .int ash, .int aja, .int abu])), (aE0, .inr (8, [.ref aE1])), (aE1, .inl (G.2.1, 16, .inl rf_17))]) hx hb hml hown hA (kX8_put l G aE0 aE1 16 le v2 (mxI 0 (r_13 - r_15)) rf_17 q_18 (by decide)) g_X9_357 gd_X8_put ⟨(Nat.le_of_ble_eq_true rfl), (Nat.le_of_ble_eq_true rfl)⟩ hZ hP hD hS hA0 rfl rfl [14, 15] [0, 1, 2, 3, 4, 5, 6, 7, 8, 9, 10, 11, 12, 13] [0, 1, 2, 3, 4, 5, 6, 7, 8, 9, 10, 11, 12, 13, 14, 15] rfl rfl rfl rfl (by decide) (fun _ => rfl) rfl rfl hl.1 (Nat.le_of_ble_eq_true rfl) ⟨(Nat.le_of_ble_eq_true rfl), (Nat.le_of_ble_eq_true rfl)⟩ dX9_countPasses_95 (fun _ H locs hP hD hS => ?_)
                refine W.eq (g2 := F0 m 98 ls []) rfl ?_
                refine lv_iinc (v := v2 + 1) (lv' := [(2, .int (v2 + 1)), (0, .ref a0), (1, .int v1)]) hx hb dX9_countPasses_98 hl (k := 2) rfl rfl (by decide) rfl (fun ls hl => ?_)
                refine lv_goto (tgt := 61) hx hb dX9_countPasses_101 (by decide) ?_
                exact ih _ _ _ _ hf _ _ hP hD hS ls (lv_sub hl [1, 2, 0] rfl) kk
          obtain ⟨le_19, q_20, hf⟩ := obd hf
          refine lp61 _ _ _ _ _ _ q_20 _ _ hP hD hS ls (lv_sub hl [1, 2, 0] rfl) (fun H locs ls hP hD hS hl => ?_)
          refine lv_iinc (v := v1 + 1) (lv' := [(1, .int (v1 + 1)), (0, .ref a0)]) hx hb dX9_countPasses_104 hl (k := 1) rfl rfl (by decide) rfl (fun ls hl => ?_)
          refine lv_goto (tgt := 42) hx hb dX9_countPasses_107 (by decide) ?_
          exact ih _ _ _ _ _ hf _ _ hP hD hS ls (lv_sub hl [1, 0] rfl) kk
  obtain ⟨⟨x1_21, le_22⟩, q_23, hf⟩ := obd hf
  dsimp only at hf
  refine lp42 _ _ _ _ _ _ q_23 _ _ hP hD hS ls (lv_sub hl [1, 0] rfl) (fun H locs ls hP hD hS hl => ?_)
  refine lv_iload_n hx hb dX9_countPasses_110 rfl (lv_at hl 0 rfl) ?_
  cases hf
  exact wr_iret () hx hb hr hlk hP hD hS dX9_countPasses_111
def fX9_passesBySteps (md : Nat → Int32) (mch : Int32) (fra : Int32) (fwe : Int32) (fof : Int32) (csh : Int32) (cde : Int32) (rd : Nat → Int32) (rmo : Int32) (le : Nat → Int32)  : Option (Nat ⊕ (Int32 × (Nat → Int32))) :=
  ((fX9_checkMounted rmo).bind fun z => match z with | .inl e => some (.inl e) | .inr _ => ((fX1_isSharp csh).bind fun r_2 => ((fX9_checkState r_2).bind fun z => match z with | .inl e => some (.inl e) | .inr _ => (Option.map Sum.inr (((fX9_countPasses md mch fra fwe fof csh cde rd rmo le).bind fun (r_5, le_6) => some (r_5, le_6)))))))
set_option maxHeartbeats 4000000 in
set_option maxRecDepth 100000 in
theorem kX9_passesBySteps (l : Launch) (G : GG) (a0 aL0 aL1 aL2 aL3 aL4 aL5 aL6 aL7 aL8 aL9 aL10 aL11 aL12 aE0 aE1 aH0 aT0 aW0 : Nat) (md : Nat → Int32) (mch : Int32) (fra : Int32) (fwe : Int32) (fof : Int32) (fsi : Int32) (csh : Int32) (cde : Int32) (csp : Int32) (rd : Nat → Int32) (rw : Nat → Int32) (rp : Nat → Int32) (rco : Int32) (rmo : Int32) (apa : Int32) (awo : Int32) (ash : Int32) (aja : Int32) (abu : Int32) (ltol : Int32) (lchi : Int32) (ljam : Int32) (le : Nat → Int32)  (r_0 : Int32) (le_0 : Nat → Int32) (hf : fX9_passesBySteps md mch fra fwe fof csh cde rd rmo le = some (.inr (r_0, le_0))) : Wr l G yX9_passesBySteps cX9_passesBySteps 1 (some .int) 8 121 0 0 [.ref a0] [(a0, .inr (9, [.ref aL0, .ref aH0, .ref aT0, .ref aW0, .ref aE0])), (aL0, .inr (4, [.ref aL1, .ref aL3, .ref aL4, .ref aL5, .ref aL12, .int ltol, .int lchi, .int ljam])), (aL1, .inr (6, [.ref aL2, .int mch])), (aL2, .inl (G.2.1, 48, .inl md)), (aL3, .inr (2, [.int fra, .int fwe, .int fof, .int fsi])), (aL4, .inr (1, [.int csh, .int cde, .int csp])), (aL5, .inr (7, [.ref aL6, .ref aL8, .ref aL10, .int rco, .int rmo])), (aL6, .inr (8, [.ref aL7])), (aL7, .inl (G.2.1, 80, .inl rd)), (aL8, .inr (8, [.ref aL9])), (aL9, .inl (G.2.1, 5, .inl rw)), (aL10, .inr (8, [.ref aL11])), (aL11, .inl (G.2.1, 5, .inl rp)), (aL12, .inr (0, [.int apa, .int awo, .int ash, .int aja, .int abu])), (aE0, .inr (8, [.ref aE1])), (aE1, .inl (G.2.1, 16, .inl le))] (X := Unit) (fun _ => [(a0, .inr (9, [.ref aL0, .ref aH0, .ref aT0, .ref aW0, .ref aE0])), (aL0, .inr (4, [.ref aL1, .ref aL3, .ref aL4, .ref aL5, .ref aL12, .int ltol, .int lchi, .int ljam])), (aL1, .inr (6, [.ref aL2, .int mch])), (aL2, .inl (G.2.1, 48, .inl md)), (aL3, .inr (2, [.int fra, .int fwe, .int fof, .int fsi])), (aL4, .inr (1, [.int csh, .int cde, .int csp])), (aL5, .inr (7, [.ref aL6, .ref aL8, .ref aL10, .int rco, .int rmo])), (aL6, .inr (8, [.ref aL7])), (aL7, .inl (G.2.1, 80, .inl rd)), (aL8, .inr (8, [.ref aL9])), (aL9, .inl (G.2.1, 5, .inl rw)), (aL10, .inr (8, [.ref aL11])), (aL11, .inl (G.2.1, 5, .inl rp)), (aL12, .inr (0, [.int apa, .int awo, .int ash, .int aja, .int abu])), (aE0, .inr (8, [.ref aE1])), (aE1, .inl (G.2.1, 16, .inl le_0))]) (some (.int r_0)) := by
  refine wr_of (by decide) (Nat.le_of_ble_eq_true rfl) ?_
  intro p e s m args below meth c ls A hx hb hr hml hown hlk hA hZ hP hD hS hA0 hin hl
  have hP : va_P G.1 vwCl [(a0, .inr (9, [.ref aL0, .ref aH0, .ref aT0, .ref aW0, .ref aE0])), (aL0, .inr (4, [.ref aL1, .ref aL3, .ref aL4, .ref aL5, .ref aL12, .int ltol, .int lchi, .int ljam])), (aL1, .inr (6, [.ref aL2, .int mch])), (aL2, .inl (G.2.1, 48, .inl md)), (aL3, .inr (2, [.int fra, .int fwe, .int fof, .int fsi])), (aL4, .inr (1, [.int csh, .int cde, .int csp])), (aL5, .inr (7, [.ref aL6, .ref aL8, .ref aL10, .int rco, .int rmo])), (aL6, .inr (8, [.ref aL7])), (aL7, .inl (G.2.1, 80, .inl rd)), (aL8, .inr (8, [.ref aL9])), (aL9, .inl (G.2.1, 5, .inl rw)), (aL10, .inr (8, [.ref aL11])), (aL11, .inl (G.2.1, 5, .inl rp)), (aL12, .inr (0, [.int apa, .int awo, .int ash, .int aja, .int abu])), (aE0, .inr (8, [.ref aE1])), (aE1, .inl (G.2.1, 16, .inl le))] s.heap := hP
  replace hown : s.vm.findClass RX9 = some m.cls := hown
  replace hl : lv_has ls 1 [(0, .ref a0)] := hl
  unfold fX9_passesBySteps at hf
  refine lv_aload_n hx hb dX9_passesBySteps_0 rfl (lv_at hl 0 rfl) ?_
  obtain ⟨e9 | u9, q_1, hf⟩ := obd hf
  · dsimp only at hf
    cases hf
  dsimp only at hf
  refine ro_v (n := 0) (As := []) (q0 := 0) hx hb hml hown hA (kX9_checkMounted l G a0 aL0 aL1 aL2 aL3 aL4 aL5 aL6 aL7 aL8 aL9 aL10 aL11 aL12 aH0 aT0 aW0 aE0 md mch fra fwe fof fsi csh cde csp rd rw rp rco rmo apa awo ash aja abu ltol lchi ljam q_1) g_X9_165 gd_X9_checkMounted ⟨(Nat.le_of_ble_eq_true rfl), (Nat.le_of_ble_eq_true rfl)⟩ (hZ.at hS) (hP.sub [0, 1, 2, 3, 4, 5, 6, 7, 8, 9, 10, 11, 12, 13] rfl) rfl rfl rfl hl.1 (Nat.le_of_ble_eq_true rfl) ⟨(Nat.le_of_ble_eq_true rfl), (Nat.le_of_ble_eq_true rfl)⟩ dX9_passesBySteps_1 ?_
  refine W.eq (g2 := F0 m 4 ls []) rfl ?_
  refine lv_aload_n hx hb dX9_passesBySteps_4 rfl (lv_at hl 0 rfl) ?_
  refine gf_X9_10 hx hb hown hA hP 0 rfl rfl dX9_passesBySteps_5 ?_
  refine gf_X9_95 hx hb hown hA hP 1 rfl rfl dX9_passesBySteps_8 ?_
  obtain ⟨r_2, q_3, hf⟩ := obd hf
  refine ro_v (n := 0) (As := []) (q0 := 0) hx hb hml hown hA (kX1_isSharp l G aL4 csh cde csp r_2 q_3) g_X9_289 gd_X1_isSharp ⟨(Nat.le_of_ble_eq_true rfl), (Nat.le_of_ble_eq_true rfl)⟩ (hZ.at hS) (hP.sub [5] rfl) rfl rfl rfl hl.1 (Nat.le_of_ble_eq_true rfl) ⟨(Nat.le_of_ble_eq_true rfl), (Nat.le_of_ble_eq_true rfl)⟩ dX9_passesBySteps_11 ?_
  refine W.eq (g2 := F0 m 14 ls [.int r_2]) rfl ?_
  obtain ⟨e9 | u9, q_4, hf⟩ := obd hf
  · dsimp only at hf
    cases hf
  dsimp only at hf
  replace hf := omr hf
  refine ro_s (n := 1) (As := [.int r_2]) hx hb hml hown hA (kX9_checkState l G r_2 q_4) g_X9_142 gd_X9_checkState ⟨(Nat.le_of_ble_eq_true rfl), (Nat.le_of_ble_eq_true rfl)⟩ (hZ.at hS) (fun _ _ h => by simp at h) rfl hl.1 (Nat.le_of_ble_eq_true rfl) ⟨(Nat.le_of_ble_eq_true rfl), (Nat.le_of_ble_eq_true rfl)⟩ dX9_passesBySteps_14 ?_
  refine W.eq (g2 := F0 m 17 ls []) rfl ?_
  refine lv_aload_n hx hb dX9_passesBySteps_17 rfl (lv_at hl 0 rfl) ?_
  obtain ⟨⟨r_5, le_6⟩, q_7, hf⟩ := obd hf
  dsimp only at hf
  refine wr_v (n := 0) (As := []) (q0 := 0) (wr := []) (w2 := fun _ => [(a0, .inr (9, [.ref aL0, .ref aH0, .ref aT0, .ref aW0, .ref aE0])), (aL0, .inr (4, [.ref aL1, .ref aL3, .ref aL4, .ref aL5, .ref aL12, .int ltol, .int lchi, .int ljam])), (aL1, .inr (6, [.ref aL2, .int mch])), (aL2, .inl (G.2.1, 48, .inl md)), (aL3, .inr (2, [.int fra, .int fwe, .int fof, .int fsi])), (aL4, .inr (1, [.int csh, .int cde, .int csp])), (aL5, .inr (7, [.ref aL6, .ref aL8, .ref aL10, .int rco, .int rmo])), (aL6, .inr (8, [.ref aL7])), (aL7, .inl (G.2.1, 80, .inl rd)), (aL8, .inr (8, [.ref aL9])), (aL9, .inl (G.2.1, 5, .inl rw)), (aL10, .inr (8, [.ref aL11])), (aL11, .inl (G.2.1, 5, .inl rp)), (aL12, .inr (0, [.int apa, .int awo, .int ash, .int aja, .int abu])), (aE0, .inr (8, [.ref aE1])), (aE1, .inl (G.2.1, 16, .inl le_6))]) hx hb hml hown hA (kX9_countPasses l G a0 aL0 aL1 aL2 aL3 aL4 aL5 aL6 aL7 aL8 aL9 aL10 aL11 aL12 aE0 aE1 aH0 aT0 aW0 md mch fra fwe fof fsi csh cde csp rd rw rp rco rmo apa awo ash aja abu ltol lchi ljam le r_5 le_6 q_7) g_X9_292 gd_X9_countPasses ⟨(Nat.le_of_ble_eq_true rfl), (Nat.le_of_ble_eq_true rfl)⟩ hZ hP hD hS hA0 rfl rfl [0, 1, 2, 3, 4, 5, 6, 7, 8, 9, 10, 11, 12, 13, 14, 15] [] [0, 1, 2, 3, 4, 5, 6, 7, 8, 9, 10, 11, 12, 13, 14, 15] rfl rfl rfl rfl (by decide) (fun _ => rfl) rfl rfl hl.1 (Nat.le_of_ble_eq_true rfl) ⟨(Nat.le_of_ble_eq_true rfl), (Nat.le_of_ble_eq_true rfl)⟩ dX9_passesBySteps_18 (fun _ H locs hP hD hS => ?_)
  refine W.eq (g2 := F0 m 21 ls [.int r_5]) rfl ?_
  cases hf
  exact wr_iret () hx hb hr hlk hP hD hS dX9_passesBySteps_21
set_option maxHeartbeats 4000000 in
set_option maxRecDepth 100000 in
theorem tX9_passesBySteps (l : Launch) (hst : l.stackTraces = false) (G : GG) (a0 aL0 aL1 aL2 aL3 aL4 aL5 aL6 aL7 aL8 aL9 aL10 aL11 aL12 aE0 aE1 aH0 aT0 aW0 : Nat) (md : Nat → Int32) (mch : Int32) (fra : Int32) (fwe : Int32) (fof : Int32) (fsi : Int32) (csh : Int32) (cde : Int32) (csp : Int32) (rd : Nat → Int32) (rw : Nat → Int32) (rp : Nat → Int32) (rco : Int32) (rmo : Int32) (apa : Int32) (awo : Int32) (ash : Int32) (aja : Int32) (abu : Int32) (ltol : Int32) (lchi : Int32) (ljam : Int32) (le : Nat → Int32)  (k9 : Nat) (hf : fX9_passesBySteps md mch fra fwe fof csh cde rd rmo le = some (.inl k9)) : Th l G yX9_passesBySteps cX9_passesBySteps 1 (some .int) 8 121 [.ref a0] [(a0, .inr (9, [.ref aL0, .ref aH0, .ref aT0, .ref aW0, .ref aE0])), (aL0, .inr (4, [.ref aL1, .ref aL3, .ref aL4, .ref aL5, .ref aL12, .int ltol, .int lchi, .int ljam])), (aL1, .inr (6, [.ref aL2, .int mch])), (aL2, .inl (G.2.1, 48, .inl md)), (aL3, .inr (2, [.int fra, .int fwe, .int fof, .int fsi])), (aL4, .inr (1, [.int csh, .int cde, .int csp])), (aL5, .inr (7, [.ref aL6, .ref aL8, .ref aL10, .int rco, .int rmo])), (aL6, .inr (8, [.ref aL7])), (aL7, .inl (G.2.1, 80, .inl rd)), (aL8, .inr (8, [.ref aL9])), (aL9, .inl (G.2.1, 5, .inl rw)), (aL10, .inr (8, [.ref aL11])), (aL11, .inl (G.2.1, 5, .inl rp)), (aL12, .inr (0, [.int apa, .int awo, .int ash, .int aja, .int abu])), (aE0, .inr (8, [.ref aE1])), (aE1, .inl (G.2.1, 16, .inl le))] (exn k9) := by
  refine th_of (by decide) (Nat.le_of_ble_eq_true rfl) ?_
  intro p e s m args below meth c ls hx hb het hml hown hlk hA hZ hP hl
  replace hown : s.vm.findClass RX9 = some m.cls := hown
  replace hl : lv_has ls 1 [(0, .ref a0)] := hl
  unfold fX9_passesBySteps at hf
  refine lv_aload_n hx hb dX9_passesBySteps_0 rfl (lv_at hl 0 rfl) ?_
  obtain ⟨e9 | u9, q_1, hf⟩ := obd hf
  · dsimp only at hf
    cases hf
    exact th_v (n := 0) (As := []) (q0 := 0) hx hb het hlk hml hown hA (tX9_checkMounted l hst G a0 aL0 aL1 aL2 aL3 aL4 aL5 aL6 aL7 aL8 aL9 aL10 aL11 aL12 aH0 aT0 aW0 aE0 md mch fra fwe fof fsi csh cde csp rd rw rp rco rmo apa awo ash aja abu ltol lchi ljam _ q_1) g_X9_165 gd_X9_checkMounted ⟨(Nat.le_of_ble_eq_true rfl), (Nat.le_of_ble_eq_true rfl)⟩ hZ (hP.sub [0, 1, 2, 3, 4, 5, 6, 7, 8, 9, 10, 11, 12, 13] rfl) rfl rfl rfl hl.1 (Nat.le_of_ble_eq_true rfl) ⟨(Nat.le_of_ble_eq_true rfl), (Nat.le_of_ble_eq_true rfl)⟩ dX9_passesBySteps_1
  dsimp only at hf
  refine ro_v (n := 0) (As := []) (q0 := 0) hx hb hml hown hA (kX9_checkMounted l G a0 aL0 aL1 aL2 aL3 aL4 aL5 aL6 aL7 aL8 aL9 aL10 aL11 aL12 aH0 aT0 aW0 aE0 md mch fra fwe fof fsi csh cde csp rd rw rp rco rmo apa awo ash aja abu ltol lchi ljam q_1) g_X9_165 gd_X9_checkMounted ⟨(Nat.le_of_ble_eq_true rfl), (Nat.le_of_ble_eq_true rfl)⟩ hZ (hP.sub [0, 1, 2, 3, 4, 5, 6, 7, 8, 9, 10, 11, 12, 13] rfl) rfl rfl rfl hl.1 (Nat.le_of_ble_eq_true rfl) ⟨(Nat.le_of_ble_eq_true rfl), (Nat.le_of_ble_eq_true rfl)⟩ dX9_passesBySteps_1 ?_
  refine W.eq (g2 := F0 m 4 ls []) rfl ?_
  refine lv_aload_n hx hb dX9_passesBySteps_4 rfl (lv_at hl 0 rfl) ?_
  refine gf_X9_10 hx hb hown hA hP 0 rfl rfl dX9_passesBySteps_5 ?_
  refine gf_X9_95 hx hb hown hA hP 1 rfl rfl dX9_passesBySteps_8 ?_
  obtain ⟨r_2, q_3, hf⟩ := obd hf
  refine ro_v (n := 0) (As := []) (q0 := 0) hx hb hml hown hA (kX1_isSharp l G aL4 csh cde csp r_2 q_3) g_X9_289 gd_X1_isSharp ⟨(Nat.le_of_ble_eq_true rfl), (Nat.le_of_ble_eq_true rfl)⟩ hZ (hP.sub [5] rfl) rfl rfl rfl hl.1 (Nat.le_of_ble_eq_true rfl) ⟨(Nat.le_of_ble_eq_true rfl), (Nat.le_of_ble_eq_true rfl)⟩ dX9_passesBySteps_11 ?_
  refine W.eq (g2 := F0 m 14 ls [.int r_2]) rfl ?_
  obtain ⟨e9 | u9, q_4, hf⟩ := obd hf
  · dsimp only at hf
    cases hf
    exact th_s (n := 1) (As := [.int r_2]) hx hb het hlk hml hown hA (tX9_checkState l hst G r_2 _ q_4) g_X9_142 gd_X9_checkState ⟨(Nat.le_of_ble_eq_true rfl), (Nat.le_of_ble_eq_true rfl)⟩ hZ (fun _ _ h => by simp at h) rfl hl.1 (Nat.le_of_ble_eq_true rfl) ⟨(Nat.le_of_ble_eq_true rfl), (Nat.le_of_ble_eq_true rfl)⟩ dX9_passesBySteps_14
  dsimp only at hf
  exact (oml hf).elim
def fX9_dividedUp  (i1 : Int32) (i2 : Int32) : Option (Int32) :=
  (if 0 < i2 then (if ¬ i2 = 0 then some (((i1 + i2) - 1) / i2) else none) else some 0)
set_option maxHeartbeats 4000000 in
set_option maxRecDepth 100000 in
theorem kX9_dividedUp (l : Launch) (G : GG)  (i1 : Int32) (i2 : Int32) (r_0 : Int32) (hf : fX9_dividedUp i1 i2 = some r_0) : Ro l G yX9_dividedUp cX9_dividedUp 2 (some .int) 0 0 [.int i1, .int i2] [] (some (.int r_0)) := by
  refine ro_of (by decide) (Nat.le_of_ble_eq_true rfl) ?_
  intro p e s m args below meth c ls hx hb hr hml hown hlk hA hZ hP hl
  replace hown : s.vm.findClass RX9 = some m.cls := hown
  replace hl : lv_has ls 2 [(0, .int i1), (1, .int i2)] := hl
  unfold fX9_dividedUp at hf
  refine lv_iload_n hx hb dX9_dividedUp_0 rfl (lv_at hl 1 rfl) ?_
  refine lv_if_gt (tgt := 8) hx hb dX9_dividedUp_1 (by decide) (fun c_1 => ?_) (fun c_1 => ?_)
  · replace hf := ifp c_1 hf
    refine lv_iload_n hx hb dX9_dividedUp_8 rfl (lv_at hl 0 rfl) ?_
    refine lv_iload_n hx hb dX9_dividedUp_9 rfl (lv_at hl 1 rfl) ?_
    refine lv_iadd hx hb dX9_dividedUp_10 ?_
    refine lv_iconst (v := 1) hx hb dX9_dividedUp_11 (by decide) ?_
    refine lv_isub hx hb dX9_dividedUp_12 ?_
    refine lv_iload_n hx hb dX9_dividedUp_13 rfl (lv_at hl 1 rfl) ?_
    obtain ⟨z_2, hf⟩ := ock hf
    refine lv_idiv hx hb dX9_dividedUp_14 z_2 ?_
    cases hf
    exact ro_iret hx hb hr hlk dX9_dividedUp_15
  · replace hf := ifn c_1 hf
    refine lv_iconst (v := 0) hx hb dX9_dividedUp_4 (by decide) ?_
    refine lv_goto (tgt := 15) hx hb dX9_dividedUp_5 (by decide) ?_
    cases hf
    exact ro_iret hx hb hr hlk dX9_dividedUp_15
def fX9_passesByDivision (md : Nat → Int32) (mch : Int32) (fra : Int32) (fwe : Int32) (fof : Int32) (csh : Int32) (cde : Int32) (rd : Nat → Int32) (rmo : Int32)  : Option (Nat ⊕ (Int32)) :=
  ((fX9_checkMounted rmo).bind fun z => match z with | .inl e => some (.inl e) | .inr _ => ((fX1_isSharp csh).bind fun r_2 => ((fX9_checkState r_2).bind fun z => match z with | .inl e => some (.inl e) | .inr _ => (Option.map Sum.inr (((fX4_mostAbove md mch fra fwe fof rd rmo).bind fun r_5 => ((fX1_reach csh cde).bind fun r_7 => ((fX9_dividedUp r_5 r_7).bind fun r_9 => some r_9))))))))
set_option maxHeartbeats 4000000 in
set_option maxRecDepth 100000 in
theorem kX9_passesByDivision (l : Launch) (G : GG) (a0 aL0 aL1 aL2 aL3 aL4 aL5 aL6 aL7 aL8 aL9 aL10 aL11 aL12 aH0 aT0 aW0 aE0 : Nat) (md : Nat → Int32) (mch : Int32) (fra : Int32) (fwe : Int32) (fof : Int32) (fsi : Int32) (csh : Int32) (cde : Int32) (csp : Int32) (rd : Nat → Int32) (rw : Nat → Int32) (rp : Nat → Int32) (rco : Int32) (rmo : Int32) (apa : Int32) (awo : Int32) (ash : Int32) (aja : Int32) (abu : Int32) (ltol : Int32) (lchi : Int32) (ljam : Int32)  (r_0 : Int32) (hf : fX9_passesByDivision md mch fra fwe fof csh cde rd rmo = some (.inr r_0)) : Ro l G yX9_passesByDivision cX9_passesByDivision 1 (some .int) 8 121 [.ref a0] [(a0, .inr (9, [.ref aL0, .ref aH0, .ref aT0, .ref aW0, .ref aE0])), (aL0, .inr (4, [.ref aL1, .ref aL3, .ref aL4, .ref aL5, .ref aL12, .int ltol, .int lchi, .int ljam])), (aL1, .inr (6, [.ref aL2, .int mch])), (aL2, .inl (G.2.1, 48, .inl md)), (aL3, .inr (2, [.int fra, .int fwe, .int fof, .int fsi])), (aL4, .inr (1, [.int csh, .int cde, .int csp])), (aL5, .inr (7, [.ref aL6, .ref aL8, .ref aL10, .int rco, .int rmo])), (aL6, .inr (8, [.ref aL7])), (aL7, .inl (G.2.1, 80, .inl rd)), (aL8, .inr (8, [.ref aL9])), (aL9, .inl (G.2.1, 5, .inl rw)), (aL10, .inr (8, [.ref aL11])), (aL11, .inl (G.2.1, 5, .inl rp)), (aL12, .inr (0, [.int apa, .int awo, .int ash, .int aja, .int abu]))] (some (.int r_0)) := by
  refine ro_of (by decide) (Nat.le_of_ble_eq_true rfl) ?_
  intro p e s m args below meth c ls hx hb hr hml hown hlk hA hZ hP hl
  replace hown : s.vm.findClass RX9 = some m.cls := hown
  replace hl : lv_has ls 1 [(0, .ref a0)] := hl
  unfold fX9_passesByDivision at hf
  refine lv_aload_n hx hb dX9_passesByDivision_0 rfl (lv_at hl 0 rfl) ?_
  obtain ⟨e9 | u9, q_1, hf⟩ := obd hf
  · dsimp only at hf
    cases hf
  dsimp only at hf
  refine ro_v (n := 0) (As := []) (q0 := 0) hx hb hml hown hA (kX9_checkMounted l G a0 aL0 aL1 aL2 aL3 aL4 aL5 aL6 aL7 aL8 aL9 aL10 aL11 aL12 aH0 aT0 aW0 aE0 md mch fra fwe fof fsi csh cde csp rd rw rp rco rmo apa awo ash aja abu ltol lchi ljam q_1) g_X9_165 gd_X9_checkMounted ⟨(Nat.le_of_ble_eq_true rfl), (Nat.le_of_ble_eq_true rfl)⟩ hZ (hP.sub [0, 1, 2, 3, 4, 5, 6, 7, 8, 9, 10, 11, 12, 13] rfl) rfl rfl rfl hl.1 (Nat.le_of_ble_eq_true rfl) ⟨(Nat.le_of_ble_eq_true rfl), (Nat.le_of_ble_eq_true rfl)⟩ dX9_passesByDivision_1 ?_
  refine W.eq (g2 := F0 m 4 ls []) rfl ?_
  refine lv_aload_n hx hb dX9_passesByDivision_4 rfl (lv_at hl 0 rfl) ?_
  refine gf_X9_10 hx hb hown hA hP 0 rfl rfl dX9_passesByDivision_5 ?_
  refine gf_X9_95 hx hb hown hA hP 1 rfl rfl dX9_passesByDivision_8 ?_
  obtain ⟨r_2, q_3, hf⟩ := obd hf
  refine ro_v (n := 0) (As := []) (q0 := 0) hx hb hml hown hA (kX1_isSharp l G aL4 csh cde csp r_2 q_3) g_X9_289 gd_X1_isSharp ⟨(Nat.le_of_ble_eq_true rfl), (Nat.le_of_ble_eq_true rfl)⟩ hZ (hP.sub [5] rfl) rfl rfl rfl hl.1 (Nat.le_of_ble_eq_true rfl) ⟨(Nat.le_of_ble_eq_true rfl), (Nat.le_of_ble_eq_true rfl)⟩ dX9_passesByDivision_11 ?_
  refine W.eq (g2 := F0 m 14 ls [.int r_2]) rfl ?_
  obtain ⟨e9 | u9, q_4, hf⟩ := obd hf
  · dsimp only at hf
    cases hf
  dsimp only at hf
  replace hf := omr hf
  refine ro_s (n := 1) (As := [.int r_2]) hx hb hml hown hA (kX9_checkState l G r_2 q_4) g_X9_142 gd_X9_checkState ⟨(Nat.le_of_ble_eq_true rfl), (Nat.le_of_ble_eq_true rfl)⟩ hZ (fun _ _ h => by simp at h) rfl hl.1 (Nat.le_of_ble_eq_true rfl) ⟨(Nat.le_of_ble_eq_true rfl), (Nat.le_of_ble_eq_true rfl)⟩ dX9_passesByDivision_14 ?_
  refine W.eq (g2 := F0 m 17 ls []) rfl ?_
  refine lv_aload_n hx hb dX9_passesByDivision_17 rfl (lv_at hl 0 rfl) ?_
  refine gf_X9_10 hx hb hown hA hP 0 rfl rfl dX9_passesByDivision_18 ?_
  refine lv_aload_n hx hb dX9_passesByDivision_21 rfl (lv_at hl 0 rfl) ?_
  refine gf_X9_10 hx hb hown hA hP 0 rfl rfl dX9_passesByDivision_22 ?_
  refine gf_X9_133 hx hb hown hA hP 1 rfl rfl dX9_passesByDivision_25 ?_
  refine gf_X9_152 hx hb hown hA hP 6 rfl rfl dX9_passesByDivision_28 ?_
  obtain ⟨r_5, q_6, hf⟩ := obd hf
  refine ro_v (n := 1) (As := [.int rmo]) (q0 := 0) hx hb hml hown hA (kX4_mostAbove l G aL0 aL1 aL2 aL3 aL4 aL5 aL6 aL7 aL8 aL9 aL10 aL11 aL12 md mch fra fwe fof fsi csh cde csp rd rw rp rco rmo apa awo ash aja abu ltol lchi ljam rmo r_5 q_6) g_X9_178 gd_X4_mostAbove ⟨(Nat.le_of_ble_eq_true rfl), (Nat.le_of_ble_eq_true rfl)⟩ hZ (hP.sub [1, 2, 3, 4, 5, 6, 7, 8, 9, 10, 11, 12, 13] rfl) rfl rfl rfl hl.1 (Nat.le_of_ble_eq_true rfl) ⟨(Nat.le_of_ble_eq_true rfl), (Nat.le_of_ble_eq_true rfl)⟩ dX9_passesByDivision_31 ?_
  refine W.eq (g2 := F0 m 34 ls [.int r_5]) rfl ?_
  refine lv_aload_n hx hb dX9_passesByDivision_34 rfl (lv_at hl 0 rfl) ?_
  refine gf_X9_10 hx hb hown hA hP 0 rfl rfl dX9_passesByDivision_35 ?_
  refine gf_X9_95 hx hb hown hA hP 1 rfl rfl dX9_passesByDivision_38 ?_
  obtain ⟨r_7, q_8, hf⟩ := obd hf
  refine ro_v (n := 0) (As := []) (q0 := 0) hx hb hml hown hA (kX1_reach l G aL4 csh cde csp r_7 q_8) g_X9_231 gd_X1_reach ⟨(Nat.le_of_ble_eq_true rfl), (Nat.le_of_ble_eq_true rfl)⟩ hZ (hP.sub [5] rfl) rfl rfl rfl hl.1 (Nat.le_of_ble_eq_true rfl) ⟨(Nat.le_of_ble_eq_true rfl), (Nat.le_of_ble_eq_true rfl)⟩ dX9_passesByDivision_41 ?_
  refine W.eq (g2 := F0 m 44 ls [.int r_7, .int r_5]) rfl ?_
  obtain ⟨r_9, q_10, hf⟩ := obd hf
  refine ro_s (n := 2) (As := [.int r_5, .int r_7]) hx hb hml hown hA (kX9_dividedUp l G r_5 r_7 r_9 q_10) g_X9_295 gd_X9_dividedUp ⟨(Nat.le_of_ble_eq_true rfl), (Nat.le_of_ble_eq_true rfl)⟩ hZ (fun _ _ h => by simp at h) rfl hl.1 (Nat.le_of_ble_eq_true rfl) ⟨(Nat.le_of_ble_eq_true rfl), (Nat.le_of_ble_eq_true rfl)⟩ dX9_passesByDivision_44 ?_
  refine W.eq (g2 := F0 m 47 ls [.int r_9]) rfl ?_
  cases hf
  exact ro_iret hx hb hr hlk dX9_passesByDivision_47
set_option maxHeartbeats 4000000 in
set_option maxRecDepth 100000 in
theorem tX9_passesByDivision (l : Launch) (hst : l.stackTraces = false) (G : GG) (a0 aL0 aL1 aL2 aL3 aL4 aL5 aL6 aL7 aL8 aL9 aL10 aL11 aL12 aH0 aT0 aW0 aE0 : Nat) (md : Nat → Int32) (mch : Int32) (fra : Int32) (fwe : Int32) (fof : Int32) (fsi : Int32) (csh : Int32) (cde : Int32) (csp : Int32) (rd : Nat → Int32) (rw : Nat → Int32) (rp : Nat → Int32) (rco : Int32) (rmo : Int32) (apa : Int32) (awo : Int32) (ash : Int32) (aja : Int32) (abu : Int32) (ltol : Int32) (lchi : Int32) (ljam : Int32)  (k9 : Nat) (hf : fX9_passesByDivision md mch fra fwe fof csh cde rd rmo = some (.inl k9)) : Th l G yX9_passesByDivision cX9_passesByDivision 1 (some .int) 8 121 [.ref a0] [(a0, .inr (9, [.ref aL0, .ref aH0, .ref aT0, .ref aW0, .ref aE0])), (aL0, .inr (4, [.ref aL1, .ref aL3, .ref aL4, .ref aL5, .ref aL12, .int ltol, .int lchi, .int ljam])), (aL1, .inr (6, [.ref aL2, .int mch])), (aL2, .inl (G.2.1, 48, .inl md)), (aL3, .inr (2, [.int fra, .int fwe, .int fof, .int fsi])), (aL4, .inr (1, [.int csh, .int cde, .int csp])), (aL5, .inr (7, [.ref aL6, .ref aL8, .ref aL10, .int rco, .int rmo])), (aL6, .inr (8, [.ref aL7])), (aL7, .inl (G.2.1, 80, .inl rd)), (aL8, .inr (8, [.ref aL9])), (aL9, .inl (G.2.1, 5, .inl rw)), (aL10, .inr (8, [.ref aL11])), (aL11, .inl (G.2.1, 5, .inl rp)), (aL12, .inr (0, [.int apa, .int awo, .int ash, .int aja, .int abu]))] (exn k9) := by
  refine th_of (by decide) (Nat.le_of_ble_eq_true rfl) ?_
  intro p e s m args below meth c ls hx hb het hml hown hlk hA hZ hP hl
  replace hown : s.vm.findClass RX9 = some m.cls := hown
  replace hl : lv_has ls 1 [(0, .ref a0)] := hl
  unfold fX9_passesByDivision at hf
  refine lv_aload_n hx hb dX9_passesByDivision_0 rfl (lv_at hl 0 rfl) ?_
  obtain ⟨e9 | u9, q_1, hf⟩ := obd hf
  · dsimp only at hf
    cases hf
    exact th_v (n := 0) (As := []) (q0 := 0) hx hb het hlk hml hown hA (tX9_checkMounted l hst G a0 aL0 aL1 aL2 aL3 aL4 aL5 aL6 aL7 aL8 aL9 aL10 aL11 aL12 aH0 aT0 aW0 aE0 md mch fra fwe fof fsi csh cde csp rd rw rp rco rmo apa awo ash aja abu ltol lchi ljam _ q_1) g_X9_165 gd_X9_checkMounted ⟨(Nat.le_of_ble_eq_true rfl), (Nat.le_of_ble_eq_true rfl)⟩ hZ (hP.sub [0, 1, 2, 3, 4, 5, 6, 7, 8, 9, 10, 11, 12, 13] rfl) rfl rfl rfl hl.1 (Nat.le_of_ble_eq_true rfl) ⟨(Nat.le_of_ble_eq_true rfl), (Nat.le_of_ble_eq_true rfl)⟩ dX9_passesByDivision_1
  dsimp only at hf
  refine ro_v (n := 0) (As := []) (q0 := 0) hx hb hml hown hA (kX9_checkMounted l G a0 aL0 aL1 aL2 aL3 aL4 aL5 aL6 aL7 aL8 aL9 aL10 aL11 aL12 aH0 aT0 aW0 aE0 md mch fra fwe fof fsi csh cde csp rd rw rp rco rmo apa awo ash aja abu ltol lchi ljam q_1) g_X9_165 gd_X9_checkMounted ⟨(Nat.le_of_ble_eq_true rfl), (Nat.le_of_ble_eq_true rfl)⟩ hZ (hP.sub [0, 1, 2, 3, 4, 5, 6, 7, 8, 9, 10, 11, 12, 13] rfl) rfl rfl rfl hl.1 (Nat.le_of_ble_eq_true rfl) ⟨(Nat.le_of_ble_eq_true rfl), (Nat.le_of_ble_eq_true rfl)⟩ dX9_passesByDivision_1 ?_
  refine W.eq (g2 := F0 m 4 ls []) rfl ?_
  refine lv_aload_n hx hb dX9_passesByDivision_4 rfl (lv_at hl 0 rfl) ?_
  refine gf_X9_10 hx hb hown hA hP 0 rfl rfl dX9_passesByDivision_5 ?_
  refine gf_X9_95 hx hb hown hA hP 1 rfl rfl dX9_passesByDivision_8 ?_
  obtain ⟨r_2, q_3, hf⟩ := obd hf
  refine ro_v (n := 0) (As := []) (q0 := 0) hx hb hml hown hA (kX1_isSharp l G aL4 csh cde csp r_2 q_3) g_X9_289 gd_X1_isSharp ⟨(Nat.le_of_ble_eq_true rfl), (Nat.le_of_ble_eq_true rfl)⟩ hZ (hP.sub [5] rfl) rfl rfl rfl hl.1 (Nat.le_of_ble_eq_true rfl) ⟨(Nat.le_of_ble_eq_true rfl), (Nat.le_of_ble_eq_true rfl)⟩ dX9_passesByDivision_11 ?_
  refine W.eq (g2 := F0 m 14 ls [.int r_2]) rfl ?_
  obtain ⟨e9 | u9, q_4, hf⟩ := obd hf
  · dsimp only at hf
    cases hf
    exact th_s (n := 1) (As := [.int r_2]) hx hb het hlk hml hown hA (tX9_checkState l hst G r_2 _ q_4) g_X9_142 gd_X9_checkState ⟨(Nat.le_of_ble_eq_true rfl), (Nat.le_of_ble_eq_true rfl)⟩ hZ (fun _ _ h => by simp at h) rfl hl.1 (Nat.le_of_ble_eq_true rfl) ⟨(Nat.le_of_ble_eq_true rfl), (Nat.le_of_ble_eq_true rfl)⟩ dX9_passesByDivision_14
  dsimp only at hf
  exact (oml hf).elim
def fX9_passesUntilBlunt (csh : Int32) (csp : Int32) (rw : Nat → Int32) (rmo : Int32)  : Option (Nat ⊕ (Int32)) :=
  ((fX9_checkMounted rmo).bind fun z => match z with | .inl e => some (.inl e) | .inr _ => (Option.map Sum.inr (((fX4_blunting csp rw rmo).bind fun r_2 => ((fX9_dividedUp csh r_2).bind fun r_4 => some r_4)))))
set_option maxHeartbeats 4000000 in
set_option maxRecDepth 100000 in
theorem kX9_passesUntilBlunt (l : Launch) (G : GG) (a0 aL0 aL1 aL2 aL3 aL4 aL5 aL6 aL7 aL8 aL9 aL10 aL11 aL12 aH0 aT0 aW0 aE0 : Nat) (md : Nat → Int32) (mch : Int32) (fra : Int32) (fwe : Int32) (fof : Int32) (fsi : Int32) (csh : Int32) (cde : Int32) (csp : Int32) (rd : Nat → Int32) (rw : Nat → Int32) (rp : Nat → Int32) (rco : Int32) (rmo : Int32) (apa : Int32) (awo : Int32) (ash : Int32) (aja : Int32) (abu : Int32) (ltol : Int32) (lchi : Int32) (ljam : Int32)  (r_0 : Int32) (hf : fX9_passesUntilBlunt csh csp rw rmo = some (.inr r_0)) : Ro l G yX9_passesUntilBlunt cX9_passesUntilBlunt 1 (some .int) 8 121 [.ref a0] [(a0, .inr (9, [.ref aL0, .ref aH0, .ref aT0, .ref aW0, .ref aE0])), (aL0, .inr (4, [.ref aL1, .ref aL3, .ref aL4, .ref aL5, .ref aL12, .int ltol, .int lchi, .int ljam])), (aL1, .inr (6, [.ref aL2, .int mch])), (aL2, .inl (G.2.1, 48, .inl md)), (aL3, .inr (2, [.int fra, .int fwe, .int fof, .int fsi])), (aL4, .inr (1, [.int csh, .int cde, .int csp])), (aL5, .inr (7, [.ref aL6, .ref aL8, .ref aL10, .int rco, .int rmo])), (aL6, .inr (8, [.ref aL7])), (aL7, .inl (G.2.1, 80, .inl rd)), (aL8, .inr (8, [.ref aL9])), (aL9, .inl (G.2.1, 5, .inl rw)), (aL10, .inr (8, [.ref aL11])), (aL11, .inl (G.2.1, 5, .inl rp)), (aL12, .inr (0, [.int apa, .int awo, .int ash, .int aja, .int abu]))] (some (.int r_0)) := by
  refine ro_of (by decide) (Nat.le_of_ble_eq_true rfl) ?_
  intro p e s m args below meth c ls hx hb hr hml hown hlk hA hZ hP hl
  replace hown : s.vm.findClass RX9 = some m.cls := hown
  replace hl : lv_has ls 1 [(0, .ref a0)] := hl
  unfold fX9_passesUntilBlunt at hf
  refine lv_aload_n hx hb dX9_passesUntilBlunt_0 rfl (lv_at hl 0 rfl) ?_
  obtain ⟨e9 | u9, q_1, hf⟩ := obd hf
  · dsimp only at hf
    cases hf
  dsimp only at hf
  replace hf := omr hf
  refine ro_v (n := 0) (As := []) (q0 := 0) hx hb hml hown hA (kX9_checkMounted l G a0 aL0 aL1 aL2 aL3 aL4 aL5 aL6 aL7 aL8 aL9 aL10 aL11 aL12 aH0 aT0 aW0 aE0 md mch fra fwe fof fsi csh cde csp rd rw rp rco rmo apa awo ash aja abu ltol lchi ljam q_1) g_X9_165 gd_X9_checkMounted ⟨(Nat.le_of_ble_eq_true rfl), (Nat.le_of_ble_eq_true rfl)⟩ hZ (hP.sub [0, 1, 2, 3, 4, 5, 6, 7, 8, 9, 10, 11, 12, 13] rfl) rfl rfl rfl hl.1 (Nat.le_of_ble_eq_true rfl) ⟨(Nat.le_of_ble_eq_true rfl), (Nat.le_of_ble_eq_true rfl)⟩ dX9_passesUntilBlunt_1 ?_
  refine W.eq (g2 := F0 m 4 ls []) rfl ?_
  refine lv_aload_n hx hb dX9_passesUntilBlunt_4 rfl (lv_at hl 0 rfl) ?_
  refine gf_X9_10 hx hb hown hA hP 0 rfl rfl dX9_passesUntilBlunt_5 ?_
  refine gf_X9_95 hx hb hown hA hP 1 rfl rfl dX9_passesUntilBlunt_8 ?_
  refine gf_X9_99 hx hb hown hA hP 5 rfl rfl dX9_passesUntilBlunt_11 ?_
  refine lv_aload_n hx hb dX9_passesUntilBlunt_14 rfl (lv_at hl 0 rfl) ?_
  refine gf_X9_10 hx hb hown hA hP 0 rfl rfl dX9_passesUntilBlunt_15 ?_
  obtain ⟨r_2, q_3, hf⟩ := obd hf
  refine ro_v (n := 0) (As := []) (q0 := 0) hx hb hml hown hA (kX4_blunting l G aL0 aL1 aL2 aL3 aL4 aL5 aL6 aL7 aL8 aL9 aL10 aL11 aL12 md mch fra fwe fof fsi csh cde csp rd rw rp rco rmo apa awo ash aja abu ltol lchi ljam r_2 q_3) g_X9_298 gd_X4_blunting ⟨(Nat.le_of_ble_eq_true rfl), (Nat.le_of_ble_eq_true rfl)⟩ hZ (hP.sub [1, 2, 3, 4, 5, 6, 7, 8, 9, 10, 11, 12, 13] rfl) rfl rfl rfl hl.1 (Nat.le_of_ble_eq_true rfl) ⟨(Nat.le_of_ble_eq_true rfl), (Nat.le_of_ble_eq_true rfl)⟩ dX9_passesUntilBlunt_18 ?_
  refine W.eq (g2 := F0 m 21 ls [.int r_2, .int csh]) rfl ?_
  obtain ⟨r_4, q_5, hf⟩ := obd hf
  refine ro_s (n := 2) (As := [.int csh, .int r_2]) hx hb hml hown hA (kX9_dividedUp l G csh r_2 r_4 q_5) g_X9_295 gd_X9_dividedUp ⟨(Nat.le_of_ble_eq_true rfl), (Nat.le_of_ble_eq_true rfl)⟩ hZ (fun _ _ h => by simp at h) rfl hl.1 (Nat.le_of_ble_eq_true rfl) ⟨(Nat.le_of_ble_eq_true rfl), (Nat.le_of_ble_eq_true rfl)⟩ dX9_passesUntilBlunt_21 ?_
  refine W.eq (g2 := F0 m 24 ls [.int r_4]) rfl ?_
  cases hf
  exact ro_iret hx hb hr hlk dX9_passesUntilBlunt_24
set_option maxHeartbeats 4000000 in
set_option maxRecDepth 100000 in
theorem tX9_passesUntilBlunt (l : Launch) (hst : l.stackTraces = false) (G : GG) (a0 aL0 aL1 aL2 aL3 aL4 aL5 aL6 aL7 aL8 aL9 aL10 aL11 aL12 aH0 aT0 aW0 aE0 : Nat) (md : Nat → Int32) (mch : Int32) (fra : Int32) (fwe : Int32) (fof : Int32) (fsi : Int32) (csh : Int32) (cde : Int32) (csp : Int32) (rd : Nat → Int32) (rw : Nat → Int32) (rp : Nat → Int32) (rco : Int32) (rmo : Int32) (apa : Int32) (awo : Int32) (ash : Int32) (aja : Int32) (abu : Int32) (ltol : Int32) (lchi : Int32) (ljam : Int32)  (k9 : Nat) (hf : fX9_passesUntilBlunt csh csp rw rmo = some (.inl k9)) : Th l G yX9_passesUntilBlunt cX9_passesUntilBlunt 1 (some .int) 8 121 [.ref a0] [(a0, .inr (9, [.ref aL0, .ref aH0, .ref aT0, .ref aW0, .ref aE0])), (aL0, .inr (4, [.ref aL1, .ref aL3, .ref aL4, .ref aL5, .ref aL12, .int ltol, .int lchi, .int ljam])), (aL1, .inr (6, [.ref aL2, .int mch])), (aL2, .inl (G.2.1, 48, .inl md)), (aL3, .inr (2, [.int fra, .int fwe, .int fof, .int fsi])), (aL4, .inr (1, [.int csh, .int cde, .int csp])), (aL5, .inr (7, [.ref aL6, .ref aL8, .ref aL10, .int rco, .int rmo])), (aL6, .inr (8, [.ref aL7])), (aL7, .inl (G.2.1, 80, .inl rd)), (aL8, .inr (8, [.ref aL9])), (aL9, .inl (G.2.1, 5, .inl rw)), (aL10, .inr (8, [.ref aL11])), (aL11, .inl (G.2.1, 5, .inl rp)), (aL12, .inr (0, [.int apa, .int awo, .int ash, .int aja, .int abu]))] (exn k9) := by
  refine th_of (by decide) (Nat.le_of_ble_eq_true rfl) ?_
  intro p e s m args below meth c ls hx hb het hml hown hlk hA hZ hP hl
  replace hown : s.vm.findClass RX9 = some m.cls := hown
  replace hl : lv_has ls 1 [(0, .ref a0)] := hl
  unfold fX9_passesUntilBlunt at hf
  refine lv_aload_n hx hb dX9_passesUntilBlunt_0 rfl (lv_at hl 0 rfl) ?_
  obtain ⟨e9 | u9, q_1, hf⟩ := obd hf
  · dsimp only at hf
    cases hf
    exact th_v (n := 0) (As := []) (q0 := 0) hx hb het hlk hml hown hA (tX9_checkMounted l hst G a0 aL0 aL1 aL2 aL3 aL4 aL5 aL6 aL7 aL8 aL9 aL10 aL11 aL12 aH0 aT0 aW0 aE0 md mch fra fwe fof fsi csh cde csp rd rw rp rco rmo apa awo ash aja abu ltol lchi ljam _ q_1) g_X9_165 gd_X9_checkMounted ⟨(Nat.le_of_ble_eq_true rfl), (Nat.le_of_ble_eq_true rfl)⟩ hZ (hP.sub [0, 1, 2, 3, 4, 5, 6, 7, 8, 9, 10, 11, 12, 13] rfl) rfl rfl rfl hl.1 (Nat.le_of_ble_eq_true rfl) ⟨(Nat.le_of_ble_eq_true rfl), (Nat.le_of_ble_eq_true rfl)⟩ dX9_passesUntilBlunt_1
  dsimp only at hf
  exact (oml hf).elim
def fX9_chipsOf (md : Nat → Int32) (mch : Int32) (fra : Int32) (fwe : Int32) (fof : Int32) (rd : Nat → Int32) (rco : Int32) (i1 : Int32) : Option (Nat ⊕ (Int32)) :=
  ((fX9_checkPiece rco i1).bind fun z => match z with | .inl e => some (.inl e) | .inr _ => (Option.map Sum.inr (((fX4_allAbove md mch fra fwe fof rd i1).bind fun r_2 => some r_2))))
set_option maxHeartbeats 4000000 in
set_option maxRecDepth 100000 in
theorem kX9_chipsOf (l : Launch) (G : GG) (a0 aL0 aL1 aL2 aL3 aL4 aL5 aL6 aL7 aL8 aL9 aL10 aL11 aL12 aH0 aT0 aW0 aE0 : Nat) (md : Nat → Int32) (mch : Int32) (fra : Int32) (fwe : Int32) (fof : Int32) (fsi : Int32) (csh : Int32) (cde : Int32) (csp : Int32) (rd : Nat → Int32) (rw : Nat → Int32) (rp : Nat → Int32) (rco : Int32) (rmo : Int32) (apa : Int32) (awo : Int32) (ash : Int32) (aja : Int32) (abu : Int32) (ltol : Int32) (lchi : Int32) (ljam : Int32) (i1 : Int32) (r_0 : Int32) (hf : fX9_chipsOf md mch fra fwe fof rd rco i1 = some (.inr r_0)) : Ro l G yX9_chipsOf cX9_chipsOf 2 (some .int) 8 123 [.ref a0, .int i1] [(a0, .inr (9, [.ref aL0, .ref aH0, .ref aT0, .ref aW0, .ref aE0])), (aL0, .inr (4, [.ref aL1, .ref aL3, .ref aL4, .ref aL5, .ref aL12, .int ltol, .int lchi, .int ljam])), (aL1, .inr (6, [.ref aL2, .int mch])), (aL2, .inl (G.2.1, 48, .inl md)), (aL3, .inr (2, [.int fra, .int fwe, .int fof, .int fsi])), (aL4, .inr (1, [.int csh, .int cde, .int csp])), (aL5, .inr (7, [.ref aL6, .ref aL8, .ref aL10, .int rco, .int rmo])), (aL6, .inr (8, [.ref aL7])), (aL7, .inl (G.2.1, 80, .inl rd)), (aL8, .inr (8, [.ref aL9])), (aL9, .inl (G.2.1, 5, .inl rw)), (aL10, .inr (8, [.ref aL11])), (aL11, .inl (G.2.1, 5, .inl rp)), (aL12, .inr (0, [.int apa, .int awo, .int ash, .int aja, .int abu]))] (some (.int r_0)) := by
  refine ro_of (by decide) (Nat.le_of_ble_eq_true rfl) ?_
  intro p e s m args below meth c ls hx hb hr hml hown hlk hA hZ hP hl
  replace hown : s.vm.findClass RX9 = some m.cls := hown
  replace hl : lv_has ls 2 [(0, .ref a0), (1, .int i1)] := hl
  unfold fX9_chipsOf at hf
  refine lv_aload_n hx hb dX9_chipsOf_0 rfl (lv_at hl 0 rfl) ?_
  refine lv_iload_n hx hb dX9_chipsOf_1 rfl (lv_at hl 1 rfl) ?_
  obtain ⟨e9 | u9, q_1, hf⟩ := obd hf
  · dsimp only at hf
    cases hf
  dsimp only at hf
  replace hf := omr hf
  refine ro_v (n := 1) (As := [.int i1]) (q0 := 0) hx hb hml hown hA (kX9_checkPiece l G a0 aL0 aL1 aL2 aL3 aL4 aL5 aL6 aL7 aL8 aL9 aL10 aL11 aL12 aH0 aT0 aW0 aE0 md mch fra fwe fof fsi csh cde csp rd rw rp rco rmo apa awo ash aja abu ltol lchi ljam i1 q_1) g_X9_149 gd_X9_checkPiece ⟨(Nat.le_of_ble_eq_true rfl), (Nat.le_of_ble_eq_true rfl)⟩ hZ (hP.sub [0, 1, 2, 3, 4, 5, 6, 7, 8, 9, 10, 11, 12, 13] rfl) rfl rfl rfl hl.1 (Nat.le_of_ble_eq_true rfl) ⟨(Nat.le_of_ble_eq_true rfl), (Nat.le_of_ble_eq_true rfl)⟩ dX9_chipsOf_2 ?_
  refine W.eq (g2 := F0 m 5 ls []) rfl ?_
  refine lv_aload_n hx hb dX9_chipsOf_5 rfl (lv_at hl 0 rfl) ?_
  refine gf_X9_10 hx hb hown hA hP 0 rfl rfl dX9_chipsOf_6 ?_
  refine lv_iload_n hx hb dX9_chipsOf_9 rfl (lv_at hl 1 rfl) ?_
  obtain ⟨r_2, q_3, hf⟩ := obd hf
  refine ro_v (n := 1) (As := [.int i1]) (q0 := 0) hx hb hml hown hA (kX4_allAbove l G aL0 aL1 aL2 aL3 aL4 aL5 aL6 aL7 aL8 aL9 aL10 aL11 aL12 md mch fra fwe fof fsi csh cde csp rd rw rp rco rmo apa awo ash aja abu ltol lchi ljam i1 r_2 q_3) g_X9_301 gd_X4_allAbove ⟨(Nat.le_of_ble_eq_true rfl), (Nat.le_of_ble_eq_true rfl)⟩ hZ (hP.sub [1, 2, 3, 4, 5, 6, 7, 8, 9, 10, 11, 12, 13] rfl) rfl rfl rfl hl.1 (Nat.le_of_ble_eq_true rfl) ⟨(Nat.le_of_ble_eq_true rfl), (Nat.le_of_ble_eq_true rfl)⟩ dX9_chipsOf_10 ?_
  refine W.eq (g2 := F0 m 13 ls [.int r_2]) rfl ?_
  cases hf
  exact ro_iret hx hb hr hlk dX9_chipsOf_13
set_option maxHeartbeats 4000000 in
set_option maxRecDepth 100000 in
theorem tX9_chipsOf (l : Launch) (hst : l.stackTraces = false) (G : GG) (a0 aL0 aL1 aL2 aL3 aL4 aL5 aL6 aL7 aL8 aL9 aL10 aL11 aL12 aH0 aT0 aW0 aE0 : Nat) (md : Nat → Int32) (mch : Int32) (fra : Int32) (fwe : Int32) (fof : Int32) (fsi : Int32) (csh : Int32) (cde : Int32) (csp : Int32) (rd : Nat → Int32) (rw : Nat → Int32) (rp : Nat → Int32) (rco : Int32) (rmo : Int32) (apa : Int32) (awo : Int32) (ash : Int32) (aja : Int32) (abu : Int32) (ltol : Int32) (lchi : Int32) (ljam : Int32) (i1 : Int32) (k9 : Nat) (hf : fX9_chipsOf md mch fra fwe fof rd rco i1 = some (.inl k9)) : Th l G yX9_chipsOf cX9_chipsOf 2 (some .int) 8 123 [.ref a0, .int i1] [(a0, .inr (9, [.ref aL0, .ref aH0, .ref aT0, .ref aW0, .ref aE0])), (aL0, .inr (4, [.ref aL1, .ref aL3, .ref aL4, .ref aL5, .ref aL12, .int ltol, .int lchi, .int ljam])), (aL1, .inr (6, [.ref aL2, .int mch])), (aL2, .inl (G.2.1, 48, .inl md)), (aL3, .inr (2, [.int fra, .int fwe, .int fof, .int fsi])), (aL4, .inr (1, [.int csh, .int cde, .int csp])), (aL5, .inr (7, [.ref aL6, .ref aL8, .ref aL10, .int rco, .int rmo])), (aL6, .inr (8, [.ref aL7])), (aL7, .inl (G.2.1, 80, .inl rd)), (aL8, .inr (8, [.ref aL9])), (aL9, .inl (G.2.1, 5, .inl rw)), (aL10, .inr (8, [.ref aL11])), (aL11, .inl (G.2.1, 5, .inl rp)), (aL12, .inr (0, [.int apa, .int awo, .int ash, .int aja, .int abu]))] (exn k9) := by
  refine th_of (by decide) (Nat.le_of_ble_eq_true rfl) ?_
  intro p e s m args below meth c ls hx hb het hml hown hlk hA hZ hP hl
  replace hown : s.vm.findClass RX9 = some m.cls := hown
  replace hl : lv_has ls 2 [(0, .ref a0), (1, .int i1)] := hl
  unfold fX9_chipsOf at hf
  refine lv_aload_n hx hb dX9_chipsOf_0 rfl (lv_at hl 0 rfl) ?_
  refine lv_iload_n hx hb dX9_chipsOf_1 rfl (lv_at hl 1 rfl) ?_
  obtain ⟨e9 | u9, q_1, hf⟩ := obd hf
  · dsimp only at hf
    cases hf
    exact th_v (n := 1) (As := [.int i1]) (q0 := 0) hx hb het hlk hml hown hA (tX9_checkPiece l hst G a0 aL0 aL1 aL2 aL3 aL4 aL5 aL6 aL7 aL8 aL9 aL10 aL11 aL12 aH0 aT0 aW0 aE0 md mch fra fwe fof fsi csh cde csp rd rw rp rco rmo apa awo ash aja abu ltol lchi ljam i1 _ q_1) g_X9_149 gd_X9_checkPiece ⟨(Nat.le_of_ble_eq_true rfl), (Nat.le_of_ble_eq_true rfl)⟩ hZ (hP.sub [0, 1, 2, 3, 4, 5, 6, 7, 8, 9, 10, 11, 12, 13] rfl) rfl rfl rfl hl.1 (Nat.le_of_ble_eq_true rfl) ⟨(Nat.le_of_ble_eq_true rfl), (Nat.le_of_ble_eq_true rfl)⟩ dX9_chipsOf_2
  dsimp only at hf
  exact (oml hf).elim
def fX9_meanDiameter (rd : Nat → Int32) (rco : Int32) (i1 : Int32) : Option (Nat ⊕ (UInt64)) :=
  ((fX9_checkPiece rco i1).bind fun z => match z with | .inl e => some (.inl e) | .inr _ => (Option.map Sum.inr (((fX7_sumOf rd i1).bind fun r_2 => (if (FP.ddiv (FP.i2d r_2) 4625196817309499392) &&& 0x7fffffffffffffff ≤ 0x7ff0000000000000 then some (FP.ddiv (FP.i2d r_2) 4625196817309499392) else none)))))
set_option maxHeartbeats 4000000 in
set_option maxRecDepth 100000 in
theorem kX9_meanDiameter (l : Launch) (G : GG) (a0 aL0 aL1 aL2 aL3 aL4 aL5 aL6 aL7 aL8 aL9 aL10 aL11 aL12 aH0 aT0 aW0 aE0 : Nat) (md : Nat → Int32) (mch : Int32) (fra : Int32) (fwe : Int32) (fof : Int32) (fsi : Int32) (csh : Int32) (cde : Int32) (csp : Int32) (rd : Nat → Int32) (rw : Nat → Int32) (rp : Nat → Int32) (rco : Int32) (rmo : Int32) (apa : Int32) (awo : Int32) (ash : Int32) (aja : Int32) (abu : Int32) (ltol : Int32) (lchi : Int32) (ljam : Int32) (i1 : Int32) (r_0 : UInt64) (hf : fX9_meanDiameter rd rco i1 = some (.inr r_0)) : Ro l G yX9_meanDiameter cX9_meanDiameter 2 (some .double) 8 123 [.ref a0, .int i1] [(a0, .inr (9, [.ref aL0, .ref aH0, .ref aT0, .ref aW0, .ref aE0])), (aL0, .inr (4, [.ref aL1, .ref aL3, .ref aL4, .ref aL5, .ref aL12, .int ltol, .int lchi, .int ljam])), (aL1, .inr (6, [.ref aL2, .int mch])), (aL2, .inl (G.2.1, 48, .inl md)), (aL3, .inr (2, [.int fra, .int fwe, .int fof, .int fsi])), (aL4, .inr (1, [.int csh, .int cde, .int csp])), (aL5, .inr (7, [.ref aL6, .ref aL8, .ref aL10, .int rco, .int rmo])), (aL6, .inr (8, [.ref aL7])), (aL7, .inl (G.2.1, 80, .inl rd)), (aL8, .inr (8, [.ref aL9])), (aL9, .inl (G.2.1, 5, .inl rw)), (aL10, .inr (8, [.ref aL11])), (aL11, .inl (G.2.1, 5, .inl rp)), (aL12, .inr (0, [.int apa, .int awo, .int ash, .int aja, .int abu]))] (some (.double r_0)) := by
  refine ro_of (by decide) (Nat.le_of_ble_eq_true rfl) ?_
  intro p e s m args below meth c ls hx hb hr hml hown hlk hA hZ hP hl
  replace hown : s.vm.findClass RX9 = some m.cls := hown
  replace hl : lv_has ls 2 [(0, .ref a0), (1, .int i1)] := hl
  unfold fX9_meanDiameter at hf
  refine lv_aload_n hx hb dX9_meanDiameter_0 rfl (lv_at hl 0 rfl) ?_
  refine lv_iload_n hx hb dX9_meanDiameter_1 rfl (lv_at hl 1 rfl) ?_
  obtain ⟨e9 | u9, q_1, hf⟩ := obd hf
  · dsimp only at hf
    cases hf
  dsimp only at hf
  replace hf := omr hf
  refine ro_v (n := 1) (As := [.int i1]) (q0 := 0) hx hb hml hown hA (kX9_checkPiece l G a0 aL0 aL1 aL2 aL3 aL4 aL5 aL6 aL7 aL8 aL9 aL10 aL11 aL12 aH0 aT0 aW0 aE0 md mch fra fwe fof fsi csh cde csp rd rw rp rco rmo apa awo ash aja abu ltol lchi ljam i1 q_1) g_X9_149 gd_X9_checkPiece ⟨(Nat.le_of_ble_eq_true rfl), (Nat.le_of_ble_eq_true rfl)⟩ hZ (hP.sub [0, 1, 2, 3, 4, 5, 6, 7, 8, 9, 10, 11, 12, 13] rfl) rfl rfl rfl hl.1 (Nat.le_of_ble_eq_true rfl) ⟨(Nat.le_of_ble_eq_true rfl), (Nat.le_of_ble_eq_true rfl)⟩ dX9_meanDiameter_2 ?_
  refine W.eq (g2 := F0 m 5 ls []) rfl ?_
  refine lv_aload_n hx hb dX9_meanDiameter_5 rfl (lv_at hl 0 rfl) ?_
  refine gf_X9_10 hx hb hown hA hP 0 rfl rfl dX9_meanDiameter_6 ?_
  refine gf_X9_133 hx hb hown hA hP 1 rfl rfl dX9_meanDiameter_9 ?_
  refine lv_iload_n hx hb dX9_meanDiameter_12 rfl (lv_at hl 1 rfl) ?_
  obtain ⟨r_2, q_3, hf⟩ := obd hf
  refine ro_v (n := 1) (As := [.int i1]) (q0 := 0) hx hb hml hown hA (kX7_sumOf l G aL5 aL6 aL7 aL8 aL9 aL10 aL11 rd rw rp rco rmo i1 r_2 q_3) g_X9_304 gd_X7_sumOf ⟨(Nat.le_of_ble_eq_true rfl), (Nat.le_of_ble_eq_true rfl)⟩ hZ (hP.sub [6, 7, 8, 9, 10, 11, 12] rfl) rfl rfl rfl hl.1 (Nat.le_of_ble_eq_true rfl) ⟨(Nat.le_of_ble_eq_true rfl), (Nat.le_of_ble_eq_true rfl)⟩ dX9_meanDiameter_13 ?_
  refine W.eq (g2 := F0 m 16 ls [.int r_2]) rfl ?_
  refine lv_i2d hx hb dX9_meanDiameter_16 ?_
  refine lv_ldc2d hx hb hown (hA.hts _ wd_542) dX9_meanDiameter_17 ?_
  obtain ⟨z_4, hf⟩ := ock hf
  refine lv_ddiv hx hb dX9_meanDiameter_20 z_4 ?_
  cases hf
  exact ro_dret hx hb hr hlk dX9_meanDiameter_21
set_option maxHeartbeats 4000000 in
set_option maxRecDepth 100000 in
theorem tX9_meanDiameter (l : Launch) (hst : l.stackTraces = false) (G : GG) (a0 aL0 aL1 aL2 aL3 aL4 aL5 aL6 aL7 aL8 aL9 aL10 aL11 aL12 aH0 aT0 aW0 aE0 : Nat) (md : Nat → Int32) (mch : Int32) (fra : Int32) (fwe : Int32) (fof : Int32) (fsi : Int32) (csh : Int32) (cde : Int32) (csp : Int32) (rd : Nat → Int32) (rw : Nat → Int32) (rp : Nat → Int32) (rco : Int32) (rmo : Int32) (apa : Int32) (awo : Int32) (ash : Int32) (aja : Int32) (abu : Int32) (ltol : Int32) (lchi : Int32) (ljam : Int32) (i1 : Int32) (k9 : Nat) (hf : fX9_meanDiameter rd rco i1 = some (.inl k9)) : Th l G yX9_meanDiameter cX9_meanDiameter 2 (some .double) 8 123 [.ref a0, .int i1] [(a0, .inr (9, [.ref aL0, .ref aH0, .ref aT0, .ref aW0, .ref aE0])), (aL0, .inr (4, [.ref aL1, .ref aL3, .ref aL4, .ref aL5, .ref aL12, .int ltol, .int lchi, .int ljam])), (aL1, .inr (6, [.ref aL2, .int mch])), (aL2, .inl (G.2.1, 48, .inl md)), (aL3, .inr (2, [.int fra, .int fwe, .int fof, .int fsi])), (aL4, .inr (1, [.int csh, .int cde, .int csp])), (aL5, .inr (7, [.ref aL6, .ref aL8, .ref aL10, .int rco, .int rmo])), (aL6, .inr (8, [.ref aL7])), (aL7, .inl (G.2.1, 80, .inl rd)), (aL8, .inr (8, [.ref aL9])), (aL9, .inl (G.2.1, 5, .inl rw)), (aL10, .inr (8, [.ref aL11])), (aL11, .inl (G.2.1, 5, .inl rp)), (aL12, .inr (0, [.int apa, .int awo, .int ash, .int aja, .int abu]))] (exn k9) := by
  refine th_of (by decide) (Nat.le_of_ble_eq_true rfl) ?_
  intro p e s m args below meth c ls hx hb het hml hown hlk hA hZ hP hl
  replace hown : s.vm.findClass RX9 = some m.cls := hown
  replace hl : lv_has ls 2 [(0, .ref a0), (1, .int i1)] := hl
  unfold fX9_meanDiameter at hf
  refine lv_aload_n hx hb dX9_meanDiameter_0 rfl (lv_at hl 0 rfl) ?_
  refine lv_iload_n hx hb dX9_meanDiameter_1 rfl (lv_at hl 1 rfl) ?_
  obtain ⟨e9 | u9, q_1, hf⟩ := obd hf
  · dsimp only at hf
    cases hf
    exact th_v (n := 1) (As := [.int i1]) (q0 := 0) hx hb het hlk hml hown hA (tX9_checkPiece l hst G a0 aL0 aL1 aL2 aL3 aL4 aL5 aL6 aL7 aL8 aL9 aL10 aL11 aL12 aH0 aT0 aW0 aE0 md mch fra fwe fof fsi csh cde csp rd rw rp rco rmo apa awo ash aja abu ltol lchi ljam i1 _ q_1) g_X9_149 gd_X9_checkPiece ⟨(Nat.le_of_ble_eq_true rfl), (Nat.le_of_ble_eq_true rfl)⟩ hZ (hP.sub [0, 1, 2, 3, 4, 5, 6, 7, 8, 9, 10, 11, 12, 13] rfl) rfl rfl rfl hl.1 (Nat.le_of_ble_eq_true rfl) ⟨(Nat.le_of_ble_eq_true rfl), (Nat.le_of_ble_eq_true rfl)⟩ dX9_meanDiameter_2
  dsimp only at hf
  exact (oml hf).elim
def fX9_mixed  (i1 : Int64) (i2 : Int64) : Option (Int64) :=
  some ((31 * i1) + i2)
set_option maxHeartbeats 4000000 in
set_option maxRecDepth 100000 in
theorem kX9_mixed (l : Launch) (G : GG)  (i1 : Int64) (i2 : Int64) (r_0 : Int64) (hf : fX9_mixed i1 i2 = some r_0) : Ro l G yX9_mixed cX9_mixed 4 (some .long) 0 0 [.long i1, .long i2] [] (some (.long r_0)) := by
  refine ro_of (by decide) (Nat.le_of_ble_eq_true rfl) ?_
  intro p e s m args below meth c ls hx hb hr hml hown hlk hA hZ hP hl
  replace hown : s.vm.findClass RX9 = some m.cls := hown
  replace hl : lv_has ls 4 [(0, .long i1), (2, .long i2)] := hl
  unfold fX9_mixed at hf
  refine lv_ldc2 hx hb hown (hA.hts _ wd_546) dX9_mixed_0 ?_
  refine lv_lload_n hx hb dX9_mixed_3 rfl (lv_at hl 0 rfl) ?_
  refine lv_lmul hx hb dX9_mixed_4 ?_
  refine lv_lload_n hx hb dX9_mixed_5 rfl (lv_at hl 1 rfl) ?_
  refine lv_ladd hx hb dX9_mixed_6 ?_
  cases hf
  exact ro_lret hx hb hr hlk dX9_mixed_7
def fX9_hashOfMasters_L14 (md : Nat → Int32) (v5 : Int32) : Nat → Int64 → Int32 → Option (Int64)
  | 0, _, _ => none
  | n9 + 1, v3, v6 => (if 16 ≤ v6 then some v3 else ((fX6_at md v5 v6).bind fun r_3 => ((fX9_mixed v3 r_3.toInt64).bind fun r_5 => fX9_hashOfMasters_L14 md v5 n9 r_5 (v6 + 1))))
def fX9_hashOfMasters_L5 (md : Nat → Int32)  : Nat → Int64 → Int32 → Option (Int64)
  | 0, _, _ => none
  | n9 + 1, v3, v5 => (if 3 ≤ v5 then some v3 else ((fX9_hashOfMasters_L14 md v5 2000 v3 0).bind fun x3_7 => fX9_hashOfMasters_L5 md n9 x3_7 (v5 + 1)))
def fX9_hashOfMasters (md : Nat → Int32) (i1 : Int64) : Option (Int64) :=
  ((fX9_hashOfMasters_L5 md 2000 i1 0).bind fun x3_9 => some x3_9)
set_option maxHeartbeats 4000000 in
set_option maxRecDepth 100000 in
theorem kX9_hashOfMasters (l : Launch) (G : GG) (a0 aL0 aL1 aL2 aL3 aL4 aL5 aL6 aL7 aL8 aL9 aL10 aL11 aL12 aH0 aT0 aW0 aE0 : Nat) (md : Nat → Int32) (mch : Int32) (fra : Int32) (fwe : Int32) (fof : Int32) (fsi : Int32) (csh : Int32) (cde : Int32) (csp : Int32) (rd : Nat → Int32) (rw : Nat → Int32) (rp : Nat → Int32) (rco : Int32) (rmo : Int32) (apa : Int32) (awo : Int32) (ash : Int32) (aja : Int32) (abu : Int32) (ltol : Int32) (lchi : Int32) (ljam : Int32) (i1 : Int64) (r_0 : Int64) (hf : fX9_hashOfMasters md i1 = some r_0) : Ro l G yX9_hashOfMasters cX9_hashOfMasters 7 (some .long) 1 23 [.ref a0, .long i1] [(a0, .inr (9, [.ref aL0, .ref aH0, .ref aT0, .ref aW0, .ref aE0])), (aL0, .inr (4, [.ref aL1, .ref aL3, .ref aL4, .ref aL5, .ref aL12, .int ltol, .int lchi, .int ljam])), (aL1, .inr (6, [.ref aL2, .int mch])), (aL2, .inl (G.2.1, 48, .inl md)), (aL3, .inr (2, [.int fra, .int fwe, .int fof, .int fsi])), (aL4, .inr (1, [.int csh, .int cde, .int csp])), (aL5, .inr (7, [.ref aL6, .ref aL8, .ref aL10, .int rco, .int rmo])), (aL6, .inr (8, [.ref aL7])), (aL7, .inl (G.2.1, 80, .inl rd)), (aL8, .inr (8, [.ref aL9])), (aL9, .inl (G.2.1, 5, .inl rw)), (aL10, .inr (8, [.ref aL11])), (aL11, .inl (G.2.1, 5, .inl rp)), (aL12, .inr (0, [.int apa, .int awo, .int ash, .int aja, .int abu]))] (some (.long r_0)) := by
  refine ro_of (by decide) (Nat.le_of_ble_eq_true rfl) ?_
  intro p e s m args below meth c ls hx hb hr hml hown hlk hA hZ hP hl
  replace hown : s.vm.findClass RX9 = some m.cls := hown
  replace hl : lv_has ls 7 [(0, .ref a0), (1, .long i1)] := hl
  unfold fX9_hashOfMasters at hf
  refine lv_lload_n hx hb dX9_hashOfMasters_0 rfl (lv_at hl 1 rfl) ?_
  refine lv_lstore_n (lv' := [(3, .long i1), (0, .ref a0), (1, .long i1)]) hx hb dX9_hashOfMasters_1 rfl hl (by decide) rfl (fun ls hl => ?_)
  refine lv_iconst (v := 0) hx hb dX9_hashOfMasters_2 (by decide) ?_
  refine lv_istore (lv' := [(5, .int 0), (3, .long i1), (0, .ref a0), (1, .long i1)]) hx hb dX9_hashOfMasters_3 hl (by decide) rfl (fun ls hl => ?_)
  have lp5 : ∀   (n : Nat) (v3 : Int64) (v5 : Int32)  (x3_9 : Int64) (Q : State → Prop), fX9_hashOfMasters_L5 md n v3 v5 = some x3_9 → ∀ (ls : Array Slot), lv_has ls 7 [(0, .ref a0), (3, .long v3), (5, .int v5)] → (∀ (ls : Array Slot), lv_has ls 7 [(3, .long x3_9)] → W p l e { frames := 1, cells := 0, slots := 0, locals := 23 } s m args below meth c s.heap [] 0 0 Q (F0 m 53 ls [])) → W p l e { frames := 1, cells := 0, slots := 0, locals := 23 } s m args below meth c s.heap [] 0 0 Q (F0 m 5 ls []) := by
    intro  n
    induction n with
    | zero => intro v3 v5 x3_9 Q hf; rw [fX9_hashOfMasters_L5] at hf; cases hf
    | succ n ih =>
      intro v3 v5 x3_9 Q hf ls hl kk
      rw [fX9_hashOfMasters_L5] at hf
      refine lv_iload hx hb dX9_hashOfMasters_5 (lv_at hl 2 rfl) ?_
      refine lv_iconst (v := 3) hx hb dX9_hashOfMasters_7 (by decide) ?_
      refine lv_icmp_ge (tgt := 53) hx hb dX9_hashOfMasters_8 (by decide) (fun c_1 => ?_) (fun c_1 => ?_)
      · replace hf := ifp c_1 hf
        cases hf
        exact kk ls (lv_sub hl [1] rfl)
      · replace hf := ifn c_1 hf
        refine lv_iconst (v := 0) hx hb dX9_hashOfMasters_11 (by decide) ?_
        refine lv_istore (lv' := [(6, .int 0), (0, .ref a0), (3, .long v3), (5, .int v5)]) hx hb dX9_hashOfMasters_12 hl (by decide) rfl (fun ls hl => ?_)
        have lp14 : ∀ (v5 : Int32)  (n : Nat) (v3 : Int64) (v6 : Int32)  (x3_7 : Int64) (Q : State → Prop), fX9_hashOfMasters_L14 md v5 n v3 v6 = some x3_7 → ∀ (ls : Array Slot), lv_has ls 7 [(0, .ref a0), (3, .long v3), (5, .int v5), (6, .int v6)] → (∀ (ls : Array Slot), lv_has ls 7 [(0, .ref a0), (3, .long x3_7), (5, .int v5)] → W p l e { frames := 1, cells := 0, slots := 0, locals := 23 } s m args below meth c s.heap [] 0 0 Q (F0 m 47 ls [])) → W p l e { frames := 1, cells := 0, slots := 0, locals := 23 } s m args below meth c s.heap [] 0 0 Q (F0 m 14 ls []) := by
          intro v5 n
          induction n with
          | zero => intro v3 v6 x3_7 Q hf; rw [fX9_hashOfMasters_L14] at hf; cases hf
          | succ n ih =>
            intro v3 v6 x3_7 Q hf ls hl kk
            rw [fX9_hashOfMasters_L14] at hf
            refine lv_iload hx hb dX9_hashOfMasters_14 (lv_at hl 3 rfl) ?_
            refine lv_bipush (v := 16) hx hb dX9_hashOfMasters_16 (by decide) ?_
            refine lv_icmp_ge (tgt := 47) hx hb dX9_hashOfMasters_18 (by decide) (fun c_2 => ?_) (fun c_2 => ?_)
            · replace hf := ifp c_2 hf
              cases hf
              exact kk ls (lv_sub hl [0, 1, 2] rfl)
            · replace hf := ifn c_2 hf
              refine lv_lload_n hx hb dX9_hashOfMasters_21 rfl (lv_at hl 1 rfl) ?_
              refine lv_aload_n hx hb dX9_hashOfMasters_22 rfl (lv_at hl 0 rfl) ?_
              refine gf_X9_10 hx hb hown hA hP 0 rfl rfl dX9_hashOfMasters_23 ?_
              refine gf_X9_56 hx hb hown hA hP 1 rfl rfl dX9_hashOfMasters_26 ?_
              refine lv_iload hx hb dX9_hashOfMasters_29 (lv_at hl 2 rfl) ?_
              refine lv_iload hx hb dX9_hashOfMasters_31 (lv_at hl 3 rfl) ?_
              obtain ⟨r_3, q_4, hf⟩ := obd hf
              refine ro_v (n := 2) (As := [.int v5, .int v6]) (q0 := 0) hx hb hml hown hA (kX6_at l G aL1 aL2 md mch v5 v6 r_3 q_4) g_X9_60 gd_X6_at ⟨(Nat.le_of_ble_eq_true rfl), (Nat.le_of_ble_eq_true rfl)⟩ hZ (hP.sub [2, 3] rfl) rfl rfl rfl hl.1 (Nat.le_of_ble_eq_true rfl) ⟨(Nat.le_of_ble_eq_true rfl), (Nat.le_of_ble_eq_true rfl)⟩ dX9_hashOfMasters_33 ?_
              refine W.eq (g2 := F0 m 36 ls [.int r_3, .long v3]) rfl ?_
              refine lv_i2l (v := r_3.toInt64) hx hb dX9_hashOfMasters_36 rfl ?_
              obtain ⟨r_5, q_6, hf⟩ := obd hf
              refine ro_s (n := 2) (As := [.long v3, .long r_3.toInt64]) hx hb hml hown hA (kX9_mixed l G v3 r_3.toInt64 r_5 q_6) g_X9_319 gd_X9_mixed ⟨(Nat.le_of_ble_eq_true rfl), (Nat.le_of_ble_eq_true rfl)⟩ hZ (fun _ _ h => by simp at h) rfl hl.1 (Nat.le_of_ble_eq_true rfl) ⟨(Nat.le_of_ble_eq_true rfl), (Nat.le_of_ble_eq_true rfl)⟩ dX9_hashOfMasters_37 ?_
              refine W.eq (g2 := F0 m 40 ls [.long r_5]) rfl ?_
              refine lv_lstore_n (lv' := [(3, .long r_5), (0, .ref a0), (5, .int v5), (6, .int v6)]) hx hb dX9_hashOfMasters_40 rfl hl (by decide) rfl (fun ls hl => ?_)
              refine lv_iinc (v := v6 + 1) (lv' := [(6, .int (v6 + 1)), (3, .long r_5), (0, .ref a0), (5, .int v5)]) hx hb dX9_hashOfMasters_41 hl (k := 3) rfl rfl (by decide) rfl (fun ls hl => ?_)
              refine lv_goto (tgt := 14) hx hb dX9_hashOfMasters_44 (by decide) ?_
              exact ih _ _ _ _ hf ls (lv_sub hl [2, 1, 3, 0] rfl) kk
        obtain ⟨x3_7, q_8, hf⟩ := obd hf
        refine lp14 _ _ _ _ _ _ q_8 ls (lv_sub hl [1, 2, 3, 0] rfl) (fun ls hl => ?_)
        refine lv_iinc (v := v5 + 1) (lv' := [(5, .int (v5 + 1)), (0, .ref a0), (3, .long x3_7)]) hx hb dX9_hashOfMasters_47 hl (k := 2) rfl rfl (by decide) rfl (fun ls hl => ?_)
        refine lv_goto (tgt := 5) hx hb dX9_hashOfMasters_50 (by decide) ?_
        exact ih _ _ _ _ hf ls (lv_sub hl [1, 2, 0] rfl) kk
  obtain ⟨x3_9, q_10, hf⟩ := obd hf
  refine lp5 _ _ _ _ _ q_10 ls (lv_sub hl [2, 1, 0] rfl) (fun ls hl => ?_)
  refine lv_lload_n hx hb dX9_hashOfMasters_53 rfl (lv_at hl 0 rfl) ?_
  cases hf
  exact ro_lret hx hb hr hlk dX9_hashOfMasters_54
def fX9_hashOfSettings (mch : Int32) (fra : Int32) (fwe : Int32) (fof : Int32) (csh : Int32) (cde : Int32) (csp : Int32) (ltol : Int32) (lchi : Int32) (ljam : Int32) (i1 : Int64) : Option (Int64) :=
  ((fX9_mixed i1 mch.toInt64).bind fun r_1 => ((fX9_mixed r_1 fra.toInt64).bind fun r_3 => ((fX9_mixed r_3 fwe.toInt64).bind fun r_5 => ((fX9_mixed r_5 fof.toInt64).bind fun r_7 => ((fX9_mixed r_7 csh.toInt64).bind fun r_9 => ((fX9_mixed r_9 cde.toInt64).bind fun r_11 => ((fX1_reach csh cde).bind fun r_13 => ((fX9_mixed r_11 r_13.toInt64).bind fun r_15 => ((fX9_mixed r_15 csp.toInt64).bind fun r_17 => ((fX9_mixed r_17 ltol.toInt64).bind fun r_19 => ((fX9_mixed r_19 lchi.toInt64).bind fun r_21 => (if ljam = 0 then ((fX9_mixed r_21 0).bind fun r_24 => some r_24) else ((fX9_mixed r_21 1).bind fun r_26 => some r_26)))))))))))))
set_option maxHeartbeats 4000000 in
set_option maxRecDepth 100000 in
theorem kX9_hashOfSettings (l : Launch) (G : GG) (a0 aL0 aL1 aL2 aL3 aL4 aL5 aL6 aL7 aL8 aL9 aL10 aL11 aL12 aH0 aT0 aW0 aE0 : Nat) (md : Nat → Int32) (mch : Int32) (fra : Int32) (fwe : Int32) (fof : Int32) (fsi : Int32) (csh : Int32) (cde : Int32) (csp : Int32) (rd : Nat → Int32) (rw : Nat → Int32) (rp : Nat → Int32) (rco : Int32) (rmo : Int32) (apa : Int32) (awo : Int32) (ash : Int32) (aja : Int32) (abu : Int32) (ltol : Int32) (lchi : Int32) (ljam : Int32) (i1 : Int64) (r_0 : Int64) (hf : fX9_hashOfSettings mch fra fwe fof csh cde csp ltol lchi ljam i1 = some r_0) : Ro l G yX9_hashOfSettings cX9_hashOfSettings 5 (some .long) 2 40 [.ref a0, .long i1] [(a0, .inr (9, [.ref aL0, .ref aH0, .ref aT0, .ref aW0, .ref aE0])), (aL0, .inr (4, [.ref aL1, .ref aL3, .ref aL4, .ref aL5, .ref aL12, .int ltol, .int lchi, .int ljam])), (aL1, .inr (6, [.ref aL2, .int mch])), (aL2, .inl (G.2.1, 48, .inl md)), (aL3, .inr (2, [.int fra, .int fwe, .int fof, .int fsi])), (aL4, .inr (1, [.int csh, .int cde, .int csp])), (aL5, .inr (7, [.ref aL6, .ref aL8, .ref aL10, .int rco, .int rmo])), (aL6, .inr (8, [.ref aL7])), (aL7, .inl (G.2.1, 80, .inl rd)), (aL8, .inr (8, [.ref aL9])), (aL9, .inl (G.2.1, 5, .inl rw)), (aL10, .inr (8, [.ref aL11])), (aL11, .inl (G.2.1, 5, .inl rp)), (aL12, .inr (0, [.int apa, .int awo, .int ash, .int aja, .int abu]))] (some (.long r_0)) := by
  refine ro_of (by decide) (Nat.le_of_ble_eq_true rfl) ?_
  intro p e s m args below meth c ls hx hb hr hml hown hlk hA hZ hP hl
  replace hown : s.vm.findClass RX9 = some m.cls := hown
  replace hl : lv_has ls 5 [(0, .ref a0), (1, .long i1)] := hl
  unfold fX9_hashOfSettings at hf
  refine lv_lload_n hx hb dX9_hashOfSettings_0 rfl (lv_at hl 1 rfl) ?_
  refine lv_aload_n hx hb dX9_hashOfSettings_1 rfl (lv_at hl 0 rfl) ?_
  refine gf_X9_10 hx hb hown hA hP 0 rfl rfl dX9_hashOfSettings_2 ?_
  refine gf_X9_56 hx hb hown hA hP 1 rfl rfl dX9_hashOfSettings_5 ?_
  refine gf_X9_76 hx hb hown hA hP 2 rfl rfl dX9_hashOfSettings_8 ?_
  refine lv_i2l (v := mch.toInt64) hx hb dX9_hashOfSettings_11 rfl ?_
  obtain ⟨r_1, q_2, hf⟩ := obd hf
  refine ro_s (n := 2) (As := [.long i1, .long mch.toInt64]) hx hb hml hown hA (kX9_mixed l G i1 mch.toInt64 r_1 q_2) g_X9_319 gd_X9_mixed ⟨(Nat.le_of_ble_eq_true rfl), (Nat.le_of_ble_eq_true rfl)⟩ hZ (fun _ _ h => by simp at h) rfl hl.1 (Nat.le_of_ble_eq_true rfl) ⟨(Nat.le_of_ble_eq_true rfl), (Nat.le_of_ble_eq_true rfl)⟩ dX9_hashOfSettings_12 ?_
  refine W.eq (g2 := F0 m 15 ls [.long r_1]) rfl ?_
  refine lv_lstore_n (lv' := [(3, .long r_1), (0, .ref a0), (1, .long i1)]) hx hb dX9_hashOfSettings_15 rfl hl (by decide) rfl (fun ls hl => ?_)
  refine lv_lload_n hx hb dX9_hashOfSettings_16 rfl (lv_at hl 0 rfl) ?_
  refine lv_aload_n hx hb dX9_hashOfSettings_17 rfl (lv_at hl 1 rfl) ?_
  refine gf_X9_10 hx hb hown hA hP 0 rfl rfl dX9_hashOfSettings_18 ?_
  refine gf_X9_80 hx hb hown hA hP 1 rfl rfl dX9_hashOfSettings_21 ?_
  refine gf_X9_228 hx hb hown hA hP 4 rfl rfl dX9_hashOfSettings_24 ?_
  refine lv_i2l (v := fra.toInt64) hx hb dX9_hashOfSettings_27 rfl ?_
  obtain ⟨r_3, q_4, hf⟩ := obd hf
  refine ro_s (n := 2) (As := [.long r_1, .long fra.toInt64]) hx hb hml hown hA (kX9_mixed l G r_1 fra.toInt64 r_3 q_4) g_X9_319 gd_X9_mixed ⟨(Nat.le_of_ble_eq_true rfl), (Nat.le_of_ble_eq_true rfl)⟩ hZ (fun _ _ h => by simp at h) rfl hl.1 (Nat.le_of_ble_eq_true rfl) ⟨(Nat.le_of_ble_eq_true rfl), (Nat.le_of_ble_eq_true rfl)⟩ dX9_hashOfSettings_28 ?_
  refine W.eq (g2 := F0 m 31 ls [.long r_3]) rfl ?_
  refine lv_lstore_n (lv' := [(3, .long r_3), (0, .ref a0), (1, .long i1)]) hx hb dX9_hashOfSettings_31 rfl hl (by decide) rfl (fun ls hl => ?_)
  refine lv_lload_n hx hb dX9_hashOfSettings_32 rfl (lv_at hl 0 rfl) ?_
  refine lv_aload_n hx hb dX9_hashOfSettings_33 rfl (lv_at hl 1 rfl) ?_
  refine gf_X9_10 hx hb hown hA hP 0 rfl rfl dX9_hashOfSettings_34 ?_
  refine gf_X9_80 hx hb hown hA hP 1 rfl rfl dX9_hashOfSettings_37 ?_
  refine gf_X9_84 hx hb hown hA hP 4 rfl rfl dX9_hashOfSettings_40 ?_
  refine lv_i2l (v := fwe.toInt64) hx hb dX9_hashOfSettings_43 rfl ?_
  obtain ⟨r_5, q_6, hf⟩ := obd hf
  refine ro_s (n := 2) (As := [.long r_3, .long fwe.toInt64]) hx hb hml hown hA (kX9_mixed l G r_3 fwe.toInt64 r_5 q_6) g_X9_319 gd_X9_mixed ⟨(Nat.le_of_ble_eq_true rfl), (Nat.le_of_ble_eq_true rfl)⟩ hZ (fun _ _ h => by simp at h) rfl hl.1 (Nat.le_of_ble_eq_true rfl) ⟨(Nat.le_of_ble_eq_true rfl), (Nat.le_of_ble_eq_true rfl)⟩ dX9_hashOfSettings_44 ?_
  refine W.eq (g2 := F0 m 47 ls [.long r_5]) rfl ?_
  refine lv_lstore_n (lv' := [(3, .long r_5), (0, .ref a0), (1, .long i1)]) hx hb dX9_hashOfSettings_47 rfl hl (by decide) rfl (fun ls hl => ?_)
  refine lv_lload_n hx hb dX9_hashOfSettings_48 rfl (lv_at hl 0 rfl) ?_
  refine lv_aload_n hx hb dX9_hashOfSettings_49 rfl (lv_at hl 1 rfl) ?_
  refine gf_X9_10 hx hb hown hA hP 0 rfl rfl dX9_hashOfSettings_50 ?_
  refine gf_X9_80 hx hb hown hA hP 1 rfl rfl dX9_hashOfSettings_53 ?_
  refine gf_X9_92 hx hb hown hA hP 4 rfl rfl dX9_hashOfSettings_56 ?_
  refine lv_i2l (v := fof.toInt64) hx hb dX9_hashOfSettings_59 rfl ?_
  obtain ⟨r_7, q_8, hf⟩ := obd hf
  refine ro_s (n := 2) (As := [.long r_5, .long fof.toInt64]) hx hb hml hown hA (kX9_mixed l G r_5 fof.toInt64 r_7 q_8) g_X9_319 gd_X9_mixed ⟨(Nat.le_of_ble_eq_true rfl), (Nat.le_of_ble_eq_true rfl)⟩ hZ (fun _ _ h => by simp at h) rfl hl.1 (Nat.le_of_ble_eq_true rfl) ⟨(Nat.le_of_ble_eq_true rfl), (Nat.le_of_ble_eq_true rfl)⟩ dX9_hashOfSettings_60 ?_
  refine W.eq (g2 := F0 m 63 ls [.long r_7]) rfl ?_
  refine lv_lstore_n (lv' := [(3, .long r_7), (0, .ref a0), (1, .long i1)]) hx hb dX9_hashOfSettings_63 rfl hl (by decide) rfl (fun ls hl => ?_)
  refine lv_lload_n hx hb dX9_hashOfSettings_64 rfl (lv_at hl 0 rfl) ?_
  refine lv_aload_n hx hb dX9_hashOfSettings_65 rfl (lv_at hl 1 rfl) ?_
  refine gf_X9_10 hx hb hown hA hP 0 rfl rfl dX9_hashOfSettings_66 ?_
  refine gf_X9_95 hx hb hown hA hP 1 rfl rfl dX9_hashOfSettings_69 ?_
  refine gf_X9_99 hx hb hown hA hP 5 rfl rfl dX9_hashOfSettings_72 ?_
  refine lv_i2l (v := csh.toInt64) hx hb dX9_hashOfSettings_75 rfl ?_
  obtain ⟨r_9, q_10, hf⟩ := obd hf
  refine ro_s (n := 2) (As := [.long r_7, .long csh.toInt64]) hx hb hml hown hA (kX9_mixed l G r_7 csh.toInt64 r_9 q_10) g_X9_319 gd_X9_mixed ⟨(Nat.le_of_ble_eq_true rfl), (Nat.le_of_ble_eq_true rfl)⟩ hZ (fun _ _ h => by simp at h) rfl hl.1 (Nat.le_of_ble_eq_true rfl) ⟨(Nat.le_of_ble_eq_true rfl), (Nat.le_of_ble_eq_true rfl)⟩ dX9_hashOfSettings_76 ?_
  refine W.eq (g2 := F0 m 79 ls [.long r_9]) rfl ?_
  refine lv_lstore_n (lv' := [(3, .long r_9), (0, .ref a0), (1, .long i1)]) hx hb dX9_hashOfSettings_79 rfl hl (by decide) rfl (fun ls hl => ?_)
  refine lv_lload_n hx hb dX9_hashOfSettings_80 rfl (lv_at hl 0 rfl) ?_
  refine lv_aload_n hx hb dX9_hashOfSettings_81 rfl (lv_at hl 1 rfl) ?_
  refine gf_X9_10 hx hb hown hA hP 0 rfl rfl dX9_hashOfSettings_82 ?_
  refine gf_X9_95 hx hb hown hA hP 1 rfl rfl dX9_hashOfSettings_85 ?_
  refine gf_X9_113 hx hb hown hA hP 5 rfl rfl dX9_hashOfSettings_88 ?_
  refine lv_i2l (v := cde.toInt64) hx hb dX9_hashOfSettings_91 rfl ?_
  obtain ⟨r_11, q_12, hf⟩ := obd hf
  refine ro_s (n := 2) (As := [.long r_9, .long cde.toInt64]) hx hb hml hown hA (kX9_mixed l G r_9 cde.toInt64 r_11 q_12) g_X9_319 gd_X9_mixed ⟨(Nat.le_of_ble_eq_true rfl), (Nat.le_of_ble_eq_true rfl)⟩ hZ (fun _ _ h => by simp at h) rfl hl.1 (Nat.le_of_ble_eq_true rfl) ⟨(Nat.le_of_ble_eq_true rfl), (Nat.le_of_ble_eq_true rfl)⟩ dX9_hashOfSettings_92 ?_
  refine W.eq (g2 := F0 m 95 ls [.long r_11]) rfl ?_
  refine lv_lstore_n (lv' := [(3, .long r_11), (0, .ref a0), (1, .long i1)]) hx hb dX9_hashOfSettings_95 rfl hl (by decide) rfl (fun ls hl => ?_)
  refine lv_lload_n hx hb dX9_hashOfSettings_96 rfl (lv_at hl 0 rfl) ?_
  refine lv_aload_n hx hb dX9_hashOfSettings_97 rfl (lv_at hl 1 rfl) ?_
  refine gf_X9_10 hx hb hown hA hP 0 rfl rfl dX9_hashOfSettings_98 ?_
  refine gf_X9_95 hx hb hown hA hP 1 rfl rfl dX9_hashOfSettings_101 ?_
  obtain ⟨r_13, q_14, hf⟩ := obd hf
  refine ro_v (n := 0) (As := []) (q0 := 0) hx hb hml hown hA (kX1_reach l G aL4 csh cde csp r_13 q_14) g_X9_231 gd_X1_reach ⟨(Nat.le_of_ble_eq_true rfl), (Nat.le_of_ble_eq_true rfl)⟩ hZ (hP.sub [5] rfl) rfl rfl rfl hl.1 (Nat.le_of_ble_eq_true rfl) ⟨(Nat.le_of_ble_eq_true rfl), (Nat.le_of_ble_eq_true rfl)⟩ dX9_hashOfSettings_104 ?_
  refine W.eq (g2 := F0 m 107 ls [.int r_13, .long r_11]) rfl ?_
  refine lv_i2l (v := r_13.toInt64) hx hb dX9_hashOfSettings_107 rfl ?_
  obtain ⟨r_15, q_16, hf⟩ := obd hf
  refine ro_s (n := 2) (As := [.long r_11, .long r_13.toInt64]) hx hb hml hown hA (kX9_mixed l G r_11 r_13.toInt64 r_15 q_16) g_X9_319 gd_X9_mixed ⟨(Nat.le_of_ble_eq_true rfl), (Nat.le_of_ble_eq_true rfl)⟩ hZ (fun _ _ h => by simp at h) rfl hl.1 (Nat.le_of_ble_eq_true rfl) ⟨(Nat.le_of_ble_eq_true rfl), (Nat.le_of_ble_eq_true rfl)⟩ dX9_hashOfSettings_108 ?_
  refine W.eq (g2 := F0 m 111 ls [.long r_15]) rfl ?_
  refine lv_lstore_n (lv' := [(3, .long r_15), (0, .ref a0), (1, .long i1)]) hx hb dX9_hashOfSettings_111 rfl hl (by decide) rfl (fun ls hl => ?_)
  refine lv_lload_n hx hb dX9_hashOfSettings_112 rfl (lv_at hl 0 rfl) ?_
  refine lv_aload_n hx hb dX9_hashOfSettings_113 rfl (lv_at hl 1 rfl) ?_
  refine gf_X9_10 hx hb hown hA hP 0 rfl rfl dX9_hashOfSettings_114 ?_
  refine gf_X9_95 hx hb hown hA hP 1 rfl rfl dX9_hashOfSettings_117 ?_
  refine gf_X9_116 hx hb hown hA hP 5 rfl rfl dX9_hashOfSettings_120 ?_
  refine lv_i2l (v := csp.toInt64) hx hb dX9_hashOfSettings_123 rfl ?_
  obtain ⟨r_17, q_18, hf⟩ := obd hf
  refine ro_s (n := 2) (As := [.long r_15, .long csp.toInt64]) hx hb hml hown hA (kX9_mixed l G r_15 csp.toInt64 r_17 q_18) g_X9_319 gd_X9_mixed ⟨(Nat.le_of_ble_eq_true rfl), (Nat.le_of_ble_eq_true rfl)⟩ hZ (fun _ _ h => by simp at h) rfl hl.1 (Nat.le_of_ble_eq_true rfl) ⟨(Nat.le_of_ble_eq_true rfl), (Nat.le_of_ble_eq_true rfl)⟩ dX9_hashOfSettings_124 ?_
  refine W.eq (g2 := F0 m 127 ls [.long r_17]) rfl ?_
  refine lv_lstore_n (lv' := [(3, .long r_17), (0, .ref a0), (1, .long i1)]) hx hb dX9_hashOfSettings_127 rfl hl (by decide) rfl (fun ls hl => ?_)
  refine lv_lload_n hx hb dX9_hashOfSettings_128 rfl (lv_at hl 0 rfl) ?_
  refine lv_aload_n hx hb dX9_hashOfSettings_129 rfl (lv_at hl 1 rfl) ?_
  refine gf_X9_10 hx hb hown hA hP 0 rfl rfl dX9_hashOfSettings_130 ?_
  refine gf_X9_119 hx hb hown hA hP 1 rfl rfl dX9_hashOfSettings_133 ?_
  refine lv_i2l (v := ltol.toInt64) hx hb dX9_hashOfSettings_136 rfl ?_
  obtain ⟨r_19, q_20, hf⟩ := obd hf
  refine ro_s (n := 2) (As := [.long r_17, .long ltol.toInt64]) hx hb hml hown hA (kX9_mixed l G r_17 ltol.toInt64 r_19 q_20) g_X9_319 gd_X9_mixed ⟨(Nat.le_of_ble_eq_true rfl), (Nat.le_of_ble_eq_true rfl)⟩ hZ (fun _ _ h => by simp at h) rfl hl.1 (Nat.le_of_ble_eq_true rfl) ⟨(Nat.le_of_ble_eq_true rfl), (Nat.le_of_ble_eq_true rfl)⟩ dX9_hashOfSettings_137 ?_
  refine W.eq (g2 := F0 m 140 ls [.long r_19]) rfl ?_
  refine lv_lstore_n (lv' := [(3, .long r_19), (0, .ref a0), (1, .long i1)]) hx hb dX9_hashOfSettings_140 rfl hl (by decide) rfl (fun ls hl => ?_)
  refine lv_lload_n hx hb dX9_hashOfSettings_141 rfl (lv_at hl 0 rfl) ?_
  refine lv_aload_n hx hb dX9_hashOfSettings_142 rfl (lv_at hl 1 rfl) ?_
  refine gf_X9_10 hx hb hown hA hP 0 rfl rfl dX9_hashOfSettings_143 ?_
  refine gf_X9_122 hx hb hown hA hP 1 rfl rfl dX9_hashOfSettings_146 ?_
  refine lv_i2l (v := lchi.toInt64) hx hb dX9_hashOfSettings_149 rfl ?_
  obtain ⟨r_21, q_22, hf⟩ := obd hf
  refine ro_s (n := 2) (As := [.long r_19, .long lchi.toInt64]) hx hb hml hown hA (kX9_mixed l G r_19 lchi.toInt64 r_21 q_22) g_X9_319 gd_X9_mixed ⟨(Nat.le_of_ble_eq_true rfl), (Nat.le_of_ble_eq_true rfl)⟩ hZ (fun _ _ h => by simp at h) rfl hl.1 (Nat.le_of_ble_eq_true rfl) ⟨(Nat.le_of_ble_eq_true rfl), (Nat.le_of_ble_eq_true rfl)⟩ dX9_hashOfSettings_150 ?_
  refine W.eq (g2 := F0 m 153 ls [.long r_21]) rfl ?_
  refine lv_lstore_n (lv' := [(3, .long r_21), (0, .ref a0), (1, .long i1)]) hx hb dX9_hashOfSettings_153 rfl hl (by decide) rfl (fun ls hl => ?_)
  refine lv_lload_n hx hb dX9_hashOfSettings_154 rfl (lv_at hl 0 rfl) ?_
  refine lv_aload_n hx hb dX9_hashOfSettings_155 rfl (lv_at hl 1 rfl) ?_
  refine gf_X9_10 hx hb hown hA hP 0 rfl rfl dX9_hashOfSettings_156 ?_
  refine gf_X9_125 hx hb hown hA hP 1 rfl rfl dX9_hashOfSettings_159 ?_
  refine lv_if_eq (tgt := 169) hx hb dX9_hashOfSettings_162 (by decide) (fun c_23 => ?_) (fun c_23 => ?_)
  · replace hf := ifp c_23 hf
    refine lv_lconst (v := 0) hx hb dX9_hashOfSettings_169 (by decide) ?_
    obtain ⟨r_24, q_25, hf⟩ := obd hf
    refine ro_s (n := 2) (As := [.long r_21, .long 0]) hx hb hml hown hA (kX9_mixed l G r_21 0 r_24 q_25) g_X9_319 gd_X9_mixed ⟨(Nat.le_of_ble_eq_true rfl), (Nat.le_of_ble_eq_true rfl)⟩ hZ (fun _ _ h => by simp at h) rfl hl.1 (Nat.le_of_ble_eq_true rfl) ⟨(Nat.le_of_ble_eq_true rfl), (Nat.le_of_ble_eq_true rfl)⟩ dX9_hashOfSettings_170 ?_
    refine W.eq (g2 := F0 m 173 ls [.long r_24]) rfl ?_
    cases hf
    exact ro_lret hx hb hr hlk dX9_hashOfSettings_173
  · replace hf := ifn c_23 hf
    refine lv_lconst (v := 1) hx hb dX9_hashOfSettings_165 (by decide) ?_
    refine lv_goto (tgt := 170) hx hb dX9_hashOfSettings_166 (by decide) ?_
    obtain ⟨r_26, q_27, hf⟩ := obd hf
    refine ro_s (n := 2) (As := [.long r_21, .long 1]) hx hb hml hown hA (kX9_mixed l G r_21 1 r_26 q_27) g_X9_319 gd_X9_mixed ⟨(Nat.le_of_ble_eq_true rfl), (Nat.le_of_ble_eq_true rfl)⟩ hZ (fun _ _ h => by simp at h) rfl hl.1 (Nat.le_of_ble_eq_true rfl) ⟨(Nat.le_of_ble_eq_true rfl), (Nat.le_of_ble_eq_true rfl)⟩ dX9_hashOfSettings_170 ?_
    refine W.eq (g2 := F0 m 173 ls [.long r_26]) rfl ?_
    cases hf
    exact ro_lret hx hb hr hlk dX9_hashOfSettings_173
def fX9_hashOfReadings_L5 (md : Nat → Int32) (mch : Int32) (fra : Int32) (fwe : Int32) (fof : Int32)  : Nat → Int64 → Int32 → (Nat → Int32) → Option (Int64 × (Nat → Int32))
  | 0, _, _, _ => none
  | n9 + 1, v3, v5, wa => (if 16 ≤ v5 then some (v3, wa) else ((fX4_reading md mch fra v5).bind fun r_2 => ((fX9_mixed v3 r_2.toInt64).bind fun r_4 => ((fX9_firstWaiting md mch fra wa v5).bind fun (r_6, wa_7) => ((fX9_mixed r_4 r_6.toInt64).bind fun r_9 => ((fX4_target md mch fra fwe fof v5).bind fun r_11 => ((fX9_mixed r_9 r_11.toInt64).bind fun r_13 => fX9_hashOfReadings_L5 md mch fra fwe fof n9 r_13 (v5 + 1) wa_7)))))))
def fX9_hashOfReadings (md : Nat → Int32) (mch : Int32) (fra : Int32) (fwe : Int32) (fof : Int32) (wa : Nat → Int32) (i1 : Int64) : Option (Int64 × (Nat → Int32)) :=
  ((fX9_hashOfReadings_L5 md mch fra fwe fof 2000 i1 0 wa).bind fun (x3_15, wa_16) => ((fX9_lostGrooves md mch fra).bind fun r_18 => ((fX9_mixed x3_15 r_18.toInt64).bind fun r_20 => some (r_20, wa_16))))
set_option maxHeartbeats 4000000 in
set_option maxRecDepth 100000 in
theorem kX9_hashOfReadings (l : Launch) (G : GG) (a0 aL0 aL1 aL2 aL3 aL4 aL5 aL6 aL7 aL8 aL9 aL10 aL11 aL12 aW0 aW1 aH0 aT0 aE0 : Nat) (md : Nat → Int32) (mch : Int32) (fra : Int32) (fwe : Int32) (fof : Int32) (fsi : Int32) (csh : Int32) (cde : Int32) (csp : Int32) (rd : Nat → Int32) (rw : Nat → Int32) (rp : Nat → Int32) (rco : Int32) (rmo : Int32) (apa : Int32) (awo : Int32) (ash : Int32) (aja : Int32) (abu : Int32) (ltol : Int32) (lchi : Int32) (ljam : Int32) (wa : Nat → Int32) (i1 : Int64) (r_0 : Int64) (wa_0 : Nat → Int32) (hf : fX9_hashOfReadings md mch fra fwe fof wa i1 = some (r_0, wa_0)) : Wr l G yX9_hashOfReadings cX9_hashOfReadings 6 (some .long) 4 92 0 0 [.ref a0, .long i1] [(a0, .inr (9, [.ref aL0, .ref aH0, .ref aT0, .ref aW0, .ref aE0])), (aL0, .inr (4, [.ref aL1, .ref aL3, .ref aL4, .ref aL5, .ref aL12, .int ltol, .int lchi, .int ljam])), (aL1, .inr (6, [.ref aL2, .int mch])), (aL2, .inl (G.2.1, 48, .inl md)), (aL3, .inr (2, [.int fra, .int fwe, .int fof, .int fsi])), (aL4, .inr (1, [.int csh, .int cde, .int csp])), (aL5, .inr (7, [.ref aL6, .ref aL8, .ref aL10, .int rco, .int rmo])), (aL6, .inr (8, [.ref aL7])), (aL7, .inl (G.2.1, 80, .inl rd)), (aL8, .inr (8, [.ref aL9])), (aL9, .inl (G.2.1, 5, .inl rw)), (aL10, .inr (8, [.ref aL11])), (aL11, .inl (G.2.1, 5, .inl rp)), (aL12, .inr (0, [.int apa, .int awo, .int ash, .int aja, .int abu])), (aW0, .inr (8, [.ref aW1])), (aW1, .inl (G.2.1, 16, .inl wa))] (X := Unit) (fun _ => [(a0, .inr (9, [.ref aL0, .ref aH0, .ref aT0, .ref aW0, .ref aE0])), (aL0, .inr (4, [.ref aL1, .ref aL3, .ref aL4, .ref aL5, .ref aL12, .int ltol, .int lchi, .int ljam])), (aL1, .inr (6, [.ref aL2, .int mch])), (aL2, .inl (G.2.1, 48, .inl md)), (aL3, .inr (2, [.int fra, .int fwe, .int fof, .int fsi])), (aL4, .inr (1, [.int csh, .int cde, .int csp])), (aL5, .inr (7, [.ref aL6, .ref aL8, .ref aL10, .int rco, .int rmo])), (aL6, .inr (8, [.ref aL7])), (aL7, .inl (G.2.1, 80, .inl rd)), (aL8, .inr (8, [.ref aL9])), (aL9, .inl (G.2.1, 5, .inl rw)), (aL10, .inr (8, [.ref aL11])), (aL11, .inl (G.2.1, 5, .inl rp)), (aL12, .inr (0, [.int apa, .int awo, .int ash, .int aja, .int abu])), (aW0, .inr (8, [.ref aW1])), (aW1, .inl (G.2.1, 16, .inl wa_0))]) (some (.long r_0)) := by
  refine wr_of (by decide) (Nat.le_of_ble_eq_true rfl) ?_
  intro p e s m args below meth c ls A hx hb hr hml hown hlk hA hZ hP hD hS hA0 hin hl
  have hP : va_P G.1 vwCl [(a0, .inr (9, [.ref aL0, .ref aH0, .ref aT0, .ref aW0, .ref aE0])), (aL0, .inr (4, [.ref aL1, .ref aL3, .ref aL4, .ref aL5, .ref aL12, .int ltol, .int lchi, .int ljam])), (aL1, .inr (6, [.ref aL2, .int mch])), (aL2, .inl (G.2.1, 48, .inl md)), (aL3, .inr (2, [.int fra, .int fwe, .int fof, .int fsi])), (aL4, .inr (1, [.int csh, .int cde, .int csp])), (aL5, .inr (7, [.ref aL6, .ref aL8, .ref aL10, .int rco, .int rmo])), (aL6, .inr (8, [.ref aL7])), (aL7, .inl (G.2.1, 80, .inl rd)), (aL8, .inr (8, [.ref aL9])), (aL9, .inl (G.2.1, 5, .inl rw)), (aL10, .inr (8, [.ref aL11])), (aL11, .inl (G.2.1, 5, .inl rp)), (aL12, .inr (0, [.int apa, .int awo, .int ash, .int aja, .int abu])), (aW0, .inr (8, [.ref aW1])), (aW1, .inl (G.2.1, 16, .inl wa))] s.heap := hP
  replace hown : s.vm.findClass RX9 = some m.cls := hown
  replace hl : lv_has ls 6 [(0, .ref a0), (1, .long i1)] := hl
  unfold fX9_hashOfReadings at hf
  refine lv_lload_n hx hb dX9_hashOfReadings_0 rfl (lv_at hl 1 rfl) ?_
  refine lv_lstore_n (lv' := [(3, .long i1), (0, .ref a0), (1, .long i1)]) hx hb dX9_hashOfReadings_1 rfl hl (by decide) rfl (fun ls hl => ?_)
  refine lv_iconst (v := 0) hx hb dX9_hashOfReadings_2 (by decide) ?_
  refine lv_istore (lv' := [(5, .int 0), (3, .long i1), (0, .ref a0), (1, .long i1)]) hx hb dX9_hashOfReadings_3 hl (by decide) rfl (fun ls hl => ?_)
  have lp5 : ∀   (n : Nat) (v3 : Int64) (v5 : Int32) (wa : Nat → Int32) (x3_15 : Int64) (wa_16 : Nat → Int32) (Q : State → Prop), fX9_hashOfReadings_L5 md mch fra fwe fof n v3 v5 wa = some (x3_15, wa_16) → ∀ (H : Heap) (locs : List Loc), va_P G.1 vwCl [(a0, .inr (9, [.ref aL0, .ref aH0, .ref aT0, .ref aW0, .ref aE0])), (aL0, .inr (4, [.ref aL1, .ref aL3, .ref aL4, .ref aL5, .ref aL12, .int ltol, .int lchi, .int ljam])), (aL1, .inr (6, [.ref aL2, .int mch])), (aL2, .inl (G.2.1, 48, .inl md)), (aL3, .inr (2, [.int fra, .int fwe, .int fof, .int fsi])), (aL4, .inr (1, [.int csh, .int cde, .int csp])), (aL5, .inr (7, [.ref aL6, .ref aL8, .ref aL10, .int rco, .int rmo])), (aL6, .inr (8, [.ref aL7])), (aL7, .inl (G.2.1, 80, .inl rd)), (aL8, .inr (8, [.ref aL9])), (aL9, .inl (G.2.1, 5, .inl rw)), (aL10, .inr (8, [.ref aL11])), (aL11, .inl (G.2.1, 5, .inl rp)), (aL12, .inr (0, [.int apa, .int awo, .int ash, .int aja, .int abu])), (aW0, .inr (8, [.ref aW1])), (aW1, .inl (G.2.1, 16, .inl wa))] H → va_D A [(a0, .inr (9, [.ref aL0, .ref aH0, .ref aT0, .ref aW0, .ref aE0])), (aL0, .inr (4, [.ref aL1, .ref aL3, .ref aL4, .ref aL5, .ref aL12, .int ltol, .int lchi, .int ljam])), (aL1, .inr (6, [.ref aL2, .int mch])), (aL2, .inl (G.2.1, 48, .inl md)), (aL3, .inr (2, [.int fra, .int fwe, .int fof, .int fsi])), (aL4, .inr (1, [.int csh, .int cde, .int csp])), (aL5, .inr (7, [.ref aL6, .ref aL8, .ref aL10, .int rco, .int rmo])), (aL6, .inr (8, [.ref aL7])), (aL7, .inl (G.2.1, 80, .inl rd)), (aL8, .inr (8, [.ref aL9])), (aL9, .inl (G.2.1, 5, .inl rw)), (aL10, .inr (8, [.ref aL11])), (aL11, .inl (G.2.1, 5, .inl rp)), (aL12, .inr (0, [.int apa, .int awo, .int ash, .int aja, .int abu])), (aW0, .inr (8, [.ref aW1])), (aW1, .inl (G.2.1, 16, .inl wa))] → va_S A s.heap H locs → ∀ (ls : Array Slot), lv_has ls 6 [(0, .ref a0), (3, .long v3), (5, .int v5)] → (∀ (H : Heap) (locs : List Loc) (ls : Array Slot), va_P G.1 vwCl [(a0, .inr (9, [.ref aL0, .ref aH0, .ref aT0, .ref aW0, .ref aE0])), (aL0, .inr (4, [.ref aL1, .ref aL3, .ref aL4, .ref aL5, .ref aL12, .int ltol, .int lchi, .int ljam])), (aL1, .inr (6, [.ref aL2, .int mch])), (aL2, .inl (G.2.1, 48, .inl md)), (aL3, .inr (2, [.int fra, .int fwe, .int fof, .int fsi])), (aL4, .inr (1, [.int csh, .int cde, .int csp])), (aL5, .inr (7, [.ref aL6, .ref aL8, .ref aL10, .int rco, .int rmo])), (aL6, .inr (8, [.ref aL7])), (aL7, .inl (G.2.1, 80, .inl rd)), (aL8, .inr (8, [.ref aL9])), (aL9, .inl (G.2.1, 5, .inl rw)), (aL10, .inr (8, [.ref aL11])), (aL11, .inl (G.2.1, 5, .inl rp)), (aL12, .inr (0, [.int apa, .int awo, .int ash, .int aja, .int abu])), (aW0, .inr (8, [.ref aW1])), (aW1, .inl (G.2.1, 16, .inl wa_16))] H → va_D A [(a0, .inr (9, [.ref aL0, .ref aH0, .ref aT0, .ref aW0, .ref aE0])), (aL0, .inr (4, [.ref aL1, .ref aL3, .ref aL4, .ref aL5, .ref aL12, .int ltol, .int lchi, .int ljam])), (aL1, .inr (6, [.ref aL2, .int mch])), (aL2, .inl (G.2.1, 48, .inl md)), (aL3, .inr (2, [.int fra, .int fwe, .int fof, .int fsi])), (aL4, .inr (1, [.int csh, .int cde, .int csp])), (aL5, .inr (7, [.ref aL6, .ref aL8, .ref aL10, .int rco, .int rmo])), (aL6, .inr (8, [.ref aL7])), (aL7, .inl (G.2.1, 80, .inl rd)), (aL8, .inr (8, [.ref aL9])), (aL9, .inl (G.2.1, 5, .inl rw)), (aL10, .inr (8, [.ref aL11])), (aL11, .inl (G.2.1, 5, .inl rp)), (aL12, .inr (0, [.int apa, .int awo, .int ash, .int aja, .int abu])), (aW0, .inr (8, [.ref aW1])), (aW1, .inl (G.2.1, 16, .inl wa_16))] → va_S A s.heap H locs → lv_has ls 6 [(0, .ref a0), (3, .long x3_15)] → W p l e { frames := 4, cells := 0, slots := 0, locals := 92 } s m args below meth c H locs 0 0 Q (F0 m 60 ls [])) → W p l e { frames := 4, cells := 0, slots := 0, locals := 92 } s m args below meth c H locs 0 0 Q (F0 m 5 ls []) := by
    intro  n
    induction n with
    | zero => intro v3 v5 wa x3_15 wa_16 Q hf; rw [fX9_hashOfReadings_L5] at hf; cases hf
    | succ n ih =>
      intro v3 v5 wa x3_15 wa_16 Q hf H locs hP hD hS ls hl kk
      rw [fX9_hashOfReadings_L5] at hf
      refine lv_iload hx hb dX9_hashOfReadings_5 (lv_at hl 2 rfl) ?_
      refine lv_bipush (v := 16) hx hb dX9_hashOfReadings_7 (by decide) ?_
      refine lv_icmp_ge (tgt := 60) hx hb dX9_hashOfReadings_9 (by decide) (fun c_1 => ?_) (fun c_1 => ?_)
      · replace hf := ifp c_1 hf
        cases hf
        exact kk _ _ ls hP hD hS (lv_sub hl [0, 1] rfl)
      · replace hf := ifn c_1 hf
        refine lv_lload_n hx hb dX9_hashOfReadings_12 rfl (lv_at hl 1 rfl) ?_
        refine lv_aload_n hx hb dX9_hashOfReadings_13 rfl (lv_at hl 0 rfl) ?_
        refine gf_X9_10 hx hb hown hA hP 0 rfl rfl dX9_hashOfReadings_14 ?_
        refine lv_iload hx hb dX9_hashOfReadings_17 (lv_at hl 2 rfl) ?_
        obtain ⟨r_2, q_3, hf⟩ := obd hf
        refine ro_v (n := 1) (As := [.int v5]) (q0 := 0) hx hb hml hown hA (kX4_reading l G aL0 aL1 aL2 aL3 aL4 aL5 aL6 aL7 aL8 aL9 aL10 aL11 aL12 md mch fra fwe fof fsi csh cde csp rd rw rp rco rmo apa awo ash aja abu ltol lchi ljam v5 r_2 q_3) g_X9_253 gd_X4_reading ⟨(Nat.le_of_ble_eq_true rfl), (Nat.le_of_ble_eq_true rfl)⟩ (hZ.at hS) (hP.sub [1, 2, 3, 4, 5, 6, 7, 8, 9, 10, 11, 12, 13] rfl) rfl rfl rfl hl.1 (Nat.le_of_ble_eq_true rfl) ⟨(Nat.le_of_ble_eq_true rfl), (Nat.le_of_ble_eq_true rfl)⟩ dX9_hashOfReadings_19 ?_
        refine W.eq (g2 := F0 m 22 ls [.int r_2, .long v3]) rfl ?_
        refine lv_i2l (v := r_2.toInt64) hx hb dX9_hashOfReadings_22 rfl ?_
        obtain ⟨r_4, q_5, hf⟩ := obd hf
        refine ro_s (n := 2) (As := [.long v3, .long r_2.toInt64]) hx hb hml hown hA (kX9_mixed l G v3 r_2.toInt64 r_4 q_5) g_X9_319 gd_X9_mixed ⟨(Nat.le_of_ble_eq_true rfl), (Nat.le_of_ble_eq_true rfl)⟩ (hZ.at hS) (fun _ _ h => by simp at h) rfl hl.1 (Nat.le_of_ble_eq_true rfl) ⟨(Nat.le_of_ble_eq_true rfl), (Nat.le_of_ble_eq_true rfl)⟩ dX9_hashOfReadings_23 ?_
        refine W.eq (g2 := F0 m 26 ls [.long r_4]) rfl ?_
        refine lv_lstore_n (lv' := [(3, .long r_4), (0, .ref a0), (5, .int v5)]) hx hb dX9_hashOfReadings_26 rfl hl (by decide) rfl (fun ls hl => ?_)
        refine lv_lload_n hx hb dX9_hashOfReadings_27 rfl (lv_at hl 0 rfl) ?_
        refine lv_aload_n hx hb dX9_hashOfReadings_28 rfl (lv_at hl 1 rfl) ?_
        refine lv_iload hx hb dX9_hashOfReadings_29 (lv_at hl 2 rfl) ?_
        obtain ⟨⟨r_6, wa_7⟩, q_8, hf⟩ := obd hf
        dsimp only at hf
        refine wr_v (n := 1) (As := [.int v5]) (q0 := 0) (wr := []) (w2 := fun _ => [(a0, .inr (9, [.ref aL0, .ref aH0, .ref aT0, .ref aW0, .ref aE0])), (aL0, .inr (4, [.ref aL1, .ref aL3, .ref aL4, .ref aL5, .ref aL12, .int ltol, .int lchi, .int ljam])), (aL1, .inr (6, [.ref aL2, .int mch])), (aL2, .inl (G.2.1, 48, .inl md)), (aL3, .inr (2, [.int fra, .int fwe, .int fof, .int fsi])), (aL4, .inr (1, [.int csh, .int cde, .int csp])), (aL5, .inr (7, [.ref aL6, .ref aL8, .ref aL10, .int rco, .int rmo])), (aL6, .inr (8, [.ref aL7])), (aL7, .inl (G.2.1, 80, .inl rd)), (aL8, .inr (8, [.ref aL9])), (aL9, .inl (G.2.1, 5, .inl rw)), (aL10, .inr (8, [.ref aL11])), (aL11, .inl (G.2.1, 5, .inl rp)), (aL12, .inr (0, [.int apa, .int awo, .int ash, .int aja, .int abu])), (aW0, .inr (8, [.ref aW1])), (aW1, .inl (G.2.1, 16, .inl wa_7))]) hx hb hml hown hA (kX9_firstWaiting l G a0 aL0 aL1 aL2 aL3 aL4 aL5 aL6 aL7 aL8 aL9 aL10 aL11 aL12 aW0 aW1 aH0 aT0 aE0 md mch fra fwe fof fsi csh cde csp rd rw rp rco rmo apa awo ash aja abu ltol lchi ljam wa v5 r_6 wa_7 q_8) g_X9_256 gd_X9_firstWaiting ⟨(Nat.le_of_ble_eq_true rfl), (Nat.le_of_ble_eq_true rfl)⟩ hZ hP hD hS hA0 rfl rfl [0, 1, 2, 3, 4, 5, 6, 7, 8, 9, 10, 11, 12, 13, 14, 15] [] [0, 1, 2, 3, 4, 5, 6, 7, 8, 9, 10, 11, 12, 13, 14, 15] rfl rfl rfl rfl (by decide) (fun _ => rfl) rfl rfl hl.1 (Nat.le_of_ble_eq_true rfl) ⟨(Nat.le_of_ble_eq_true rfl), (Nat.le_of_ble_eq_true rfl)⟩ dX9_hashOfReadings_31 (fun _ H locs hP hD hS => ?_)
        refine W.eq (g2 := F0 m 34 ls [.int r_6, .long r_4]) rfl ?_
        refine lv_i2l (v := r_6.toInt64) hx hb dX9_hashOfReadings_34 rfl ?_
        obtain ⟨r_9, q_10, hf⟩ := obd hf
        refine ro_s (n := 2) (As := [.long r_4, .long r_6.toInt64]) hx hb hml hown hA (kX9_mixed l G r_4 r_6.toInt64 r_9 q_10) g_X9_319 gd_X9_mixed ⟨(Nat.le_of_ble_eq_true rfl), (Nat.le_of_ble_eq_true rfl)⟩ (hZ.at hS) (fun _ _ h => by simp at h) rfl hl.1 (Nat.le_of_ble_eq_true rfl) ⟨(Nat.le_of_ble_eq_true rfl), (Nat.le_of_ble_eq_true rfl)⟩ dX9_hashOfReadings_35 ?_
        refine W.eq (g2 := F0 m 38 ls [.long r_9]) rfl ?_
        refine lv_lstore_n (lv' := [(3, .long r_9), (0, .ref a0), (5, .int v5)]) hx hb dX9_hashOfReadings_38 rfl hl (by decide) rfl (fun ls hl => ?_)
        refine lv_lload_n hx hb dX9_hashOfReadings_39 rfl (lv_at hl 0 rfl) ?_
        refine lv_aload_n hx hb dX9_hashOfReadings_40 rfl (lv_at hl 1 rfl) ?_
        refine gf_X9_10 hx hb hown hA hP 0 rfl rfl dX9_hashOfReadings_41 ?_
        refine lv_iload hx hb dX9_hashOfReadings_44 (lv_at hl 2 rfl) ?_
        obtain ⟨r_11, q_12, hf⟩ := obd hf
        refine ro_v (n := 1) (As := [.int v5]) (q0 := 0) hx hb hml hown hA (kX4_target l G aL0 aL1 aL2 aL3 aL4 aL5 aL6 aL7 aL8 aL9 aL10 aL11 aL12 md mch fra fwe fof fsi csh cde csp rd rw rp rco rmo apa awo ash aja abu ltol lchi ljam v5 r_11 q_12) g_X9_259 gd_X4_target ⟨(Nat.le_of_ble_eq_true rfl), (Nat.le_of_ble_eq_true rfl)⟩ (hZ.at hS) (hP.sub [1, 2, 3, 4, 5, 6, 7, 8, 9, 10, 11, 12, 13] rfl) rfl rfl rfl hl.1 (Nat.le_of_ble_eq_true rfl) ⟨(Nat.le_of_ble_eq_true rfl), (Nat.le_of_ble_eq_true rfl)⟩ dX9_hashOfReadings_46 ?_
        refine W.eq (g2 := F0 m 49 ls [.int r_11, .long r_9]) rfl ?_
        refine lv_i2l (v := r_11.toInt64) hx hb dX9_hashOfReadings_49 rfl ?_
        obtain ⟨r_13, q_14, hf⟩ := obd hf
        refine ro_s (n := 2) (As := [.long r_9, .long r_11.toInt64]) hx hb hml hown hA (kX9_mixed l G r_9 r_11.toInt64 r_13 q_14) g_X9_319 gd_X9_mixed ⟨(Nat.le_of_ble_eq_true rfl), (Nat.le_of_ble_eq_true rfl)⟩ (hZ.at hS) (fun _ _ h => by simp at h) rfl hl.1 (Nat.le_of_ble_eq_true rfl) ⟨(Nat.le_of_ble_eq_true rfl), (Nat.le_of_ble_eq_true rfl)⟩ dX9_hashOfReadings_50 ?_
        refine W.eq (g2 := F0 m 53 ls [.long r_13]) rfl ?_
        refine lv_lstore_n (lv' := [(3, .long r_13), (0, .ref a0), (5, .int v5)]) hx hb dX9_hashOfReadings_53 rfl hl (by decide) rfl (fun ls hl => ?_)
        refine lv_iinc (v := v5 + 1) (lv' := [(5, .int (v5 + 1)), (3, .long r_13), (0, .ref a0)]) hx hb dX9_hashOfReadings_54 hl (k := 2) rfl rfl (by decide) rfl (fun ls hl => ?_)
        refine lv_goto (tgt := 5) hx hb dX9_hashOfReadings_57 (by decide) ?_
        exact ih _ _ _ _ _ _ hf _ _ hP hD hS ls (lv_sub hl [2, 1, 0] rfl) kk
  obtain ⟨⟨x3_15, wa_16⟩, q_17, hf⟩ := obd hf
  dsimp only at hf
  refine lp5 _ _ _ _ _ _ _ q_17 _ _ hP hD hS ls (lv_sub hl [2, 1, 0] rfl) (fun H locs ls hP hD hS hl => ?_)
  refine lv_lload_n hx hb dX9_hashOfReadings_60 rfl (lv_at hl 1 rfl) ?_
  refine lv_aload_n hx hb dX9_hashOfReadings_61 rfl (lv_at hl 0 rfl) ?_
  obtain ⟨r_18, q_19, hf⟩ := obd hf
  refine ro_v (n := 0) (As := []) (q0 := 0) hx hb hml hown hA (kX9_lostGrooves l G a0 aL0 aL1 aL2 aL3 aL4 aL5 aL6 aL7 aL8 aL9 aL10 aL11 aL12 aH0 aT0 aW0 aE0 md mch fra fwe fof fsi csh cde csp rd rw rp rco rmo apa awo ash aja abu ltol lchi ljam r_18 q_19) g_X9_338 gd_X9_lostGrooves ⟨(Nat.le_of_ble_eq_true rfl), (Nat.le_of_ble_eq_true rfl)⟩ (hZ.at hS) (hP.sub [0, 1, 2, 3, 4, 5, 6, 7, 8, 9, 10, 11, 12, 13] rfl) rfl rfl rfl hl.1 (Nat.le_of_ble_eq_true rfl) ⟨(Nat.le_of_ble_eq_true rfl), (Nat.le_of_ble_eq_true rfl)⟩ dX9_hashOfReadings_62 ?_
  refine W.eq (g2 := F0 m 65 ls [.int r_18, .long x3_15]) rfl ?_
  refine lv_i2l (v := r_18.toInt64) hx hb dX9_hashOfReadings_65 rfl ?_
  obtain ⟨r_20, q_21, hf⟩ := obd hf
  refine ro_s (n := 2) (As := [.long x3_15, .long r_18.toInt64]) hx hb hml hown hA (kX9_mixed l G x3_15 r_18.toInt64 r_20 q_21) g_X9_319 gd_X9_mixed ⟨(Nat.le_of_ble_eq_true rfl), (Nat.le_of_ble_eq_true rfl)⟩ (hZ.at hS) (fun _ _ h => by simp at h) rfl hl.1 (Nat.le_of_ble_eq_true rfl) ⟨(Nat.le_of_ble_eq_true rfl), (Nat.le_of_ble_eq_true rfl)⟩ dX9_hashOfReadings_66 ?_
  refine W.eq (g2 := F0 m 69 ls [.long r_20]) rfl ?_
  cases hf
  exact wr_lret () hx hb hr hlk hP hD hS dX9_hashOfReadings_69
def fX9_bitsOfMean_L8  (v0 : Int32) : Nat → Int32 → Option (Int32)
  | 0, _ => none
  | n9 + 1, v1 => (if 30 ≤ v1 then some v1 else (if (v0 >>> ((v1 + 1) &&& 31)) ≤ 0 then some v1 else fX9_bitsOfMean_L8 v0 n9 (v1 + 1)))
def fX9_bitsOfMean  (i1 : Int32) : Option (Int64) :=
  (if 0 < i1 then ((fX9_bitsOfMean_L8 i1 2000 0).bind fun x1_4 => some (((((1023 + x1_4) - 4 : Int32).toInt64) <<< ((52 : Int32).toInt64 &&& 63)) + ((i1.toInt64 - (1 <<< (x1_4.toInt64 &&& 63))) <<< ((52 - x1_4 : Int32).toInt64 &&& 63)))) else some 0)
set_option maxHeartbeats 4000000 in
set_option maxRecDepth 100000 in
theorem kX9_bitsOfMean (l : Launch) (G : GG)  (i1 : Int32) (r_0 : Int64) (hf : fX9_bitsOfMean i1 = some r_0) : Ro l G yX9_bitsOfMean cX9_bitsOfMean 6 (some .long) 0 0 [.int i1] [] (some (.long r_0)) := by
  refine ro_of (by decide) (Nat.le_of_ble_eq_true rfl) ?_
  intro p e s m args below meth c ls hx hb hr hml hown hlk hA hZ hP hl
  replace hown : s.vm.findClass RX9 = some m.cls := hown
  replace hl : lv_has ls 6 [(0, .int i1)] := hl
  unfold fX9_bitsOfMean at hf
  refine lv_iload_n hx hb dX9_bitsOfMean_0 rfl (lv_at hl 0 rfl) ?_
  refine lv_if_gt (tgt := 6) hx hb dX9_bitsOfMean_1 (by decide) (fun c_1 => ?_) (fun c_1 => ?_)
  · replace hf := ifp c_1 hf
    refine lv_iconst (v := 0) hx hb dX9_bitsOfMean_6 (by decide) ?_
    refine lv_istore_n (lv' := [(1, .int 0), (0, .int i1)]) hx hb dX9_bitsOfMean_7 rfl hl (by decide) rfl (fun ls hl => ?_)
    have lp8 : ∀ (v0 : Int32)  (n : Nat) (v1 : Int32)  (x1_4 : Int32) (Q : State → Prop), fX9_bitsOfMean_L8 v0 n v1 = some x1_4 → ∀ (ls : Array Slot), lv_has ls 6 [(0, .int v0), (1, .int v1)] → (∀ (ls : Array Slot), lv_has ls 6 [(0, .int v0), (1, .int x1_4)] → W p l e { frames := 0, cells := 0, slots := 0, locals := 0 } s m args below meth c s.heap [] 0 0 Q (F0 m 28 ls [])) → W p l e { frames := 0, cells := 0, slots := 0, locals := 0 } s m args below meth c s.heap [] 0 0 Q (F0 m 8 ls []) := by
      intro v0 n
      induction n with
      | zero => intro v1 x1_4 Q hf; rw [fX9_bitsOfMean_L8] at hf; cases hf
      | succ n ih =>
        intro v1 x1_4 Q hf ls hl kk
        rw [fX9_bitsOfMean_L8] at hf
        refine lv_iload_n hx hb dX9_bitsOfMean_8 rfl (lv_at hl 1 rfl) ?_
        refine lv_bipush (v := 30) hx hb dX9_bitsOfMean_9 (by decide) ?_
        refine lv_icmp_ge (tgt := 28) hx hb dX9_bitsOfMean_11 (by decide) (fun c_2 => ?_) (fun c_2 => ?_)
        · replace hf := ifp c_2 hf
          cases hf
          exact kk ls (lv_sub hl [0, 1] rfl)
        · replace hf := ifn c_2 hf
          refine lv_iload_n hx hb dX9_bitsOfMean_14 rfl (lv_at hl 0 rfl) ?_
          refine lv_iload_n hx hb dX9_bitsOfMean_15 rfl (lv_at hl 1 rfl) ?_
          refine lv_iconst (v := 1) hx hb dX9_bitsOfMean_16 (by decide) ?_
          refine lv_iadd hx hb dX9_bitsOfMean_17 ?_
          refine lv_ishr hx hb dX9_bitsOfMean_18 ?_
          refine lv_if_le (tgt := 28) hx hb dX9_bitsOfMean_19 (by decide) (fun c_3 => ?_) (fun c_3 => ?_)
          · replace hf := ifp c_3 hf
            cases hf
            exact kk ls (lv_sub hl [0, 1] rfl)
          · replace hf := ifn c_3 hf
            refine lv_iinc (v := v1 + 1) (lv' := [(1, .int (v1 + 1)), (0, .int v0)]) hx hb dX9_bitsOfMean_22 hl (k := 1) rfl rfl (by decide) rfl (fun ls hl => ?_)
            refine lv_goto (tgt := 8) hx hb dX9_bitsOfMean_25 (by decide) ?_
            exact ih _ _ _ hf ls (lv_sub hl [1, 0] rfl) kk
    obtain ⟨x1_4, q_5, hf⟩ := obd hf
    refine lp8 _ _ _ _ _ q_5 ls (lv_sub hl [1, 0] rfl) (fun ls hl => ?_)
    refine lv_sipush (v := 1023) hx hb dX9_bitsOfMean_28 (by decide) ?_
    refine lv_iload_n hx hb dX9_bitsOfMean_31 rfl (lv_at hl 1 rfl) ?_
    refine lv_iadd hx hb dX9_bitsOfMean_32 ?_
    refine lv_iconst (v := 4) hx hb dX9_bitsOfMean_33 (by decide) ?_
    refine lv_isub hx hb dX9_bitsOfMean_34 ?_
    refine lv_i2l (v := ((1023 + x1_4) - 4 : Int32).toInt64) hx hb dX9_bitsOfMean_35 rfl ?_
    refine lv_lstore_n (lv' := [(2, .long (((1023 + x1_4) - 4 : Int32).toInt64)), (0, .int i1), (1, .int x1_4)]) hx hb dX9_bitsOfMean_36 rfl hl (by decide) rfl (fun ls hl => ?_)
    refine lv_iload_n hx hb dX9_bitsOfMean_37 rfl (lv_at hl 1 rfl) ?_
    refine lv_i2l (v := i1.toInt64) hx hb dX9_bitsOfMean_38 rfl ?_
    refine lv_lconst (v := 1) hx hb dX9_bitsOfMean_39 (by decide) ?_
    refine lv_iload_n hx hb dX9_bitsOfMean_40 rfl (lv_at hl 2 rfl) ?_
    refine lv_lshl (v := 1 <<< (x1_4.toInt64 &&& 63)) hx hb dX9_bitsOfMean_41 rfl ?_
    refine lv_lsub hx hb dX9_bitsOfMean_42 ?_
    refine lv_bipush (v := 52) hx hb dX9_bitsOfMean_43 (by decide) ?_
    refine lv_iload_n hx hb dX9_bitsOfMean_45 rfl (lv_at hl 2 rfl) ?_
    refine lv_isub hx hb dX9_bitsOfMean_46 ?_
    refine lv_lshl (v := (i1.toInt64 - (1 <<< (x1_4.toInt64 &&& 63))) <<< ((52 - x1_4 : Int32).toInt64 &&& 63)) hx hb dX9_bitsOfMean_47 rfl ?_
    refine lv_lstore (lv' := [(4, .long ((i1.toInt64 - (1 <<< (x1_4.toInt64 &&& 63))) <<< ((52 - x1_4 : Int32).toInt64 &&& 63))), (2, .long (((1023 + x1_4) - 4 : Int32).toInt64)), (0, .int i1), (1, .int x1_4)]) hx hb dX9_bitsOfMean_48 hl (by decide) rfl (fun ls hl => ?_)
    refine lv_lload_n hx hb dX9_bitsOfMean_50 rfl (lv_at hl 1 rfl) ?_
    refine lv_bipush (v := 52) hx hb dX9_bitsOfMean_51 (by decide) ?_
    refine lv_lshl (v := (((1023 + x1_4) - 4 : Int32).toInt64) <<< ((52 : Int32).toInt64 &&& 63)) hx hb dX9_bitsOfMean_53 rfl ?_
    refine lv_lload hx hb dX9_bitsOfMean_54 (lv_at hl 0 rfl) ?_
    refine lv_ladd hx hb dX9_bitsOfMean_56 ?_
    cases hf
    exact ro_lret hx hb hr hlk dX9_bitsOfMean_57
  · replace hf := ifn c_1 hf
    refine lv_lconst (v := 0) hx hb dX9_bitsOfMean_4 (by decide) ?_
    cases hf
    exact ro_lret hx hb hr hlk dX9_bitsOfMean_5
def fX9_hashOfPiece_L24 (rd : Nat → Int32) (v3 : Int32) : Nat → Int64 → Int32 → Option (Int64)
  | 0, _, _ => none
  | n9 + 1, v4, v6 => (if 16 ≤ v6 then some v4 else ((fX7_at rd v3 v6).bind fun r_6 => ((fX9_mixed v4 r_6.toInt64).bind fun r_8 => fX9_hashOfPiece_L24 rd v3 n9 r_8 (v6 + 1))))
def fX9_hashOfPiece (md : Nat → Int32) (mch : Int32) (fra : Int32) (fwe : Int32) (fof : Int32) (rd : Nat → Int32) (rw : Nat → Int32) (rp : Nat → Int32) (rco : Int32) (ltol : Int32) (i1 : Int64) (i2 : Int32) : Option (Int64) :=
  ((fX8_at 5 rw i2).bind fun r_1 => ((fX9_mixed i1 r_1.toInt64).bind fun r_3 => ((fX9_hashOfPiece_L24 rd i2 2000 r_3 0).bind fun x4_10 => ((fX8_at 5 rp i2).bind fun r_12 => ((fX9_mixed x4_10 r_12.toInt64).bind fun r_14 => ((fX7_price rd rw i2).bind fun r_16 => ((fX9_mixed r_14 r_16.toInt64).bind fun r_18 => ((fX9_tooThick md mch rd rco i2).bind fun z => match z with | .inl _ => none | .inr r_20 => ((fX9_mixed r_18 r_20.toInt64).bind fun r_22 => ((fX9_tooThin md mch rd rco i2).bind fun z => match z with | .inl _ => none | .inr r_24 => ((fX9_mixed r_22 r_24.toInt64).bind fun r_26 => ((fX4_faults md mch rd ltol i2).bind fun r_28 => ((fX9_mixed r_26 r_28.toInt64).bind fun r_30 => ((fX9_mostLike md rd rco i2).bind fun z => match z with | .inl _ => none | .inr r_32 => ((fX9_mixed r_30 r_32.toInt64).bind fun r_34 => ((fX4_allAbove md mch fra fwe fof rd i2).bind fun r_36 => ((fX9_mixed r_34 r_36.toInt64).bind fun r_38 => ((fX7_sumOf rd i2).bind fun r_40 => ((fX9_bitsOfMean r_40).bind fun r_42 => ((fX9_mixed r_38 r_42).bind fun r_44 => some r_44))))))))))))))))))))
set_option maxHeartbeats 4000000 in
set_option maxRecDepth 100000 in
theorem kX9_hashOfPiece (l : Launch) (G : GG) (a0 aL0 aL1 aL2 aL3 aL4 aL5 aL6 aL7 aL8 aL9 aL10 aL11 aL12 aH0 aT0 aW0 aE0 : Nat) (md : Nat → Int32) (mch : Int32) (fra : Int32) (fwe : Int32) (fof : Int32) (fsi : Int32) (csh : Int32) (cde : Int32) (csp : Int32) (rd : Nat → Int32) (rw : Nat → Int32) (rp : Nat → Int32) (rco : Int32) (rmo : Int32) (apa : Int32) (awo : Int32) (ash : Int32) (aja : Int32) (abu : Int32) (ltol : Int32) (lchi : Int32) (ljam : Int32) (i1 : Int64) (i2 : Int32) (r_0 : Int64) (hf : fX9_hashOfPiece md mch fra fwe fof rd rw rp rco ltol i1 i2 = some r_0) : Ro l G yX9_hashOfPiece cX9_hashOfPiece 7 (some .long) 9 146 [.ref a0, .long i1, .int i2] [(a0, .inr (9, [.ref aL0, .ref aH0, .ref aT0, .ref aW0, .ref aE0])), (aL0, .inr (4, [.ref aL1, .ref aL3, .ref aL4, .ref aL5, .ref aL12, .int ltol, .int lchi, .int ljam])), (aL1, .inr (6, [.ref aL2, .int mch])), (aL2, .inl (G.2.1, 48, .inl md)), (aL3, .inr (2, [.int fra, .int fwe, .int fof, .int fsi])), (aL4, .inr (1, [.int csh, .int cde, .int csp])), (aL5, .inr (7, [.ref aL6, .ref aL8, .ref aL10, .int rco, .int rmo])), (aL6, .inr (8, [.ref aL7])), (aL7, .inl (G.2.1, 80, .inl rd)), (aL8, .inr (8, [.ref aL9])), (aL9, .inl (G.2.1, 5, .inl rw)), (aL10, .inr (8, [.ref aL11])), (aL11, .inl (G.2.1, 5, .inl rp)), (aL12, .inr (0, [.int apa, .int awo, .int ash, .int aja, .int abu]))] (some (.long r_0)) := by
  refine ro_of (by decide) (Nat.le_of_ble_eq_true rfl) ?_
  intro p e s m args below meth c ls hx hb hr hml hown hlk hA hZ hP hl
  replace hown : s.vm.findClass RX9 = some m.cls := hown
  replace hl : lv_has ls 7 [(0, .ref a0), (1, .long i1), (3, .int i2)] := hl
  unfold fX9_hashOfPiece at hf
  refine lv_lload_n hx hb dX9_hashOfPiece_0 rfl (lv_at hl 1 rfl) ?_
  refine lv_aload_n hx hb dX9_hashOfPiece_1 rfl (lv_at hl 0 rfl) ?_
  refine gf_X9_10 hx hb hown hA hP 0 rfl rfl dX9_hashOfPiece_2 ?_
  refine gf_X9_133 hx hb hown hA hP 1 rfl rfl dX9_hashOfPiece_5 ?_
  refine gf_X9_234 hx hb hown hA hP 6 rfl rfl dX9_hashOfPiece_8 ?_
  refine lv_iload_n hx hb dX9_hashOfPiece_11 rfl (lv_at hl 2 rfl) ?_
  obtain ⟨r_1, q_2, hf⟩ := obd hf
  refine ro_v (n := 1) (As := [.int i2]) (q0 := 0) hx hb hml hown hA (kX8_at l G aL8 aL9 5 rw i2 r_1 q_2 (by decide)) g_X9_204 gd_X8_at ⟨(Nat.le_of_ble_eq_true rfl), (Nat.le_of_ble_eq_true rfl)⟩ hZ (hP.sub [9, 10] rfl) rfl rfl rfl hl.1 (Nat.le_of_ble_eq_true rfl) ⟨(Nat.le_of_ble_eq_true rfl), (Nat.le_of_ble_eq_true rfl)⟩ dX9_hashOfPiece_12 ?_
  refine W.eq (g2 := F0 m 15 ls [.int r_1, .long i1]) rfl ?_
  refine lv_i2l (v := r_1.toInt64) hx hb dX9_hashOfPiece_15 rfl ?_
  obtain ⟨r_3, q_4, hf⟩ := obd hf
  refine ro_s (n := 2) (As := [.long i1, .long r_1.toInt64]) hx hb hml hown hA (kX9_mixed l G i1 r_1.toInt64 r_3 q_4) g_X9_319 gd_X9_mixed ⟨(Nat.le_of_ble_eq_true rfl), (Nat.le_of_ble_eq_true rfl)⟩ hZ (fun _ _ h => by simp at h) rfl hl.1 (Nat.le_of_ble_eq_true rfl) ⟨(Nat.le_of_ble_eq_true rfl), (Nat.le_of_ble_eq_true rfl)⟩ dX9_hashOfPiece_16 ?_
  refine W.eq (g2 := F0 m 19 ls [.long r_3]) rfl ?_
  refine lv_lstore (lv' := [(4, .long r_3), (0, .ref a0), (1, .long i1), (3, .int i2)]) hx hb dX9_hashOfPiece_19 hl (by decide) rfl (fun ls hl => ?_)
  refine lv_iconst (v := 0) hx hb dX9_hashOfPiece_21 (by decide) ?_
  refine lv_istore (lv' := [(6, .int 0), (4, .long r_3), (0, .ref a0), (1, .long i1), (3, .int i2)]) hx hb dX9_hashOfPiece_22 hl (by decide) rfl (fun ls hl => ?_)
  have lp24 : ∀ (v3 : Int32)  (n : Nat) (v4 : Int64) (v6 : Int32)  (x4_10 : Int64) (Q : State → Prop), fX9_hashOfPiece_L24 rd v3 n v4 v6 = some x4_10 → ∀ (ls : Array Slot), lv_has ls 7 [(0, .ref a0), (3, .int v3), (4, .long v4), (6, .int v6)] → (∀ (ls : Array Slot), lv_has ls 7 [(0, .ref a0), (3, .int v3), (4, .long x4_10)] → W p l e { frames := 9, cells := 0, slots := 0, locals := 146 } s m args below meth c s.heap [] 0 0 Q (F0 m 58 ls [])) → W p l e { frames := 9, cells := 0, slots := 0, locals := 146 } s m args below meth c s.heap [] 0 0 Q (F0 m 24 ls []) := by
    intro v3 n
    induction n with
    | zero => intro v4 v6 x4_10 Q hf; rw [fX9_hashOfPiece_L24] at hf; cases hf
    | succ n ih =>
      intro v4 v6 x4_10 Q hf ls hl kk
      rw [fX9_hashOfPiece_L24] at hf
      refine lv_iload hx hb dX9_hashOfPiece_24 (lv_at hl 3 rfl) ?_
      refine lv_bipush (v := 16) hx hb dX9_hashOfPiece_26 (by decide) ?_
      refine lv_icmp_ge (tgt := 58) hx hb dX9_hashOfPiece_28 (by decide) (fun c_5 => ?_) (fun c_5 => ?_)
      · replace hf := ifp c_5 hf
        cases hf
        exact kk ls (lv_sub hl [0, 1, 2] rfl)
      · replace hf := ifn c_5 hf
        refine lv_lload hx hb dX9_hashOfPiece_31 (lv_at hl 2 rfl) ?_
        refine lv_aload_n hx hb dX9_hashOfPiece_33 rfl (lv_at hl 0 rfl) ?_
        refine gf_X9_10 hx hb hown hA hP 0 rfl rfl dX9_hashOfPiece_34 ?_
        refine gf_X9_133 hx hb hown hA hP 1 rfl rfl dX9_hashOfPiece_37 ?_
        refine lv_iload_n hx hb dX9_hashOfPiece_40 rfl (lv_at hl 1 rfl) ?_
        refine lv_iload hx hb dX9_hashOfPiece_41 (lv_at hl 3 rfl) ?_
        obtain ⟨r_6, q_7, hf⟩ := obd hf
        refine ro_v (n := 2) (As := [.int v3, .int v6]) (q0 := 0) hx hb hml hown hA (kX7_at l G aL5 aL6 aL7 aL8 aL9 aL10 aL11 rd rw rp rco rmo v3 v6 r_6 q_7) g_X9_237 gd_X7_at ⟨(Nat.le_of_ble_eq_true rfl), (Nat.le_of_ble_eq_true rfl)⟩ hZ (hP.sub [6, 7, 8, 9, 10, 11, 12] rfl) rfl rfl rfl hl.1 (Nat.le_of_ble_eq_true rfl) ⟨(Nat.le_of_ble_eq_true rfl), (Nat.le_of_ble_eq_true rfl)⟩ dX9_hashOfPiece_43 ?_
        refine W.eq (g2 := F0 m 46 ls [.int r_6, .long v4]) rfl ?_
        refine lv_i2l (v := r_6.toInt64) hx hb dX9_hashOfPiece_46 rfl ?_
        obtain ⟨r_8, q_9, hf⟩ := obd hf
        refine ro_s (n := 2) (As := [.long v4, .long r_6.toInt64]) hx hb hml hown hA (kX9_mixed l G v4 r_6.toInt64 r_8 q_9) g_X9_319 gd_X9_mixed ⟨(Nat.le_of_ble_eq_true rfl), (Nat.le_of_ble_eq_true rfl)⟩ hZ (fun _ _ h => by simp at h) rfl hl.1 (Nat.le_of_ble_eq_true rfl) ⟨(Nat.le_of_ble_eq_true rfl), (Nat.le_of_ble_eq_true rfl)⟩ dX9_hashOfPiece_47 ?_
        refine W.eq (g2 := F0 m 50 ls [.long r_8]) rfl ?_
        refine lv_lstore (lv' := [(4, .long r_8), (0, .ref a0), (3, .int v3), (6, .int v6)]) hx hb dX9_hashOfPiece_50 hl (by decide) rfl (fun ls hl => ?_)
        refine lv_iinc (v := v6 + 1) (lv' := [(6, .int (v6 + 1)), (4, .long r_8), (0, .ref a0), (3, .int v3)]) hx hb dX9_hashOfPiece_52 hl (k := 3) rfl rfl (by decide) rfl (fun ls hl => ?_)
        refine lv_goto (tgt := 24) hx hb dX9_hashOfPiece_55 (by decide) ?_
        exact ih _ _ _ _ hf ls (lv_sub hl [2, 3, 1, 0] rfl) kk
  obtain ⟨x4_10, q_11, hf⟩ := obd hf
  refine lp24 _ _ _ _ _ _ q_11 ls (lv_sub hl [2, 4, 1, 0] rfl) (fun ls hl => ?_)
  refine lv_lload hx hb dX9_hashOfPiece_58 (lv_at hl 2 rfl) ?_
  refine lv_aload_n hx hb dX9_hashOfPiece_60 rfl (lv_at hl 0 rfl) ?_
  refine gf_X9_10 hx hb hown hA hP 0 rfl rfl dX9_hashOfPiece_61 ?_
  refine gf_X9_133 hx hb hown hA hP 1 rfl rfl dX9_hashOfPiece_64 ?_
  refine gf_X9_238 hx hb hown hA hP 6 rfl rfl dX9_hashOfPiece_67 ?_
  refine lv_iload_n hx hb dX9_hashOfPiece_70 rfl (lv_at hl 1 rfl) ?_
  obtain ⟨r_12, q_13, hf⟩ := obd hf
  refine ro_v (n := 1) (As := [.int i2]) (q0 := 0) hx hb hml hown hA (kX8_at l G aL10 aL11 5 rp i2 r_12 q_13 (by decide)) g_X9_204 gd_X8_at ⟨(Nat.le_of_ble_eq_true rfl), (Nat.le_of_ble_eq_true rfl)⟩ hZ (hP.sub [11, 12] rfl) rfl rfl rfl hl.1 (Nat.le_of_ble_eq_true rfl) ⟨(Nat.le_of_ble_eq_true rfl), (Nat.le_of_ble_eq_true rfl)⟩ dX9_hashOfPiece_71 ?_
  refine W.eq (g2 := F0 m 74 ls [.int r_12, .long x4_10]) rfl ?_
  refine lv_i2l (v := r_12.toInt64) hx hb dX9_hashOfPiece_74 rfl ?_
  obtain ⟨r_14, q_15, hf⟩ := obd hf
  refine ro_s (n := 2) (As := [.long x4_10, .long r_12.toInt64]) hx hb hml hown hA (kX9_mixed l G x4_10 r_12.toInt64 r_14 q_15) g_X9_319 gd_X9_mixed ⟨(Nat.le_of_ble_eq_true rfl), (Nat.le_of_ble_eq_true rfl)⟩ hZ (fun _ _ h => by simp at h) rfl hl.1 (Nat.le_of_ble_eq_true rfl) ⟨(Nat.le_of_ble_eq_true rfl), (Nat.le_of_ble_eq_true rfl)⟩ dX9_hashOfPiece_75 ?_
  refine W.eq (g2 := F0 m 78 ls [.long r_14]) rfl ?_
  refine lv_lstore (lv' := [(4, .long r_14), (0, .ref a0), (3, .int i2)]) hx hb dX9_hashOfPiece_78 hl (by decide) rfl (fun ls hl => ?_)
  refine lv_lload hx hb dX9_hashOfPiece_80 (lv_at hl 0 rfl) ?_
  refine lv_aload_n hx hb dX9_hashOfPiece_82 rfl (lv_at hl 1 rfl) ?_
  refine gf_X9_10 hx hb hown hA hP 0 rfl rfl dX9_hashOfPiece_83 ?_
  refine gf_X9_133 hx hb hown hA hP 1 rfl rfl dX9_hashOfPiece_86 ?_
  refine lv_iload_n hx hb dX9_hashOfPiece_89 rfl (lv_at hl 2 rfl) ?_
  obtain ⟨r_16, q_17, hf⟩ := obd hf
  refine ro_v (n := 1) (As := [.int i2]) (q0 := 0) hx hb hml hown hA (kX7_price l G aL5 aL6 aL7 aL8 aL9 aL10 aL11 rd rw rp rco rmo i2 r_16 q_17) g_X9_241 gd_X7_price ⟨(Nat.le_of_ble_eq_true rfl), (Nat.le_of_ble_eq_true rfl)⟩ hZ (hP.sub [6, 7, 8, 9, 10, 11, 12] rfl) rfl rfl rfl hl.1 (Nat.le_of_ble_eq_true rfl) ⟨(Nat.le_of_ble_eq_true rfl), (Nat.le_of_ble_eq_true rfl)⟩ dX9_hashOfPiece_90 ?_
  refine W.eq (g2 := F0 m 93 ls [.int r_16, .long r_14]) rfl ?_
  refine lv_i2l (v := r_16.toInt64) hx hb dX9_hashOfPiece_93 rfl ?_
  obtain ⟨r_18, q_19, hf⟩ := obd hf
  refine ro_s (n := 2) (As := [.long r_14, .long r_16.toInt64]) hx hb hml hown hA (kX9_mixed l G r_14 r_16.toInt64 r_18 q_19) g_X9_319 gd_X9_mixed ⟨(Nat.le_of_ble_eq_true rfl), (Nat.le_of_ble_eq_true rfl)⟩ hZ (fun _ _ h => by simp at h) rfl hl.1 (Nat.le_of_ble_eq_true rfl) ⟨(Nat.le_of_ble_eq_true rfl), (Nat.le_of_ble_eq_true rfl)⟩ dX9_hashOfPiece_94 ?_
  refine W.eq (g2 := F0 m 97 ls [.long r_18]) rfl ?_
  refine lv_lstore (lv' := [(4, .long r_18), (0, .ref a0), (3, .int i2)]) hx hb dX9_hashOfPiece_97 hl (by decide) rfl (fun ls hl => ?_)
  refine lv_lload hx hb dX9_hashOfPiece_99 (lv_at hl 0 rfl) ?_
  refine lv_aload_n hx hb dX9_hashOfPiece_101 rfl (lv_at hl 1 rfl) ?_
  refine lv_iload_n hx hb dX9_hashOfPiece_102 rfl (lv_at hl 2 rfl) ?_
  obtain ⟨e9 | r_20, q_21, hf⟩ := obd hf
  · dsimp only at hf
    cases hf
  dsimp only at hf
  refine ro_v (n := 1) (As := [.int i2]) (q0 := 0) hx hb hml hown hA (kX9_tooThick l G a0 aL0 aL1 aL2 aL3 aL4 aL5 aL6 aL7 aL8 aL9 aL10 aL11 aL12 aH0 aT0 aW0 aE0 md mch fra fwe fof fsi csh cde csp rd rw rp rco rmo apa awo ash aja abu ltol lchi ljam i2 r_20 q_21) g_X9_341 gd_X9_tooThick ⟨(Nat.le_of_ble_eq_true rfl), (Nat.le_of_ble_eq_true rfl)⟩ hZ (hP.sub [0, 1, 2, 3, 4, 5, 6, 7, 8, 9, 10, 11, 12, 13] rfl) rfl rfl rfl hl.1 (Nat.le_of_ble_eq_true rfl) ⟨(Nat.le_of_ble_eq_true rfl), (Nat.le_of_ble_eq_true rfl)⟩ dX9_hashOfPiece_103 ?_
  refine W.eq (g2 := F0 m 106 ls [.int r_20, .long r_18]) rfl ?_
  refine lv_i2l (v := r_20.toInt64) hx hb dX9_hashOfPiece_106 rfl ?_
  obtain ⟨r_22, q_23, hf⟩ := obd hf
  refine ro_s (n := 2) (As := [.long r_18, .long r_20.toInt64]) hx hb hml hown hA (kX9_mixed l G r_18 r_20.toInt64 r_22 q_23) g_X9_319 gd_X9_mixed ⟨(Nat.le_of_ble_eq_true rfl), (Nat.le_of_ble_eq_true rfl)⟩ hZ (fun _ _ h => by simp at h) rfl hl.1 (Nat.le_of_ble_eq_true rfl) ⟨(Nat.le_of_ble_eq_true rfl), (Nat.le_of_ble_eq_true rfl)⟩ dX9_hashOfPiece_107 ?_
  refine W.eq (g2 := F0 m 110 ls [.long r_22]) rfl ?_
  refine lv_lstore (lv' := [(4, .long r_22), (0, .ref a0), (3, .int i2)]) hx hb dX9_hashOfPiece_110 hl (by decide) rfl (fun ls hl => ?_)
  refine lv_lload hx hb dX9_hashOfPiece_112 (lv_at hl 0 rfl) ?_
  refine lv_aload_n hx hb dX9_hashOfPiece_114 rfl (lv_at hl 1 rfl) ?_
  refine lv_iload_n hx hb dX9_hashOfPiece_115 rfl (lv_at hl 2 rfl) ?_
  obtain ⟨e9 | r_24, q_25, hf⟩ := obd hf
  · dsimp only at hf
    cases hf
  dsimp only at hf
  refine ro_v (n := 1) (As := [.int i2]) (q0 := 0) hx hb hml hown hA (kX9_tooThin l G a0 aL0 aL1 aL2 aL3 aL4 aL5 aL6 aL7 aL8 aL9 aL10 aL11 aL12 aH0 aT0 aW0 aE0 md mch fra fwe fof fsi csh cde csp rd rw rp rco rmo apa awo ash aja abu ltol lchi ljam i2 r_24 q_25) g_X9_344 gd_X9_tooThin ⟨(Nat.le_of_ble_eq_true rfl), (Nat.le_of_ble_eq_true rfl)⟩ hZ (hP.sub [0, 1, 2, 3, 4, 5, 6, 7, 8, 9, 10, 11, 12, 13] rfl) rfl rfl rfl hl.1 (Nat.le_of_ble_eq_true rfl) ⟨(Nat.le_of_ble_eq_true rfl), (Nat.le_of_ble_eq_true rfl)⟩ dX9_hashOfPiece_116 ?_
  refine W.eq (g2 := F0 m 119 ls [.int r_24, .long r_22]) rfl ?_
  refine lv_i2l (v := r_24.toInt64) hx hb dX9_hashOfPiece_119 rfl ?_
  obtain ⟨r_26, q_27, hf⟩ := obd hf
  refine ro_s (n := 2) (As := [.long r_22, .long r_24.toInt64]) hx hb hml hown hA (kX9_mixed l G r_22 r_24.toInt64 r_26 q_27) g_X9_319 gd_X9_mixed ⟨(Nat.le_of_ble_eq_true rfl), (Nat.le_of_ble_eq_true rfl)⟩ hZ (fun _ _ h => by simp at h) rfl hl.1 (Nat.le_of_ble_eq_true rfl) ⟨(Nat.le_of_ble_eq_true rfl), (Nat.le_of_ble_eq_true rfl)⟩ dX9_hashOfPiece_120 ?_
  refine W.eq (g2 := F0 m 123 ls [.long r_26]) rfl ?_
  refine lv_lstore (lv' := [(4, .long r_26), (0, .ref a0), (3, .int i2)]) hx hb dX9_hashOfPiece_123 hl (by decide) rfl (fun ls hl => ?_)
  refine lv_lload hx hb dX9_hashOfPiece_125 (lv_at hl 0 rfl) ?_
  refine lv_aload_n hx hb dX9_hashOfPiece_127 rfl (lv_at hl 1 rfl) ?_
  refine gf_X9_10 hx hb hown hA hP 0 rfl rfl dX9_hashOfPiece_128 ?_
  refine lv_iload_n hx hb dX9_hashOfPiece_131 rfl (lv_at hl 2 rfl) ?_
  obtain ⟨r_28, q_29, hf⟩ := obd hf
  refine ro_v (n := 1) (As := [.int i2]) (q0 := 0) hx hb hml hown hA (kX4_faults l G aL0 aL1 aL2 aL3 aL4 aL5 aL6 aL7 aL8 aL9 aL10 aL11 aL12 md mch fra fwe fof fsi csh cde csp rd rw rp rco rmo apa awo ash aja abu ltol lchi ljam i2 r_28 q_29) g_X9_277 gd_X4_faults ⟨(Nat.le_of_ble_eq_true rfl), (Nat.le_of_ble_eq_true rfl)⟩ hZ (hP.sub [1, 2, 3, 4, 5, 6, 7, 8, 9, 10, 11, 12, 13] rfl) rfl rfl rfl hl.1 (Nat.le_of_ble_eq_true rfl) ⟨(Nat.le_of_ble_eq_true rfl), (Nat.le_of_ble_eq_true rfl)⟩ dX9_hashOfPiece_132 ?_
  refine W.eq (g2 := F0 m 135 ls [.int r_28, .long r_26]) rfl ?_
  refine lv_i2l (v := r_28.toInt64) hx hb dX9_hashOfPiece_135 rfl ?_
  obtain ⟨r_30, q_31, hf⟩ := obd hf
  refine ro_s (n := 2) (As := [.long r_26, .long r_28.toInt64]) hx hb hml hown hA (kX9_mixed l G r_26 r_28.toInt64 r_30 q_31) g_X9_319 gd_X9_mixed ⟨(Nat.le_of_ble_eq_true rfl), (Nat.le_of_ble_eq_true rfl)⟩ hZ (fun _ _ h => by simp at h) rfl hl.1 (Nat.le_of_ble_eq_true rfl) ⟨(Nat.le_of_ble_eq_true rfl), (Nat.le_of_ble_eq_true rfl)⟩ dX9_hashOfPiece_136 ?_
  refine W.eq (g2 := F0 m 139 ls [.long r_30]) rfl ?_
  refine lv_lstore (lv' := [(4, .long r_30), (0, .ref a0), (3, .int i2)]) hx hb dX9_hashOfPiece_139 hl (by decide) rfl (fun ls hl => ?_)
  refine lv_lload hx hb dX9_hashOfPiece_141 (lv_at hl 0 rfl) ?_
  refine lv_aload_n hx hb dX9_hashOfPiece_143 rfl (lv_at hl 1 rfl) ?_
  refine lv_iload_n hx hb dX9_hashOfPiece_144 rfl (lv_at hl 2 rfl) ?_
  obtain ⟨e9 | r_32, q_33, hf⟩ := obd hf
  · dsimp only at hf
    cases hf
  dsimp only at hf
  refine ro_v (n := 1) (As := [.int i2]) (q0 := 0) hx hb hml hown hA (kX9_mostLike l G a0 aL0 aL1 aL2 aL3 aL4 aL5 aL6 aL7 aL8 aL9 aL10 aL11 aL12 aH0 aT0 aW0 aE0 md mch fra fwe fof fsi csh cde csp rd rw rp rco rmo apa awo ash aja abu ltol lchi ljam i2 r_32 q_33) g_X9_347 gd_X9_mostLike ⟨(Nat.le_of_ble_eq_true rfl), (Nat.le_of_ble_eq_true rfl)⟩ hZ (hP.sub [0, 1, 2, 3, 4, 5, 6, 7, 8, 9, 10, 11, 12, 13] rfl) rfl rfl rfl hl.1 (Nat.le_of_ble_eq_true rfl) ⟨(Nat.le_of_ble_eq_true rfl), (Nat.le_of_ble_eq_true rfl)⟩ dX9_hashOfPiece_145 ?_
  refine W.eq (g2 := F0 m 148 ls [.int r_32, .long r_30]) rfl ?_
  refine lv_i2l (v := r_32.toInt64) hx hb dX9_hashOfPiece_148 rfl ?_
  obtain ⟨r_34, q_35, hf⟩ := obd hf
  refine ro_s (n := 2) (As := [.long r_30, .long r_32.toInt64]) hx hb hml hown hA (kX9_mixed l G r_30 r_32.toInt64 r_34 q_35) g_X9_319 gd_X9_mixed ⟨(Nat.le_of_ble_eq_true rfl), (Nat.le_of_ble_eq_true rfl)⟩ hZ (fun _ _ h => by simp at h) rfl hl.1 (Nat.le_of_ble_eq_true rfl) ⟨(Nat.le_of_ble_eq_true rfl), (Nat.le_of_ble_eq_true rfl)⟩ dX9_hashOfPiece_149 ?_
  refine W.eq (g2 := F0 m 152 ls [.long r_34]) rfl ?_
  refine lv_lstore (lv' := [(4, .long r_34), (0, .ref a0), (3, .int i2)]) hx hb dX9_hashOfPiece_152 hl (by decide) rfl (fun ls hl => ?_)
  refine lv_lload hx hb dX9_hashOfPiece_154 (lv_at hl 0 rfl) ?_
  refine lv_aload_n hx hb dX9_hashOfPiece_156 rfl (lv_at hl 1 rfl) ?_
  refine gf_X9_10 hx hb hown hA hP 0 rfl rfl dX9_hashOfPiece_157 ?_
  refine lv_iload_n hx hb dX9_hashOfPiece_160 rfl (lv_at hl 2 rfl) ?_
  obtain ⟨r_36, q_37, hf⟩ := obd hf
  refine ro_v (n := 1) (As := [.int i2]) (q0 := 0) hx hb hml hown hA (kX4_allAbove l G aL0 aL1 aL2 aL3 aL4 aL5 aL6 aL7 aL8 aL9 aL10 aL11 aL12 md mch fra fwe fof fsi csh cde csp rd rw rp rco rmo apa awo ash aja abu ltol lchi ljam i2 r_36 q_37) g_X9_301 gd_X4_allAbove ⟨(Nat.le_of_ble_eq_true rfl), (Nat.le_of_ble_eq_true rfl)⟩ hZ (hP.sub [1, 2, 3, 4, 5, 6, 7, 8, 9, 10, 11, 12, 13] rfl) rfl rfl rfl hl.1 (Nat.le_of_ble_eq_true rfl) ⟨(Nat.le_of_ble_eq_true rfl), (Nat.le_of_ble_eq_true rfl)⟩ dX9_hashOfPiece_161 ?_
  refine W.eq (g2 := F0 m 164 ls [.int r_36, .long r_34]) rfl ?_
  refine lv_i2l (v := r_36.toInt64) hx hb dX9_hashOfPiece_164 rfl ?_
  obtain ⟨r_38, q_39, hf⟩ := obd hf
  refine ro_s (n := 2) (As := [.long r_34, .long r_36.toInt64]) hx hb hml hown hA (kX9_mixed l G r_34 r_36.toInt64 r_38 q_39) g_X9_319 gd_X9_mixed ⟨(Nat.le_of_ble_eq_true rfl), (Nat.le_of_ble_eq_true rfl)⟩ hZ (fun _ _ h => by simp at h) rfl hl.1 (Nat.le_of_ble_eq_true rfl) ⟨(Nat.le_of_ble_eq_true rfl), (Nat.le_of_ble_eq_true rfl)⟩ dX9_hashOfPiece_165 ?_
  refine W.eq (g2 := F0 m 168 ls [.long r_38]) rfl ?_
  refine lv_lstore (lv' := [(4, .long r_38), (0, .ref a0), (3, .int i2)]) hx hb dX9_hashOfPiece_168 hl (by decide) rfl (fun ls hl => ?_)
  refine lv_lload hx hb dX9_hashOfPiece_170 (lv_at hl 0 rfl) ?_
  refine lv_aload_n hx hb dX9_hashOfPiece_172 rfl (lv_at hl 1 rfl) ?_
  refine gf_X9_10 hx hb hown hA hP 0 rfl rfl dX9_hashOfPiece_173 ?_
  refine gf_X9_133 hx hb hown hA hP 1 rfl rfl dX9_hashOfPiece_176 ?_
  refine lv_iload_n hx hb dX9_hashOfPiece_179 rfl (lv_at hl 2 rfl) ?_
  obtain ⟨r_40, q_41, hf⟩ := obd hf
  refine ro_v (n := 1) (As := [.int i2]) (q0 := 0) hx hb hml hown hA (kX7_sumOf l G aL5 aL6 aL7 aL8 aL9 aL10 aL11 rd rw rp rco rmo i2 r_40 q_41) g_X9_304 gd_X7_sumOf ⟨(Nat.le_of_ble_eq_true rfl), (Nat.le_of_ble_eq_true rfl)⟩ hZ (hP.sub [6, 7, 8, 9, 10, 11, 12] rfl) rfl rfl rfl hl.1 (Nat.le_of_ble_eq_true rfl) ⟨(Nat.le_of_ble_eq_true rfl), (Nat.le_of_ble_eq_true rfl)⟩ dX9_hashOfPiece_180 ?_
  refine W.eq (g2 := F0 m 183 ls [.int r_40, .long r_38]) rfl ?_
  obtain ⟨r_42, q_43, hf⟩ := obd hf
  refine ro_s (n := 1) (As := [.int r_40]) hx hb hml hown hA (kX9_bitsOfMean l G r_40 r_42 q_43) g_X9_350 gd_X9_bitsOfMean ⟨(Nat.le_of_ble_eq_true rfl), (Nat.le_of_ble_eq_true rfl)⟩ hZ (fun _ _ h => by simp at h) rfl hl.1 (Nat.le_of_ble_eq_true rfl) ⟨(Nat.le_of_ble_eq_true rfl), (Nat.le_of_ble_eq_true rfl)⟩ dX9_hashOfPiece_183 ?_
  refine W.eq (g2 := F0 m 186 ls [.long r_42, .long r_38]) rfl ?_
  obtain ⟨r_44, q_45, hf⟩ := obd hf
  refine ro_s (n := 2) (As := [.long r_38, .long r_42]) hx hb hml hown hA (kX9_mixed l G r_38 r_42 r_44 q_45) g_X9_319 gd_X9_mixed ⟨(Nat.le_of_ble_eq_true rfl), (Nat.le_of_ble_eq_true rfl)⟩ hZ (fun _ _ h => by simp at h) rfl hl.1 (Nat.le_of_ble_eq_true rfl) ⟨(Nat.le_of_ble_eq_true rfl), (Nat.le_of_ble_eq_true rfl)⟩ dX9_hashOfPiece_186 ?_
  refine W.eq (g2 := F0 m 189 ls [.long r_44]) rfl ?_
  cases hf
  exact ro_lret hx hb hr hlk dX9_hashOfPiece_189
def fX9_hashOfAccounts (apa : Int32) (awo : Int32) (ash : Int32) (aja : Int32) (abu : Int32) (hcn : Int32) (i1 : Int64) : Option (Int64) :=
  ((fX9_mixed i1 apa.toInt64).bind fun r_1 => ((fX9_mixed r_1 awo.toInt64).bind fun r_3 => ((fX9_mixed r_3 ash.toInt64).bind fun r_5 => ((fX9_mixed r_5 aja.toInt64).bind fun r_7 => ((fX9_mixed r_7 abu.toInt64).bind fun r_9 => ((fX9_mixed r_9 hcn.toInt64).bind fun r_11 => some r_11))))))
set_option maxHeartbeats 4000000 in
set_option maxRecDepth 100000 in
theorem kX9_hashOfAccounts (l : Launch) (G : GG) (a0 aL0 aL1 aL2 aL3 aL4 aL5 aL6 aL7 aL8 aL9 aL10 aL11 aL12 aH0 aT0 aW0 aE0 aHS aHL : Nat) (md : Nat → Int32) (mch : Int32) (fra : Int32) (fwe : Int32) (fof : Int32) (fsi : Int32) (csh : Int32) (cde : Int32) (csp : Int32) (rd : Nat → Int32) (rw : Nat → Int32) (rp : Nat → Int32) (rco : Int32) (rmo : Int32) (apa : Int32) (awo : Int32) (ash : Int32) (aja : Int32) (abu : Int32) (ltol : Int32) (lchi : Int32) (ljam : Int32) (ho : Int32) (hcn : Int32) (i1 : Int64) (r_0 : Int64) (hf : fX9_hashOfAccounts apa awo ash aja abu hcn i1 = some r_0) : Ro l G yX9_hashOfAccounts cX9_hashOfAccounts 5 (some .long) 1 23 [.ref a0, .long i1] [(a0, .inr (9, [.ref aL0, .ref aH0, .ref aT0, .ref aW0, .ref aE0])), (aL0, .inr (4, [.ref aL1, .ref aL3, .ref aL4, .ref aL5, .ref aL12, .int ltol, .int lchi, .int ljam])), (aL1, .inr (6, [.ref aL2, .int mch])), (aL2, .inl (G.2.1, 48, .inl md)), (aL3, .inr (2, [.int fra, .int fwe, .int fof, .int fsi])), (aL4, .inr (1, [.int csh, .int cde, .int csp])), (aL5, .inr (7, [.ref aL6, .ref aL8, .ref aL10, .int rco, .int rmo])), (aL6, .inr (8, [.ref aL7])), (aL7, .inl (G.2.1, 80, .inl rd)), (aL8, .inr (8, [.ref aL9])), (aL9, .inl (G.2.1, 5, .inl rw)), (aL10, .inr (8, [.ref aL11])), (aL11, .inl (G.2.1, 5, .inl rp)), (aL12, .inr (0, [.int apa, .int awo, .int ash, .int aja, .int abu])), (aH0, .inr (3, [.ref aHS, .ref aHL, .int ho, .int hcn]))] (some (.long r_0)) := by
  refine ro_of (by decide) (Nat.le_of_ble_eq_true rfl) ?_
  intro p e s m args below meth c ls hx hb hr hml hown hlk hA hZ hP hl
  replace hown : s.vm.findClass RX9 = some m.cls := hown
  replace hl : lv_has ls 5 [(0, .ref a0), (1, .long i1)] := hl
  unfold fX9_hashOfAccounts at hf
  refine lv_lload_n hx hb dX9_hashOfAccounts_0 rfl (lv_at hl 1 rfl) ?_
  refine lv_aload_n hx hb dX9_hashOfAccounts_1 rfl (lv_at hl 0 rfl) ?_
  refine gf_X9_10 hx hb hown hA hP 0 rfl rfl dX9_hashOfAccounts_2 ?_
  refine gf_X9_104 hx hb hown hA hP 1 rfl rfl dX9_hashOfAccounts_5 ?_
  refine gf_X9_244 hx hb hown hA hP 13 rfl rfl dX9_hashOfAccounts_8 ?_
  refine lv_i2l (v := apa.toInt64) hx hb dX9_hashOfAccounts_11 rfl ?_
  obtain ⟨r_1, q_2, hf⟩ := obd hf
  refine ro_s (n := 2) (As := [.long i1, .long apa.toInt64]) hx hb hml hown hA (kX9_mixed l G i1 apa.toInt64 r_1 q_2) g_X9_319 gd_X9_mixed ⟨(Nat.le_of_ble_eq_true rfl), (Nat.le_of_ble_eq_true rfl)⟩ hZ (fun _ _ h => by simp at h) rfl hl.1 (Nat.le_of_ble_eq_true rfl) ⟨(Nat.le_of_ble_eq_true rfl), (Nat.le_of_ble_eq_true rfl)⟩ dX9_hashOfAccounts_12 ?_
  refine W.eq (g2 := F0 m 15 ls [.long r_1]) rfl ?_
  refine lv_lstore_n (lv' := [(3, .long r_1), (0, .ref a0), (1, .long i1)]) hx hb dX9_hashOfAccounts_15 rfl hl (by decide) rfl (fun ls hl => ?_)
  refine lv_lload_n hx hb dX9_hashOfAccounts_16 rfl (lv_at hl 0 rfl) ?_
  refine lv_aload_n hx hb dX9_hashOfAccounts_17 rfl (lv_at hl 1 rfl) ?_
  refine gf_X9_10 hx hb hown hA hP 0 rfl rfl dX9_hashOfAccounts_18 ?_
  refine gf_X9_104 hx hb hown hA hP 1 rfl rfl dX9_hashOfAccounts_21 ?_
  refine gf_X9_247 hx hb hown hA hP 13 rfl rfl dX9_hashOfAccounts_24 ?_
  refine lv_i2l (v := awo.toInt64) hx hb dX9_hashOfAccounts_27 rfl ?_
  obtain ⟨r_3, q_4, hf⟩ := obd hf
  refine ro_s (n := 2) (As := [.long r_1, .long awo.toInt64]) hx hb hml hown hA (kX9_mixed l G r_1 awo.toInt64 r_3 q_4) g_X9_319 gd_X9_mixed ⟨(Nat.le_of_ble_eq_true rfl), (Nat.le_of_ble_eq_true rfl)⟩ hZ (fun _ _ h => by simp at h) rfl hl.1 (Nat.le_of_ble_eq_true rfl) ⟨(Nat.le_of_ble_eq_true rfl), (Nat.le_of_ble_eq_true rfl)⟩ dX9_hashOfAccounts_28 ?_
  refine W.eq (g2 := F0 m 31 ls [.long r_3]) rfl ?_
  refine lv_lstore_n (lv' := [(3, .long r_3), (0, .ref a0), (1, .long i1)]) hx hb dX9_hashOfAccounts_31 rfl hl (by decide) rfl (fun ls hl => ?_)
  refine lv_lload_n hx hb dX9_hashOfAccounts_32 rfl (lv_at hl 0 rfl) ?_
  refine lv_aload_n hx hb dX9_hashOfAccounts_33 rfl (lv_at hl 1 rfl) ?_
  refine gf_X9_10 hx hb hown hA hP 0 rfl rfl dX9_hashOfAccounts_34 ?_
  refine gf_X9_104 hx hb hown hA hP 1 rfl rfl dX9_hashOfAccounts_37 ?_
  refine gf_X9_108 hx hb hown hA hP 13 rfl rfl dX9_hashOfAccounts_40 ?_
  refine lv_i2l (v := ash.toInt64) hx hb dX9_hashOfAccounts_43 rfl ?_
  obtain ⟨r_5, q_6, hf⟩ := obd hf
  refine ro_s (n := 2) (As := [.long r_3, .long ash.toInt64]) hx hb hml hown hA (kX9_mixed l G r_3 ash.toInt64 r_5 q_6) g_X9_319 gd_X9_mixed ⟨(Nat.le_of_ble_eq_true rfl), (Nat.le_of_ble_eq_true rfl)⟩ hZ (fun _ _ h => by simp at h) rfl hl.1 (Nat.le_of_ble_eq_true rfl) ⟨(Nat.le_of_ble_eq_true rfl), (Nat.le_of_ble_eq_true rfl)⟩ dX9_hashOfAccounts_44 ?_
  refine W.eq (g2 := F0 m 47 ls [.long r_5]) rfl ?_
  refine lv_lstore_n (lv' := [(3, .long r_5), (0, .ref a0), (1, .long i1)]) hx hb dX9_hashOfAccounts_47 rfl hl (by decide) rfl (fun ls hl => ?_)
  refine lv_lload_n hx hb dX9_hashOfAccounts_48 rfl (lv_at hl 0 rfl) ?_
  refine lv_aload_n hx hb dX9_hashOfAccounts_49 rfl (lv_at hl 1 rfl) ?_
  refine gf_X9_10 hx hb hown hA hP 0 rfl rfl dX9_hashOfAccounts_50 ?_
  refine gf_X9_104 hx hb hown hA hP 1 rfl rfl dX9_hashOfAccounts_53 ?_
  refine gf_X9_250 hx hb hown hA hP 13 rfl rfl dX9_hashOfAccounts_56 ?_
  refine lv_i2l (v := aja.toInt64) hx hb dX9_hashOfAccounts_59 rfl ?_
  obtain ⟨r_7, q_8, hf⟩ := obd hf
  refine ro_s (n := 2) (As := [.long r_5, .long aja.toInt64]) hx hb hml hown hA (kX9_mixed l G r_5 aja.toInt64 r_7 q_8) g_X9_319 gd_X9_mixed ⟨(Nat.le_of_ble_eq_true rfl), (Nat.le_of_ble_eq_true rfl)⟩ hZ (fun _ _ h => by simp at h) rfl hl.1 (Nat.le_of_ble_eq_true rfl) ⟨(Nat.le_of_ble_eq_true rfl), (Nat.le_of_ble_eq_true rfl)⟩ dX9_hashOfAccounts_60 ?_
  refine W.eq (g2 := F0 m 63 ls [.long r_7]) rfl ?_
  refine lv_lstore_n (lv' := [(3, .long r_7), (0, .ref a0), (1, .long i1)]) hx hb dX9_hashOfAccounts_63 rfl hl (by decide) rfl (fun ls hl => ?_)
  refine lv_lload_n hx hb dX9_hashOfAccounts_64 rfl (lv_at hl 0 rfl) ?_
  refine lv_aload_n hx hb dX9_hashOfAccounts_65 rfl (lv_at hl 1 rfl) ?_
  refine gf_X9_10 hx hb hown hA hP 0 rfl rfl dX9_hashOfAccounts_66 ?_
  refine gf_X9_104 hx hb hown hA hP 1 rfl rfl dX9_hashOfAccounts_69 ?_
  refine gf_X9_158 hx hb hown hA hP 13 rfl rfl dX9_hashOfAccounts_72 ?_
  refine lv_i2l (v := abu.toInt64) hx hb dX9_hashOfAccounts_75 rfl ?_
  obtain ⟨r_9, q_10, hf⟩ := obd hf
  refine ro_s (n := 2) (As := [.long r_7, .long abu.toInt64]) hx hb hml hown hA (kX9_mixed l G r_7 abu.toInt64 r_9 q_10) g_X9_319 gd_X9_mixed ⟨(Nat.le_of_ble_eq_true rfl), (Nat.le_of_ble_eq_true rfl)⟩ hZ (fun _ _ h => by simp at h) rfl hl.1 (Nat.le_of_ble_eq_true rfl) ⟨(Nat.le_of_ble_eq_true rfl), (Nat.le_of_ble_eq_true rfl)⟩ dX9_hashOfAccounts_76 ?_
  refine W.eq (g2 := F0 m 79 ls [.long r_9]) rfl ?_
  refine lv_lstore_n (lv' := [(3, .long r_9), (0, .ref a0), (1, .long i1)]) hx hb dX9_hashOfAccounts_79 rfl hl (by decide) rfl (fun ls hl => ?_)
  refine lv_lload_n hx hb dX9_hashOfAccounts_80 rfl (lv_at hl 0 rfl) ?_
  refine lv_aload_n hx hb dX9_hashOfAccounts_81 rfl (lv_at hl 1 rfl) ?_
  refine gf_X9_19 hx hb hown hA hP 0 rfl rfl dX9_hashOfAccounts_82 ?_
  refine gf_X9_224 hx hb hown hA hP 14 rfl rfl dX9_hashOfAccounts_85 ?_
  refine lv_i2l (v := hcn.toInt64) hx hb dX9_hashOfAccounts_88 rfl ?_
  obtain ⟨r_11, q_12, hf⟩ := obd hf
  refine ro_s (n := 2) (As := [.long r_9, .long hcn.toInt64]) hx hb hml hown hA (kX9_mixed l G r_9 hcn.toInt64 r_11 q_12) g_X9_319 gd_X9_mixed ⟨(Nat.le_of_ble_eq_true rfl), (Nat.le_of_ble_eq_true rfl)⟩ hZ (fun _ _ h => by simp at h) rfl hl.1 (Nat.le_of_ble_eq_true rfl) ⟨(Nat.le_of_ble_eq_true rfl), (Nat.le_of_ble_eq_true rfl)⟩ dX9_hashOfAccounts_89 ?_
  refine W.eq (g2 := F0 m 92 ls [.long r_11]) rfl ?_
  cases hf
  exact ro_lret hx hb hr hlk dX9_hashOfAccounts_92
def fX9_hashOfProspects (md : Nat → Int32) (mch : Int32) (fra : Int32) (fwe : Int32) (fof : Int32) (csh : Int32) (cde : Int32) (csp : Int32) (rd : Nat → Int32) (rw : Nat → Int32) (rmo : Int32) (le : Nat → Int32) (i1 : Int64) : Option (Int64 × (Nat → Int32)) :=
  ((fX4_mostAbove md mch fra fwe fof rd rmo).bind fun r_1 => (if r_1 = 0 then ((fX9_mixed i1 1).bind fun r_26 => ((fX4_blunting csp rw rmo).bind fun r_28 => ((fX9_dividedUp csh r_28).bind fun r_30 => ((fX9_mixed r_26 r_30.toInt64).bind fun r_32 => ((fX1_isSharp csh).bind fun r_34 => (if r_34 = 0 then some (r_32, le) else ((fX9_countPasses md mch fra fwe fof csh cde rd rmo le).bind fun (r_37, le_38) => ((fX9_mixed r_32 r_37.toInt64).bind fun r_40 => ((fX1_reach csh cde).bind fun r_42 => ((fX9_dividedUp r_1 r_42).bind fun r_44 => ((fX9_mixed r_40 r_44.toInt64).bind fun r_46 => some (r_46, le_38)))))))))))) else ((fX9_mixed i1 0).bind fun r_4 => ((fX4_blunting csp rw rmo).bind fun r_6 => ((fX9_dividedUp csh r_6).bind fun r_8 => ((fX9_mixed r_4 r_8.toInt64).bind fun r_10 => ((fX1_isSharp csh).bind fun r_12 => (if r_12 = 0 then some (r_10, le) else ((fX9_countPasses md mch fra fwe fof csh cde rd rmo le).bind fun (r_15, le_16) => ((fX9_mixed r_10 r_15.toInt64).bind fun r_18 => ((fX1_reach csh cde).bind fun r_20 => ((fX9_dividedUp r_1 r_20).bind fun r_22 => ((fX9_mixed r_18 r_22.toInt64).bind fun r_24 => some (r_24, le_16))))))))))))))
set_option maxHeartbeats 4000000 in
set_option maxRecDepth 100000 in
theorem kX9_hashOfProspects (l : Launch) (G : GG) (a0 aL0 aL1 aL2 aL3 aL4 aL5 aL6 aL7 aL8 aL9 aL10 aL11 aL12 aE0 aE1 aH0 aT0 aW0 : Nat) (md : Nat → Int32) (mch : Int32) (fra : Int32) (fwe : Int32) (fof : Int32) (fsi : Int32) (csh : Int32) (cde : Int32) (csp : Int32) (rd : Nat → Int32) (rw : Nat → Int32) (rp : Nat → Int32) (rco : Int32) (rmo : Int32) (apa : Int32) (awo : Int32) (ash : Int32) (aja : Int32) (abu : Int32) (ltol : Int32) (lchi : Int32) (ljam : Int32) (le : Nat → Int32) (i1 : Int64) (r_0 : Int64) (le_0 : Nat → Int32) (hf : fX9_hashOfProspects md mch fra fwe fof csh cde csp rd rw rmo le i1 = some (r_0, le_0)) : Wr l G yX9_hashOfProspects cX9_hashOfProspects 6 (some .long) 5 113 0 0 [.ref a0, .long i1] [(a0, .inr (9, [.ref aL0, .ref aH0, .ref aT0, .ref aW0, .ref aE0])), (aL0, .inr (4, [.ref aL1, .ref aL3, .ref aL4, .ref aL5, .ref aL12, .int ltol, .int lchi, .int ljam])), (aL1, .inr (6, [.ref aL2, .int mch])), (aL2, .inl (G.2.1, 48, .inl md)), (aL3, .inr (2, [.int fra, .int fwe, .int fof, .int fsi])), (aL4, .inr (1, [.int csh, .int cde, .int csp])), (aL5, .inr (7, [.ref aL6, .ref aL8, .ref aL10, .int rco, .int rmo])), (aL6, .inr (8, [.ref aL7])), (aL7, .inl (G.2.1, 80, .inl rd)), (aL8, .inr (8, [.ref aL9])), (aL9, .inl (G.2.1, 5, .inl rw)), (aL10, .inr (8, [.ref aL11])), (aL11, .inl (G.2.1, 5, .inl rp)), (aL12, .inr (0, [.int apa, .int awo, .int ash, .int aja, .int abu])), (aE0, .inr (8, [.ref aE1])), (aE1, .inl (G.2.1, 16, .inl le))] (X := Unit) (fun _ => [(a0, .inr (9, [.ref aL0, .ref aH0, .ref aT0, .ref aW0, .ref aE0])), (aL0, .inr (4, [.ref aL1, .ref aL3, .ref aL4, .ref aL5, .ref aL12, .int ltol, .int lchi, .int ljam])), (aL1, .inr (6, [.ref aL2, .int mch])), (aL2, .inl (G.2.1, 48, .inl md)), (aL3, .inr (2, [.int fra, .int fwe, .int fof, .int fsi])), (aL4, .inr (1, [.int csh, .int cde, .int csp])), (aL5, .inr (7, [.ref aL6, .ref aL8, .ref aL10, .int rco, .int rmo])), (aL6, .inr (8, [.ref aL7])), (aL7, .inl (G.2.1, 80, .inl rd)), (aL8, .inr (8, [.ref aL9])), (aL9, .inl (G.2.1, 5, .inl rw)), (aL10, .inr (8, [.ref aL11])), (aL11, .inl (G.2.1, 5, .inl rp)), (aL12, .inr (0, [.int apa, .int awo, .int ash, .int aja, .int abu])), (aE0, .inr (8, [.ref aE1])), (aE1, .inl (G.2.1, 16, .inl le_0))]) (some (.long r_0)) := by
  refine wr_of (by decide) (Nat.le_of_ble_eq_true rfl) ?_
  intro p e s m args below meth c ls A hx hb hr hml hown hlk hA hZ hP hD hS hA0 hin hl
  have hP : va_P G.1 vwCl [(a0, .inr (9, [.ref aL0, .ref aH0, .ref aT0, .ref aW0, .ref aE0])), (aL0, .inr (4, [.ref aL1, .ref aL3, .ref aL4, .ref aL5, .ref aL12, .int ltol, .int lchi, .int ljam])), (aL1, .inr (6, [.ref aL2, .int mch])), (aL2, .inl (G.2.1, 48, .inl md)), (aL3, .inr (2, [.int fra, .int fwe, .int fof, .int fsi])), (aL4, .inr (1, [.int csh, .int cde, .int csp])), (aL5, .inr (7, [.ref aL6, .ref aL8, .ref aL10, .int rco, .int rmo])), (aL6, .inr (8, [.ref aL7])), (aL7, .inl (G.2.1, 80, .inl rd)), (aL8, .inr (8, [.ref aL9])), (aL9, .inl (G.2.1, 5, .inl rw)), (aL10, .inr (8, [.ref aL11])), (aL11, .inl (G.2.1, 5, .inl rp)), (aL12, .inr (0, [.int apa, .int awo, .int ash, .int aja, .int abu])), (aE0, .inr (8, [.ref aE1])), (aE1, .inl (G.2.1, 16, .inl le))] s.heap := hP
  replace hown : s.vm.findClass RX9 = some m.cls := hown
  replace hl : lv_has ls 6 [(0, .ref a0), (1, .long i1)] := hl
  unfold fX9_hashOfProspects at hf
  refine lv_aload_n hx hb dX9_hashOfProspects_0 rfl (lv_at hl 0 rfl) ?_
  refine gf_X9_10 hx hb hown hA hP 0 rfl rfl dX9_hashOfProspects_1 ?_
  refine lv_aload_n hx hb dX9_hashOfProspects_4 rfl (lv_at hl 0 rfl) ?_
  refine gf_X9_10 hx hb hown hA hP 0 rfl rfl dX9_hashOfProspects_5 ?_
  refine gf_X9_133 hx hb hown hA hP 1 rfl rfl dX9_hashOfProspects_8 ?_
  refine gf_X9_152 hx hb hown hA hP 6 rfl rfl dX9_hashOfProspects_11 ?_
  obtain ⟨r_1, q_2, hf⟩ := obd hf
  refine ro_v (n := 1) (As := [.int rmo]) (q0 := 0) hx hb hml hown hA (kX4_mostAbove l G aL0 aL1 aL2 aL3 aL4 aL5 aL6 aL7 aL8 aL9 aL10 aL11 aL12 md mch fra fwe fof fsi csh cde csp rd rw rp rco rmo apa awo ash aja abu ltol lchi ljam rmo r_1 q_2) g_X9_178 gd_X4_mostAbove ⟨(Nat.le_of_ble_eq_true rfl), (Nat.le_of_ble_eq_true rfl)⟩ (hZ.at hS) (hP.sub [1, 2, 3, 4, 5, 6, 7, 8, 9, 10, 11, 12, 13] rfl) rfl rfl rfl hl.1 (Nat.le_of_ble_eq_true rfl) ⟨(Nat.le_of_ble_eq_true rfl), (Nat.le_of_ble_eq_true rfl)⟩ dX9_hashOfProspects_14 ?_
  refine W.eq (g2 := F0 m 17 ls [.int r_1]) rfl ?_
  refine lv_istore_n (lv' := [(3, .int r_1), (0, .ref a0), (1, .long i1)]) hx hb dX9_hashOfProspects_17 rfl hl (by decide) rfl (fun ls hl => ?_)
  refine lv_lload_n hx hb dX9_hashOfProspects_18 rfl (lv_at hl 2 rfl) ?_
  refine lv_iload_n hx hb dX9_hashOfProspects_19 rfl (lv_at hl 0 rfl) ?_
  refine lv_if_ne (tgt := 27) hx hb dX9_hashOfProspects_20 (by decide) (fun c_3 => ?_) (fun c_3 => ?_)
  · replace hf := ifn c_3 hf
    refine lv_lconst (v := 0) hx hb dX9_hashOfProspects_27 (by decide) ?_
    obtain ⟨r_4, q_5, hf⟩ := obd hf
    refine ro_s (n := 2) (As := [.long i1, .long 0]) hx hb hml hown hA (kX9_mixed l G i1 0 r_4 q_5) g_X9_319 gd_X9_mixed ⟨(Nat.le_of_ble_eq_true rfl), (Nat.le_of_ble_eq_true rfl)⟩ (hZ.at hS) (fun _ _ h => by simp at h) rfl hl.1 (Nat.le_of_ble_eq_true rfl) ⟨(Nat.le_of_ble_eq_true rfl), (Nat.le_of_ble_eq_true rfl)⟩ dX9_hashOfProspects_28 ?_
    refine W.eq (g2 := F0 m 31 ls [.long r_4]) rfl ?_
    refine lv_lstore (lv' := [(4, .long r_4), (3, .int r_1), (0, .ref a0), (1, .long i1)]) hx hb dX9_hashOfProspects_31 hl (by decide) rfl (fun ls hl => ?_)
    refine lv_lload hx hb dX9_hashOfProspects_33 (lv_at hl 0 rfl) ?_
    refine lv_aload_n hx hb dX9_hashOfProspects_35 rfl (lv_at hl 2 rfl) ?_
    refine gf_X9_10 hx hb hown hA hP 0 rfl rfl dX9_hashOfProspects_36 ?_
    refine gf_X9_95 hx hb hown hA hP 1 rfl rfl dX9_hashOfProspects_39 ?_
    refine gf_X9_99 hx hb hown hA hP 5 rfl rfl dX9_hashOfProspects_42 ?_
    refine lv_aload_n hx hb dX9_hashOfProspects_45 rfl (lv_at hl 2 rfl) ?_
    refine gf_X9_10 hx hb hown hA hP 0 rfl rfl dX9_hashOfProspects_46 ?_
    obtain ⟨r_6, q_7, hf⟩ := obd hf
    refine ro_v (n := 0) (As := []) (q0 := 0) hx hb hml hown hA (kX4_blunting l G aL0 aL1 aL2 aL3 aL4 aL5 aL6 aL7 aL8 aL9 aL10 aL11 aL12 md mch fra fwe fof fsi csh cde csp rd rw rp rco rmo apa awo ash aja abu ltol lchi ljam r_6 q_7) g_X9_298 gd_X4_blunting ⟨(Nat.le_of_ble_eq_true rfl), (Nat.le_of_ble_eq_true rfl)⟩ (hZ.at hS) (hP.sub [1, 2, 3, 4, 5, 6, 7, 8, 9, 10, 11, 12, 13] rfl) rfl rfl rfl hl.1 (Nat.le_of_ble_eq_true rfl) ⟨(Nat.le_of_ble_eq_true rfl), (Nat.le_of_ble_eq_true rfl)⟩ dX9_hashOfProspects_49 ?_
    refine W.eq (g2 := F0 m 52 ls [.int r_6, .int csh, .long r_4]) rfl ?_
    obtain ⟨r_8, q_9, hf⟩ := obd hf
    refine ro_s (n := 2) (As := [.int csh, .int r_6]) hx hb hml hown hA (kX9_dividedUp l G csh r_6 r_8 q_9) g_X9_295 gd_X9_dividedUp ⟨(Nat.le_of_ble_eq_true rfl), (Nat.le_of_ble_eq_true rfl)⟩ (hZ.at hS) (fun _ _ h => by simp at h) rfl hl.1 (Nat.le_of_ble_eq_true rfl) ⟨(Nat.le_of_ble_eq_true rfl), (Nat.le_of_ble_eq_true rfl)⟩ dX9_hashOfProspects_52 ?_
    refine W.eq (g2 := F0 m 55 ls [.int r_8, .long r_4]) rfl ?_
    refine lv_i2l (v := r_8.toInt64) hx hb dX9_hashOfProspects_55 rfl ?_
    obtain ⟨r_10, q_11, hf⟩ := obd hf
    refine ro_s (n := 2) (As := [.long r_4, .long r_8.toInt64]) hx hb hml hown hA (kX9_mixed l G r_4 r_8.toInt64 r_10 q_11) g_X9_319 gd_X9_mixed ⟨(Nat.le_of_ble_eq_true rfl), (Nat.le_of_ble_eq_true rfl)⟩ (hZ.at hS) (fun _ _ h => by simp at h) rfl hl.1 (Nat.le_of_ble_eq_true rfl) ⟨(Nat.le_of_ble_eq_true rfl), (Nat.le_of_ble_eq_true rfl)⟩ dX9_hashOfProspects_56 ?_
    refine W.eq (g2 := F0 m 59 ls [.long r_10]) rfl ?_
    refine lv_lstore (lv' := [(4, .long r_10), (3, .int r_1), (0, .ref a0), (1, .long i1)]) hx hb dX9_hashOfProspects_59 hl (by decide) rfl (fun ls hl => ?_)
    refine lv_aload_n hx hb dX9_hashOfProspects_61 rfl (lv_at hl 2 rfl) ?_
    refine gf_X9_10 hx hb hown hA hP 0 rfl rfl dX9_hashOfProspects_62 ?_
    refine gf_X9_95 hx hb hown hA hP 1 rfl rfl dX9_hashOfProspects_65 ?_
    obtain ⟨r_12, q_13, hf⟩ := obd hf
    refine ro_v (n := 0) (As := []) (q0 := 0) hx hb hml hown hA (kX1_isSharp l G aL4 csh cde csp r_12 q_13) g_X9_289 gd_X1_isSharp ⟨(Nat.le_of_ble_eq_true rfl), (Nat.le_of_ble_eq_true rfl)⟩ (hZ.at hS) (hP.sub [5] rfl) rfl rfl rfl hl.1 (Nat.le_of_ble_eq_true rfl) ⟨(Nat.le_of_ble_eq_true rfl), (Nat.le_of_ble_eq_true rfl)⟩ dX9_hashOfProspects_68 ?_
    refine W.eq (g2 := F0 m 71 ls [.int r_12]) rfl ?_
    refine lv_if_eq (tgt := 108) hx hb dX9_hashOfProspects_71 (by decide) (fun c_14 => ?_) (fun c_14 => ?_)
    · replace hf := ifp c_14 hf
      refine lv_lload hx hb dX9_hashOfProspects_108 (lv_at hl 0 rfl) ?_
      cases hf
      exact wr_lret () hx hb hr hlk hP hD hS dX9_hashOfProspects_110
    · replace hf := ifn c_14 hf
      refine lv_lload hx hb dX9_hashOfProspects_74 (lv_at hl 0 rfl) ?_
      refine lv_aload_n hx hb dX9_hashOfProspects_76 rfl (lv_at hl 2 rfl) ?_
      obtain ⟨⟨r_15, le_16⟩, q_17, hf⟩ := obd hf
      dsimp only at hf
      refine wr_v (n := 0) (As := []) (q0 := 0) (wr := []) (w2 := fun _ => [(a0, .inr (9, [.ref aL0, .ref aH0, .ref aT0, .ref aW0, .ref aE0])), (aL0, .inr (4, [.ref aL1, .ref aL3, .ref aL4, .ref aL5, .ref aL12, .int ltol, .int lchi, .int ljam])), (aL1, .inr (6, [.ref aL2, .int mch])), (aL2, .inl (G.2.1, 48, .inl md)), (aL3, .inr (2, [.int fra, .int fwe, .int fof, .int fsi])), (aL4, .inr (1, [.int csh, .int cde, .int csp])), (aL5, .inr (7, [.ref aL6, .ref aL8, .ref aL10, .int rco, .int rmo])), (aL6, .inr (8, [.ref aL7])), (aL7, .inl (G.2.1, 80, .inl rd)), (aL8, .inr (8, [.ref aL9])), (aL9, .inl (G.2.1, 5, .inl rw)), (aL10, .inr (8, [.ref aL11])), (aL11, .inl (G.2.1, 5, .inl rp)), (aL12, .inr (0, [.int apa, .int awo, .int ash, .int aja, .int abu])), (aE0, .inr (8, [.ref aE1])), (aE1, .inl (G.2.1, 16, .inl le_16))]) hx hb hml hown hA (kX9_countPasses l G a0 aL0 aL1 aL2 aL3 aL4 aL5 aL6 aL7 aL8 aL9 aL10 aL11 aL12 aE0 aE1 aH0 aT0 aW0 md mch fra fwe fof fsi csh cde csp rd rw rp rco rmo apa awo ash aja abu ltol lchi ljam le r_15 le_16 q_17) g_X9_292 gd_X9_countPasses ⟨(Nat.le_of_ble_eq_true rfl), (Nat.le_of_ble_eq_true rfl)⟩ hZ hP hD hS hA0 rfl rfl [0, 1, 2, 3, 4, 5, 6, 7, 8, 9, 10, 11, 12, 13, 14, 15] [] [0, 1, 2, 3, 4, 5, 6, 7, 8, 9, 10, 11, 12, 13, 14, 15] rfl rfl rfl rfl (by decide) (fun _ => rfl) rfl rfl hl.1 (Nat.le_of_ble_eq_true rfl) ⟨(Nat.le_of_ble_eq_true rfl), (Nat.le_of_ble_eq_true rfl)⟩ dX9_hashOfProspects_77 (fun _ H locs hP hD hS => ?_)
      refine W.eq (g2 := F0 m 80 ls [.int r_15, .long r_10]) rfl ?_
      refine lv_i2l (v := r_15.toInt64) hx hb dX9_hashOfProspects_80 rfl ?_
      obtain ⟨r_18, q_19, hf⟩ := obd hf
      refine ro_s (n := 2) (As := [.long r_10, .long r_15.toInt64]) hx hb hml hown hA (kX9_mixed l G r_10 r_15.toInt64 r_18 q_19) g_X9_319 gd_X9_mixed ⟨(Nat.le_of_ble_eq_true rfl), (Nat.le_of_ble_eq_true rfl)⟩ (hZ.at hS) (fun _ _ h => by simp at h) rfl hl.1 (Nat.le_of_ble_eq_true rfl) ⟨(Nat.le_of_ble_eq_true rfl), (Nat.le_of_ble_eq_true rfl)⟩ dX9_hashOfProspects_81 ?_
      refine W.eq (g2 := F0 m 84 ls [.long r_18]) rfl ?_
      refine lv_lstore (lv' := [(4, .long r_18), (3, .int r_1), (0, .ref a0), (1, .long i1)]) hx hb dX9_hashOfProspects_84 hl (by decide) rfl (fun ls hl => ?_)
      refine lv_lload hx hb dX9_hashOfProspects_86 (lv_at hl 0 rfl) ?_
      refine lv_iload_n hx hb dX9_hashOfProspects_88 rfl (lv_at hl 1 rfl) ?_
      refine lv_aload_n hx hb dX9_hashOfProspects_89 rfl (lv_at hl 2 rfl) ?_
      refine gf_X9_10 hx hb hown hA hP 0 rfl rfl dX9_hashOfProspects_90 ?_
      refine gf_X9_95 hx hb hown hA hP 1 rfl rfl dX9_hashOfProspects_93 ?_
      obtain ⟨r_20, q_21, hf⟩ := obd hf
      refine ro_v (n := 0) (As := []) (q0 := 0) hx hb hml hown hA (kX1_reach l G aL4 csh cde csp r_20 q_21) g_X9_231 gd_X1_reach ⟨(Nat.le_of_ble_eq_true rfl), (Nat.le_of_ble_eq_true rfl)⟩ (hZ.at hS) (hP.sub [5] rfl) rfl rfl rfl hl.1 (Nat.le_of_ble_eq_true rfl) ⟨(Nat.le_of_ble_eq_true rfl), (Nat.le_of_ble_eq_true rfl)⟩ dX9_hashOfProspects_96 ?_
      refine W.eq (g2 := F0 m 99 ls [.int r_20, .int r_1, .long r_18]) rfl ?_
      obtain ⟨r_22, q_23, hf⟩ := obd hf
      refine ro_s (n := 2) (As := [.int r_1, .int r_20]) hx hb hml hown hA (kX9_dividedUp l G r_1 r_20 r_22 q_23) g_X9_295 gd_X9_dividedUp ⟨(Nat.le_of_ble_eq_true rfl), (Nat.le_of_ble_eq_true rfl)⟩ (hZ.at hS) (fun _ _ h => by simp at h) rfl hl.1 (Nat.le_of_ble_eq_true rfl) ⟨(Nat.le_of_ble_eq_true rfl), (Nat.le_of_ble_eq_true rfl)⟩ dX9_hashOfProspects_99 ?_
      refine W.eq (g2 := F0 m 102 ls [.int r_22, .long r_18]) rfl ?_
      refine lv_i2l (v := r_22.toInt64) hx hb dX9_hashOfProspects_102 rfl ?_
      obtain ⟨r_24, q_25, hf⟩ := obd hf
      refine ro_s (n := 2) (As := [.long r_18, .long r_22.toInt64]) hx hb hml hown hA (kX9_mixed l G r_18 r_22.toInt64 r_24 q_25) g_X9_319 gd_X9_mixed ⟨(Nat.le_of_ble_eq_true rfl), (Nat.le_of_ble_eq_true rfl)⟩ (hZ.at hS) (fun _ _ h => by simp at h) rfl hl.1 (Nat.le_of_ble_eq_true rfl) ⟨(Nat.le_of_ble_eq_true rfl), (Nat.le_of_ble_eq_true rfl)⟩ dX9_hashOfProspects_103 ?_
      refine W.eq (g2 := F0 m 106 ls [.long r_24]) rfl ?_
      refine lv_lstore (lv' := [(4, .long r_24), (3, .int r_1), (0, .ref a0), (1, .long i1)]) hx hb dX9_hashOfProspects_106 hl (by decide) rfl (fun ls hl => ?_)
      refine lv_lload hx hb dX9_hashOfProspects_108 (lv_at hl 0 rfl) ?_
      cases hf
      exact wr_lret () hx hb hr hlk hP hD hS dX9_hashOfProspects_110
  · replace hf := ifp c_3 hf
    refine lv_lconst (v := 1) hx hb dX9_hashOfProspects_23 (by decide) ?_
    refine lv_goto (tgt := 28) hx hb dX9_hashOfProspects_24 (by decide) ?_
    obtain ⟨r_26, q_27, hf⟩ := obd hf
    refine ro_s (n := 2) (As := [.long i1, .long 1]) hx hb hml hown hA (kX9_mixed l G i1 1 r_26 q_27) g_X9_319 gd_X9_mixed ⟨(Nat.le_of_ble_eq_true rfl), (Nat.le_of_ble_eq_true rfl)⟩ (hZ.at hS) (fun _ _ h => by simp at h) rfl hl.1 (Nat.le_of_ble_eq_true rfl) ⟨(Nat.le_of_ble_eq_true rfl), (Nat.le_of_ble_eq_true rfl)⟩ dX9_hashOfProspects_28 ?_
    refine W.eq (g2 := F0 m 31 ls [.long r_26]) rfl ?_
    refine lv_lstore (lv' := [(4, .long r_26), (3, .int r_1), (0, .ref a0), (1, .long i1)]) hx hb dX9_hashOfProspects_31 hl (by decide) rfl (fun ls hl => ?_)
    refine lv_lload hx hb dX9_hashOfProspects_33 (lv_at hl 0 rfl) ?_
    refine lv_aload_n hx hb dX9_hashOfProspects_35 rfl (lv_at hl 2 rfl) ?_
    refine gf_X9_10 hx hb hown hA hP 0 rfl rfl dX9_hashOfProspects_36 ?_
    refine gf_X9_95 hx hb hown hA hP 1 rfl rfl dX9_hashOfProspects_39 ?_
    refine gf_X9_99 hx hb hown hA hP 5 rfl rfl dX9_hashOfProspects_42 ?_
    refine lv_aload_n hx hb dX9_hashOfProspects_45 rfl (lv_at hl 2 rfl) ?_
    refine gf_X9_10 hx hb hown hA hP 0 rfl rfl dX9_hashOfProspects_46 ?_
    obtain ⟨r_28, q_29, hf⟩ := obd hf
    refine ro_v (n := 0) (As := []) (q0 := 0) hx hb hml hown hA (kX4_blunting l G aL0 aL1 aL2 aL3 aL4 aL5 aL6 aL7 aL8 aL9 aL10 aL11 aL12 md mch fra fwe fof fsi csh cde csp rd rw rp rco rmo apa awo ash aja abu ltol lchi ljam r_28 q_29) g_X9_298 gd_X4_blunting ⟨(Nat.le_of_ble_eq_true rfl), (Nat.le_of_ble_eq_true rfl)⟩ (hZ.at hS) (hP.sub [1, 2, 3, 4, 5, 6, 7, 8, 9, 10, 11, 12, 13] rfl) rfl rfl rfl hl.1 (Nat.le_of_ble_eq_true rfl) ⟨(Nat.le_of_ble_eq_true rfl), (Nat.le_of_ble_eq_true rfl)⟩ dX9_hashOfProspects_49 ?_
    refine W.eq (g2 := F0 m 52 ls [.int r_28, .int csh, .long r_26]) rfl ?_
    obtain ⟨r_30, q_31, hf⟩ := obd hf
    refine ro_s (n := 2) (As := [.int csh, .int r_28]) hx hb hml hown hA (kX9_dividedUp l G csh r_28 r_30 q_31) g_X9_295 gd_X9_dividedUp ⟨(Nat.le_of_ble_eq_true rfl), (Nat.le_of_ble_eq_true rfl)⟩ (hZ.at hS) (fun _ _ h => by simp at h) rfl hl.1 (Nat.le_of_ble_eq_true rfl) ⟨(Nat.le_of_ble_eq_true rfl), (Nat.le_of_ble_eq_true rfl)⟩ dX9_hashOfProspects_52 ?_
    refine W.eq (g2 := F0 m 55 ls [.int r_30, .long r_26]) rfl ?_
    refine lv_i2l (v := r_30.toInt64) hx hb dX9_hashOfProspects_55 rfl ?_
    obtain ⟨r_32, q_33, hf⟩ := obd hf
    refine ro_s (n := 2) (As := [.long r_26, .long r_30.toInt64]) hx hb hml hown hA (kX9_mixed l G r_26 r_30.toInt64 r_32 q_33) g_X9_319 gd_X9_mixed ⟨(Nat.le_of_ble_eq_true rfl), (Nat.le_of_ble_eq_true rfl)⟩ (hZ.at hS) (fun _ _ h => by simp at h) rfl hl.1 (Nat.le_of_ble_eq_true rfl) ⟨(Nat.le_of_ble_eq_true rfl), (Nat.le_of_ble_eq_true rfl)⟩ dX9_hashOfProspects_56 ?_
    refine W.eq (g2 := F0 m 59 ls [.long r_32]) rfl ?_
    refine lv_lstore (lv' := [(4, .long r_32), (3, .int r_1), (0, .ref a0), (1, .long i1)]) hx hb dX9_hashOfProspects_59 hl (by decide) rfl (fun ls hl => ?_)
    refine lv_aload_n hx hb dX9_hashOfProspects_61 rfl (lv_at hl 2 rfl) ?_
    refine gf_X9_10 hx hb hown hA hP 0 rfl rfl dX9_hashOfProspects_62 ?_
    refine gf_X9_95 hx hb hown hA hP 1 rfl rfl dX9_hashOfProspects_65 ?_
    obtain ⟨r_34, q_35, hf⟩ := obd hf
    refine ro_v (n := 0) (As := []) (q0 := 0) hx hb hml hown hA (kX1_isSharp l G aL4 csh cde csp r_34 q_35) g_X9_289 gd_X1_isSharp ⟨(Nat.le_of_ble_eq_true rfl), (Nat.le_of_ble_eq_true rfl)⟩ (hZ.at hS) (hP.sub [5] rfl) rfl rfl rfl hl.1 (Nat.le_of_ble_eq_true rfl) ⟨(Nat.le_of_ble_eq_true rfl), (Nat.le_of_ble_eq_true rfl)⟩ dX9_hashOfProspects_68 ?_
    refine W.eq (g2 := F0 m 71 ls [.int r_34]) rfl ?_
    refine lv_if_eq (tgt := 108) hx hb dX9_hashOfProspects_71 (by decide) (fun c_36 => ?_) (fun c_36 => ?_)
    · replace hf := ifp c_36 hf
      refine lv_lload hx hb dX9_hashOfProspects_108 (lv_at hl 0 rfl) ?_
      cases hf
      exact wr_lret () hx hb hr hlk hP hD hS dX9_hashOfProspects_110
    · replace hf := ifn c_36 hf
      refine lv_lload hx hb dX9_hashOfProspects_74 (lv_at hl 0 rfl) ?_
      refine lv_aload_n hx hb dX9_hashOfProspects_76 rfl (lv_at hl 2 rfl) ?_
      obtain ⟨⟨r_37, le_38⟩, q_39, hf⟩ := obd hf
      dsimp only at hf
      refine wr_v (n := 0) (As := []) (q0 := 0) (wr := []) (w2 := fun _ => [(a0, .inr (9, [.ref aL0, .ref aH0, .ref aT0, .ref aW0, .ref aE0])), (aL0, .inr (4, [.ref aL1, .ref aL3, .ref aL4, .ref aL5, .ref aL12, .int ltol, .int lchi, .int ljam])), (aL1, .inr (6, [.ref aL2, .int mch])), (aL2, .inl (G.2.1, 48, .inl md)), (aL3, .inr (2, [.int fra, .int fwe, .int fof, .int fsi])), (aL4, .inr (1, [.int csh, .int cde, .int csp])), (aL5, .inr (7, [.ref aL6, .ref aL8, .ref aL10, .int rco, .int rmo])), (aL6, .inr (8, [.ref aL7])), (aL7, .inl (G.2.1, 80, .inl rd)), (aL8, .inr (8, [.ref aL9])), (aL9, .inl (G.2.1, 5, .inl rw)), (aL10, .inr (8, [.ref aL11])), (aL11, .inl (G.2.1, 5, .inl rp)), (aL12, .inr (0, [.int apa, .int awo, .int ash, .int aja, .int abu])), (aE0, .inr (8, [.ref aE1])), (aE1, .inl (G.2.1, 16, .inl le_38))]) hx hb hml hown hA (kX9_countPasses l G a0 aL0 aL1 aL2 aL3 aL4 aL5 aL6 aL7 aL8 aL9 aL10 aL11 aL12 aE0 aE1 aH0 aT0 aW0 md mch fra fwe fof fsi csh cde csp rd rw rp rco rmo apa awo ash aja abu ltol lchi ljam le r_37 le_38 q_39) g_X9_292 gd_X9_countPasses ⟨(Nat.le_of_ble_eq_true rfl), (Nat.le_of_ble_eq_true rfl)⟩ hZ hP hD hS hA0 rfl rfl [0, 1, 2, 3, 4, 5, 6, 7, 8, 9, 10, 11, 12, 13, 14, 15] [] [0, 1, 2, 3, 4, 5, 6, 7, 8, 9, 10, 11, 12, 13, 14, 15] rfl rfl rfl rfl (by decide) (fun _ => rfl) rfl rfl hl.1 (Nat.le_of_ble_eq_true rfl) ⟨(Nat.le_of_ble_eq_true rfl), (Nat.le_of_ble_eq_true rfl)⟩ dX9_hashOfProspects_77 (fun _ H locs hP hD hS => ?_)
      refine W.eq (g2 := F0 m 80 ls [.int r_37, .long r_32]) rfl ?_
      refine lv_i2l (v := r_37.toInt64) hx hb dX9_hashOfProspects_80 rfl ?_
      obtain ⟨r_40, q_41, hf⟩ := obd hf
      refine ro_s (n := 2) (As := [.long r_32, .long r_37.toInt64]) hx hb hml hown hA (kX9_mixed l G r_32 r_37.toInt64 r_40 q_41) g_X9_319 gd_X9_mixed ⟨(Nat.le_of_ble_eq_true rfl), (Nat.le_of_ble_eq_true rfl)⟩ (hZ.at hS) (fun _ _ h => by simp at h) rfl hl.1 (Nat.le_of_ble_eq_true rfl) ⟨(Nat.le_of_ble_eq_true rfl), (Nat.le_of_ble_eq_true rfl)⟩ dX9_hashOfProspects_81 ?_
      refine W.eq (g2 := F0 m 84 ls [.long r_40]) rfl ?_
      refine lv_lstore (lv' := [(4, .long r_40), (3, .int r_1), (0, .ref a0), (1, .long i1)]) hx hb dX9_hashOfProspects_84 hl (by decide) rfl (fun ls hl => ?_)
      refine lv_lload hx hb dX9_hashOfProspects_86 (lv_at hl 0 rfl) ?_
      refine lv_iload_n hx hb dX9_hashOfProspects_88 rfl (lv_at hl 1 rfl) ?_
      refine lv_aload_n hx hb dX9_hashOfProspects_89 rfl (lv_at hl 2 rfl) ?_
      refine gf_X9_10 hx hb hown hA hP 0 rfl rfl dX9_hashOfProspects_90 ?_
      refine gf_X9_95 hx hb hown hA hP 1 rfl rfl dX9_hashOfProspects_93 ?_
      obtain ⟨r_42, q_43, hf⟩ := obd hf
      refine ro_v (n := 0) (As := []) (q0 := 0) hx hb hml hown hA (kX1_reach l G aL4 csh cde csp r_42 q_43) g_X9_231 gd_X1_reach ⟨(Nat.le_of_ble_eq_true rfl), (Nat.le_of_ble_eq_true rfl)⟩ (hZ.at hS) (hP.sub [5] rfl) rfl rfl rfl hl.1 (Nat.le_of_ble_eq_true rfl) ⟨(Nat.le_of_ble_eq_true rfl), (Nat.le_of_ble_eq_true rfl)⟩ dX9_hashOfProspects_96 ?_
      refine W.eq (g2 := F0 m 99 ls [.int r_42, .int r_1, .long r_40]) rfl ?_
      obtain ⟨r_44, q_45, hf⟩ := obd hf
      refine ro_s (n := 2) (As := [.int r_1, .int r_42]) hx hb hml hown hA (kX9_dividedUp l G r_1 r_42 r_44 q_45) g_X9_295 gd_X9_dividedUp ⟨(Nat.le_of_ble_eq_true rfl), (Nat.le_of_ble_eq_true rfl)⟩ (hZ.at hS) (fun _ _ h => by simp at h) rfl hl.1 (Nat.le_of_ble_eq_true rfl) ⟨(Nat.le_of_ble_eq_true rfl), (Nat.le_of_ble_eq_true rfl)⟩ dX9_hashOfProspects_99 ?_
      refine W.eq (g2 := F0 m 102 ls [.int r_44, .long r_40]) rfl ?_
      refine lv_i2l (v := r_44.toInt64) hx hb dX9_hashOfProspects_102 rfl ?_
      obtain ⟨r_46, q_47, hf⟩ := obd hf
      refine ro_s (n := 2) (As := [.long r_40, .long r_44.toInt64]) hx hb hml hown hA (kX9_mixed l G r_40 r_44.toInt64 r_46 q_47) g_X9_319 gd_X9_mixed ⟨(Nat.le_of_ble_eq_true rfl), (Nat.le_of_ble_eq_true rfl)⟩ (hZ.at hS) (fun _ _ h => by simp at h) rfl hl.1 (Nat.le_of_ble_eq_true rfl) ⟨(Nat.le_of_ble_eq_true rfl), (Nat.le_of_ble_eq_true rfl)⟩ dX9_hashOfProspects_103 ?_
      refine W.eq (g2 := F0 m 106 ls [.long r_46]) rfl ?_
      refine lv_lstore (lv' := [(4, .long r_46), (3, .int r_1), (0, .ref a0), (1, .long i1)]) hx hb dX9_hashOfProspects_106 hl (by decide) rfl (fun ls hl => ?_)
      refine lv_lload hx hb dX9_hashOfProspects_108 (lv_at hl 0 rfl) ?_
      cases hf
      exact wr_lret () hx hb hr hlk hP hD hS dX9_hashOfProspects_110
def fX3_isFilled (hsl : Nat → Option Nat) (i1 : Int32) : Option (Int32) :=
  (if i1 < 0 then some 0 else (if 2 ≤ i1 then some 0 else (if (hsl i1.toNatClampNeg).isNone = true then some 0 else some 1)))
set_option maxHeartbeats 4000000 in
set_option maxRecDepth 100000 in
theorem kX3_isFilled (l : Launch) (G : GG) (aH0 aHL aHS : Nat) (ho : Int32) (hcn : Int32) (hsl : Nat → Option Nat) (i1 : Int32) (r_0 : Int32) (hf : fX3_isFilled hsl i1 = some r_0) : Ro l G yX3_isFilled cX3_isFilled 2 (some .boolean) 0 0 [.ref aH0, .int i1] [(aH0, .inr (3, [.ref aHS, .ref aHL, .int ho, .int hcn])), (aHL, .inl (G.2.2.1, 2, .inr (.inr (.inr (.inr hsl)))))] (some (.int r_0)) := by
  refine ro_of (by decide) (Nat.le_of_ble_eq_true rfl) ?_
  intro p e s m args below meth c ls hx hb hr hml hown hlk hA hZ hP hl
  replace hown : s.vm.findClass RX3 = some m.cls := hown
  replace hl : lv_has ls 2 [(0, .ref aH0), (1, .int i1)] := hl
  unfold fX3_isFilled at hf
  refine lv_iload_n hx hb dX3_isFilled_0 rfl (lv_at hl 1 rfl) ?_
  refine lv_if_lt (tgt := 26) hx hb dX3_isFilled_1 (by decide) (fun c_1 => ?_) (fun c_1 => ?_)
  · replace hf := ifp c_1 hf
    refine lv_iconst (v := 0) hx hb dX3_isFilled_26 (by decide) ?_
    cases hf
    exact ro_zret hx hb hr hlk (Or.inl rfl) dX3_isFilled_27
  · replace hf := ifn c_1 hf
    refine lv_iload_n hx hb dX3_isFilled_4 rfl (lv_at hl 1 rfl) ?_
    refine lv_aload_n hx hb dX3_isFilled_5 rfl (lv_at hl 0 rfl) ?_
    refine gf_X3_17 hx hb hown hA hP 0 rfl rfl dX3_isFilled_6 ?_
    refine va_alen hx hb hA.K hP 1 1 rfl rfl (v := 2) rfl dX3_isFilled_9 ?_
    refine lv_icmp_ge (tgt := 26) hx hb dX3_isFilled_10 (by decide) (fun c_2 => ?_) (fun c_2 => ?_)
    · replace hf := ifp c_2 hf
      refine lv_iconst (v := 0) hx hb dX3_isFilled_26 (by decide) ?_
      cases hf
      exact ro_zret hx hb hr hlk (Or.inl rfl) dX3_isFilled_27
    · replace hf := ifn c_2 hf
      refine lv_aload_n hx hb dX3_isFilled_13 rfl (lv_at hl 0 rfl) ?_
      refine gf_X3_17 hx hb hown hA hP 0 rfl rfl dX3_isFilled_14 ?_
      refine lv_iload_n hx hb dX3_isFilled_17 rfl (lv_at hl 1 rfl) ?_
      refine va_aldq hx hb hA.K hP 1 1 rfl rfl (vin_g c_1 c_2 (by decide)) dX3_isFilled_18 ?_
      refine lv_ifnullQ (tgt := 26) hx hb dX3_isFilled_19 (by decide) (fun c_3 => ?_) (fun c_3 => ?_)
      · replace hf := ifp c_3 hf
        refine lv_iconst (v := 0) hx hb dX3_isFilled_26 (by decide) ?_
        cases hf
        exact ro_zret hx hb hr hlk (Or.inl rfl) dX3_isFilled_27
      · replace hf := ifn c_3 hf
        refine lv_iconst (v := 1) hx hb dX3_isFilled_22 (by decide) ?_
        refine lv_goto (tgt := 27) hx hb dX3_isFilled_23 (by decide) ?_
        cases hf
        exact ro_zret hx hb hr hlk (Or.inr rfl) dX3_isFilled_27
def fX9_digest_L38 (md : Nat → Int32) (mch : Int32) (fra : Int32) (fwe : Int32) (fof : Int32) (rd : Nat → Int32) (rw : Nat → Int32) (rp : Nat → Int32) (rco : Int32) (ltol : Int32)  : Nat → Int64 → Int32 → Option (Int64)
  | 0, _, _ => none
  | n9 + 1, v1, v3 => (if rco ≤ v3 then some v1 else ((fX9_hashOfPiece md mch fra fwe fof rd rw rp rco ltol v1 v3).bind fun r_11 => fX9_digest_L38 md mch fra fwe fof rd rw rp rco ltol n9 r_11 (v3 + 1)))
def fX9_digest_L110 (hsl : Nat → Option Nat)  : Nat → Int64 → Int32 → Option (Int64)
  | 0, _, _ => none
  | n9 + 1, v1, v3 => (if 2 ≤ v3 then some v1 else ((fX3_isFilled hsl v3).bind fun r_23 => (if r_23 = 0 then ((fX9_mixed v1 0).bind fun r_26 => fX9_digest_L110 hsl n9 r_26 (v3 + 1)) else ((fX9_mixed v1 1).bind fun r_28 => fX9_digest_L110 hsl n9 r_28 (v3 + 1)))))
def fX9_digest_L157 (tc : Nat → Int32) (tle : Int32)  : Nat → Int64 → Int32 → Option (Int64)
  | 0, _, _ => none
  | n9 + 1, v1, v3 => (if tle ≤ v3 then some v1 else ((fX8_at 60 tc v3).bind fun r_35 => ((fX9_mixed v1 r_35.toInt64).bind fun r_37 => fX9_digest_L157 tc tle n9 r_37 (v3 + 1))))
def fX9_digest (md : Nat → Int32) (mch : Int32) (fra : Int32) (fwe : Int32) (fof : Int32) (csh : Int32) (cde : Int32) (csp : Int32) (rd : Nat → Int32) (rw : Nat → Int32) (rp : Nat → Int32) (rco : Int32) (rmo : Int32) (apa : Int32) (awo : Int32) (ash : Int32) (aja : Int32) (abu : Int32) (ltol : Int32) (lchi : Int32) (ljam : Int32) (hcn : Int32) (hsl : Nat → Option Nat) (tc : Nat → Int32) (tle : Int32) (wa : Nat → Int32) (le : Nat → Int32)  : Option (Int64 × (Nat → Int32) × (Nat → Int32)) :=
  ((fX9_hashOfMasters md 4091).bind fun r_1 => ((fX9_hashOfSettings mch fra fwe fof csh cde csp ltol lchi ljam r_1).bind fun r_3 => ((fX9_hashOfReadings md mch fra fwe fof wa r_3).bind fun (r_5, wa_6) => ((fX9_mixed r_5 rco.toInt64).bind fun r_8 => ((fX9_digest_L38 md mch fra fwe fof rd rw rp rco ltol 2000 r_8 0).bind fun x1_13 => ((fX9_mixed x1_13 ((rmo + 1 : Int32).toInt64)).bind fun r_15 => ((fX9_hashOfAccounts apa awo ash aja abu hcn r_15).bind fun r_17 => ((fX7_isTurning rmo).bind fun r_19 => (if r_19 = 0 then ((fX9_digest_L110 hsl 2000 r_17 0).bind fun x1_30 => ((fX9_mixed x1_30 tle.toInt64).bind fun r_32 => ((fX9_digest_L157 tc tle 2000 r_32 0).bind fun x1_39 => some (x1_39, wa_6, le)))) else ((fX9_hashOfProspects md mch fra fwe fof csh cde csp rd rw rmo le r_17).bind fun (r_41, le_42) => ((fX9_digest_L110 hsl 2000 r_41 0).bind fun x1_52 => ((fX9_mixed x1_52 tle.toInt64).bind fun r_54 => ((fX9_digest_L157 tc tle 2000 r_54 0).bind fun x1_61 => some (x1_61, wa_6, le_42))))))))))))))
set_option maxHeartbeats 4000000 in
set_option maxRecDepth 100000 in
theorem kX9_digest (l : Launch) (G : GG) (a0 aL0 aL1 aL2 aL3 aL4 aL5 aL6 aL7 aL8 aL9 aL10 aL11 aL12 aH0 aHL aT0 aT1 aT2 aT3 aT4 aW0 aW1 aE0 aE1 aHS : Nat) (md : Nat → Int32) (mch : Int32) (fra : Int32) (fwe : Int32) (fof : Int32) (fsi : Int32) (csh : Int32) (cde : Int32) (csp : Int32) (rd : Nat → Int32) (rw : Nat → Int32) (rp : Nat → Int32) (rco : Int32) (rmo : Int32) (apa : Int32) (awo : Int32) (ash : Int32) (aja : Int32) (abu : Int32) (ltol : Int32) (lchi : Int32) (ljam : Int32) (ho : Int32) (hcn : Int32) (hsl : Nat → Option Nat) (tc : Nat → Int32) (tt : Nat → Int32) (tle : Int32) (tpl : Int32) (tdi : Int32) (tti : Int32) (tst : Int32) (wa : Nat → Int32) (le : Nat → Int32)  (r_0 : Int64) (wa_0 : Nat → Int32) (le_0 : Nat → Int32) (hf : fX9_digest md mch fra fwe fof csh cde csp rd rw rp rco rmo apa awo ash aja abu ltol lchi ljam hcn hsl tc tle wa le = some (r_0, wa_0, le_0)) : Wr l G yX9_digest cX9_digest 4 (some .long) 10 172 0 0 [.ref a0] [(a0, .inr (9, [.ref aL0, .ref aH0, .ref aT0, .ref aW0, .ref aE0])), (aL0, .inr (4, [.ref aL1, .ref aL3, .ref aL4, .ref aL5, .ref aL12, .int ltol, .int lchi, .int ljam])), (aL1, .inr (6, [.ref aL2, .int mch])), (aL2, .inl (G.2.1, 48, .inl md)), (aL3, .inr (2, [.int fra, .int fwe, .int fof, .int fsi])), (aL4, .inr (1, [.int csh, .int cde, .int csp])), (aL5, .inr (7, [.ref aL6, .ref aL8, .ref aL10, .int rco, .int rmo])), (aL6, .inr (8, [.ref aL7])), (aL7, .inl (G.2.1, 80, .inl rd)), (aL8, .inr (8, [.ref aL9])), (aL9, .inl (G.2.1, 5, .inl rw)), (aL10, .inr (8, [.ref aL11])), (aL11, .inl (G.2.1, 5, .inl rp)), (aL12, .inr (0, [.int apa, .int awo, .int ash, .int aja, .int abu])), (aH0, .inr (3, [.ref aHS, .ref aHL, .int ho, .int hcn])), (aHL, .inl (G.2.2.1, 2, .inr (.inr (.inr (.inr hsl))))), (aT0, .inr (5, [.ref aT1, .ref aT3, .int tle, .int tpl, .int tdi, .int tti, .int tst])), (aT1, .inr (8, [.ref aT2])), (aT2, .inl (G.2.1, 60, .inl tc)), (aT3, .inr (8, [.ref aT4])), (aT4, .inl (G.2.1, 16, .inl tt)), (aW0, .inr (8, [.ref aW1])), (aW1, .inl (G.2.1, 16, .inl wa)), (aE0, .inr (8, [.ref aE1])), (aE1, .inl (G.2.1, 16, .inl le))] (X := Unit) (fun _ => [(a0, .inr (9, [.ref aL0, .ref aH0, .ref aT0, .ref aW0, .ref aE0])), (aL0, .inr (4, [.ref aL1, .ref aL3, .ref aL4, .ref aL5, .ref aL12, .int ltol, .int lchi, .int ljam])), (aL1, .inr (6, [.ref aL2, .int mch])), (aL2, .inl (G.2.1, 48, .inl md)), (aL3, .inr (2, [.int fra, .int fwe, .int fof, .int fsi])), (aL4, .inr (1, [.int csh, .int cde, .int csp])), (aL5, .inr (7, [.ref aL6, .ref aL8, .ref aL10, .int rco, .int rmo])), (aL6, .inr (8, [.ref aL7])), (aL7, .inl (G.2.1, 80, .inl rd)), (aL8, .inr (8, [.ref aL9])), (aL9, .inl (G.2.1, 5, .inl rw)), (aL10, .inr (8, [.ref aL11])), (aL11, .inl (G.2.1, 5, .inl rp)), (aL12, .inr (0, [.int apa, .int awo, .int ash, .int aja, .int abu])), (aH0, .inr (3, [.ref aHS, .ref aHL, .int ho, .int hcn])), (aHL, .inl (G.2.2.1, 2, .inr (.inr (.inr (.inr hsl))))), (aT0, .inr (5, [.ref aT1, .ref aT3, .int tle, .int tpl, .int tdi, .int tti, .int tst])), (aT1, .inr (8, [.ref aT2])), (aT2, .inl (G.2.1, 60, .inl tc)), (aT3, .inr (8, [.ref aT4])), (aT4, .inl (G.2.1, 16, .inl tt)), (aW0, .inr (8, [.ref aW1])), (aW1, .inl (G.2.1, 16, .inl wa_0)), (aE0, .inr (8, [.ref aE1])), (aE1, .inl (G.2.1, 16, .inl le_0))]) (some (.long r_0)) := by
  refine wr_of (by decide) (Nat.le_of_ble_eq_true rfl) ?_
  intro p e s m args below meth c ls A hx hb hr hml hown hlk hA hZ hP hD hS hA0 hin hl
  have hP : va_P G.1 vwCl [(a0, .inr (9, [.ref aL0, .ref aH0, .ref aT0, .ref aW0, .ref aE0])), (aL0, .inr (4, [.ref aL1, .ref aL3, .ref aL4, .ref aL5, .ref aL12, .int ltol, .int lchi, .int ljam])), (aL1, .inr (6, [.ref aL2, .int mch])), (aL2, .inl (G.2.1, 48, .inl md)), (aL3, .inr (2, [.int fra, .int fwe, .int fof, .int fsi])), (aL4, .inr (1, [.int csh, .int cde, .int csp])), (aL5, .inr (7, [.ref aL6, .ref aL8, .ref aL10, .int rco, .int rmo])), (aL6, .inr (8, [.ref aL7])), (aL7, .inl (G.2.1, 80, .inl rd)), (aL8, .inr (8, [.ref aL9])), (aL9, .inl (G.2.1, 5, .inl rw)), (aL10, .inr (8, [.ref aL11])), (aL11, .inl (G.2.1, 5, .inl rp)), (aL12, .inr (0, [.int apa, .int awo, .int ash, .int aja, .int abu])), (aH0, .inr (3, [.ref aHS, .ref aHL, .int ho, .int hcn])), (aHL, .inl (G.2.2.1, 2, .inr (.inr (.inr (.inr hsl))))), (aT0, .inr (5, [.ref aT1, .ref aT3, .int tle, .int tpl, .int tdi, .int tti, .int tst])), (aT1, .inr (8, [.ref aT2])), (aT2, .inl (G.2.1, 60, .inl tc)), (aT3, .inr (8, [.ref aT4])), (aT4, .inl (G.2.1, 16, .inl tt)), (aW0, .inr (8, [.ref aW1])), (aW1, .inl (G.2.1, 16, .inl wa)), (aE0, .inr (8, [.ref aE1])), (aE1, .inl (G.2.1, 16, .inl le))] s.heap := hP
  replace hown : s.vm.findClass RX9 = some m.cls := hown
  replace hl : lv_has ls 4 [(0, .ref a0)] := hl
  unfold fX9_digest at hf
  refine lv_aload_n hx hb dX9_digest_0 rfl (lv_at hl 0 rfl) ?_
  refine lv_ldc2 hx hb hown (hA.hts _ wd_570) dX9_digest_1 ?_
  obtain ⟨r_1, q_2, hf⟩ := obd hf
  refine ro_v (n := 1) (As := [.long 4091]) (q0 := 0) hx hb hml hown hA (kX9_hashOfMasters l G a0 aL0 aL1 aL2 aL3 aL4 aL5 aL6 aL7 aL8 aL9 aL10 aL11 aL12 aH0 aT0 aW0 aE0 md mch fra fwe fof fsi csh cde csp rd rw rp rco rmo apa awo ash aja abu ltol lchi ljam 4091 r_1 q_2) g_X9_309 gd_X9_hashOfMasters ⟨(Nat.le_of_ble_eq_true rfl), (Nat.le_of_ble_eq_true rfl)⟩ (hZ.at hS) (hP.sub [0, 1, 2, 3, 4, 5, 6, 7, 8, 9, 10, 11, 12, 13] rfl) rfl rfl rfl hl.1 (Nat.le_of_ble_eq_true rfl) ⟨(Nat.le_of_ble_eq_true rfl), (Nat.le_of_ble_eq_true rfl)⟩ dX9_digest_4 ?_
  refine W.eq (g2 := F0 m 7 ls [.long r_1]) rfl ?_
  refine lv_lstore_n (lv' := [(1, .long r_1), (0, .ref a0)]) hx hb dX9_digest_7 rfl hl (by decide) rfl (fun ls hl => ?_)
  refine lv_aload_n hx hb dX9_digest_8 rfl (lv_at hl 1 rfl) ?_
  refine lv_lload_n hx hb dX9_digest_9 rfl (lv_at hl 0 rfl) ?_
  obtain ⟨r_3, q_4, hf⟩ := obd hf
  refine ro_v (n := 1) (As := [.long r_1]) (q0 := 0) hx hb hml hown hA (kX9_hashOfSettings l G a0 aL0 aL1 aL2 aL3 aL4 aL5 aL6 aL7 aL8 aL9 aL10 aL11 aL12 aH0 aT0 aW0 aE0 md mch fra fwe fof fsi csh cde csp rd rw rp rco rmo apa awo ash aja abu ltol lchi ljam r_1 r_3 q_4) g_X9_313 gd_X9_hashOfSettings ⟨(Nat.le_of_ble_eq_true rfl), (Nat.le_of_ble_eq_true rfl)⟩ (hZ.at hS) (hP.sub [0, 1, 2, 3, 4, 5, 6, 7, 8, 9, 10, 11, 12, 13] rfl) rfl rfl rfl hl.1 (Nat.le_of_ble_eq_true rfl) ⟨(Nat.le_of_ble_eq_true rfl), (Nat.le_of_ble_eq_true rfl)⟩ dX9_digest_10 ?_
  refine W.eq (g2 := F0 m 13 ls [.long r_3]) rfl ?_
  refine lv_lstore_n (lv' := [(1, .long r_3), (0, .ref a0)]) hx hb dX9_digest_13 rfl hl (by decide) rfl (fun ls hl => ?_)
  refine lv_aload_n hx hb dX9_digest_14 rfl (lv_at hl 1 rfl) ?_
  refine lv_lload_n hx hb dX9_digest_15 rfl (lv_at hl 0 rfl) ?_
  obtain ⟨⟨r_5, wa_6⟩, q_7, hf⟩ := obd hf
  dsimp only at hf
  refine wr_v (n := 1) (As := [.long r_3]) (q0 := 0) (wr := [(aH0, .inr (3, [.ref aHS, .ref aHL, .int ho, .int hcn])), (aHL, .inl (G.2.2.1, 2, .inr (.inr (.inr (.inr hsl))))), (aT0, .inr (5, [.ref aT1, .ref aT3, .int tle, .int tpl, .int tdi, .int tti, .int tst])), (aT1, .inr (8, [.ref aT2])), (aT2, .inl (G.2.1, 60, .inl tc)), (aT3, .inr (8, [.ref aT4])), (aT4, .inl (G.2.1, 16, .inl tt)), (aE0, .inr (8, [.ref aE1])), (aE1, .inl (G.2.1, 16, .inl le))]) (w2 := fun _ => [(a0, .inr (9, [.ref aL0, .ref aH0, .ref aT0, .ref aW0, .ref aE0])), (aL0, .inr (4, [.ref aL1, .ref aL3, .ref aL4, .ref aL5, .ref aL12, .int ltol, .int lchi, .int ljam])), (aL1, .inr (6, [.ref aL2, .int mch])), (aL2, .inl (G.2.1, 48, .inl md)), (aL3, .inr (2, [.int fra, .int fwe, .int fof, .int fsi])), (aL4, .inr (1, [.int csh, .int cde, .int csp])), (aL5, .inr (7, [.ref aL6, .ref aL8, .ref aL10, .int rco, .int rmo])), (aL6, .inr (8, [.ref aL7])), (aL7, .inl (G.2.1, 80, .inl rd)), (aL8, .inr (8, [.ref aL9])), (aL9, .inl (G.2.1, 5, .inl rw)), (aL10, .inr (8, [.ref aL11])), (aL11, .inl (G.2.1, 5, .inl rp)), (aL12, .inr (0, [.int apa, .int awo, .int ash, .int aja, .int abu])), (aH0, .inr (3, [.ref aHS, .ref aHL, .int ho, .int hcn])), (aHL, .inl (G.2.2.1, 2, .inr (.inr (.inr (.inr hsl))))), (aT0, .inr (5, [.ref aT1, .ref aT3, .int tle, .int tpl, .int tdi, .int tti, .int tst])), (aT1, .inr (8, [.ref aT2])), (aT2, .inl (G.2.1, 60, .inl tc)), (aT3, .inr (8, [.ref aT4])), (aT4, .inl (G.2.1, 16, .inl tt)), (aW0, .inr (8, [.ref aW1])), (aW1, .inl (G.2.1, 16, .inl wa_6)), (aE0, .inr (8, [.ref aE1])), (aE1, .inl (G.2.1, 16, .inl le))]) hx hb hml hown hA (kX9_hashOfReadings l G a0 aL0 aL1 aL2 aL3 aL4 aL5 aL6 aL7 aL8 aL9 aL10 aL11 aL12 aW0 aW1 aH0 aT0 aE0 md mch fra fwe fof fsi csh cde csp rd rw rp rco rmo apa awo ash aja abu ltol lchi ljam wa r_3 r_5 wa_6 q_7) g_X9_316 gd_X9_hashOfReadings ⟨(Nat.le_of_ble_eq_true rfl), (Nat.le_of_ble_eq_true rfl)⟩ hZ hP hD hS hA0 rfl rfl [0, 1, 2, 3, 4, 5, 6, 7, 8, 9, 10, 11, 12, 13, 21, 22] [14, 15, 16, 17, 18, 19, 20, 23, 24] [9, 10, 11, 12, 13, 14, 15, 16, 17, 18, 19, 20, 21, 22, 0, 1, 2, 3, 4, 5, 6, 23, 24, 7, 8] rfl rfl rfl rfl (by decide) (fun _ => rfl) rfl rfl hl.1 (Nat.le_of_ble_eq_true rfl) ⟨(Nat.le_of_ble_eq_true rfl), (Nat.le_of_ble_eq_true rfl)⟩ dX9_digest_16 (fun _ H locs hP hD hS => ?_)
  refine W.eq (g2 := F0 m 19 ls [.long r_5]) rfl ?_
  refine lv_lstore_n (lv' := [(1, .long r_5), (0, .ref a0)]) hx hb dX9_digest_19 rfl hl (by decide) rfl (fun ls hl => ?_)
  refine lv_lload_n hx hb dX9_digest_20 rfl (lv_at hl 0 rfl) ?_
  refine lv_aload_n hx hb dX9_digest_21 rfl (lv_at hl 1 rfl) ?_
  refine gf_X9_10 hx hb hown hA hP 0 rfl rfl dX9_digest_22 ?_
  refine gf_X9_133 hx hb hown hA hP 1 rfl rfl dX9_digest_25 ?_
  refine gf_X9_137 hx hb hown hA hP 6 rfl rfl dX9_digest_28 ?_
  refine lv_i2l (v := rco.toInt64) hx hb dX9_digest_31 rfl ?_
  obtain ⟨r_8, q_9, hf⟩ := obd hf
  refine ro_s (n := 2) (As := [.long r_5, .long rco.toInt64]) hx hb hml hown hA (kX9_mixed l G r_5 rco.toInt64 r_8 q_9) g_X9_319 gd_X9_mixed ⟨(Nat.le_of_ble_eq_true rfl), (Nat.le_of_ble_eq_true rfl)⟩ (hZ.at hS) (fun _ _ h => by simp at h) rfl hl.1 (Nat.le_of_ble_eq_true rfl) ⟨(Nat.le_of_ble_eq_true rfl), (Nat.le_of_ble_eq_true rfl)⟩ dX9_digest_32 ?_
  refine W.eq (g2 := F0 m 35 ls [.long r_8]) rfl ?_
  refine lv_lstore_n (lv' := [(1, .long r_8), (0, .ref a0)]) hx hb dX9_digest_35 rfl hl (by decide) rfl (fun ls hl => ?_)
  refine lv_iconst (v := 0) hx hb dX9_digest_36 (by decide) ?_
  refine lv_istore_n (lv' := [(3, .int 0), (1, .long r_8), (0, .ref a0)]) hx hb dX9_digest_37 rfl hl (by decide) rfl (fun ls hl => ?_)
  have lp38 : ∀  (wa : Nat → Int32) (le : Nat → Int32) (n : Nat) (v1 : Int64) (v3 : Int32)  (x1_13 : Int64) (Q : State → Prop), fX9_digest_L38 md mch fra fwe fof rd rw rp rco ltol n v1 v3 = some x1_13 → ∀ (H : Heap) (locs : List Loc), va_P G.1 vwCl [(a0, .inr (9, [.ref aL0, .ref aH0, .ref aT0, .ref aW0, .ref aE0])), (aL0, .inr (4, [.ref aL1, .ref aL3, .ref aL4, .ref aL5, .ref aL12, .int ltol, .int lchi, .int ljam])), (aL1, .inr (6, [.ref aL2, .int mch])), (aL2, .inl (G.2.1, 48, .inl md)), (aL3, .inr (2, [.int fra, .int fwe, .int fof, .int fsi])), (aL4, .inr (1, [.int csh, .int cde, .int csp])), (aL5, .inr (7, [.ref aL6, .ref aL8, .ref aL10, .int rco, .int rmo])), (aL6, .inr (8, [.ref aL7])), (aL7, .inl (G.2.1, 80, .inl rd)), (aL8, .inr (8, [.ref aL9])), (aL9, .inl (G.2.1, 5, .inl rw)), (aL10, .inr (8, [.ref aL11])), (aL11, .inl (G.2.1, 5, .inl rp)), (aL12, .inr (0, [.int apa, .int awo, .int ash, .int aja, .int abu])), (aH0, .inr (3, [.ref aHS, .ref aHL, .int ho, .int hcn])), (aHL, .inl (G.2.2.1, 2, .inr (.inr (.inr (.inr hsl))))), (aT0, .inr (5, [.ref aT1, .ref aT3, .int tle, .int tpl, .int tdi, .int tti, .int tst])), (aT1, .inr (8, [.ref aT2])), (aT2, .inl (G.2.1, 60, .inl tc)), (aT3, .inr (8, [.ref aT4])), (aT4, .inl (G.2.1, 16, .inl tt)), (aW0, .inr (8, [.ref aW1])), (aW1, .inl (G.2.1, 16, .inl wa)), (aE0, .inr (8, [.ref aE1])), (aE1, .inl (G.2.1, 16, .inl le))] H → va_D A [(a0, .inr (9, [.ref aL0, .ref aH0, .ref aT0, .ref aW0, .ref aE0])), (aL0, .inr (4, [.ref aL1, .ref aL3, .ref aL4, .ref aL5, .ref aL12, .int ltol, .int lchi, .int ljam])), (aL1, .inr (6, [.ref aL2, .int mch])), (aL2, .inl (G.2.1, 48, .inl md)), (aL3, .inr (2, [.int fra, .int fwe, .int fof, .int fsi])), (aL4, .inr (1, [.int csh, .int cde, .int csp])), (aL5, .inr (7, [.ref aL6, .ref aL8, .ref aL10, .int rco, .int rmo])), (aL6, .inr (8, [.ref aL7])), (aL7, .inl (G.2.1, 80, .inl rd)), (aL8, .inr (8, [.ref aL9])), (aL9, .inl (G.2.1, 5, .inl rw)), (aL10, .inr (8, [.ref aL11])), (aL11, .inl (G.2.1, 5, .inl rp)), (aL12, .inr (0, [.int apa, .int awo, .int ash, .int aja, .int abu])), (aH0, .inr (3, [.ref aHS, .ref aHL, .int ho, .int hcn])), (aHL, .inl (G.2.2.1, 2, .inr (.inr (.inr (.inr hsl))))), (aT0, .inr (5, [.ref aT1, .ref aT3, .int tle, .int tpl, .int tdi, .int tti, .int tst])), (aT1, .inr (8, [.ref aT2])), (aT2, .inl (G.2.1, 60, .inl tc)), (aT3, .inr (8, [.ref aT4])), (aT4, .inl (G.2.1, 16, .inl tt)), (aW0, .inr (8, [.ref aW1])), (aW1, .inl (G.2.1, 16, .inl wa)), (aE0, .inr (8, [.ref aE1])), (aE1, .inl (G.2.1, 16, .inl le))] → va_S A s.heap H locs → ∀ (ls : Array Slot), lv_has ls 4 [(0, .ref a0), (1, .long v1), (3, .int v3)] → (∀ (H : Heap) (locs : List Loc) (ls : Array Slot), va_P G.1 vwCl [(a0, .inr (9, [.ref aL0, .ref aH0, .ref aT0, .ref aW0, .ref aE0])), (aL0, .inr (4, [.ref aL1, .ref aL3, .ref aL4, .ref aL5, .ref aL12, .int ltol, .int lchi, .int ljam])), (aL1, .inr (6, [.ref aL2, .int mch])), (aL2, .inl (G.2.1, 48, .inl md)), (aL3, .inr (2, [.int fra, .int fwe, .int fof, .int fsi])), (aL4, .inr (1, [.int csh, .int cde, .int csp])), (aL5, .inr (7, [.ref aL6, .ref aL8, .ref aL10, .int rco, .int rmo])), (aL6, .inr (8, [.ref aL7])), (aL7, .inl (G.2.1, 80, .inl rd)), (aL8, .inr (8, [.ref aL9])), (aL9, .inl (G.2.1, 5, .inl rw)), (aL10, .inr (8, [.ref aL11])), (aL11, .inl (G.2.1, 5, .inl rp)), (aL12, .inr (0, [.int apa, .int awo, .int ash, .int aja, .int abu])), (aH0, .inr (3, [.ref aHS, .ref aHL, .int ho, .int hcn])), (aHL, .inl (G.2.2.1, 2, .inr (.inr (.inr (.inr hsl))))), (aT0, .inr (5, [.ref aT1, .ref aT3, .int tle, .int tpl, .int tdi, .int tti, .int tst])), (aT1, .inr (8, [.ref aT2])), (aT2, .inl (G.2.1, 60, .inl tc)), (aT3, .inr (8, [.ref aT4])), (aT4, .inl (G.2.1, 16, .inl tt)), (aW0, .inr (8, [.ref aW1])), (aW1, .inl (G.2.1, 16, .inl wa)), (aE0, .inr (8, [.ref aE1])), (aE1, .inl (G.2.1, 16, .inl le))] H → va_D A [(a0, .inr (9, [.ref aL0, .ref aH0, .ref aT0, .ref aW0, .ref aE0])), (aL0, .inr (4, [.ref aL1, .ref aL3, .ref aL4, .ref aL5, .ref aL12, .int ltol, .int lchi, .int ljam])), (aL1, .inr (6, [.ref aL2, .int mch])), (aL2, .inl (G.2.1, 48, .inl md)), (aL3, .inr (2, [.int fra, .int fwe, .int fof, .int fsi])), (aL4, .inr (1, [.int csh, .int cde, .int csp])), (aL5, .inr (7, [.ref aL6, .ref aL8, .ref aL10, .int rco, .int rmo])), (aL6, .inr (8, [.ref aL7])), (aL7, .inl (G.2.1, 80, .inl rd)), (aL8, .inr (8, [.ref aL9])), (aL9, .inl (G.2.1, 5, .inl rw)), (aL10, .inr (8, [.ref aL11])), (aL11, .inl (G.2.1, 5, .inl rp)), (aL12, .inr (0, [.int apa, .int awo, .int ash, .int aja, .int abu])), (aH0, .inr (3, [.ref aHS, .ref aHL, .int ho, .int hcn])), (aHL, .inl (G.2.2.1, 2, .inr (.inr (.inr (.inr hsl))))), (aT0, .inr (5, [.ref aT1, .ref aT3, .int tle, .int tpl, .int tdi, .int tti, .int tst])), (aT1, .inr (8, [.ref aT2])), (aT2, .inl (G.2.1, 60, .inl tc)), (aT3, .inr (8, [.ref aT4])), (aT4, .inl (G.2.1, 16, .inl tt)), (aW0, .inr (8, [.ref aW1])), (aW1, .inl (G.2.1, 16, .inl wa)), (aE0, .inr (8, [.ref aE1])), (aE1, .inl (G.2.1, 16, .inl le))] → va_S A s.heap H locs → lv_has ls 4 [(0, .ref a0), (1, .long x1_13)] → W p l e { frames := 10, cells := 0, slots := 0, locals := 172 } s m args below meth c H locs 0 0 Q (F0 m 65 ls [])) → W p l e { frames := 10, cells := 0, slots := 0, locals := 172 } s m args below meth c H locs 0 0 Q (F0 m 38 ls []) := by
    intro wa le n
    induction n with
    | zero => intro v1 v3 x1_13 Q hf; rw [fX9_digest_L38] at hf; cases hf
    | succ n ih =>
      intro v1 v3 x1_13 Q hf H locs hP hD hS ls hl kk
      rw [fX9_digest_L38] at hf
      refine lv_iload_n hx hb dX9_digest_38 rfl (lv_at hl 2 rfl) ?_
      refine lv_aload_n hx hb dX9_digest_39 rfl (lv_at hl 0 rfl) ?_
      refine gf_X9_10 hx hb hown hA hP 0 rfl rfl dX9_digest_40 ?_
      refine gf_X9_133 hx hb hown hA hP 1 rfl rfl dX9_digest_43 ?_
      refine gf_X9_137 hx hb hown hA hP 6 rfl rfl dX9_digest_46 ?_
      refine lv_icmp_ge (tgt := 65) hx hb dX9_digest_49 (by decide) (fun c_10 => ?_) (fun c_10 => ?_)
      · replace hf := ifp c_10 hf
        cases hf
        exact kk _ _ ls hP hD hS (lv_sub hl [0, 1] rfl)
      · replace hf := ifn c_10 hf
        refine lv_aload_n hx hb dX9_digest_52 rfl (lv_at hl 0 rfl) ?_
        refine lv_lload_n hx hb dX9_digest_53 rfl (lv_at hl 1 rfl) ?_
        refine lv_iload_n hx hb dX9_digest_54 rfl (lv_at hl 2 rfl) ?_
        obtain ⟨r_11, q_12, hf⟩ := obd hf
        refine ro_v (n := 2) (As := [.long v1, .int v3]) (q0 := 0) hx hb hml hown hA (kX9_hashOfPiece l G a0 aL0 aL1 aL2 aL3 aL4 aL5 aL6 aL7 aL8 aL9 aL10 aL11 aL12 aH0 aT0 aW0 aE0 md mch fra fwe fof fsi csh cde csp rd rw rp rco rmo apa awo ash aja abu ltol lchi ljam v1 v3 r_11 q_12) g_X9_323 gd_X9_hashOfPiece ⟨(Nat.le_of_ble_eq_true rfl), (Nat.le_of_ble_eq_true rfl)⟩ (hZ.at hS) (hP.sub [0, 1, 2, 3, 4, 5, 6, 7, 8, 9, 10, 11, 12, 13] rfl) rfl rfl rfl hl.1 (Nat.le_of_ble_eq_true rfl) ⟨(Nat.le_of_ble_eq_true rfl), (Nat.le_of_ble_eq_true rfl)⟩ dX9_digest_55 ?_
        refine W.eq (g2 := F0 m 58 ls [.long r_11]) rfl ?_
        refine lv_lstore_n (lv' := [(1, .long r_11), (0, .ref a0), (3, .int v3)]) hx hb dX9_digest_58 rfl hl (by decide) rfl (fun ls hl => ?_)
        refine lv_iinc (v := v3 + 1) (lv' := [(3, .int (v3 + 1)), (1, .long r_11), (0, .ref a0)]) hx hb dX9_digest_59 hl (k := 2) rfl rfl (by decide) rfl (fun ls hl => ?_)
        refine lv_goto (tgt := 38) hx hb dX9_digest_62 (by decide) ?_
        exact ih _ _ _ _ hf _ _ hP hD hS ls (lv_sub hl [2, 1, 0] rfl) kk
  obtain ⟨x1_13, q_14, hf⟩ := obd hf
  refine lp38 _ _ _ _ _ _ _ q_14 _ _ hP hD hS ls (lv_sub hl [2, 1, 0] rfl) (fun H locs ls hP hD hS hl => ?_)
  refine lv_lload_n hx hb dX9_digest_65 rfl (lv_at hl 1 rfl) ?_
  refine lv_aload_n hx hb dX9_digest_66 rfl (lv_at hl 0 rfl) ?_
  refine gf_X9_10 hx hb hown hA hP 0 rfl rfl dX9_digest_67 ?_
  refine gf_X9_133 hx hb hown hA hP 1 rfl rfl dX9_digest_70 ?_
  refine gf_X9_152 hx hb hown hA hP 6 rfl rfl dX9_digest_73 ?_
  refine lv_iconst (v := 1) hx hb dX9_digest_76 (by decide) ?_
  refine lv_iadd hx hb dX9_digest_77 ?_
  refine lv_i2l (v := (rmo + 1 : Int32).toInt64) hx hb dX9_digest_78 rfl ?_
  obtain ⟨r_15, q_16, hf⟩ := obd hf
  refine ro_s (n := 2) (As := [.long x1_13, .long ((rmo + 1 : Int32).toInt64)]) hx hb hml hown hA (kX9_mixed l G x1_13 ((rmo + 1 : Int32).toInt64) r_15 q_16) g_X9_319 gd_X9_mixed ⟨(Nat.le_of_ble_eq_true rfl), (Nat.le_of_ble_eq_true rfl)⟩ (hZ.at hS) (fun _ _ h => by simp at h) rfl hl.1 (Nat.le_of_ble_eq_true rfl) ⟨(Nat.le_of_ble_eq_true rfl), (Nat.le_of_ble_eq_true rfl)⟩ dX9_digest_79 ?_
  refine W.eq (g2 := F0 m 82 ls [.long r_15]) rfl ?_
  refine lv_lstore_n (lv' := [(1, .long r_15), (0, .ref a0)]) hx hb dX9_digest_82 rfl hl (by decide) rfl (fun ls hl => ?_)
  refine lv_aload_n hx hb dX9_digest_83 rfl (lv_at hl 1 rfl) ?_
  refine lv_lload_n hx hb dX9_digest_84 rfl (lv_at hl 0 rfl) ?_
  obtain ⟨r_17, q_18, hf⟩ := obd hf
  refine ro_v (n := 1) (As := [.long r_15]) (q0 := 0) hx hb hml hown hA (kX9_hashOfAccounts l G a0 aL0 aL1 aL2 aL3 aL4 aL5 aL6 aL7 aL8 aL9 aL10 aL11 aL12 aH0 aT0 aW0 aE0 aHS aHL md mch fra fwe fof fsi csh cde csp rd rw rp rco rmo apa awo ash aja abu ltol lchi ljam ho hcn r_15 r_17 q_18) g_X9_327 gd_X9_hashOfAccounts ⟨(Nat.le_of_ble_eq_true rfl), (Nat.le_of_ble_eq_true rfl)⟩ (hZ.at hS) (hP.sub [0, 1, 2, 3, 4, 5, 6, 7, 8, 9, 10, 11, 12, 13, 14] rfl) rfl rfl rfl hl.1 (Nat.le_of_ble_eq_true rfl) ⟨(Nat.le_of_ble_eq_true rfl), (Nat.le_of_ble_eq_true rfl)⟩ dX9_digest_85 ?_
  refine W.eq (g2 := F0 m 88 ls [.long r_17]) rfl ?_
  refine lv_lstore_n (lv' := [(1, .long r_17), (0, .ref a0)]) hx hb dX9_digest_88 rfl hl (by decide) rfl (fun ls hl => ?_)
  refine lv_aload_n hx hb dX9_digest_89 rfl (lv_at hl 1 rfl) ?_
  refine gf_X9_10 hx hb hown hA hP 0 rfl rfl dX9_digest_90 ?_
  refine gf_X9_133 hx hb hown hA hP 1 rfl rfl dX9_digest_93 ?_
  obtain ⟨r_19, q_20, hf⟩ := obd hf
  refine ro_v (n := 0) (As := []) (q0 := 0) hx hb hml hown hA (kX7_isTurning l G aL5 aL6 aL7 aL8 aL9 aL10 aL11 rd rw rp rco rmo r_19 q_20) g_X9_161 gd_X7_isTurning ⟨(Nat.le_of_ble_eq_true rfl), (Nat.le_of_ble_eq_true rfl)⟩ (hZ.at hS) (hP.sub [6, 7, 8, 9, 10, 11, 12] rfl) rfl rfl rfl hl.1 (Nat.le_of_ble_eq_true rfl) ⟨(Nat.le_of_ble_eq_true rfl), (Nat.le_of_ble_eq_true rfl)⟩ dX9_digest_96 ?_
  refine W.eq (g2 := F0 m 99 ls [.int r_19]) rfl ?_
  refine lv_if_eq (tgt := 108) hx hb dX9_digest_99 (by decide) (fun c_21 => ?_) (fun c_21 => ?_)
  · replace hf := ifp c_21 hf
    refine lv_iconst (v := 0) hx hb dX9_digest_108 (by decide) ?_
    refine lv_istore_n (lv' := [(3, .int 0), (1, .long r_17), (0, .ref a0)]) hx hb dX9_digest_109 rfl hl (by decide) rfl (fun ls hl => ?_)
    have lp110 : ∀  (wa : Nat → Int32) (le : Nat → Int32) (n : Nat) (v1 : Int64) (v3 : Int32)  (x1_30 : Int64) (Q : State → Prop), fX9_digest_L110 hsl n v1 v3 = some x1_30 → ∀ (H : Heap) (locs : List Loc), va_P G.1 vwCl [(a0, .inr (9, [.ref aL0, .ref aH0, .ref aT0, .ref aW0, .ref aE0])), (aL0, .inr (4, [.ref aL1, .ref aL3, .ref aL4, .ref aL5, .ref aL12, .int ltol, .int lchi, .int ljam])), (aL1, .inr (6, [.ref aL2, .int mch])), (aL2, .inl (G.2.1, 48, .inl md)), (aL3, .inr (2, [.int fra, .int fwe, .int fof, .int fsi])), (aL4, .inr (1, [.int csh, .int cde, .int csp])), (aL5, .inr (7, [.ref aL6, .ref aL8, .ref aL10, .int rco, .int rmo])), (aL6, .inr (8, [.ref aL7])), (aL7, .inl (G.2.1, 80, .inl rd)), (aL8, .inr (8, [.ref aL9])), (aL9, .inl (G.2.1, 5, .inl rw)), (aL10, .inr (8, [.ref aL11])), (aL11, .inl (G.2.1, 5, .inl rp)), (aL12, .inr (0, [.int apa, .int awo, .int ash, .int aja, .int abu])), (aH0, .inr (3, [.ref aHS, .ref aHL, .int ho, .int hcn])), (aHL, .inl (G.2.2.1, 2, .inr (.inr (.inr (.inr hsl))))), (aT0, .inr (5, [.ref aT1, .ref aT3, .int tle, .int tpl, .int tdi, .int tti, .int tst])), (aT1, .inr (8, [.ref aT2])), (aT2, .inl (G.2.1, 60, .inl tc)), (aT3, .inr (8, [.ref aT4])), (aT4, .inl (G.2.1, 16, .inl tt)), (aW0, .inr (8, [.ref aW1])), (aW1, .inl (G.2.1, 16, .inl wa)), (aE0, .inr (8, [.ref aE1])), (aE1, .inl (G.2.1, 16, .inl le))] H → va_D A [(a0, .inr (9, [.ref aL0, .ref aH0, .ref aT0, .ref aW0, .ref aE0])), (aL0, .inr (4, [.ref aL1, .ref aL3, .ref aL4, .ref aL5, .ref aL12, .int ltol, .int lchi, .int ljam])), (aL1, .inr (6, [.ref aL2, .int mch])), (aL2, .inl (G.2.1, 48, .inl md)), (aL3, .inr (2, [.int fra, .int fwe, .int fof, .int fsi])), (aL4, .inr (1, [.int csh, .int cde, .int csp])), (aL5, .inr (7, [.ref aL6, .ref aL8, .ref aL10, .int rco, .int rmo])), (aL6, .inr (8, [.ref aL7])), (aL7, .inl (G.2.1, 80, .inl rd)), (aL8, .inr (8, [.ref aL9])), (aL9, .inl (G.2.1, 5, .inl rw)), (aL10, .inr (8, [.ref aL11])), (aL11, .inl (G.2.1, 5, .inl rp)), (aL12, .inr (0, [.int apa, .int awo, .int ash, .int aja, .int abu])), (aH0, .inr (3, [.ref aHS, .ref aHL, .int ho, .int hcn])), (aHL, .inl (G.2.2.1, 2, .inr (.inr (.inr (.inr hsl))))), (aT0, .inr (5, [.ref aT1, .ref aT3, .int tle, .int tpl, .int tdi, .int tti, .int tst])), (aT1, .inr (8, [.ref aT2])), (aT2, .inl (G.2.1, 60, .inl tc)), (aT3, .inr (8, [.ref aT4])), (aT4, .inl (G.2.1, 16, .inl tt)), (aW0, .inr (8, [.ref aW1])), (aW1, .inl (G.2.1, 16, .inl wa)), (aE0, .inr (8, [.ref aE1])), (aE1, .inl (G.2.1, 16, .inl le))] → va_S A s.heap H locs → ∀ (ls : Array Slot), lv_has ls 4 [(0, .ref a0), (1, .long v1), (3, .int v3)] → (∀ (H : Heap) (locs : List Loc) (ls : Array Slot), va_P G.1 vwCl [(a0, .inr (9, [.ref aL0, .ref aH0, .ref aT0, .ref aW0, .ref aE0])), (aL0, .inr (4, [.ref aL1, .ref aL3, .ref aL4, .ref aL5, .ref aL12, .int ltol, .int lchi, .int ljam])), (aL1, .inr (6, [.ref aL2, .int mch])), (aL2, .inl (G.2.1, 48, .inl md)), (aL3, .inr (2, [.int fra, .int fwe, .int fof, .int fsi])), (aL4, .inr (1, [.int csh, .int cde, .int csp])), (aL5, .inr (7, [.ref aL6, .ref aL8, .ref aL10, .int rco, .int rmo])), (aL6, .inr (8, [.ref aL7])), (aL7, .inl (G.2.1, 80, .inl rd)), (aL8, .inr (8, [.ref aL9])), (aL9, .inl (G.2.1, 5, .inl rw)), (aL10, .inr (8, [.ref aL11])), (aL11, .inl (G.2.1, 5, .inl rp)), (aL12, .inr (0, [.int apa, .int awo, .int ash, .int aja, .int abu])), (aH0, .inr (3, [.ref aHS, .ref aHL, .int ho, .int hcn])), (aHL, .inl (G.2.2.1, 2, .inr (.inr (.inr (.inr hsl))))), (aT0, .inr (5, [.ref aT1, .ref aT3, .int tle, .int tpl, .int tdi, .int tti, .int tst])), (aT1, .inr (8, [.ref aT2])), (aT2, .inl (G.2.1, 60, .inl tc)), (aT3, .inr (8, [.ref aT4])), (aT4, .inl (G.2.1, 16, .inl tt)), (aW0, .inr (8, [.ref aW1])), (aW1, .inl (G.2.1, 16, .inl wa)), (aE0, .inr (8, [.ref aE1])), (aE1, .inl (G.2.1, 16, .inl le))] H → va_D A [(a0, .inr (9, [.ref aL0, .ref aH0, .ref aT0, .ref aW0, .ref aE0])), (aL0, .inr (4, [.ref aL1, .ref aL3, .ref aL4, .ref aL5, .ref aL12, .int ltol, .int lchi, .int ljam])), (aL1, .inr (6, [.ref aL2, .int mch])), (aL2, .inl (G.2.1, 48, .inl md)), (aL3, .inr (2, [.int fra, .int fwe, .int fof, .int fsi])), (aL4, .inr (1, [.int csh, .int cde, .int csp])), (aL5, .inr (7, [.ref aL6, .ref aL8, .ref aL10, .int rco, .int rmo])), (aL6, .inr (8, [.ref aL7])), (aL7, .inl (G.2.1, 80, .inl rd)), (aL8, .inr (8, [.ref aL9])), (aL9, .inl (G.2.1, 5, .inl rw)), (aL10, .inr (8, [.ref aL11])), (aL11, .inl (G.2.1, 5, .inl rp)), (aL12, .inr (0, [.int apa, .int awo, .int ash, .int aja, .int abu])), (aH0, .inr (3, [.ref aHS, .ref aHL, .int ho, .int hcn])), (aHL, .inl (G.2.2.1, 2, .inr (.inr (.inr (.inr hsl))))), (aT0, .inr (5, [.ref aT1, .ref aT3, .int tle, .int tpl, .int tdi, .int tti, .int tst])), (aT1, .inr (8, [.ref aT2])), (aT2, .inl (G.2.1, 60, .inl tc)), (aT3, .inr (8, [.ref aT4])), (aT4, .inl (G.2.1, 16, .inl tt)), (aW0, .inr (8, [.ref aW1])), (aW1, .inl (G.2.1, 16, .inl wa)), (aE0, .inr (8, [.ref aE1])), (aE1, .inl (G.2.1, 16, .inl le))] → va_S A s.heap H locs → lv_has ls 4 [(0, .ref a0), (1, .long x1_30)] → W p l e { frames := 10, cells := 0, slots := 0, locals := 172 } s m args below meth c H locs 0 0 Q (F0 m 142 ls [])) → W p l e { frames := 10, cells := 0, slots := 0, locals := 172 } s m args below meth c H locs 0 0 Q (F0 m 110 ls []) := by
      intro wa le n
      induction n with
      | zero => intro v1 v3 x1_30 Q hf; rw [fX9_digest_L110] at hf; cases hf
      | succ n ih =>
        intro v1 v3 x1_30 Q hf H locs hP hD hS ls hl kk
        rw [fX9_digest_L110] at hf
        refine lv_iload_n hx hb dX9_digest_110 rfl (lv_at hl 2 rfl) ?_
        refine lv_iconst (v := 2) hx hb dX9_digest_111 (by decide) ?_
        refine lv_icmp_ge (tgt := 142) hx hb dX9_digest_112 (by decide) (fun c_22 => ?_) (fun c_22 => ?_)
        · replace hf := ifp c_22 hf
          cases hf
          exact kk _ _ ls hP hD hS (lv_sub hl [0, 1] rfl)
        · replace hf := ifn c_22 hf
          refine lv_lload_n hx hb dX9_digest_115 rfl (lv_at hl 1 rfl) ?_
          refine lv_aload_n hx hb dX9_digest_116 rfl (lv_at hl 0 rfl) ?_
          refine gf_X9_19 hx hb hown hA hP 0 rfl rfl dX9_digest_117 ?_
          refine lv_iload_n hx hb dX9_digest_120 rfl (lv_at hl 2 rfl) ?_
          obtain ⟨r_23, q_24, hf⟩ := obd hf
          refine ro_v (n := 1) (As := [.int v3]) (q0 := 0) hx hb hml hown hA (kX3_isFilled l G aH0 aHL aHS ho hcn hsl v3 r_23 q_24) g_X9_217 gd_X3_isFilled ⟨(Nat.le_of_ble_eq_true rfl), (Nat.le_of_ble_eq_true rfl)⟩ (hZ.at hS) (hP.sub [14, 15] rfl) rfl rfl rfl hl.1 (Nat.le_of_ble_eq_true rfl) ⟨(Nat.le_of_ble_eq_true rfl), (Nat.le_of_ble_eq_true rfl)⟩ dX9_digest_121 ?_
          refine W.eq (g2 := F0 m 124 ls [.int r_23, .long v1]) rfl ?_
          refine lv_if_eq (tgt := 131) hx hb dX9_digest_124 (by decide) (fun c_25 => ?_) (fun c_25 => ?_)
          · replace hf := ifp c_25 hf
            refine lv_lconst (v := 0) hx hb dX9_digest_131 (by decide) ?_
            obtain ⟨r_26, q_27, hf⟩ := obd hf
            refine ro_s (n := 2) (As := [.long v1, .long 0]) hx hb hml hown hA (kX9_mixed l G v1 0 r_26 q_27) g_X9_319 gd_X9_mixed ⟨(Nat.le_of_ble_eq_true rfl), (Nat.le_of_ble_eq_true rfl)⟩ (hZ.at hS) (fun _ _ h => by simp at h) rfl hl.1 (Nat.le_of_ble_eq_true rfl) ⟨(Nat.le_of_ble_eq_true rfl), (Nat.le_of_ble_eq_true rfl)⟩ dX9_digest_132 ?_
            refine W.eq (g2 := F0 m 135 ls [.long r_26]) rfl ?_
            refine lv_lstore_n (lv' := [(1, .long r_26), (0, .ref a0), (3, .int v3)]) hx hb dX9_digest_135 rfl hl (by decide) rfl (fun ls hl => ?_)
            refine lv_iinc (v := v3 + 1) (lv' := [(3, .int (v3 + 1)), (1, .long r_26), (0, .ref a0)]) hx hb dX9_digest_136 hl (k := 2) rfl rfl (by decide) rfl (fun ls hl => ?_)
            refine lv_goto (tgt := 110) hx hb dX9_digest_139 (by decide) ?_
            exact ih _ _ _ _ hf _ _ hP hD hS ls (lv_sub hl [2, 1, 0] rfl) kk
          · replace hf := ifn c_25 hf
            refine lv_lconst (v := 1) hx hb dX9_digest_127 (by decide) ?_
            refine lv_goto (tgt := 132) hx hb dX9_digest_128 (by decide) ?_
            obtain ⟨r_28, q_29, hf⟩ := obd hf
            refine ro_s (n := 2) (As := [.long v1, .long 1]) hx hb hml hown hA (kX9_mixed l G v1 1 r_28 q_29) g_X9_319 gd_X9_mixed ⟨(Nat.le_of_ble_eq_true rfl), (Nat.le_of_ble_eq_true rfl)⟩ (hZ.at hS) (fun _ _ h => by simp at h) rfl hl.1 (Nat.le_of_ble_eq_true rfl) ⟨(Nat.le_of_ble_eq_true rfl), (Nat.le_of_ble_eq_true rfl)⟩ dX9_digest_132 ?_
            refine W.eq (g2 := F0 m 135 ls [.long r_28]) rfl ?_
            refine lv_lstore_n (lv' := [(1, .long r_28), (0, .ref a0), (3, .int v3)]) hx hb dX9_digest_135 rfl hl (by decide) rfl (fun ls hl => ?_)
            refine lv_iinc (v := v3 + 1) (lv' := [(3, .int (v3 + 1)), (1, .long r_28), (0, .ref a0)]) hx hb dX9_digest_136 hl (k := 2) rfl rfl (by decide) rfl (fun ls hl => ?_)
            refine lv_goto (tgt := 110) hx hb dX9_digest_139 (by decide) ?_
            exact ih _ _ _ _ hf _ _ hP hD hS ls (lv_sub hl [2, 1, 0] rfl) kk
    obtain ⟨x1_30, q_31, hf⟩ := obd hf
    refine lp110 _ _ _ _ _ _ _ q_31 _ _ hP hD hS ls (lv_sub hl [2, 1, 0] rfl) (fun H locs ls hP hD hS hl => ?_)
    refine lv_lload_n hx hb dX9_digest_142 rfl (lv_at hl 1 rfl) ?_
    refine lv_aload_n hx hb dX9_digest_143 rfl (lv_at hl 0 rfl) ?_
    refine gf_X9_26 hx hb hown hA hP 0 rfl rfl dX9_digest_144 ?_
    refine gf_X9_184 hx hb hown hA hP 16 rfl rfl dX9_digest_147 ?_
    refine lv_i2l (v := tle.toInt64) hx hb dX9_digest_150 rfl ?_
    obtain ⟨r_32, q_33, hf⟩ := obd hf
    refine ro_s (n := 2) (As := [.long x1_30, .long tle.toInt64]) hx hb hml hown hA (kX9_mixed l G x1_30 tle.toInt64 r_32 q_33) g_X9_319 gd_X9_mixed ⟨(Nat.le_of_ble_eq_true rfl), (Nat.le_of_ble_eq_true rfl)⟩ (hZ.at hS) (fun _ _ h => by simp at h) rfl hl.1 (Nat.le_of_ble_eq_true rfl) ⟨(Nat.le_of_ble_eq_true rfl), (Nat.le_of_ble_eq_true rfl)⟩ dX9_digest_151 ?_
    refine W.eq (g2 := F0 m 154 ls [.long r_32]) rfl ?_
    refine lv_lstore_n (lv' := [(1, .long r_32), (0, .ref a0)]) hx hb dX9_digest_154 rfl hl (by decide) rfl (fun ls hl => ?_)
    refine lv_iconst (v := 0) hx hb dX9_digest_155 (by decide) ?_
    refine lv_istore_n (lv' := [(3, .int 0), (1, .long r_32), (0, .ref a0)]) hx hb dX9_digest_156 rfl hl (by decide) rfl (fun ls hl => ?_)
    have lp157 : ∀  (wa : Nat → Int32) (le : Nat → Int32) (n : Nat) (v1 : Int64) (v3 : Int32)  (x1_39 : Int64) (Q : State → Prop), fX9_digest_L157 tc tle n v1 v3 = some x1_39 → ∀ (H : Heap) (locs : List Loc), va_P G.1 vwCl [(a0, .inr (9, [.ref aL0, .ref aH0, .ref aT0, .ref aW0, .ref aE0])), (aL0, .inr (4, [.ref aL1, .ref aL3, .ref aL4, .ref aL5, .ref aL12, .int ltol, .int lchi, .int ljam])), (aL1, .inr (6, [.ref aL2, .int mch])), (aL2, .inl (G.2.1, 48, .inl md)), (aL3, .inr (2, [.int fra, .int fwe, .int fof, .int fsi])), (aL4, .inr (1, [.int csh, .int cde, .int csp])), (aL5, .inr (7, [.ref aL6, .ref aL8, .ref aL10, .int rco, .int rmo])), (aL6, .inr (8, [.ref aL7])), (aL7, .inl (G.2.1, 80, .inl rd)), (aL8, .inr (8, [.ref aL9])), (aL9, .inl (G.2.1, 5, .inl rw)), (aL10, .inr (8, [.ref aL11])), (aL11, .inl (G.2.1, 5, .inl rp)), (aL12, .inr (0, [.int apa, .int awo, .int ash, .int aja, .int abu])), (aH0, .inr (3, [.ref aHS, .ref aHL, .int ho, .int hcn])), (aHL, .inl (G.2.2.1, 2, .inr (.inr (.inr (.inr hsl))))), (aT0, .inr (5, [.ref aT1, .ref aT3, .int tle, .int tpl, .int tdi, .int tti, .int tst])), (aT1, .inr (8, [.ref aT2])), (aT2, .inl (G.2.1, 60, .inl tc)), (aT3, .inr (8, [.ref aT4])), (aT4, .inl (G.2.1, 16, .inl tt)), (aW0, .inr (8, [.ref aW1])), (aW1, .inl (G.2.1, 16, .inl wa)), (aE0, .inr (8, [.ref aE1])), (aE1, .inl (G.2.1, 16, .inl le))] H → va_D A [(a0, .inr (9, [.ref aL0, .ref aH0, .ref aT0, .ref aW0, .ref aE0])), (aL0, .inr (4, [.ref aL1, .ref aL3, .ref aL4, .ref aL5, .ref aL12, .int ltol, .int lchi, .int ljam])), (aL1, .inr (6, [.ref aL2, .int mch])), (aL2, .inl (G.2.1, 48, .inl md)), (aL3, .inr (2, [.int fra, .int fwe, .int fof, .int fsi])), (aL4, .inr (1, [.int csh, .int cde, .int csp])), (aL5, .inr (7, [.ref aL6, .ref aL8, .ref aL10, .int rco, .int rmo])), (aL6, .inr (8, [.ref aL7])), (aL7, .inl (G.2.1, 80, .inl rd)), (aL8, .inr (8, [.ref aL9])), (aL9, .inl (G.2.1, 5, .inl rw)), (aL10, .inr (8, [.ref aL11])), (aL11, .inl (G.2.1, 5, .inl rp)), (aL12, .inr (0, [.int apa, .int awo, .int ash, .int aja, .int abu])), (aH0, .inr (3, [.ref aHS, .ref aHL, .int ho, .int hcn])), (aHL, .inl (G.2.2.1, 2, .inr (.inr (.inr (.inr hsl))))), (aT0, .inr (5, [.ref aT1, .ref aT3, .int tle, .int tpl, .int tdi, .int tti, .int tst])), (aT1, .inr (8, [.ref aT2])), (aT2, .inl (G.2.1, 60, .inl tc)), (aT3, .inr (8, [.ref aT4])), (aT4, .inl (G.2.1, 16, .inl tt)), (aW0, .inr (8, [.ref aW1])), (aW1, .inl (G.2.1, 16, .inl wa)), (aE0, .inr (8, [.ref aE1])), (aE1, .inl (G.2.1, 16, .inl le))] → va_S A s.heap H locs → ∀ (ls : Array Slot), lv_has ls 4 [(0, .ref a0), (1, .long v1), (3, .int v3)] → (∀ (H : Heap) (locs : List Loc) (ls : Array Slot), va_P G.1 vwCl [(a0, .inr (9, [.ref aL0, .ref aH0, .ref aT0, .ref aW0, .ref aE0])), (aL0, .inr (4, [.ref aL1, .ref aL3, .ref aL4, .ref aL5, .ref aL12, .int ltol, .int lchi, .int ljam])), (aL1, .inr (6, [.ref aL2, .int mch])), (aL2, .inl (G.2.1, 48, .inl md)), (aL3, .inr (2, [.int fra, .int fwe, .int fof, .int fsi])), (aL4, .inr (1, [.int csh, .int cde, .int csp])), (aL5, .inr (7, [.ref aL6, .ref aL8, .ref aL10, .int rco, .int rmo])), (aL6, .inr (8, [.ref aL7])), (aL7, .inl (G.2.1, 80, .inl rd)), (aL8, .inr (8, [.ref aL9])), (aL9, .inl (G.2.1, 5, .inl rw)), (aL10, .inr (8, [.ref aL11])), (aL11, .inl (G.2.1, 5, .inl rp)), (aL12, .inr (0, [.int apa, .int awo, .int ash, .int aja, .int abu])), (aH0, .inr (3, [.ref aHS, .ref aHL, .int ho, .int hcn])), (aHL, .inl (G.2.2.1, 2, .inr (.inr (.inr (.inr hsl))))), (aT0, .inr (5, [.ref aT1, .ref aT3, .int tle, .int tpl, .int tdi, .int tti, .int tst])), (aT1, .inr (8, [.ref aT2])), (aT2, .inl (G.2.1, 60, .inl tc)), (aT3, .inr (8, [.ref aT4])), (aT4, .inl (G.2.1, 16, .inl tt)), (aW0, .inr (8, [.ref aW1])), (aW1, .inl (G.2.1, 16, .inl wa)), (aE0, .inr (8, [.ref aE1])), (aE1, .inl (G.2.1, 16, .inl le))] H → va_D A [(a0, .inr (9, [.ref aL0, .ref aH0, .ref aT0, .ref aW0, .ref aE0])), (aL0, .inr (4, [.ref aL1, .ref aL3, .ref aL4, .ref aL5, .ref aL12, .int ltol, .int lchi, .int ljam])), (aL1, .inr (6, [.ref aL2, .int mch])), (aL2, .inl (G.2.1, 48, .inl md)), (aL3, .inr (2, [.int fra, .int fwe, .int fof, .int fsi])), (aL4, .inr (1, [.int csh, .int cde, .int csp])), (aL5, .inr (7, [.ref aL6, .ref aL8, .ref aL10, .int rco, .int rmo])), (aL6, .inr (8, [.ref aL7])), (aL7, .inl (G.2.1, 80, .inl rd)), (aL8, .inr (8, [.ref aL9])), (aL9, .inl (G.2.1, 5, .inl rw)), (aL10, .inr (8, [.ref aL11])), (aL11, .inl (G.2.1, 5, .inl rp)), (aL12, .inr (0, [.int apa, .int awo, .int ash, .int aja, .int abu])), (aH0, .inr (3, [.ref aHS, .ref aHL, .int ho, .int hcn])), (aHL, .inl (G.2.2.1, 2, .inr (.inr (.inr (.inr hsl))))), (aT0, .inr (5, [.ref aT1, .ref aT3, .int tle, .int tpl, .int tdi, .int tti, .int tst])), (aT1, .inr (8, [.ref aT2])), (aT2, .inl (G.2.1, 60, .inl tc)), (aT3, .inr (8, [.ref aT4])), (aT4, .inl (G.2.1, 16, .inl tt)), (aW0, .inr (8, [.ref aW1])), (aW1, .inl (G.2.1, 16, .inl wa)), (aE0, .inr (8, [.ref aE1])), (aE1, .inl (G.2.1, 16, .inl le))] → va_S A s.heap H locs → lv_has ls 4 [(1, .long x1_39)] → W p l e { frames := 10, cells := 0, slots := 0, locals := 172 } s m args below meth c H locs 0 0 Q (F0 m 191 ls [])) → W p l e { frames := 10, cells := 0, slots := 0, locals := 172 } s m args below meth c H locs 0 0 Q (F0 m 157 ls []) := by
      intro wa le n
      induction n with
      | zero => intro v1 v3 x1_39 Q hf; rw [fX9_digest_L157] at hf; cases hf
      | succ n ih =>
        intro v1 v3 x1_39 Q hf H locs hP hD hS ls hl kk
        rw [fX9_digest_L157] at hf
        refine lv_iload_n hx hb dX9_digest_157 rfl (lv_at hl 2 rfl) ?_
        refine lv_aload_n hx hb dX9_digest_158 rfl (lv_at hl 0 rfl) ?_
        refine gf_X9_26 hx hb hown hA hP 0 rfl rfl dX9_digest_159 ?_
        refine gf_X9_184 hx hb hown hA hP 16 rfl rfl dX9_digest_162 ?_
        refine lv_icmp_ge (tgt := 191) hx hb dX9_digest_165 (by decide) (fun c_34 => ?_) (fun c_34 => ?_)
        · replace hf := ifp c_34 hf
          cases hf
          exact kk _ _ ls hP hD hS (lv_sub hl [1] rfl)
        · replace hf := ifn c_34 hf
          refine lv_lload_n hx hb dX9_digest_168 rfl (lv_at hl 1 rfl) ?_
          refine lv_aload_n hx hb dX9_digest_169 rfl (lv_at hl 0 rfl) ?_
          refine gf_X9_26 hx hb hown hA hP 0 rfl rfl dX9_digest_170 ?_
          refine gf_X9_333 hx hb hown hA hP 16 rfl rfl dX9_digest_173 ?_
          refine lv_iload_n hx hb dX9_digest_176 rfl (lv_at hl 2 rfl) ?_
          obtain ⟨r_35, q_36, hf⟩ := obd hf
          refine ro_v (n := 1) (As := [.int v3]) (q0 := 0) hx hb hml hown hA (kX8_at l G aT1 aT2 60 tc v3 r_35 q_36 (by decide)) g_X9_204 gd_X8_at ⟨(Nat.le_of_ble_eq_true rfl), (Nat.le_of_ble_eq_true rfl)⟩ (hZ.at hS) (hP.sub [17, 18] rfl) rfl rfl rfl hl.1 (Nat.le_of_ble_eq_true rfl) ⟨(Nat.le_of_ble_eq_true rfl), (Nat.le_of_ble_eq_true rfl)⟩ dX9_digest_177 ?_
          refine W.eq (g2 := F0 m 180 ls [.int r_35, .long v1]) rfl ?_
          refine lv_i2l (v := r_35.toInt64) hx hb dX9_digest_180 rfl ?_
          obtain ⟨r_37, q_38, hf⟩ := obd hf
          refine ro_s (n := 2) (As := [.long v1, .long r_35.toInt64]) hx hb hml hown hA (kX9_mixed l G v1 r_35.toInt64 r_37 q_38) g_X9_319 gd_X9_mixed ⟨(Nat.le_of_ble_eq_true rfl), (Nat.le_of_ble_eq_true rfl)⟩ (hZ.at hS) (fun _ _ h => by simp at h) rfl hl.1 (Nat.le_of_ble_eq_true rfl) ⟨(Nat.le_of_ble_eq_true rfl), (Nat.le_of_ble_eq_true rfl)⟩ dX9_digest_181 ?_
          refine W.eq (g2 := F0 m 184 ls [.long r_37]) rfl ?_
          refine lv_lstore_n (lv' := [(1, .long r_37), (0, .ref a0), (3, .int v3)]) hx hb dX9_digest_184 rfl hl (by decide) rfl (fun ls hl => ?_)
          refine lv_iinc (v := v3 + 1) (lv' := [(3, .int (v3 + 1)), (1, .long r_37), (0, .ref a0)]) hx hb dX9_digest_185 hl (k := 2) rfl rfl (by decide) rfl (fun ls hl => ?_)
          refine lv_goto (tgt := 157) hx hb dX9_digest_188 (by decide) ?_
          exact ih _ _ _ _ hf _ _ hP hD hS ls (lv_sub hl [2, 1, 0] rfl) kk
    obtain ⟨x1_39, q_40, hf⟩ := obd hf
    refine lp157 _ _ _ _ _ _ _ q_40 _ _ hP hD hS ls (lv_sub hl [2, 1, 0] rfl) (fun H locs ls hP hD hS hl => ?_)
    refine lv_lload_n hx hb dX9_digest_191 rfl (lv_at hl 0 rfl) ?_
    cases hf
    exact wr_lret () hx hb hr hlk hP hD hS dX9_digest_192
  · replace hf := ifn c_21 hf
    refine lv_aload_n hx hb dX9_digest_102 rfl (lv_at hl 1 rfl) ?_
    refine lv_lload_n hx hb dX9_digest_103 rfl (lv_at hl 0 rfl) ?_
    obtain ⟨⟨r_41, le_42⟩, q_43, hf⟩ := obd hf
    dsimp only at hf
    refine wr_v (n := 1) (As := [.long r_17]) (q0 := 0) (wr := [(aH0, .inr (3, [.ref aHS, .ref aHL, .int ho, .int hcn])), (aHL, .inl (G.2.2.1, 2, .inr (.inr (.inr (.inr hsl))))), (aT0, .inr (5, [.ref aT1, .ref aT3, .int tle, .int tpl, .int tdi, .int tti, .int tst])), (aT1, .inr (8, [.ref aT2])), (aT2, .inl (G.2.1, 60, .inl tc)), (aT3, .inr (8, [.ref aT4])), (aT4, .inl (G.2.1, 16, .inl tt)), (aW0, .inr (8, [.ref aW1])), (aW1, .inl (G.2.1, 16, .inl wa_6))]) (w2 := fun _ => [(a0, .inr (9, [.ref aL0, .ref aH0, .ref aT0, .ref aW0, .ref aE0])), (aL0, .inr (4, [.ref aL1, .ref aL3, .ref aL4, .ref aL5, .ref aL12, .int ltol, .int lchi, .int ljam])), (aL1, .inr (6, [.ref aL2, .int mch])), (aL2, .inl (G.2.1, 48, .inl md)), (aL3, .inr (2, [.int fra, .int fwe, .int fof, .int fsi])), (aL4, .inr (1, [.int csh, .int cde, .int csp])), (aL5, .inr (7, [.ref aL6, .ref aL8, .ref aL10, .int rco, .int rmo])), (aL6, .inr (8, [.ref aL7])), (aL7, .inl (G.2.1, 80, .inl rd)), (aL8, .inr (8, [.ref aL9])), (aL9, .inl (G.2.1, 5, .inl rw)), (aL10, .inr (8, [.ref aL11])), (aL11, .inl (G.2.1, 5, .inl rp)), (aL12, .inr (0, [.int apa, .int awo, .int ash, .int aja, .int abu])), (aH0, .inr (3, [.ref aHS, .ref aHL, .int ho, .int hcn])), (aHL, .inl (G.2.2.1, 2, .inr (.inr (.inr (.inr hsl))))), (aT0, .inr (5, [.ref aT1, .ref aT3, .int tle, .int tpl, .int tdi, .int tti, .int tst])), (aT1, .inr (8, [.ref aT2])), (aT2, .inl (G.2.1, 60, .inl tc)), (aT3, .inr (8, [.ref aT4])), (aT4, .inl (G.2.1, 16, .inl tt)), (aW0, .inr (8, [.ref aW1])), (aW1, .inl (G.2.1, 16, .inl wa_6)), (aE0, .inr (8, [.ref aE1])), (aE1, .inl (G.2.1, 16, .inl le_42))]) hx hb hml hown hA (kX9_hashOfProspects l G a0 aL0 aL1 aL2 aL3 aL4 aL5 aL6 aL7 aL8 aL9 aL10 aL11 aL12 aE0 aE1 aH0 aT0 aW0 md mch fra fwe fof fsi csh cde csp rd rw rp rco rmo apa awo ash aja abu ltol lchi ljam le r_17 r_41 le_42 q_43) g_X9_330 gd_X9_hashOfProspects ⟨(Nat.le_of_ble_eq_true rfl), (Nat.le_of_ble_eq_true rfl)⟩ hZ hP hD hS hA0 rfl rfl [0, 1, 2, 3, 4, 5, 6, 7, 8, 9, 10, 11, 12, 13, 23, 24] [14, 15, 16, 17, 18, 19, 20, 21, 22] [9, 10, 11, 12, 13, 14, 15, 16, 17, 18, 19, 20, 21, 22, 0, 1, 2, 3, 4, 5, 6, 7, 8, 23, 24] rfl rfl rfl rfl (by decide) (fun _ => rfl) rfl rfl hl.1 (Nat.le_of_ble_eq_true rfl) ⟨(Nat.le_of_ble_eq_true rfl), (Nat.le_of_ble_eq_true rfl)⟩ dX9_digest_104 (fun _ H locs hP hD hS => ?_)
    refine W.eq (g2 := F0 m 107 ls [.long r_41]) rfl ?_
    refine lv_lstore_n (lv' := [(1, .long r_41), (0, .ref a0)]) hx hb dX9_digest_107 rfl hl (by decide) rfl (fun ls hl => ?_)
    refine lv_iconst (v := 0) hx hb dX9_digest_108 (by decide) ?_
    refine lv_istore_n (lv' := [(3, .int 0), (1, .long r_41), (0, .ref a0)]) hx hb dX9_digest_109 rfl hl (by decide) rfl (fun ls hl => ?_)
    have lp110 : ∀  (wa : Nat → Int32) (le : Nat → Int32) (n : Nat) (v1 : Int64) (v3 : Int32)  (x1_52 : Int64) (Q : State → Prop), fX9_digest_L110 hsl n v1 v3 = some x1_52 → ∀ (H : Heap) (locs : List Loc), va_P G.1 vwCl [(a0, .inr (9, [.ref aL0, .ref aH0, .ref aT0, .ref aW0, .ref aE0])), (aL0, .inr (4, [.ref aL1, .ref aL3, .ref aL4, .ref aL5, .ref aL12, .int ltol, .int lchi, .int ljam])), (aL1, .inr (6, [.ref aL2, .int mch])), (aL2, .inl (G.2.1, 48, .inl md)), (aL3, .inr (2, [.int fra, .int fwe, .int fof, .int fsi])), (aL4, .inr (1, [.int csh, .int cde, .int csp])), (aL5, .inr (7, [.ref aL6, .ref aL8, .ref aL10, .int rco, .int rmo])), (aL6, .inr (8, [.ref aL7])), (aL7, .inl (G.2.1, 80, .inl rd)), (aL8, .inr (8, [.ref aL9])), (aL9, .inl (G.2.1, 5, .inl rw)), (aL10, .inr (8, [.ref aL11])), (aL11, .inl (G.2.1, 5, .inl rp)), (aL12, .inr (0, [.int apa, .int awo, .int ash, .int aja, .int abu])), (aH0, .inr (3, [.ref aHS, .ref aHL, .int ho, .int hcn])), (aHL, .inl (G.2.2.1, 2, .inr (.inr (.inr (.inr hsl))))), (aT0, .inr (5, [.ref aT1, .ref aT3, .int tle, .int tpl, .int tdi, .int tti, .int tst])), (aT1, .inr (8, [.ref aT2])), (aT2, .inl (G.2.1, 60, .inl tc)), (aT3, .inr (8, [.ref aT4])), (aT4, .inl (G.2.1, 16, .inl tt)), (aW0, .inr (8, [.ref aW1])), (aW1, .inl (G.2.1, 16, .inl wa)), (aE0, .inr (8, [.ref aE1])), (aE1, .inl (G.2.1, 16, .inl le))] H → va_D A [(a0, .inr (9, [.ref aL0, .ref aH0, .ref aT0, .ref aW0, .ref aE0])), (aL0, .inr (4, [.ref aL1, .ref aL3, .ref aL4, .ref aL5, .ref aL12, .int ltol, .int lchi, .int ljam])), (aL1, .inr (6, [.ref aL2, .int mch])), (aL2, .inl (G.2.1, 48, .inl md)), (aL3, .inr (2, [.int fra, .int fwe, .int fof, .int fsi])), (aL4, .inr (1, [.int csh, .int cde, .int csp])), (aL5, .inr (7, [.ref aL6, .ref aL8, .ref aL10, .int rco, .int rmo])), (aL6, .inr (8, [.ref aL7])), (aL7, .inl (G.2.1, 80, .inl rd)), (aL8, .inr (8, [.ref aL9])), (aL9, .inl (G.2.1, 5, .inl rw)), (aL10, .inr (8, [.ref aL11])), (aL11, .inl (G.2.1, 5, .inl rp)), (aL12, .inr (0, [.int apa, .int awo, .int ash, .int aja, .int abu])), (aH0, .inr (3, [.ref aHS, .ref aHL, .int ho, .int hcn])), (aHL, .inl (G.2.2.1, 2, .inr (.inr (.inr (.inr hsl))))), (aT0, .inr (5, [.ref aT1, .ref aT3, .int tle, .int tpl, .int tdi, .int tti, .int tst])), (aT1, .inr (8, [.ref aT2])), (aT2, .inl (G.2.1, 60, .inl tc)), (aT3, .inr (8, [.ref aT4])), (aT4, .inl (G.2.1, 16, .inl tt)), (aW0, .inr (8, [.ref aW1])), (aW1, .inl (G.2.1, 16, .inl wa)), (aE0, .inr (8, [.ref aE1])), (aE1, .inl (G.2.1, 16, .inl le))] → va_S A s.heap H locs → ∀ (ls : Array Slot), lv_has ls 4 [(0, .ref a0), (1, .long v1), (3, .int v3)] → (∀ (H : Heap) (locs : List Loc) (ls : Array Slot), va_P G.1 vwCl [(a0, .inr (9, [.ref aL0, .ref aH0, .ref aT0, .ref aW0, .ref aE0])), (aL0, .inr (4, [.ref aL1, .ref aL3, .ref aL4, .ref aL5, .ref aL12, .int ltol, .int lchi, .int ljam])), (aL1, .inr (6, [.ref aL2, .int mch])), (aL2, .inl (G.2.1, 48, .inl md)), (aL3, .inr (2, [.int fra, .int fwe, .int fof, .int fsi])), (aL4, .inr (1, [.int csh, .int cde, .int csp])), (aL5, .inr (7, [.ref aL6, .ref aL8, .ref aL10, .int rco, .int rmo])), (aL6, .inr (8, [.ref aL7])), (aL7, .inl (G.2.1, 80, .inl rd)), (aL8, .inr (8, [.ref aL9])), (aL9, .inl (G.2.1, 5, .inl rw)), (aL10, .inr (8, [.ref aL11])), (aL11, .inl (G.2.1, 5, .inl rp)), (aL12, .inr (0, [.int apa, .int awo, .int ash, .int aja, .int abu])), (aH0, .inr (3, [.ref aHS, .ref aHL, .int ho, .int hcn])), (aHL, .inl (G.2.2.1, 2, .inr (.inr (.inr (.inr hsl))))), (aT0, .inr (5, [.ref aT1, .ref aT3, .int tle, .int tpl, .int tdi, .int tti, .int tst])), (aT1, .inr (8, [.ref aT2])), (aT2, .inl (G.2.1, 60, .inl tc)), (aT3, .inr (8, [.ref aT4])), (aT4, .inl (G.2.1, 16, .inl tt)), (aW0, .inr (8, [.ref aW1])), (aW1, .inl (G.2.1, 16, .inl wa)), (aE0, .inr (8, [.ref aE1])), (aE1, .inl (G.2.1, 16, .inl le))] H → va_D A [(a0, .inr (9, [.ref aL0, .ref aH0, .ref aT0, .ref aW0, .ref aE0])), (aL0, .inr (4, [.ref aL1, .ref aL3, .ref aL4, .ref aL5, .ref aL12, .int ltol, .int lchi, .int ljam])), (aL1, .inr (6, [.ref aL2, .int mch])), (aL2, .inl (G.2.1, 48, .inl md)), (aL3, .inr (2, [.int fra, .int fwe, .int fof, .int fsi])), (aL4, .inr (1, [.int csh, .int cde, .int csp])), (aL5, .inr (7, [.ref aL6, .ref aL8, .ref aL10, .int rco, .int rmo])), (aL6, .inr (8, [.ref aL7])), (aL7, .inl (G.2.1, 80, .inl rd)), (aL8, .inr (8, [.ref aL9])), (aL9, .inl (G.2.1, 5, .inl rw)), (aL10, .inr (8, [.ref aL11])), (aL11, .inl (G.2.1, 5, .inl rp)), (aL12, .inr (0, [.int apa, .int awo, .int ash, .int aja, .int abu])), (aH0, .inr (3, [.ref aHS, .ref aHL, .int ho, .int hcn])), (aHL, .inl (G.2.2.1, 2, .inr (.inr (.inr (.inr hsl))))), (aT0, .inr (5, [.ref aT1, .ref aT3, .int tle, .int tpl, .int tdi, .int tti, .int tst])), (aT1, .inr (8, [.ref aT2])), (aT2, .inl (G.2.1, 60, .inl tc)), (aT3, .inr (8, [.ref aT4])), (aT4, .inl (G.2.1, 16, .inl tt)), (aW0, .inr (8, [.ref aW1])), (aW1, .inl (G.2.1, 16, .inl wa)), (aE0, .inr (8, [.ref aE1])), (aE1, .inl (G.2.1, 16, .inl le))] → va_S A s.heap H locs → lv_has ls 4 [(0, .ref a0), (1, .long x1_52)] → W p l e { frames := 10, cells := 0, slots := 0, locals := 172 } s m args below meth c H locs 0 0 Q (F0 m 142 ls [])) → W p l e { frames := 10, cells := 0, slots := 0, locals := 172 } s m args below meth c H locs 0 0 Q (F0 m 110 ls []) := by
      intro wa le n
      induction n with
      | zero => intro v1 v3 x1_52 Q hf; rw [fX9_digest_L110] at hf; cases hf
      | succ n ih =>
        intro v1 v3 x1_52 Q hf H locs hP hD hS ls hl kk
        rw [fX9_digest_L110] at hf
        refine lv_iload_n hx hb dX9_digest_110 rfl (lv_at hl 2 rfl) ?_
        refine lv_iconst (v := 2) hx hb dX9_digest_111 (by decide) ?_
        refine lv_icmp_ge (tgt := 142) hx hb dX9_digest_112 (by decide) (fun c_44 => ?_) (fun c_44 => ?_)
        · replace hf := ifp c_44 hf
          cases hf
          exact kk _ _ ls hP hD hS (lv_sub hl [0, 1] rfl)
        · replace hf := ifn c_44 hf
          refine lv_lload_n hx hb dX9_digest_115 rfl (lv_at hl 1 rfl) ?_
          refine lv_aload_n hx hb dX9_digest_116 rfl (lv_at hl 0 rfl) ?_
          refine gf_X9_19 hx hb hown hA hP 0 rfl rfl dX9_digest_117 ?_
          refine lv_iload_n hx hb dX9_digest_120 rfl (lv_at hl 2 rfl) ?_
          obtain ⟨r_45, q_46, hf⟩ := obd hf
          refine ro_v (n := 1) (As := [.int v3]) (q0 := 0) hx hb hml hown hA (kX3_isFilled l G aH0 aHL aHS ho hcn hsl v3 r_45 q_46) g_X9_217 gd_X3_isFilled ⟨(Nat.le_of_ble_eq_true rfl), (Nat.le_of_ble_eq_true rfl)⟩ (hZ.at hS) (hP.sub [14, 15] rfl) rfl rfl rfl hl.1 (Nat.le_of_ble_eq_true rfl) ⟨(Nat.le_of_ble_eq_true rfl), (Nat.le_of_ble_eq_true rfl)⟩ dX9_digest_121 ?_
          refine W.eq (g2 := F0 m 124 ls [.int r_45, .long v1]) rfl ?_
          refine lv_if_eq (tgt := 131) hx hb dX9_digest_124 (by decide) (fun c_47 => ?_) (fun c_47 => ?_)
          · replace hf := ifp c_47 hf
            refine lv_lconst (v := 0) hx hb dX9_digest_131 (by decide) ?_
            obtain ⟨r_48, q_49, hf⟩ := obd hf
            refine ro_s (n := 2) (As := [.long v1, .long 0]) hx hb hml hown hA (kX9_mixed l G v1 0 r_48 q_49) g_X9_319 gd_X9_mixed ⟨(Nat.le_of_ble_eq_true rfl), (Nat.le_of_ble_eq_true rfl)⟩ (hZ.at hS) (fun _ _ h => by simp at h) rfl hl.1 (Nat.le_of_ble_eq_true rfl) ⟨(Nat.le_of_ble_eq_true rfl), (Nat.le_of_ble_eq_true rfl)⟩ dX9_digest_132 ?_
            refine W.eq (g2 := F0 m 135 ls [.long r_48]) rfl ?_
            refine lv_lstore_n (lv' := [(1, .long r_48), (0, .ref a0), (3, .int v3)]) hx hb dX9_digest_135 rfl hl (by decide) rfl (fun ls hl => ?_)
            refine lv_iinc (v := v3 + 1) (lv' := [(3, .int (v3 + 1)), (1, .long r_48), (0, .ref a0)]) hx hb dX9_digest_136 hl (k := 2) rfl rfl (by decide) rfl (fun ls hl => ?_)
            refine lv_goto (tgt := 110) hx hb dX9_digest_139 (by decide) ?_
            exact ih _ _ _ _ hf _ _ hP hD hS ls (lv_sub hl [2, 1, 0] rfl) kk
          · replace hf := ifn c_47 hf
            refine lv_lconst (v := 1) hx hb dX9_digest_127 (by decide) ?_
            refine lv_goto (tgt := 132) hx hb dX9_digest_128 (by decide) ?_
            obtain ⟨r_50, q_51, hf⟩ := obd hf
            refine ro_s (n := 2) (As := [.long v1, .long 1]) hx hb hml hown hA (kX9_mixed l G v1 1 r_50 q_51) g_X9_319 gd_X9_mixed ⟨(Nat.le_of_ble_eq_true rfl), (Nat.le_of_ble_eq_true rfl)⟩ (hZ.at hS) (fun _ _ h => by simp at h) rfl hl.1 (Nat.le_of_ble_eq_true rfl) ⟨(Nat.le_of_ble_eq_true rfl), (Nat.le_of_ble_eq_true rfl)⟩ dX9_digest_132 ?_
            refine W.eq (g2 := F0 m 135 ls [.long r_50]) rfl ?_
            refine lv_lstore_n (lv' := [(1, .long r_50), (0, .ref a0), (3, .int v3)]) hx hb dX9_digest_135 rfl hl (by decide) rfl (fun ls hl => ?_)
            refine lv_iinc (v := v3 + 1) (lv' := [(3, .int (v3 + 1)), (1, .long r_50), (0, .ref a0)]) hx hb dX9_digest_136 hl (k := 2) rfl rfl (by decide) rfl (fun ls hl => ?_)
            refine lv_goto (tgt := 110) hx hb dX9_digest_139 (by decide) ?_
            exact ih _ _ _ _ hf _ _ hP hD hS ls (lv_sub hl [2, 1, 0] rfl) kk
    obtain ⟨x1_52, q_53, hf⟩ := obd hf
    refine lp110 _ _ _ _ _ _ _ q_53 _ _ hP hD hS ls (lv_sub hl [2, 1, 0] rfl) (fun H locs ls hP hD hS hl => ?_)
    refine lv_lload_n hx hb dX9_digest_142 rfl (lv_at hl 1 rfl) ?_
    refine lv_aload_n hx hb dX9_digest_143 rfl (lv_at hl 0 rfl) ?_
    refine gf_X9_26 hx hb hown hA hP 0 rfl rfl dX9_digest_144 ?_
    refine gf_X9_184 hx hb hown hA hP 16 rfl rfl dX9_digest_147 ?_
    refine lv_i2l (v := tle.toInt64) hx hb dX9_digest_150 rfl ?_
    obtain ⟨r_54, q_55, hf⟩ := obd hf
    refine ro_s (n := 2) (As := [.long x1_52, .long tle.toInt64]) hx hb hml hown hA (kX9_mixed l G x1_52 tle.toInt64 r_54 q_55) g_X9_319 gd_X9_mixed ⟨(Nat.le_of_ble_eq_true rfl), (Nat.le_of_ble_eq_true rfl)⟩ (hZ.at hS) (fun _ _ h => by simp at h) rfl hl.1 (Nat.le_of_ble_eq_true rfl) ⟨(Nat.le_of_ble_eq_true rfl), (Nat.le_of_ble_eq_true rfl)⟩ dX9_digest_151 ?_
    refine W.eq (g2 := F0 m 154 ls [.long r_54]) rfl ?_
    refine lv_lstore_n (lv' := [(1, .long r_54), (0, .ref a0)]) hx hb dX9_digest_154 rfl hl (by decide) rfl (fun ls hl => ?_)
    refine lv_iconst (v := 0) hx hb dX9_digest_155 (by decide) ?_
    refine lv_istore_n (lv' := [(3, .int 0), (1, .long r_54), (0, .ref a0)]) hx hb dX9_digest_156 rfl hl (by decide) rfl (fun ls hl => ?_)
    have lp157 : ∀  (wa : Nat → Int32) (le : Nat → Int32) (n : Nat) (v1 : Int64) (v3 : Int32)  (x1_61 : Int64) (Q : State → Prop), fX9_digest_L157 tc tle n v1 v3 = some x1_61 → ∀ (H : Heap) (locs : List Loc), va_P G.1 vwCl [(a0, .inr (9, [.ref aL0, .ref aH0, .ref aT0, .ref aW0, .ref aE0])), (aL0, .inr (4, [.ref aL1, .ref aL3, .ref aL4, .ref aL5, .ref aL12, .int ltol, .int lchi, .int ljam])), (aL1, .inr (6, [.ref aL2, .int mch])), (aL2, .inl (G.2.1, 48, .inl md)), (aL3, .inr (2, [.int fra, .int fwe, .int fof, .int fsi])), (aL4, .inr (1, [.int csh, .int cde, .int csp])), (aL5, .inr (7, [.ref aL6, .ref aL8, .ref aL10, .int rco, .int rmo])), (aL6, .inr (8, [.ref aL7])), (aL7, .inl (G.2.1, 80, .inl rd)), (aL8, .inr (8, [.ref aL9])), (aL9, .inl (G.2.1, 5, .inl rw)), (aL10, .inr (8, [.ref aL11])), (aL11, .inl (G.2.1, 5, .inl rp)), (aL12, .inr (0, [.int apa, .int awo, .int ash, .int aja, .int abu])), (aH0, .inr (3, [.ref aHS, .ref aHL, .int ho, .int hcn])), (aHL, .inl (G.2.2.1, 2, .inr (.inr (.inr (.inr hsl))))), (aT0, .inr (5, [.ref aT1, .ref aT3, .int tle, .int tpl, .int tdi, .int tti, .int tst])), (aT1, .inr (8, [.ref aT2])), (aT2, .inl (G.2.1, 60, .inl tc)), (aT3, .inr (8, [.ref aT4])), (aT4, .inl (G.2.1, 16, .inl tt)), (aW0, .inr (8, [.ref aW1])), (aW1, .inl (G.2.1, 16, .inl wa)), (aE0, .inr (8, [.ref aE1])), (aE1, .inl (G.2.1, 16, .inl le))] H → va_D A [(a0, .inr (9, [.ref aL0, .ref aH0, .ref aT0, .ref aW0, .ref aE0])), (aL0, .inr (4, [.ref aL1, .ref aL3, .ref aL4, .ref aL5, .ref aL12, .int ltol, .int lchi, .int ljam])), (aL1, .inr (6, [.ref aL2, .int mch])), (aL2, .inl (G.2.1, 48, .inl md)), (aL3, .inr (2, [.int fra, .int fwe, .int fof, .int fsi])), (aL4, .inr (1, [.int csh, .int cde, .int csp])), (aL5, .inr (7, [.ref aL6, .ref aL8, .ref aL10, .int rco, .int rmo])), (aL6, .inr (8, [.ref aL7])), (aL7, .inl (G.2.1, 80, .inl rd)), (aL8, .inr (8, [.ref aL9])), (aL9, .inl (G.2.1, 5, .inl rw)), (aL10, .inr (8, [.ref aL11])), (aL11, .inl (G.2.1, 5, .inl rp)), (aL12, .inr (0, [.int apa, .int awo, .int ash, .int aja, .int abu])), (aH0, .inr (3, [.ref aHS, .ref aHL, .int ho, .int hcn])), (aHL, .inl (G.2.2.1, 2, .inr (.inr (.inr (.inr hsl))))), (aT0, .inr (5, [.ref aT1, .ref aT3, .int tle, .int tpl, .int tdi, .int tti, .int tst])), (aT1, .inr (8, [.ref aT2])), (aT2, .inl (G.2.1, 60, .inl tc)), (aT3, .inr (8, [.ref aT4])), (aT4, .inl (G.2.1, 16, .inl tt)), (aW0, .inr (8, [.ref aW1])), (aW1, .inl (G.2.1, 16, .inl wa)), (aE0, .inr (8, [.ref aE1])), (aE1, .inl (G.2.1, 16, .inl le))] → va_S A s.heap H locs → ∀ (ls : Array Slot), lv_has ls 4 [(0, .ref a0), (1, .long v1), (3, .int v3)] → (∀ (H : Heap) (locs : List Loc) (ls : Array Slot), va_P G.1 vwCl [(a0, .inr (9, [.ref aL0, .ref aH0, .ref aT0, .ref aW0, .ref aE0])), (aL0, .inr (4, [.ref aL1, .ref aL3, .ref aL4, .ref aL5, .ref aL12, .int ltol, .int lchi, .int ljam])), (aL1, .inr (6, [.ref aL2, .int mch])), (aL2, .inl (G.2.1, 48, .inl md)), (aL3, .inr (2, [.int fra, .int fwe, .int fof, .int fsi])), (aL4, .inr (1, [.int csh, .int cde, .int csp])), (aL5, .inr (7, [.ref aL6, .ref aL8, .ref aL10, .int rco, .int rmo])), (aL6, .inr (8, [.ref aL7])), (aL7, .inl (G.2.1, 80, .inl rd)), (aL8, .inr (8, [.ref aL9])), (aL9, .inl (G.2.1, 5, .inl rw)), (aL10, .inr (8, [.ref aL11])), (aL11, .inl (G.2.1, 5, .inl rp)), (aL12, .inr (0, [.int apa, .int awo, .int ash, .int aja, .int abu])), (aH0, .inr (3, [.ref aHS, .ref aHL, .int ho, .int hcn])), (aHL, .inl (G.2.2.1, 2, .inr (.inr (.inr (.inr hsl))))), (aT0, .inr (5, [.ref aT1, .ref aT3, .int tle, .int tpl, .int tdi, .int tti, .int tst])), (aT1, .inr (8, [.ref aT2])), (aT2, .inl (G.2.1, 60, .inl tc)), (aT3, .inr (8, [.ref aT4])), (aT4, .inl (G.2.1, 16, .inl tt)), (aW0, .inr (8, [.ref aW1])), (aW1, .inl (G.2.1, 16, .inl wa)), (aE0, .inr (8, [.ref aE1])), (aE1, .inl (G.2.1, 16, .inl le))] H → va_D A [(a0, .inr (9, [.ref aL0, .ref aH0, .ref aT0, .ref aW0, .ref aE0])), (aL0, .inr (4, [.ref aL1, .ref aL3, .ref aL4, .ref aL5, .ref aL12, .int ltol, .int lchi, .int ljam])), (aL1, .inr (6, [.ref aL2, .int mch])), (aL2, .inl (G.2.1, 48, .inl md)), (aL3, .inr (2, [.int fra, .int fwe, .int fof, .int fsi])), (aL4, .inr (1, [.int csh, .int cde, .int csp])), (aL5, .inr (7, [.ref aL6, .ref aL8, .ref aL10, .int rco, .int rmo])), (aL6, .inr (8, [.ref aL7])), (aL7, .inl (G.2.1, 80, .inl rd)), (aL8, .inr (8, [.ref aL9])), (aL9, .inl (G.2.1, 5, .inl rw)), (aL10, .inr (8, [.ref aL11])), (aL11, .inl (G.2.1, 5, .inl rp)), (aL12, .inr (0, [.int apa, .int awo, .int ash, .int aja, .int abu])), (aH0, .inr (3, [.ref aHS, .ref aHL, .int ho, .int hcn])), (aHL, .inl (G.2.2.1, 2, .inr (.inr (.inr (.inr hsl))))), (aT0, .inr (5, [.ref aT1, .ref aT3, .int tle, .int tpl, .int tdi, .int tti, .int tst])), (aT1, .inr (8, [.ref aT2])), (aT2, .inl (G.2.1, 60, .inl tc)), (aT3, .inr (8, [.ref aT4])), (aT4, .inl (G.2.1, 16, .inl tt)), (aW0, .inr (8, [.ref aW1])), (aW1, .inl (G.2.1, 16, .inl wa)), (aE0, .inr (8, [.ref aE1])), (aE1, .inl (G.2.1, 16, .inl le))] → va_S A s.heap H locs → lv_has ls 4 [(1, .long x1_61)] → W p l e { frames := 10, cells := 0, slots := 0, locals := 172 } s m args below meth c H locs 0 0 Q (F0 m 191 ls [])) → W p l e { frames := 10, cells := 0, slots := 0, locals := 172 } s m args below meth c H locs 0 0 Q (F0 m 157 ls []) := by
      intro wa le n
      induction n with
      | zero => intro v1 v3 x1_61 Q hf; rw [fX9_digest_L157] at hf; cases hf
      | succ n ih =>
        intro v1 v3 x1_61 Q hf H locs hP hD hS ls hl kk
        rw [fX9_digest_L157] at hf
        refine lv_iload_n hx hb dX9_digest_157 rfl (lv_at hl 2 rfl) ?_
        refine lv_aload_n hx hb dX9_digest_158 rfl (lv_at hl 0 rfl) ?_
        refine gf_X9_26 hx hb hown hA hP 0 rfl rfl dX9_digest_159 ?_
        refine gf_X9_184 hx hb hown hA hP 16 rfl rfl dX9_digest_162 ?_
        refine lv_icmp_ge (tgt := 191) hx hb dX9_digest_165 (by decide) (fun c_56 => ?_) (fun c_56 => ?_)
        · replace hf := ifp c_56 hf
          cases hf
          exact kk _ _ ls hP hD hS (lv_sub hl [1] rfl)
        · replace hf := ifn c_56 hf
          refine lv_lload_n hx hb dX9_digest_168 rfl (lv_at hl 1 rfl) ?_
          refine lv_aload_n hx hb dX9_digest_169 rfl (lv_at hl 0 rfl) ?_
          refine gf_X9_26 hx hb hown hA hP 0 rfl rfl dX9_digest_170 ?_
          refine gf_X9_333 hx hb hown hA hP 16 rfl rfl dX9_digest_173 ?_
          refine lv_iload_n hx hb dX9_digest_176 rfl (lv_at hl 2 rfl) ?_
          obtain ⟨r_57, q_58, hf⟩ := obd hf
          refine ro_v (n := 1) (As := [.int v3]) (q0 := 0) hx hb hml hown hA (kX8_at l G aT1 aT2 60 tc v3 r_57 q_58 (by decide)) g_X9_204 gd_X8_at ⟨(Nat.le_of_ble_eq_true rfl), (Nat.le_of_ble_eq_true rfl)⟩ (hZ.at hS) (hP.sub [17, 18] rfl) rfl rfl rfl hl.1 (Nat.le_of_ble_eq_true rfl) ⟨(Nat.le_of_ble_eq_true rfl), (Nat.le_of_ble_eq_true rfl)⟩ dX9_digest_177 ?_
          refine W.eq (g2 := F0 m 180 ls [.int r_57, .long v1]) rfl ?_
          refine lv_i2l (v := r_57.toInt64) hx hb dX9_digest_180 rfl ?_
          obtain ⟨r_59, q_60, hf⟩ := obd hf
          refine ro_s (n := 2) (As := [.long v1, .long r_57.toInt64]) hx hb hml hown hA (kX9_mixed l G v1 r_57.toInt64 r_59 q_60) g_X9_319 gd_X9_mixed ⟨(Nat.le_of_ble_eq_true rfl), (Nat.le_of_ble_eq_true rfl)⟩ (hZ.at hS) (fun _ _ h => by simp at h) rfl hl.1 (Nat.le_of_ble_eq_true rfl) ⟨(Nat.le_of_ble_eq_true rfl), (Nat.le_of_ble_eq_true rfl)⟩ dX9_digest_181 ?_
          refine W.eq (g2 := F0 m 184 ls [.long r_59]) rfl ?_
          refine lv_lstore_n (lv' := [(1, .long r_59), (0, .ref a0), (3, .int v3)]) hx hb dX9_digest_184 rfl hl (by decide) rfl (fun ls hl => ?_)
          refine lv_iinc (v := v3 + 1) (lv' := [(3, .int (v3 + 1)), (1, .long r_59), (0, .ref a0)]) hx hb dX9_digest_185 hl (k := 2) rfl rfl (by decide) rfl (fun ls hl => ?_)
          refine lv_goto (tgt := 157) hx hb dX9_digest_188 (by decide) ?_
          exact ih _ _ _ _ hf _ _ hP hD hS ls (lv_sub hl [2, 1, 0] rfl) kk
    obtain ⟨x1_61, q_62, hf⟩ := obd hf
    refine lp157 _ _ _ _ _ _ _ q_62 _ _ hP hD hS ls (lv_sub hl [2, 1, 0] rfl) (fun H locs ls hP hD hS hl => ?_)
    refine lv_lload_n hx hb dX9_digest_191 rfl (lv_at hl 0 rfl) ?_
    cases hf
    exact wr_lret () hx hb hr hlk hP hD hS dX9_digest_192
