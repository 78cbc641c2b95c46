section ZG
variable {p : Program} {l : Launch} {e : Env} {R : Room} {s : State} {m : MethodId} {args : Array Value} {below : List Frame} {meth : Method} {c : Code} {H H0 : Heap} {locs : List Loc} {cells slots : Nat} {Q : State → Prop}
variable {pc nL : Nat} {ls : Array Slot} {rest : List Value} {A0 : Nat → Prop} {D : va_G} {kA : Nat → ClassId} {cc : ByteArray}
theorem gfX7_102 {ws : va_W} {q0 b : Nat} {fs : List Value} {v : Value} (hC : CallFix p m c cc nL s args lw_all RX7) (hK : zK D kA s) (hP : va_P D vwCl ws H) (he : ws[q0]? = some (b, .inr (1, fs))) (hv : fs[0]? = some v) (hdg : decode cc pc = .ok (.getfield 102, 3)) (kk : W p l e R s m args below meth c H locs cells slots Q (F0 m (pc + 3) ls (v :: rest))) : W p l e R s m args below meth c H locs cells slots Q (F0 m pc ls (.ref b :: rest)) := va_get hC.1 hC.2.1 hC.2.2.2.2 uin_X1 hC.2.2.2.1 hK.1 hP q0 he rfl 0 (by decide) (hC.2.2.2.2 _ qw_45) (fun _ h => h) hv hdg kk
theorem gfX7_109 {ws : va_W} {q0 b : Nat} {fs : List Value} {v : Value} (hC : CallFix p m c cc nL s args lw_all RX7) (hK : zK D kA s) (hP : va_P D vwCl ws H) (he : ws[q0]? = some (b, .inr (4, fs))) (hv : fs[7]? = some v) (hdg : decode cc pc = .ok (.getfield 109, 3)) (kk : W p l e R s m args below meth c H locs cells slots Q (F0 m (pc + 3) ls (v :: rest))) : W p l e R s m args below meth c H locs cells slots Q (F0 m pc ls (.ref b :: rest)) := va_get hC.1 hC.2.1 hC.2.2.2.2 uin_X4 hC.2.2.2.1 hK.1 hP q0 he rfl 7 (by decide) (hC.2.2.2.2 _ qw_165) (fun _ h => h) hv hdg kk
theorem gfX7_113 {ws : va_W} {q0 b : Nat} {fs : List Value} {v : Value} (hC : CallFix p m c cc nL s args lw_all RX7) (hK : zK D kA s) (hP : va_P D vwCl ws H) (he : ws[q0]? = some (b, .inr (0, fs))) (hv : fs[0]? = some v) (hdg : decode cc pc = .ok (.getfield 113, 3)) (kk : W p l e R s m args below meth c H locs cells slots Q (F0 m (pc + 3) ls (v :: rest))) : W p l e R s m args below meth c H locs cells slots Q (F0 m pc ls (.ref b :: rest)) := va_get hC.1 hC.2.1 hC.2.2.2.2 uin_X0 hC.2.2.2.1 hK.1 hP q0 he rfl 0 (by decide) (hC.2.2.2.2 _ qw_132) (fun _ h => h) hv hdg kk
theorem gfX7_116 {ws : va_W} {q0 b : Nat} {fs : List Value} {v : Value} (hC : CallFix p m c cc nL s args lw_all RX7) (hK : zK D kA s) (hP : va_P D vwCl ws H) (he : ws[q0]? = some (b, .inr (4, fs))) (hv : fs[0]? = some v) (hdg : decode cc pc = .ok (.getfield 116, 3)) (kk : W p l e R s m args below meth c H locs cells slots Q (F0 m (pc + 3) ls (v :: rest))) : W p l e R s m args below meth c H locs cells slots Q (F0 m pc ls (.ref b :: rest)) := va_get hC.1 hC.2.1 hC.2.2.2.2 uin_X4 hC.2.2.2.1 hK.1 hP q0 he rfl 0 (by decide) (hC.2.2.2.2 _ qw_145) (fun _ h => h) hv hdg kk
theorem gfX7_119 {ws : va_W} {q0 b : Nat} {fs : List Value} {v : Value} (hC : CallFix p m c cc nL s args lw_all RX7) (hK : zK D kA s) (hP : va_P D vwCl ws H) (he : ws[q0]? = some (b, .inr (4, fs))) (hv : fs[1]? = some v) (hdg : decode cc pc = .ok (.getfield 119, 3)) (kk : W p l e R s m args below meth c H locs cells slots Q (F0 m (pc + 3) ls (v :: rest))) : W p l e R s m args below meth c H locs cells slots Q (F0 m pc ls (.ref b :: rest)) := va_get hC.1 hC.2.1 hC.2.2.2.2 uin_X4 hC.2.2.2.1 hK.1 hP q0 he rfl 1 (by decide) (hC.2.2.2.2 _ qw_148) (fun _ h => h) hv hdg kk
theorem gfX7_122 {ws : va_W} {q0 b : Nat} {fs : List Value} {v : Value} (hC : CallFix p m c cc nL s args lw_all RX7) (hK : zK D kA s) (hP : va_P D vwCl ws H) (he : ws[q0]? = some (b, .inr (4, fs))) (hv : fs[2]? = some v) (hdg : decode cc pc = .ok (.getfield 122, 3)) (kk : W p l e R s m args below meth c H locs cells slots Q (F0 m (pc + 3) ls (v :: rest))) : W p l e R s m args below meth c H locs cells slots Q (F0 m pc ls (.ref b :: rest)) := va_get hC.1 hC.2.1 hC.2.2.2.2 uin_X4 hC.2.2.2.1 hK.1 hP q0 he rfl 2 (by decide) (hC.2.2.2.2 _ qw_151) (fun _ h => h) hv hdg kk
theorem gfX7_13 {ws : va_W} {q0 b : Nat} {fs : List Value} {v : Value} (hC : CallFix p m c cc nL s args lw_all RX7) (hK : zK D kA s) (hP : va_P D vwCl ws H) (he : ws[q0]? = some (b, .inr (7, fs))) (hv : fs[2]? = some v) (hdg : decode cc pc = .ok (.getfield 13, 3)) (kk : W p l e R s m args below meth c H locs cells slots Q (F0 m (pc + 3) ls (v :: rest))) : W p l e R s m args below meth c H locs cells slots Q (F0 m pc ls (.ref b :: rest)) := va_get hC.1 hC.2.1 hC.2.2.2.2 uin_X7 hC.2.2.2.1 hK.1 hP q0 he rfl 2 (by decide) (hC.2.2.2.2 _ qw_279) (fun _ h => h) hv hdg kk
theorem gfX7_138 {ws : va_W} {q0 b : Nat} {fs : List Value} {v : Value} (hC : CallFix p m c cc nL s args lw_all RX7) (hK : zK D kA s) (hP : va_P D vwCl ws H) (he : ws[q0]? = some (b, .inr (1, fs))) (hv : fs[1]? = some v) (hdg : decode cc pc = .ok (.getfield 138, 3)) (kk : W p l e R s m args below meth c H locs cells slots Q (F0 m (pc + 3) ls (v :: rest))) : W p l e R s m args below meth c H locs cells slots Q (F0 m pc ls (.ref b :: rest)) := va_get hC.1 hC.2.1 hC.2.2.2.2 uin_X1 hC.2.2.2.1 hK.1 hP q0 he rfl 1 (by decide) (hC.2.2.2.2 _ qw_47) (fun _ h => h) hv hdg kk
theorem gfX7_142 {ws : va_W} {q0 b : Nat} {fs : List Value} {v : Value} (hC : CallFix p m c cc nL s args lw_all RX7) (hK : zK D kA s) (hP : va_P D vwCl ws H) (he : ws[q0]? = some (b, .inr (1, fs))) (hv : fs[2]? = some v) (hdg : decode cc pc = .ok (.getfield 142, 3)) (kk : W p l e R s m args below meth c H locs cells slots Q (F0 m (pc + 3) ls (v :: rest))) : W p l e R s m args below meth c H locs cells slots Q (F0 m pc ls (.ref b :: rest)) := va_get hC.1 hC.2.1 hC.2.2.2.2 uin_X1 hC.2.2.2.1 hK.1 hP q0 he rfl 2 (by decide) (hC.2.2.2.2 _ qw_49) (fun _ h => h) hv hdg kk
theorem gfX7_145 {ws : va_W} {q0 b : Nat} {fs : List Value} {v : Value} (hC : CallFix p m c cc nL s args lw_all RX7) (hK : zK D kA s) (hP : va_P D vwCl ws H) (he : ws[q0]? = some (b, .inr (1, fs))) (hv : fs[3]? = some v) (hdg : decode cc pc = .ok (.getfield 145, 3)) (kk : W p l e R s m args below meth c H locs cells slots Q (F0 m (pc + 3) ls (v :: rest))) : W p l e R s m args below meth c H locs cells slots Q (F0 m pc ls (.ref b :: rest)) := va_get hC.1 hC.2.1 hC.2.2.2.2 uin_X1 hC.2.2.2.1 hK.1 hP q0 he rfl 3 (by decide) (hC.2.2.2.2 _ qw_51) (fun _ h => h) hv hdg kk
theorem gfX7_155 {ws : va_W} {q0 b : Nat} {fs : List Value} {v : Value} (hC : CallFix p m c cc nL s args lw_all RX7) (hK : zK D kA s) (hP : va_P D vwCl ws H) (he : ws[q0]? = some (b, .inr (3, fs))) (hv : fs[1]? = some v) (hdg : decode cc pc = .ok (.getfield 155, 3)) (kk : W p l e R s m args below meth c H locs cells slots Q (F0 m (pc + 3) ls (v :: rest))) : W p l e R s m args below meth c H locs cells slots Q (F0 m pc ls (.ref b :: rest)) := va_get hC.1 hC.2.1 hC.2.2.2.2 uin_X3 hC.2.2.2.1 hK.1 hP q0 he rfl 1 (by decide) (hC.2.2.2.2 _ qw_75) (fun _ h => h) hv hdg kk
theorem gfX7_158 {ws : va_W} {q0 b : Nat} {fs : List Value} {v : Value} (hC : CallFix p m c cc nL s args lw_all RX7) (hK : zK D kA s) (hP : va_P D vwCl ws H) (he : ws[q0]? = some (b, .inr (3, fs))) (hv : fs[2]? = some v) (hdg : decode cc pc = .ok (.getfield 158, 3)) (kk : W p l e R s m args below meth c H locs cells slots Q (F0 m (pc + 3) ls (v :: rest))) : W p l e R s m args below meth c H locs cells slots Q (F0 m pc ls (.ref b :: rest)) := va_get hC.1 hC.2.1 hC.2.2.2.2 uin_X3 hC.2.2.2.1 hK.1 hP q0 he rfl 2 (by decide) (hC.2.2.2.2 _ qw_78) (fun _ h => h) hv hdg kk
theorem gfX7_161 {ws : va_W} {q0 b : Nat} {fs : List Value} {v : Value} (hC : CallFix p m c cc nL s args lw_all RX7) (hK : zK D kA s) (hP : va_P D vwCl ws H) (he : ws[q0]? = some (b, .inr (3, fs))) (hv : fs[3]? = some v) (hdg : decode cc pc = .ok (.getfield 161, 3)) (kk : W p l e R s m args below meth c H locs cells slots Q (F0 m (pc + 3) ls (v :: rest))) : W p l e R s m args below meth c H locs cells slots Q (F0 m pc ls (.ref b :: rest)) := va_get hC.1 hC.2.1 hC.2.2.2.2 uin_X3 hC.2.2.2.1 hK.1 hP q0 he rfl 3 (by decide) (hC.2.2.2.2 _ qw_81) (fun _ h => h) hv hdg kk
theorem gfX7_164 {ws : va_W} {q0 b : Nat} {fs : List Value} {v : Value} (hC : CallFix p m c cc nL s args lw_all RX7) (hK : zK D kA s) (hP : va_P D vwCl ws H) (he : ws[q0]? = some (b, .inr (3, fs))) (hv : fs[5]? = some v) (hdg : decode cc pc = .ok (.getfield 164, 3)) (kk : W p l e R s m args below meth c H locs cells slots Q (F0 m (pc + 3) ls (v :: rest))) : W p l e R s m args below meth c H locs cells slots Q (F0 m pc ls (.ref b :: rest)) := va_get hC.1 hC.2.1 hC.2.2.2.2 uin_X3 hC.2.2.2.1 hK.1 hP q0 he rfl 5 (by decide) (hC.2.2.2.2 _ qw_85) (fun _ h => h) hv hdg kk
theorem gfX7_17 {ws : va_W} {q0 b : Nat} {fs : List Value} {v : Value} (hC : CallFix p m c cc nL s args lw_all RX7) (hK : zK D kA s) (hP : va_P D vwCl ws H) (he : ws[q0]? = some (b, .inr (7, fs))) (hv : fs[3]? = some v) (hdg : decode cc pc = .ok (.getfield 17, 3)) (kk : W p l e R s m args below meth c H locs cells slots Q (F0 m (pc + 3) ls (v :: rest))) : W p l e R s m args below meth c H locs cells slots Q (F0 m pc ls (.ref b :: rest)) := va_get hC.1 hC.2.1 hC.2.2.2.2 uin_X7 hC.2.2.2.1 hK.1 hP q0 he rfl 3 (by decide) (hC.2.2.2.2 _ qw_280) (fun _ h => h) hv hdg kk
theorem gfX7_182 {ws : va_W} {q0 b : Nat} {fs : List Value} {v : Value} (hC : CallFix p m c cc nL s args lw_all RX7) (hK : zK D kA s) (hP : va_P D vwCl ws H) (he : ws[q0]? = some (b, .inr (3, fs))) (hv : fs[7]? = some v) (hdg : decode cc pc = .ok (.getfield 182, 3)) (kk : W p l e R s m args below meth c H locs cells slots Q (F0 m (pc + 3) ls (v :: rest))) : W p l e R s m args below meth c H locs cells slots Q (F0 m pc ls (.ref b :: rest)) := va_get hC.1 hC.2.1 hC.2.2.2.2 uin_X3 hC.2.2.2.1 hK.1 hP q0 he rfl 7 (by decide) (hC.2.2.2.2 _ qw_90) (fun _ h => h) hv hdg kk
theorem gfX7_185 {ws : va_W} {q0 b : Nat} {fs : List Value} {v : Value} (hC : CallFix p m c cc nL s args lw_all RX7) (hK : zK D kA s) (hP : va_P D vwCl ws H) (he : ws[q0]? = some (b, .inr (3, fs))) (hv : fs[9]? = some v) (hdg : decode cc pc = .ok (.getfield 185, 3)) (kk : W p l e R s m args below meth c H locs cells slots Q (F0 m (pc + 3) ls (v :: rest))) : W p l e R s m args below meth c H locs cells slots Q (F0 m pc ls (.ref b :: rest)) := va_get hC.1 hC.2.1 hC.2.2.2.2 uin_X3 hC.2.2.2.1 hK.1 hP q0 he rfl 9 (by decide) (hC.2.2.2.2 _ qw_93) (fun _ h => h) hv hdg kk
theorem gfX7_191 {ws : va_W} {q0 b : Nat} {fs : List Value} {v : Value} (hC : CallFix p m c cc nL s args lw_all RX7) (hK : zK D kA s) (hP : va_P D vwCl ws H) (he : ws[q0]? = some (b, .inr (4, fs))) (hv : fs[9]? = some v) (hdg : decode cc pc = .ok (.getfield 191, 3)) (kk : W p l e R s m args below meth c H locs cells slots Q (F0 m (pc + 3) ls (v :: rest))) : W p l e R s m args below meth c H locs cells slots Q (F0 m pc ls (.ref b :: rest)) := va_get hC.1 hC.2.1 hC.2.2.2.2 uin_X4 hC.2.2.2.1 hK.1 hP q0 he rfl 9 (by decide) (hC.2.2.2.2 _ qw_168) (fun _ h => h) hv hdg kk
theorem gfX7_194 {ws : va_W} {q0 b : Nat} {fs : List Value} {v : Value} (hC : CallFix p m c cc nL s args lw_all RX7) (hK : zK D kA s) (hP : va_P D vwCl ws H) (he : ws[q0]? = some (b, .inr (4, fs))) (hv : fs[10]? = some v) (hdg : decode cc pc = .ok (.getfield 194, 3)) (kk : W p l e R s m args below meth c H locs cells slots Q (F0 m (pc + 3) ls (v :: rest))) : W p l e R s m args below meth c H locs cells slots Q (F0 m pc ls (.ref b :: rest)) := va_get hC.1 hC.2.1 hC.2.2.2.2 uin_X4 hC.2.2.2.1 hK.1 hP q0 he rfl 10 (by decide) (hC.2.2.2.2 _ qw_170) (fun _ h => h) hv hdg kk
theorem gfX7_197 {ws : va_W} {q0 b : Nat} {fs : List Value} {v : Value} (hC : CallFix p m c cc nL s args lw_all RX7) (hK : zK D kA s) (hP : va_P D vwCl ws H) (he : ws[q0]? = some (b, .inr (3, fs))) (hv : fs[11]? = some v) (hdg : decode cc pc = .ok (.getfield 197, 3)) (kk : W p l e R s m args below meth c H locs cells slots Q (F0 m (pc + 3) ls (v :: rest))) : W p l e R s m args below meth c H locs cells slots Q (F0 m pc ls (.ref b :: rest)) := va_get hC.1 hC.2.1 hC.2.2.2.2 uin_X3 hC.2.2.2.1 hK.1 hP q0 he rfl 11 (by decide) (hC.2.2.2.2 _ qw_98) (fun _ h => h) hv hdg kk
theorem gfX7_214 {ws : va_W} {q0 b : Nat} {fs : List Value} {v : Value} (hC : CallFix p m c cc nL s args lw_all RX7) (hK : zK D kA s) (hP : va_P D vwCl ws H) (he : ws[q0]? = some (b, .inr (4, fs))) (hv : fs[4]? = some v) (hdg : decode cc pc = .ok (.getfield 214, 3)) (kk : W p l e R s m args below meth c H locs cells slots Q (F0 m (pc + 3) ls (v :: rest))) : W p l e R s m args below meth c H locs cells slots Q (F0 m pc ls (.ref b :: rest)) := va_get hC.1 hC.2.1 hC.2.2.2.2 uin_X4 hC.2.2.2.1 hK.1 hP q0 he rfl 4 (by decide) (hC.2.2.2.2 _ qw_157) (fun _ h => h) hv hdg kk
theorem gfX7_60 {ws : va_W} {q0 b : Nat} {fs : List Value} {v : Value} (hC : CallFix p m c cc nL s args lw_all RX7) (hK : zK D kA s) (hP : va_P D vwCl ws H) (he : ws[q0]? = some (b, .inr (7, fs))) (hv : fs[1]? = some v) (hdg : decode cc pc = .ok (.getfield 60, 3)) (kk : W p l e R s m args below meth c H locs cells slots Q (F0 m (pc + 3) ls (v :: rest))) : W p l e R s m args below meth c H locs cells slots Q (F0 m pc ls (.ref b :: rest)) := va_get hC.1 hC.2.1 hC.2.2.2.2 uin_X7 hC.2.2.2.1 hK.1 hP q0 he rfl 1 (by decide) (hC.2.2.2.2 _ qw_278) (fun _ h => h) hv hdg kk
theorem gfX7_86 {ws : va_W} {q0 b : Nat} {fs : List Value} {v : Value} (hC : CallFix p m c cc nL s args lw_all RX7) (hK : zK D kA s) (hP : va_P D vwCl ws H) (he : ws[q0]? = some (b, .inr (4, fs))) (hv : fs[6]? = some v) (hdg : decode cc pc = .ok (.getfield 86, 3)) (kk : W p l e R s m args below meth c H locs cells slots Q (F0 m (pc + 3) ls (v :: rest))) : W p l e R s m args below meth c H locs cells slots Q (F0 m pc ls (.ref b :: rest)) := va_get hC.1 hC.2.1 hC.2.2.2.2 uin_X4 hC.2.2.2.1 hK.1 hP q0 he rfl 6 (by decide) (hC.2.2.2.2 _ qw_163) (fun _ h => h) hv hdg kk
theorem gfX7_90 {ws : va_W} {q0 b : Nat} {fs : List Value} {v : Value} (hC : CallFix p m c cc nL s args lw_all RX7) (hK : zK D kA s) (hP : va_P D vwCl ws H) (he : ws[q0]? = some (b, .inr (3, fs))) (hv : fs[0]? = some v) (hdg : decode cc pc = .ok (.getfield 90, 3)) (kk : W p l e R s m args below meth c H locs cells slots Q (F0 m (pc + 3) ls (v :: rest))) : W p l e R s m args below meth c H locs cells slots Q (F0 m pc ls (.ref b :: rest)) := va_get hC.1 hC.2.1 hC.2.2.2.2 uin_X3 hC.2.2.2.1 hK.1 hP q0 he rfl 0 (by decide) (hC.2.2.2.2 _ qw_71) (fun _ h => h) hv hdg kk
theorem gfX7_95 {ws : va_W} {q0 b : Nat} {fs : List Value} {v : Value} (hC : CallFix p m c cc nL s args lw_all RX7) (hK : zK D kA s) (hP : va_P D vwCl ws H) (he : ws[q0]? = some (b, .inr (4, fs))) (hv : fs[3]? = some v) (hdg : decode cc pc = .ok (.getfield 95, 3)) (kk : W p l e R s m args below meth c H locs cells slots Q (F0 m (pc + 3) ls (v :: rest))) : W p l e R s m args below meth c H locs cells slots Q (F0 m pc ls (.ref b :: rest)) := va_get hC.1 hC.2.1 hC.2.2.2.2 uin_X4 hC.2.2.2.1 hK.1 hP q0 he rfl 3 (by decide) (hC.2.2.2.2 _ qw_155) (fun _ h => h) hv hdg kk
theorem gfX7_98 {ws : va_W} {q0 b : Nat} {fs : List Value} {v : Value} (hC : CallFix p m c cc nL s args lw_all RX7) (hK : zK D kA s) (hP : va_P D vwCl ws H) (he : ws[q0]? = some (b, .inr (4, fs))) (hv : fs[5]? = some v) (hdg : decode cc pc = .ok (.getfield 98, 3)) (kk : W p l e R s m args below meth c H locs cells slots Q (F0 m (pc + 3) ls (v :: rest))) : W p l e R s m args below meth c H locs cells slots Q (F0 m pc ls (.ref b :: rest)) := va_get hC.1 hC.2.1 hC.2.2.2.2 uin_X4 hC.2.2.2.1 hK.1 hP q0 he rfl 5 (by decide) (hC.2.2.2.2 _ qw_160) (fun _ h => h) hv hdg kk
theorem pfX7_60 {ws : va_W} {q0 b : Nat} {fs : List Value} {x : Int} (hC : CallFix p m c cc nL s args lw_all RX7) (hK : zK D kA s) (hP : va_P D vwCl ws H) (hD : va_D A0 ws) (hS : va_S A0 H0 H locs) (he : ws[q0]? = some (b, .inr (7, fs))) (hl : 1 < fs.length) (hdg : decode cc pc = .ok (.putfield 60, 3)) (kk : ∀ (H1 : Heap) (locs1 : List Loc), va_P D vwCl (ws.set q0 (b, .inr (7, fs.set 1 (vI x)))) H1 → va_S A0 H0 H1 locs1 → W p l e R s m args below meth c H1 locs1 cells slots Q (F0 m (pc + 3) ls rest)) : W p l e R s m args below meth c H locs cells slots Q (F0 m pc ls (vI x :: .ref b :: rest)) := va_put hC.1 hC.2.1 hC.2.2.2.2 uin_X7 tyX7 tyX7_ok nmX7 hC.2.2.2.1 hK.1 hP hD hS q0 he rfl 1 (by decide) (hC.2.2.2.2 _ qw_278) (fun _ h => h) rfl (ty := .int) (v := vI x) (by decide +kernel) rfl rfl hl hdg (fun H1 locs1 h1 _ h3 => kk H1 locs1 h1 h3)
theorem zwX7_105 : zwV RX7 105 RX3 yX3_countWithoutParts cX3_countWithoutParts 3 (some .int) 0 := ⟨⟨qw_644, qw_645, qw_646, qw_4, qw_647⟩, rfl, by decide +kernel, by decide +kernel, by decide +kernel⟩
theorem zwX7_125 : zwV RX7 125 RX4 yX4_countSpoilt cX4_countSpoilt 3 (some .int) 0 := ⟨⟨qw_648, qw_649, qw_650, qw_2, qw_651⟩, rfl, by decide +kernel, by decide +kernel, by decide +kernel⟩
theorem zwX7_135 : zwV RX7 135 RX7 yX7_needDeclaration cX7_needDeclaration 2 none 1 := ⟨⟨qw_727, qw_729, qs_21, qw_1, qw_730⟩, rfl, by decide +kernel, by decide +kernel, by decide +kernel⟩
theorem zwX7_148 : zwV RX7 148 RX1 yX1_daysOf cX1_daysOf 2 (some .int) 1 := ⟨⟨qw_747, qw_748, qw_749, qw_3, qw_750⟩, rfl, by decide +kernel, by decide +kernel, by decide +kernel⟩
theorem zwX7_152 : zwV RX7 152 RX7 yX7_needGift cX7_needGift 2 none 1 := ⟨⟨qw_759, qw_761, qs_22, qw_1, qw_762⟩, rfl, by decide +kernel, by decide +kernel, by decide +kernel⟩
theorem zwX7_167 : zwV RX7 167 RX3 yX3_leftOf cX3_leftOf 2 (some .int) 1 := ⟨⟨qw_764, qw_613, qw_614, qw_4, qw_615⟩, rfl, by decide +kernel, by decide +kernel, by decide +kernel⟩
theorem zwX7_170 : zwV RX7 170 RX4 yX4_isSpoilt cX4_isSpoilt 2 (some .boolean) 1 := ⟨⟨qw_765, qw_465, qw_466, qw_2, qw_467⟩, rfl, by decide +kernel, by decide +kernel, by decide +kernel⟩
theorem zwX7_174 : zwV RX7 174 RX4 yX4_sumOfGift cX4_sumOfGift 5 (some .int) 2 := ⟨⟨qw_766, qw_547, qw_548, qw_2, qw_549⟩, rfl, by decide +kernel, by decide +kernel, by decide +kernel⟩
theorem zwX7_178 : zwV RX7 178 RX7 yX7_needPart cX7_needPart 3 none 2 := ⟨⟨qw_774, qw_776, qs_23, qw_1, qw_777⟩, rfl, by decide +kernel, by decide +kernel, by decide +kernel⟩
theorem zwX7_188 : zwV RX7 188 RX3 yX3_leftOfPart cX3_leftOfPart 2 (some .int) 1 := ⟨⟨qw_779, qw_473, qw_474, qw_4, qw_475⟩, rfl, by decide +kernel, by decide +kernel, by decide +kernel⟩
theorem zwX7_200 : zwV RX7 200 RX4 yX4_reasonOf cX4_reasonOf 3 (some .int) 1 := ⟨⟨qw_787, qw_788, qw_789, qw_2, qw_790⟩, rfl, by decide +kernel, by decide +kernel, by decide +kernel⟩
theorem zwX7_203 : zwV RX7 203 RX7 yX7_needDonor cX7_needDonor 2 none 1 := ⟨⟨qw_802, qw_804, qs_24, qw_1, qw_805⟩, rfl, by decide +kernel, by decide +kernel, by decide +kernel⟩
theorem zwX7_206 : zwS RX7 206 yX7_needRange cX7_needRange 3 none 3 := ⟨⟨qw_807, qw_808, qw_1, qw_809⟩, by decide +kernel, by decide +kernel, by decide +kernel⟩
theorem zwX7_210 : zwV RX7 210 RX4 yX4_sumOfDonor cX4_sumOfDonor 7 (some .int) 3 := ⟨⟨qw_811, qw_595, qw_596, qw_2, qw_597⟩, rfl, by decide +kernel, by decide +kernel, by decide +kernel⟩
theorem zwX7_217 : zwV RX7 217 RX1 yX1_covers cX1_covers 4 (some .boolean) 2 := ⟨⟨qw_826, qw_477, qw_478, qw_3, qw_479⟩, rfl, by decide +kernel, by decide +kernel, by decide +kernel⟩
theorem zwX7_63 : zwV RX7 63 RX7 yX7_appendBytes cX7_appendBytes 3 none 1 := ⟨⟨qw_324, qw_326, qs_0, qw_1, qw_327⟩, rfl, by decide +kernel, by decide +kernel, by decide +kernel⟩
end ZG
def bX7_appendBytes_3 (n : Nat) (X : Sz) (x1 : Int) (rec3 : Int × Sz → Option (Sz)) : Int × Sz → Option (Sz) := fun (y2, V) => ck (rng y2) <| if y2 < 0 then (some V) else (ck (rng x1 ∧ (y2 = 24 ∨ y2 = 16 ∨ y2 = 8 ∨ y2 = 0)) <| ck (inZ (V 1 0) 900) <| nm (uz V 0 (V 1 0).toNat (((((shX x1 y2) + 128) % 256 - 128) + 128) % 256 - 128)) fun (V_4 : Sz) => nm (us V_4 1 ((V_4 1 0) + 1)) fun (V_5 : Sz) => nm (y2 + (-8)) fun (x_6 : Int) => rec3 (x_6, V_5))
theorem bX7_appendBytes_3_e (n : Nat) (X : Sz) (x1 : Int) (rec3 : Int × Sz → Option (Sz)) (y2 : Int) (V : Sz) : bX7_appendBytes_3 n X x1 rec3 (y2, V) = (ck (rng y2) <| if y2 < 0 then (some V) else (ck (rng x1 ∧ (y2 = 24 ∨ y2 = 16 ∨ y2 = 8 ∨ y2 = 0)) <| ck (inZ (V 1 0) 900) <| nm (uz V 0 (V 1 0).toNat (((((shX x1 y2) + 128) % 256 - 128) + 128) % 256 - 128)) fun (V_4 : Sz) => nm (us V_4 1 ((V_4 1 0) + 1)) fun (V_5 : Sz) => nm (y2 + (-8)) fun (x_6 : Int) => rec3 (x_6, V_5))) := rfl
def f_X7_appendBytes (n : Nat) (V0 : Sz) (X : Sz) (x1 : Int) : Option (Sz) := lpF (bX7_appendBytes_3 n X x1) n (24, V0)
def f_X7_appendInput (n : Nat) (V0 : Sz) (X : Sz) (x1 : Int) (x2 : Int) (x3 : Int) (x4 : Int) (x5 : Int) : Option (Int × Sz) := ck (rng ((V0 1 0) + 20)) <| if (V0 1 0) + 20 ≤ 900 then (bd (f_X7_appendBytes n V0 X x1) fun (V_2 : Sz) => bd (f_X7_appendBytes n V_2 X x2) fun (V_3 : Sz) => bd (f_X7_appendBytes n V_3 X x3) fun (V_4 : Sz) => bd (f_X7_appendBytes n V_4 X x4) fun (V_5 : Sz) => bd (f_X7_appendBytes n V_5 X x5) fun (V_6 : Sz) => some (V_6 1 0, V_6)) else (some ((-1), V0))
def f_X7_truncateInput (V0 : Sz) (X : Sz) (x1 : Int) : Option (Bool × Sz) := ck (rng x1) <| if x1 < 0 then (some (false, V0)) else (ck (rng (V0 1 0)) <| if x1 ≤ V0 1 0 then (nm (us V0 1 x1) fun (V_3 : Sz) => some (true, V_3)) else (some (false, V0)))
def f_X7_errorCode (V : Sz) (X : Sz) : Option (Int) := some (V 2 0)
def f_X7_errorOffset (V : Sz) (X : Sz) : Option (Int) := some (V 3 0)
def f_X7_count (n : Nat) (V : Sz) (X : Sz) (x1 : Int) : Option ((Int) ⊕ Nat) := ck (rng x1) <| if x1 = 0 then (bl (some (V 7 0))) else (if x1 = 1 then (bl (some (V 9 0))) else (if x1 = 2 then (bl (some (V 13 0))) else (if x1 = 3 then (bl (bd (f_X3_countWithoutParts n (sv 13 V)) fun (r_2 : Int) => some r_2)) else (if x1 = 4 then (bl (some (V 25 0))) else (if x1 = 5 then (bl (some (V 4 0))) else (if x1 = 6 then (bl (some (V 5 0))) else (if x1 = 7 then (bl (some (V 6 0))) else (if x1 = 8 then (bl (bd (f_X4_countSpoilt n (sv 4 V)) fun (r_3 : Int) => some r_3)) else (if x1 = 9 then (bl (some (V 87 0))) else (some (.inr 1)))))))))))
def jX7_needDeclaration_18 (V : Sz) (X : Sz) (x1 : Int) : Option ((Unit) ⊕ Nat) := some (.inr 0)
def f_X7_needDeclaration (V : Sz) (X : Sz) (x1 : Int) : Option ((Unit) ⊕ Nat) := ck (rng x1) <| if x1 < 0 then (jX7_needDeclaration_18 V X x1) else (ck (rng (V 9 0)) <| if x1 < V 9 0 then (bl (some ())) else (jX7_needDeclaration_18 V X x1))
def f_X7_declaration (V : Sz) (X : Sz) (x1 : Int) (x2 : Int) : Option ((Int) ⊕ Nat) := bx (f_X7_needDeclaration V X x1) fun (_ : Unit) => ck (rng x2) <| if x2 = 0 then (bl (ck (inZ x1 30) <| some (V 10 x1.toNat))) else (if x2 = 1 then (bl (ck (inZ x1 30) <| some (V 11 x1.toNat))) else (if x2 = 2 then (bl (ck (inZ x1 30) <| some (V 12 x1.toNat))) else (if x2 = 3 then (bl (bd (f_X1_daysOf (sv 9 V) x1) fun (r_5 : Int) => some r_5)) else (some (.inr 1)))))
def jX7_needGift_18 (V : Sz) (X : Sz) (x1 : Int) : Option ((Unit) ⊕ Nat) := some (.inr 0)
def f_X7_needGift (V : Sz) (X : Sz) (x1 : Int) : Option ((Unit) ⊕ Nat) := ck (rng x1) <| if x1 < 0 then (jX7_needGift_18 V X x1) else (ck (rng (V 13 0)) <| if x1 < V 13 0 then (bl (some ())) else (jX7_needGift_18 V X x1))
def f_X7_gift (n : Nat) (V : Sz) (X : Sz) (x1 : Int) (x2 : Int) : Option ((Int) ⊕ Nat) := bx (f_X7_needGift V X x1) fun (_ : Unit) => ck (rng x2) <| if x2 = 0 then (bl (ck (inZ x1 60) <| some (V 14 x1.toNat))) else (if x2 = 1 then (bl (ck (inZ x1 60) <| some (V 15 x1.toNat))) else (if x2 = 2 then (bl (ck (inZ x1 60) <| some (V 16 x1.toNat))) else (if x2 = 3 then (bl (ck (inZ x1 60) <| some (V 18 x1.toNat))) else (if x2 = 4 then (bl (bd (f_X3_leftOf (sv 13 V) x1) fun (r_6 : Int) => some r_6)) else (if x2 = 5 then (bl (bd (f_X4_isSpoilt (sv 4 V) x1) fun (r_7 : Bool) => if r_7 = false then (some 0) else (some 1))) else (if x2 = 6 then (bl (bd (f_X4_sumOfGift n (sv 4 V) x1 2) fun (r_8 : Int) => some r_8)) else (if x2 = 7 then (bl (bd (f_X4_sumOfGift n (sv 4 V) x1 3) fun (r_9 : Int) => some r_9)) else (some (.inr 1)))))))))
def jX7_needPart_25 (V : Sz) (X : Sz) (x1 : Int) (x2 : Int) : Option ((Unit) ⊕ Nat) := some (.inr 0)
def f_X7_needPart (V : Sz) (X : Sz) (x1 : Int) (x2 : Int) : Option ((Unit) ⊕ Nat) := bx (f_X7_needGift V X x1) fun (_ : Unit) => ck (rng x2) <| if x2 < 0 then (jX7_needPart_25 V X x1 x2) else (ck (inZ x1 60) <| ck (rng (V 18 x1.toNat)) <| if x2 < V 18 x1.toNat then (bl (some ())) else (jX7_needPart_25 V X x1 x2))
def f_X7_part (V : Sz) (X : Sz) (x1 : Int) (x2 : Int) (x3 : Int) : Option ((Int) ⊕ Nat) := bx (f_X7_needPart V X x1 x2) fun (_ : Unit) => nm ((x1 * 3) + x2) fun (x_1 : Int) => ck (rng x3) <| if x3 = 0 then (bl (ck (inZ x_1 180) <| some (V 20 x_1.toNat))) else (if x3 = 1 then (bl (ck (inZ x_1 180) <| some (V 22 x_1.toNat))) else (if x3 = 2 then (bl (bd (f_X3_leftOfPart (sv 13 V) x_1) fun (r_5 : Int) => some r_5)) else (if x3 = 3 then (bl (ck (inZ x_1 180) <| some (V 28 x_1.toNat))) else (if x3 = 4 then (bl (ck (inZ x_1 180) <| some (V 29 x_1.toNat))) else (if x3 = 5 then (bl (ck (inZ x_1 180) <| some (V 24 x_1.toNat))) else (some (.inr 1)))))))
def f_X7_reason (n : Nat) (V : Sz) (X : Sz) (x1 : Int) (x2 : Int) : Option ((Int) ⊕ Nat) := bx (f_X7_needPart V X x1 x2) fun (_ : Unit) => bl (bd (f_X4_reasonOf n (sv 4 V) ((x1 * 3) + x2)) fun (r_1 : Int) => some r_1)
def jX7_needDonor_15 (V : Sz) (X : Sz) (x1 : Int) : Option ((Unit) ⊕ Nat) := some (.inr 0)
def f_X7_needDonor (V : Sz) (X : Sz) (x1 : Int) : Option ((Unit) ⊕ Nat) := ck (rng x1) <| if x1 < 0 then (jX7_needDonor_15 V X x1) else (ck (rng (V 7 0)) <| if x1 < V 7 0 then (bl (some ())) else (jX7_needDonor_15 V X x1))
def jX7_needRange_10 (x0 : Int) (x1 : Int) (x2 : Int) : Option ((Unit) ⊕ Nat) := some (.inr 1)
def f_X7_needRange (x0 : Int) (x1 : Int) (x2 : Int) : Option ((Unit) ⊕ Nat) := ck (rng x0 ∧ rng x1) <| if x0 < x1 then (jX7_needRange_10 x0 x1 x2) else (ck (rng x2) <| if x0 ≤ x2 then (bl (some ())) else (jX7_needRange_10 x0 x1 x2))
def f_X7_donor (n : Nat) (V : Sz) (X : Sz) (x1 : Int) (x2 : Int) (x3 : Int) : Option ((Int) ⊕ Nat) := bx (f_X7_needDonor V X x1) fun (_ : Unit) => bx (f_X7_needRange x2 0 4) fun (_ : Unit) => bx (f_X7_needRange x3 (-1) 27) fun (_ : Unit) => bl (bd (f_X4_sumOfDonor n (sv 4 V) x1 x2 x3) fun (r_1 : Int) => some r_1)
def f_X7_taxLimit (V : Sz) (X : Sz) (x1 : Int) : Option ((Int) ⊕ Nat) := bx (f_X7_needDonor V X x1) fun (_ : Unit) => bl (ck (inZ x1 10) <| some (V 8 x1.toNat))
def f_X7_isDeclared (n : Nat) (V : Sz) (X : Sz) (x1 : Int) (x2 : Int) : Option ((Bool) ⊕ Nat) := bx (f_X7_needDonor V X x1) fun (_ : Unit) => bl (bd (f_X1_covers n (sv 9 V) x1 x2) fun (r_1 : Bool) => some r_1)
theorem DX7_appendBytes_0 : ∀ q ∈ ([(0, .bipush 24, 2), (2, .istore_n 2, 1), (3, .iload_n 2, 1), (4, .ifCond .lt 32, 3), (7, .aload_n 0, 1), (8, .getfield 9, 3), (11, .aload_n 0, 1), (12, .getfield 60, 3), (15, .iload_n 1, 1), (16, .iload_n 2, 1), (17, .ishr, 1), (18, .i2b, 1), (19, .bastore, 1), (20, .aload_n 0, 1), (21, .dup, 1), (22, .getfield 60, 3), (25, .iconst 1, 1), (26, .iadd, 1), (27, .putfield 60, 3), (30, .iinc 2 (-8), 3), (33, .goto (-30), 3), (36, .return_, 1)] : List (Nat × Instr × Nat)), decode cX7_appendBytes q.1 = .ok q.2 := by decide +kernel
theorem dX7_appendBytes_0 : decode cX7_appendBytes 0 = .ok (.bipush 24, 2) := DX7_appendBytes_0 (0, .bipush 24, 2) (List.mem_of_getElem? (i := 0) rfl)
theorem dX7_appendBytes_2 : decode cX7_appendBytes 2 = .ok (.istore_n 2, 1) := DX7_appendBytes_0 (2, .istore_n 2, 1) (List.mem_of_getElem? (i := 1) rfl)
theorem dX7_appendBytes_3 : decode cX7_appendBytes 3 = .ok (.iload_n 2, 1) := DX7_appendBytes_0 (3, .iload_n 2, 1) (List.mem_of_getElem? (i := 2) rfl)
theorem dX7_appendBytes_4 : decode cX7_appendBytes 4 = .ok (.ifCond .lt 32, 3) := DX7_appendBytes_0 (4, .ifCond .lt 32, 3) (List.mem_of_getElem? (i := 3) rfl)
theorem dX7_appendBytes_7 : decode cX7_appendBytes 7 = .ok (.aload_n 0, 1) := DX7_appendBytes_0 (7, .aload_n 0, 1) (List.mem_of_getElem? (i := 4) rfl)
theorem dX7_appendBytes_8 : decode cX7_appendBytes 8 = .ok (.getfield 9, 3) := DX7_appendBytes_0 (8, .getfield 9, 3) (List.mem_of_getElem? (i := 5) rfl)
theorem dX7_appendBytes_11 : decode cX7_appendBytes 11 = .ok (.aload_n 0, 1) := DX7_appendBytes_0 (11, .aload_n 0, 1) (List.mem_of_getElem? (i := 6) rfl)
theorem dX7_appendBytes_12 : decode cX7_appendBytes 12 = .ok (.getfield 60, 3) := DX7_appendBytes_0 (12, .getfield 60, 3) (List.mem_of_getElem? (i := 7) rfl)
theorem dX7_appendBytes_15 : decode cX7_appendBytes 15 = .ok (.iload_n 1, 1) := DX7_appendBytes_0 (15, .iload_n 1, 1) (List.mem_of_getElem? (i := 8) rfl)
theorem dX7_appendBytes_16 : decode cX7_appendBytes 16 = .ok (.iload_n 2, 1) := DX7_appendBytes_0 (16, .iload_n 2, 1) (List.mem_of_getElem? (i := 9) rfl)
theorem dX7_appendBytes_17 : decode cX7_appendBytes 17 = .ok (.ishr, 1) := DX7_appendBytes_0 (17, .ishr, 1) (List.mem_of_getElem? (i := 10) rfl)
theorem dX7_appendBytes_18 : decode cX7_appendBytes 18 = .ok (.i2b, 1) := DX7_appendBytes_0 (18, .i2b, 1) (List.mem_of_getElem? (i := 11) rfl)
theorem dX7_appendBytes_19 : decode cX7_appendBytes 19 = .ok (.bastore, 1) := DX7_appendBytes_0 (19, .bastore, 1) (List.mem_of_getElem? (i := 12) rfl)
theorem dX7_appendBytes_20 : decode cX7_appendBytes 20 = .ok (.aload_n 0, 1) := DX7_appendBytes_0 (20, .aload_n 0, 1) (List.mem_of_getElem? (i := 13) rfl)
theorem dX7_appendBytes_21 : decode cX7_appendBytes 21 = .ok (.dup, 1) := DX7_appendBytes_0 (21, .dup, 1) (List.mem_of_getElem? (i := 14) rfl)
theorem dX7_appendBytes_22 : decode cX7_appendBytes 22 = .ok (.getfield 60, 3) := DX7_appendBytes_0 (22, .getfield 60, 3) (List.mem_of_getElem? (i := 15) rfl)
theorem dX7_appendBytes_25 : decode cX7_appendBytes 25 = .ok (.iconst 1, 1) := DX7_appendBytes_0 (25, .iconst 1, 1) (List.mem_of_getElem? (i := 16) rfl)
theorem dX7_appendBytes_26 : decode cX7_appendBytes 26 = .ok (.iadd, 1) := DX7_appendBytes_0 (26, .iadd, 1) (List.mem_of_getElem? (i := 17) rfl)
theorem dX7_appendBytes_27 : decode cX7_appendBytes 27 = .ok (.putfield 60, 3) := DX7_appendBytes_0 (27, .putfield 60, 3) (List.mem_of_getElem? (i := 18) rfl)
theorem dX7_appendBytes_30 : decode cX7_appendBytes 30 = .ok (.iinc 2 (-8), 3) := DX7_appendBytes_0 (30, .iinc 2 (-8), 3) (List.mem_of_getElem? (i := 19) rfl)
theorem dX7_appendBytes_33 : decode cX7_appendBytes 33 = .ok (.goto (-30), 3) := DX7_appendBytes_0 (33, .goto (-30), 3) (List.mem_of_getElem? (i := 20) rfl)
theorem dX7_appendBytes_36 : decode cX7_appendBytes 36 = .ok (.return_, 1) := DX7_appendBytes_0 (36, .return_, 1) (List.mem_of_getElem? (i := 21) rfl)
abbrev rmX7_appendBytes : Room := { frames := 0, cells := 0, slots := 0, locals := 0 }
set_option maxHeartbeats 1000000 in
set_option maxRecDepth 100000 in
theorem met_X7_appendBytes (l : Launch) (D : va_G) (kA : Nat → ClassId) (a : Nat → Nat) (pf : Nat → Option Nat) (n : Nat) (V0 : Sz) (X : Sz) (x1 : Int) (hDt : ∀ w : Sz, va_D (fun _ => True) (cs_X7 kA a w X pf)) {Vr : Sz} (hf : f_X7_appendBytes n V0 X x1 = some Vr) : MZ l yX7_appendBytes cX7_appendBytes 3 none rmX7_appendBytes D kA [.ref (a 0), vI x1] (cs_X7 kA a V0 X pf) (cs_X7 kA a Vr X pf) (none) := by
  refine zZV (own := RX7) rfl rfl (Nat.le_of_ble_eq_true rfl) ?_
  intro p e s m args below meth c ls Q hC hK hP hl hret
  have hl : lv_has ls 3 [(0, .ref (a 0)), (1, vI x1)] := hl
  have hS : va_S (zF (cs_X7 kA a V0 X pf)) s.heap s.heap [] := va_S.rf
  have hD := zDself (C := fun w : Sz => (cs_X7 kA a w X pf)) hDt V0 (fun _ => rfl)
  try dsimp only at hD
  generalize hAe : zF (cs_X7 kA a V0 X pf) = A0 at hS hD hret
  unfold f_X7_appendBytes at hf
  have L3 : ∀ (k3 : Nat) (y2 : Int) (V : Sz) (H : Heap) (locs : List Loc) (ls : Array Slot), lpF (bX7_appendBytes_3 n X x1) k3 (y2, V) = some Vr → va_P D vwCl (cs_X7 kA a V X pf) H → va_S A0 s.heap H locs → lv_has ls 3 [(0, .ref (a 0)), (1, vI x1), (2, vI y2)] → W p l e rmX7_appendBytes s m args below meth c H locs 0 0 Q (F0 m 3 ls []) := by
    intro k3
    induction k3 with
    | zero => intro y2 V H locs ls hf hP hS hl; exact lp_0 hf
    | succ k3 ih3 =>
      intro y2 V H locs ls hf hP hS hl
      have hf := lp_s hf
      rw [bX7_appendBytes_3_e] at hf
      refine ziload_n hC.1 hC.2.1 dX7_appendBytes_3 rfl (lv_at hl 2 rfl) <| ?_
      obtain ⟨hz_1, hf⟩ := ck_some hf
      refine zif_lt (tgt := 36) hC.1 hC.2.1 hz_1 dX7_appendBytes_4 (by decide) (fun hc => ?_) (fun hc => ?_)
      · have hf := it_t hf hc
        have hf := Option.some.inj hf
        exact hret _ _ _ _ rfl (by rw [← hf]; exact hP) hS dX7_appendBytes_36
      · have hf := it_f hf hc
        refine lv_aload_n hC.1 hC.2.1 dX7_appendBytes_7 rfl (lv_at hl 0 rfl) <| gfX7_9 hC hK hP (q0 := 0) rfl rfl dX7_appendBytes_8 <| lv_aload_n hC.1 hC.2.1 dX7_appendBytes_11 rfl (lv_at hl 0 rfl) <| gfX7_60 hC hK hP (q0 := 0) rfl rfl dX7_appendBytes_12 <| ziload_n hC.1 hC.2.1 dX7_appendBytes_15 rfl (lv_at hl 1 rfl) <| ziload_n hC.1 hC.2.1 dX7_appendBytes_16 rfl (lv_at hl 2 rfl) <| ?_
        obtain ⟨hz_2, hf⟩ := ck_some hf
        refine zishr hC.1 hC.2.1 ⟨hz_2.1, hz_2.2⟩ dX7_appendBytes_17 <| zi2b hC.1 hC.2.1 dX7_appendBytes_18 <| ?_
        obtain ⟨hz_3, hf⟩ := ck_some hf
        refine jbas hC hK hP (hD V) hS (q0 := 1) rfl (Nat.le_of_ble_eq_true rfl) hz_3 rfl dX7_appendBytes_19 (fun H locs hP hS => ?_)
        obtain ⟨V_4, eV_4⟩ : ∃ y, y = uz V 0 (V 1 0).toNat (((((shX x1 y2) + 128) % 256 - 128) + 128) % 256 - 128) := ⟨_, rfl⟩
        have hf := nm_at hf eV_4
        have hP : va_P D vwCl (cs_X7 kA a V_4 X pf) H := by rw [eV_4]; exact hP
        refine lv_aload_n hC.1 hC.2.1 dX7_appendBytes_20 rfl (lv_at hl 0 rfl) <| lv_dup hC.1 hC.2.1 dX7_appendBytes_21 rfl <| gfX7_60 hC hK hP (q0 := 0) rfl rfl dX7_appendBytes_22 <| ziconst hC.1 hC.2.1 dX7_appendBytes_25 <| ziadd hC.1 hC.2.1 dX7_appendBytes_26 <| ?_
        refine pfX7_60 hC hK hP (hD V_4) hS (q0 := 0) rfl (Nat.le_of_ble_eq_true rfl) dX7_appendBytes_27 (fun H locs hP hS => ?_)
        obtain ⟨V_5, eV_5⟩ : ∃ y, y = us V_4 1 ((V_4 1 0) + 1) := ⟨_, rfl⟩
        have hf := nm_at hf eV_5
        have hP : va_P D vwCl (cs_X7 kA a V_5 X pf) H := by rw [eV_5]; exact hP
        obtain ⟨x_6, ex_6⟩ : ∃ y : Int, y = y2 + (-8) := ⟨_, rfl⟩
        have hf := nm_at hf ex_6
        refine ziinc (v := x_6) (lv' := [(2, vI x_6), (0, .ref (a 0)), (1, vI x1)]) hC.1 hC.2.1 dX7_appendBytes_30 hl (k := 2) rfl ex_6 (by decide) rfl (fun ls hl => ?_)
        exact lv_goto (tgt := 3) hC.1 hC.2.1 dX7_appendBytes_33 (by decide) <| ih3 _ _ _ _ _ hf hP hS (lv_sub hl [1, 2, 0] rfl)
  refine zbipush hC.1 hC.2.1 dX7_appendBytes_0 (by decide) <| zistore_n (lv' := [(2, vI 24), (0, .ref (a 0)), (1, vI x1)]) hC.1 hC.2.1 dX7_appendBytes_2 rfl hl (by decide) rfl (fun ls hl => ?_)
  exact L3 n _ _ _ _ _ hf hP hS (lv_sub hl [1, 2, 0] rfl)
theorem DX7_appendInput_0 : ∀ q ∈ ([(0, .aload_n 0, 1), (1, .getfield 60, 3), (4, .bipush 20, 2), (6, .iadd, 1), (7, .sipush 900, 3), (10, .if_icmp .le 5, 3), (13, .iconst (-1), 1), (14, .ireturn, 1), (15, .aload_n 0, 1), (16, .iload_n 1, 1), (17, .invokevirtual 63, 3), (20, .aload_n 0, 1), (21, .iload_n 2, 1), (22, .invokevirtual 63, 3), (25, .aload_n 0, 1), (26, .iload_n 3, 1), (27, .invokevirtual 63, 3), (30, .aload_n 0, 1), (31, .iload 4, 2), (33, .invokevirtual 63, 3), (36, .aload_n 0, 1), (37, .iload 5, 2), (39, .invokevirtual 63, 3), (42, .aload_n 0, 1), (43, .getfield 60, 3), (46, .ireturn, 1)] : List (Nat × Instr × Nat)), decode cX7_appendInput q.1 = .ok q.2 := by decide +kernel
theorem dX7_appendInput_0 : decode cX7_appendInput 0 = .ok (.aload_n 0, 1) := DX7_appendInput_0 (0, .aload_n 0, 1) (List.mem_of_getElem? (i := 0) rfl)
theorem dX7_appendInput_1 : decode cX7_appendInput 1 = .ok (.getfield 60, 3) := DX7_appendInput_0 (1, .getfield 60, 3) (List.mem_of_getElem? (i := 1) rfl)
theorem dX7_appendInput_4 : decode cX7_appendInput 4 = .ok (.bipush 20, 2) := DX7_appendInput_0 (4, .bipush 20, 2) (List.mem_of_getElem? (i := 2) rfl)
theorem dX7_appendInput_6 : decode cX7_appendInput 6 = .ok (.iadd, 1) := DX7_appendInput_0 (6, .iadd, 1) (List.mem_of_getElem? (i := 3) rfl)
theorem dX7_appendInput_7 : decode cX7_appendInput 7 = .ok (.sipush 900, 3) := DX7_appendInput_0 (7, .sipush 900, 3) (List.mem_of_getElem? (i := 4) rfl)
theorem dX7_appendInput_10 : decode cX7_appendInput 10 = .ok (.if_icmp .le 5, 3) := DX7_appendInput_0 (10, .if_icmp .le 5, 3) (List.mem_of_getElem? (i := 5) rfl)
theorem dX7_appendInput_13 : decode cX7_appendInput 13 = .ok (.iconst (-1), 1) := DX7_appendInput_0 (13, .iconst (-1), 1) (List.mem_of_getElem? (i := 6) rfl)
theorem dX7_appendInput_14 : decode cX7_appendInput 14 = .ok (.ireturn, 1) := DX7_appendInput_0 (14, .ireturn, 1) (List.mem_of_getElem? (i := 7) rfl)
theorem dX7_appendInput_15 : decode cX7_appendInput 15 = .ok (.aload_n 0, 1) := DX7_appendInput_0 (15, .aload_n 0, 1) (List.mem_of_getElem? (i := 8) rfl)
theorem dX7_appendInput_16 : decode cX7_appendInput 16 = .ok (.iload_n 1, 1) := DX7_appendInput_0 (16, .iload_n 1, 1) (List.mem_of_getElem? (i := 9) rfl)
theorem dX7_appendInput_17 : decode cX7_appendInput 17 = .ok (.invokevirtual 63, 3) := DX7_appendInput_0 (17, .invokevirtual 63, 3) (List.mem_of_getElem? (i := 10) rfl)
theorem dX7_appendInput_20 : decode cX7_appendInput 20 = .ok (.aload_n 0, 1) := DX7_appendInput_0 (20, .aload_n 0, 1) (List.mem_of_getElem? (i := 11) rfl)
theorem dX7_appendInput_21 : decode cX7_appendInput 21 = .ok (.iload_n 2, 1) := DX7_appendInput_0 (21, .iload_n 2, 1) (List.mem_of_getElem? (i := 12) rfl)
theorem dX7_appendInput_22 : decode cX7_appendInput 22 = .ok (.invokevirtual 63, 3) := DX7_appendInput_0 (22, .invokevirtual 63, 3) (List.mem_of_getElem? (i := 13) rfl)
theorem dX7_appendInput_25 : decode cX7_appendInput 25 = .ok (.aload_n 0, 1) := DX7_appendInput_0 (25, .aload_n 0, 1) (List.mem_of_getElem? (i := 14) rfl)
theorem dX7_appendInput_26 : decode cX7_appendInput 26 = .ok (.iload_n 3, 1) := DX7_appendInput_0 (26, .iload_n 3, 1) (List.mem_of_getElem? (i := 15) rfl)
theorem dX7_appendInput_27 : decode cX7_appendInput 27 = .ok (.invokevirtual 63, 3) := DX7_appendInput_0 (27, .invokevirtual 63, 3) (List.mem_of_getElem? (i := 16) rfl)
theorem dX7_appendInput_30 : decode cX7_appendInput 30 = .ok (.aload_n 0, 1) := DX7_appendInput_0 (30, .aload_n 0, 1) (List.mem_of_getElem? (i := 17) rfl)
theorem dX7_appendInput_31 : decode cX7_appendInput 31 = .ok (.iload 4, 2) := DX7_appendInput_0 (31, .iload 4, 2) (List.mem_of_getElem? (i := 18) rfl)
theorem dX7_appendInput_33 : decode cX7_appendInput 33 = .ok (.invokevirtual 63, 3) := DX7_appendInput_0 (33, .invokevirtual 63, 3) (List.mem_of_getElem? (i := 19) rfl)
theorem dX7_appendInput_36 : decode cX7_appendInput 36 = .ok (.aload_n 0, 1) := DX7_appendInput_0 (36, .aload_n 0, 1) (List.mem_of_getElem? (i := 20) rfl)
theorem dX7_appendInput_37 : decode cX7_appendInput 37 = .ok (.iload 5, 2) := DX7_appendInput_0 (37, .iload 5, 2) (List.mem_of_getElem? (i := 21) rfl)
theorem dX7_appendInput_39 : decode cX7_appendInput 39 = .ok (.invokevirtual 63, 3) := DX7_appendInput_0 (39, .invokevirtual 63, 3) (List.mem_of_getElem? (i := 22) rfl)
theorem dX7_appendInput_42 : decode cX7_appendInput 42 = .ok (.aload_n 0, 1) := DX7_appendInput_0 (42, .aload_n 0, 1) (List.mem_of_getElem? (i := 23) rfl)
theorem dX7_appendInput_43 : decode cX7_appendInput 43 = .ok (.getfield 60, 3) := DX7_appendInput_0 (43, .getfield 60, 3) (List.mem_of_getElem? (i := 24) rfl)
theorem dX7_appendInput_46 : decode cX7_appendInput 46 = .ok (.ireturn, 1) := DX7_appendInput_0 (46, .ireturn, 1) (List.mem_of_getElem? (i := 25) rfl)
abbrev rmX7_appendInput : Room := { frames := 1, cells := 0, slots := 0, locals := 22 }
set_option maxHeartbeats 1000000 in
set_option maxRecDepth 100000 in
theorem met_X7_appendInput (l : Launch) (D : va_G) (kA : Nat → ClassId) (a : Nat → Nat) (pf : Nat → Option Nat) (n : Nat) (V0 : Sz) (X : Sz) (x1 : Int) (x2 : Int) (x3 : Int) (x4 : Int) (x5 : Int) (hDt : ∀ w : Sz, va_D (fun _ => True) (cs_X7 kA a w X pf)) {r : Int} {Vr : Sz} (hf : f_X7_appendInput n V0 X x1 x2 x3 x4 x5 = some (r, Vr)) : MZ l yX7_appendInput cX7_appendInput 6 (some .int) rmX7_appendInput D kA [.ref (a 0), vI x1, vI x2, vI x3, vI x4, vI x5] (cs_X7 kA a V0 X pf) (cs_X7 kA a Vr X pf) (some (vI r)) := by
  refine zZI (own := RX7) rfl rfl (Nat.le_of_ble_eq_true rfl) ?_
  intro p e s m args below meth c ls Q hC hK hP hl hret
  have hl : lv_has ls 6 [(0, .ref (a 0)), (1, vI x1), (2, vI x2), (3, vI x3), (4, vI x4), (5, vI x5)] := hl
  have hS : va_S (zF (cs_X7 kA a V0 X pf)) s.heap s.heap [] := va_S.rf
  have hD := zDself (C := fun w : Sz => (cs_X7 kA a w X pf)) hDt V0 (fun _ => rfl)
  try dsimp only at hD
  generalize hAe : zF (cs_X7 kA a V0 X pf) = A0 at hS hD hret
  unfold f_X7_appendInput at hf
  refine lv_aload_n hC.1 hC.2.1 dX7_appendInput_0 rfl (lv_at hl 0 rfl) <| gfX7_60 hC hK hP (q0 := 0) rfl rfl dX7_appendInput_1 <| zbipush hC.1 hC.2.1 dX7_appendInput_4 (by decide) <| ziadd hC.1 hC.2.1 dX7_appendInput_6 <| zsipush hC.1 hC.2.1 dX7_appendInput_7 (by decide) <| ?_
  obtain ⟨hz_1, hf⟩ := ck_some hf
  refine zicmp_le (tgt := 15) hC.1 hC.2.1 ⟨hz_1, (by decide)⟩ dX7_appendInput_10 (by decide) (fun hc => ?_) (fun hc => ?_)
  · have hf := it_t hf hc
    refine lv_aload_n hC.1 hC.2.1 dX7_appendInput_15 rfl (lv_at hl 0 rfl) <| ziload_n hC.1 hC.2.1 dX7_appendInput_16 rfl (lv_at hl 1 rfl) <| ?_
    obtain ⟨V_2, hu, hf⟩ := bd_some hf
    have hDc := hDt
    refine zcVZ (As := [vI x1]) (rest := []) hC hK (met_X7_appendBytes l D kA a pf n V0 X x1 hDc hu) zwX7_63 hS (zFsub (hD V0) [0, 1, 2, 3, 4, 5, 6, 7, 8, 9, 10, 11, 12, 13, 14, 15, 16, 17, 18, 19, 20, 21, 22, 23, 24, 25, 26, 27, 28, 29, 30, 31, 32, 33, 34, 35, 36, 37, 38, 39, 40, 41, 42, 43, 44, 45, 46, 47, 48, 49, 50, 51, 52, 53, 54, 55, 56, 57, 58, 59, 60, 61, 62, 63, 64, 65, 66, 67, 68, 69, 70, 71, 72, 73, 74, 75, 76, 77, 78, 79, 80, 81] rfl) hP (q0 := 0) rfl rfl rfl rfl hl.1 rfl (Nat.le_of_ble_eq_true rfl) ⟨Nat.le_of_ble_eq_true rfl, Nat.le_of_ble_eq_true rfl⟩ ⟨rfl, rfl⟩ ⟨Nat.le_refl _, Nat.le_refl _⟩ dX7_appendInput_17 (fun H locs hP1 hk1 hS => ?_)
    have hP : va_P D vwCl (cs_X7 kA a V_2 X pf) H := hP1
    refine lv_aload_n hC.1 hC.2.1 dX7_appendInput_20 rfl (lv_at hl 0 rfl) <| ziload_n hC.1 hC.2.1 dX7_appendInput_21 rfl (lv_at hl 2 rfl) <| ?_
    obtain ⟨V_3, hu, hf⟩ := bd_some hf
    have hDc := hDt
    refine zcVZ (As := [vI x2]) (rest := []) hC hK (met_X7_appendBytes l D kA a pf n V_2 X x2 hDc hu) zwX7_63 hS (zFsub (hD V_2) [0, 1, 2, 3, 4, 5, 6, 7, 8, 9, 10, 11, 12, 13, 14, 15, 16, 17, 18, 19, 20, 21, 22, 23, 24, 25, 26, 27, 28, 29, 30, 31, 32, 33, 34, 35, 36, 37, 38, 39, 40, 41, 42, 43, 44, 45, 46, 47, 48, 49, 50, 51, 52, 53, 54, 55, 56, 57, 58, 59, 60, 61, 62, 63, 64, 65, 66, 67, 68, 69, 70, 71, 72, 73, 74, 75, 76, 77, 78, 79, 80, 81] rfl) hP (q0 := 0) rfl rfl rfl rfl hl.1 rfl (Nat.le_of_ble_eq_true rfl) ⟨Nat.le_of_ble_eq_true rfl, Nat.le_of_ble_eq_true rfl⟩ ⟨rfl, rfl⟩ ⟨Nat.le_refl _, Nat.le_refl _⟩ dX7_appendInput_22 (fun H locs hP1 hk1 hS => ?_)
    have hP : va_P D vwCl (cs_X7 kA a V_3 X pf) H := hP1
    refine lv_aload_n hC.1 hC.2.1 dX7_appendInput_25 rfl (lv_at hl 0 rfl) <| ziload_n hC.1 hC.2.1 dX7_appendInput_26 rfl (lv_at hl 3 rfl) <| ?_
    obtain ⟨V_4, hu, hf⟩ := bd_some hf
    have hDc := hDt
    refine zcVZ (As := [vI x3]) (rest := []) hC hK (met_X7_appendBytes l D kA a pf n V_3 X x3 hDc hu) zwX7_63 hS (zFsub (hD V_3) [0, 1, 2, 3, 4, 5, 6, 7, 8, 9, 10, 11, 12, 13, 14, 15, 16, 17, 18, 19, 20, 21, 22, 23, 24, 25, 26, 27, 28, 29, 30, 31, 32, 33, 34, 35, 36, 37, 38, 39, 40, 41, 42, 43, 44, 45, 46, 47, 48, 49, 50, 51, 52, 53, 54, 55, 56, 57, 58, 59, 60, 61, 62, 63, 64, 65, 66, 67, 68, 69, 70, 71, 72, 73, 74, 75, 76, 77, 78, 79, 80, 81] rfl) hP (q0 := 0) rfl rfl rfl rfl hl.1 rfl (Nat.le_of_ble_eq_true rfl) ⟨Nat.le_of_ble_eq_true rfl, Nat.le_of_ble_eq_true rfl⟩ ⟨rfl, rfl⟩ ⟨Nat.le_refl _, Nat.le_refl _⟩ dX7_appendInput_27 (fun H locs hP1 hk1 hS => ?_)
    have hP : va_P D vwCl (cs_X7 kA a V_4 X pf) H := hP1
    refine lv_aload_n hC.1 hC.2.1 dX7_appendInput_30 rfl (lv_at hl 0 rfl) <| ziload hC.1 hC.2.1 dX7_appendInput_31 (lv_at hl 4 rfl) <| ?_
    obtain ⟨V_5, hu, hf⟩ := bd_some hf
    have hDc := hDt
    refine zcVZ (As := [vI x4]) (rest := []) hC hK (met_X7_appendBytes l D kA a pf n V_4 X x4 hDc hu) zwX7_63 hS (zFsub (hD V_4) [0, 1, 2, 3, 4, 5, 6, 7, 8, 9, 10, 11, 12, 13, 14, 15, 16, 17, 18, 19, 20, 21, 22, 23, 24, 25, 26, 27, 28, 29, 30, 31, 32, 33, 34, 35, 36, 37, 38, 39, 40, 41, 42, 43, 44, 45, 46, 47, 48, 49, 50, 51, 52, 53, 54, 55, 56, 57, 58, 59, 60, 61, 62, 63, 64, 65, 66, 67, 68, 69, 70, 71, 72, 73, 74, 75, 76, 77, 78, 79, 80, 81] rfl) hP (q0 := 0) rfl rfl rfl rfl hl.1 rfl (Nat.le_of_ble_eq_true rfl) ⟨Nat.le_of_ble_eq_true rfl, Nat.le_of_ble_eq_true rfl⟩ ⟨rfl, rfl⟩ ⟨Nat.le_refl _, Nat.le_refl _⟩ dX7_appendInput_33 (fun H locs hP1 hk1 hS => ?_)
    have hP : va_P D vwCl (cs_X7 kA a V_5 X pf) H := hP1
    refine lv_aload_n hC.1 hC.2.1 dX7_appendInput_36 rfl (lv_at hl 0 rfl) <| ziload hC.1 hC.2.1 dX7_appendInput_37 (lv_at hl 5 rfl) <| ?_
    obtain ⟨V_6, hu, hf⟩ := bd_some hf
    have hDc := hDt
    refine zcVZ (As := [vI x5]) (rest := []) hC hK (met_X7_appendBytes l D kA a pf n V_5 X x5 hDc hu) zwX7_63 hS (zFsub (hD V_5) [0, 1, 2, 3, 4, 5, 6, 7, 8, 9, 10, 11, 12, 13, 14, 15, 16, 17, 18, 19, 20, 21, 22, 23, 24, 25, 26, 27, 28, 29, 30, 31, 32, 33, 34, 35, 36, 37, 38, 39, 40, 41, 42, 43, 44, 45, 46, 47, 48, 49, 50, 51, 52, 53, 54, 55, 56, 57, 58, 59, 60, 61, 62, 63, 64, 65, 66, 67, 68, 69, 70, 71, 72, 73, 74, 75, 76, 77, 78, 79, 80, 81] rfl) hP (q0 := 0) rfl rfl rfl rfl hl.1 rfl (Nat.le_of_ble_eq_true rfl) ⟨Nat.le_of_ble_eq_true rfl, Nat.le_of_ble_eq_true rfl⟩ ⟨rfl, rfl⟩ ⟨Nat.le_refl _, Nat.le_refl _⟩ dX7_appendInput_39 (fun H locs hP1 hk1 hS => ?_)
    have hP : va_P D vwCl (cs_X7 kA a V_6 X pf) H := hP1
    refine lv_aload_n hC.1 hC.2.1 dX7_appendInput_42 rfl (lv_at hl 0 rfl) <| gfX7_60 hC hK hP (q0 := 0) rfl rfl dX7_appendInput_43 <| ?_
    have hf := Option.some.inj hf
    simp only [Prod.mk.injEq] at hf
    exact hret (Int32.ofInt (V_6 1 0)) _ _ _ _ (congrArg (fun z => some (vI z)) hf.1.symm) (by rw [← hf.2]; exact hP) hS dX7_appendInput_46
  · have hf := it_f hf hc
    refine ziconst hC.1 hC.2.1 dX7_appendInput_13 <| ?_
    have hf := Option.some.inj hf
    simp only [Prod.mk.injEq] at hf
    exact hret (Int32.ofInt (-1)) _ _ _ _ (congrArg (fun z => some (vI z)) hf.1.symm) (by rw [← hf.2]; exact hP) hS dX7_appendInput_14
theorem DX7_truncateInput_0 : ∀ q ∈ ([(0, .iload_n 1, 1), (1, .ifCond .lt 11, 3), (4, .iload_n 1, 1), (5, .aload_n 0, 1), (6, .getfield 60, 3), (9, .if_icmp .le 5, 3), (12, .iconst 0, 1), (13, .ireturn, 1), (14, .aload_n 0, 1), (15, .iload_n 1, 1), (16, .putfield 60, 3), (19, .iconst 1, 1), (20, .ireturn, 1)] : List (Nat × Instr × Nat)), decode cX7_truncateInput q.1 = .ok q.2 := by decide +kernel
theorem dX7_truncateInput_0 : decode cX7_truncateInput 0 = .ok (.iload_n 1, 1) := DX7_truncateInput_0 (0, .iload_n 1, 1) (List.mem_of_getElem? (i := 0) rfl)
theorem dX7_truncateInput_1 : decode cX7_truncateInput 1 = .ok (.ifCond .lt 11, 3) := DX7_truncateInput_0 (1, .ifCond .lt 11, 3) (List.mem_of_getElem? (i := 1) rfl)
theorem dX7_truncateInput_4 : decode cX7_truncateInput 4 = .ok (.iload_n 1, 1) := DX7_truncateInput_0 (4, .iload_n 1, 1) (List.mem_of_getElem? (i := 2) rfl)
theorem dX7_truncateInput_5 : decode cX7_truncateInput 5 = .ok (.aload_n 0, 1) := DX7_truncateInput_0 (5, .aload_n 0, 1) (List.mem_of_getElem? (i := 3) rfl)
theorem dX7_truncateInput_6 : decode cX7_truncateInput 6 = .ok (.getfield 60, 3) := DX7_truncateInput_0 (6, .getfield 60, 3) (List.mem_of_getElem? (i := 4) rfl)
theorem dX7_truncateInput_9 : decode cX7_truncateInput 9 = .ok (.if_icmp .le 5, 3) := DX7_truncateInput_0 (9, .if_icmp .le 5, 3) (List.mem_of_getElem? (i := 5) rfl)
theorem dX7_truncateInput_12 : decode cX7_truncateInput 12 = .ok (.iconst 0, 1) := DX7_truncateInput_0 (12, .iconst 0, 1) (List.mem_of_getElem? (i := 6) rfl)
theorem dX7_truncateInput_13 : decode cX7_truncateInput 13 = .ok (.ireturn, 1) := DX7_truncateInput_0 (13, .ireturn, 1) (List.mem_of_getElem? (i := 7) rfl)
theorem dX7_truncateInput_14 : decode cX7_truncateInput 14 = .ok (.aload_n 0, 1) := DX7_truncateInput_0 (14, .aload_n 0, 1) (List.mem_of_getElem? (i := 8) rfl)
theorem dX7_truncateInput_15 : decode cX7_truncateInput 15 = .ok (.iload_n 1, 1) := DX7_truncateInput_0 (15, .iload_n 1, 1) (List.mem_of_getElem? (i := 9) rfl)
theorem dX7_truncateInput_16 : decode cX7_truncateInput 16 = .ok (.putfield 60, 3) := DX7_truncateInput_0 (16, .putfield 60, 3) (List.mem_of_getElem? (i := 10) rfl)
theorem dX7_truncateInput_19 : decode cX7_truncateInput 19 = .ok (.iconst 1, 1) := DX7_truncateInput_0 (19, .iconst 1, 1) (List.mem_of_getElem? (i := 11) rfl)
theorem dX7_truncateInput_20 : decode cX7_truncateInput 20 = .ok (.ireturn, 1) := DX7_truncateInput_0 (20, .ireturn, 1) (List.mem_of_getElem? (i := 12) rfl)
abbrev rmX7_truncateInput : Room := { frames := 0, cells := 0, slots := 0, locals := 0 }
set_option maxHeartbeats 1000000 in
set_option maxRecDepth 100000 in
theorem met_X7_truncateInput (l : Launch) (D : va_G) (kA : Nat → ClassId) (a : Nat → Nat) (pf : Nat → Option Nat) (V0 : Sz) (X : Sz) (x1 : Int) (hDt : ∀ w : Sz, va_D (fun _ => True) (cs_X7 kA a w X pf)) {r : Bool} {Vr : Sz} (hf : f_X7_truncateInput V0 X x1 = some (r, Vr)) : MZ l yX7_truncateInput cX7_truncateInput 2 (some .boolean) rmX7_truncateInput D kA [.ref (a 0), vI x1] (cs_X7 kA a V0 X pf) (cs_X7 kA a Vr X pf) (some (vI (bI r))) := by
  refine zZZ (own := RX7) rfl rfl (Nat.le_of_ble_eq_true rfl) ?_
  intro p e s m args below meth c ls Q hC hK hP hl hret
  have hl : lv_has ls 2 [(0, .ref (a 0)), (1, vI x1)] := hl
  have hS : va_S (zF (cs_X7 kA a V0 X pf)) s.heap s.heap [] := va_S.rf
  have hD := zDself (C := fun w : Sz => (cs_X7 kA a w X pf)) hDt V0 (fun _ => rfl)
  try dsimp only at hD
  generalize hAe : zF (cs_X7 kA a V0 X pf) = A0 at hS hD hret
  unfold f_X7_truncateInput at hf
  refine ziload_n hC.1 hC.2.1 dX7_truncateInput_0 rfl (lv_at hl 1 rfl) <| ?_
  obtain ⟨hz_1, hf⟩ := ck_some hf
  refine zif_lt (tgt := 12) hC.1 hC.2.1 hz_1 dX7_truncateInput_1 (by decide) (fun hc => ?_) (fun hc => ?_)
  · have hf := it_t hf hc
    refine ziconst hC.1 hC.2.1 dX7_truncateInput_12 <| ?_
    have hf := Option.some.inj hf
    simp only [Prod.mk.injEq] at hf
    exact hret (Int32.ofInt (bI false)) _ _ _ _ (zb01 _) (congrArg (fun z => some (vI (bI z))) hf.1.symm) (by rw [← hf.2]; exact hP) hS dX7_truncateInput_13
  · have hf := it_f hf hc
    refine ziload_n hC.1 hC.2.1 dX7_truncateInput_4 rfl (lv_at hl 1 rfl) <| lv_aload_n hC.1 hC.2.1 dX7_truncateInput_5 rfl (lv_at hl 0 rfl) <| gfX7_60 hC hK hP (q0 := 0) rfl rfl dX7_truncateInput_6 <| ?_
    obtain ⟨hz_2, hf⟩ := ck_some hf
    refine zicmp_le (tgt := 14) hC.1 hC.2.1 ⟨hz_1, hz_2⟩ dX7_truncateInput_9 (by decide) (fun hc => ?_) (fun hc => ?_)
    · have hf := it_t hf hc
      refine lv_aload_n hC.1 hC.2.1 dX7_truncateInput_14 rfl (lv_at hl 0 rfl) <| ziload_n hC.1 hC.2.1 dX7_truncateInput_15 rfl (lv_at hl 1 rfl) <| ?_
      refine pfX7_60 hC hK hP (hD V0) hS (q0 := 0) rfl (Nat.le_of_ble_eq_true rfl) dX7_truncateInput_16 (fun H locs hP hS => ?_)
      obtain ⟨V_3, eV_3⟩ : ∃ y, y = us V0 1 x1 := ⟨_, rfl⟩
      have hf := nm_at hf eV_3
      have hP : va_P D vwCl (cs_X7 kA a V_3 X pf) H := by rw [eV_3]; exact hP
      refine ziconst hC.1 hC.2.1 dX7_truncateInput_19 <| ?_
      have hf := Option.some.inj hf
      simp only [Prod.mk.injEq] at hf
      exact hret (Int32.ofInt (bI true)) _ _ _ _ (zb01 _) (congrArg (fun z => some (vI (bI z))) hf.1.symm) (by rw [← hf.2]; exact hP) hS dX7_truncateInput_20
    · have hf := it_f hf hc
      refine ziconst hC.1 hC.2.1 dX7_truncateInput_12 <| ?_
      have hf := Option.some.inj hf
      simp only [Prod.mk.injEq] at hf
      exact hret (Int32.ofInt (bI false)) _ _ _ _ (zb01 _) (congrArg (fun z => some (vI (bI z))) hf.1.symm) (by rw [← hf.2]; exact hP) hS dX7_truncateInput_13
theorem DX7_errorCode_0 : ∀ q ∈ ([(0, .aload_n 0, 1), (1, .getfield 13, 3), (4, .ireturn, 1)] : List (Nat × Instr × Nat)), decode cX7_errorCode q.1 = .ok q.2 := by decide +kernel
theorem dX7_errorCode_0 : decode cX7_errorCode 0 = .ok (.aload_n 0, 1) := DX7_errorCode_0 (0, .aload_n 0, 1) (List.mem_of_getElem? (i := 0) rfl)
theorem dX7_errorCode_1 : decode cX7_errorCode 1 = .ok (.getfield 13, 3) := DX7_errorCode_0 (1, .getfield 13, 3) (List.mem_of_getElem? (i := 1) rfl)
theorem dX7_errorCode_4 : decode cX7_errorCode 4 = .ok (.ireturn, 1) := DX7_errorCode_0 (4, .ireturn, 1) (List.mem_of_getElem? (i := 2) rfl)
abbrev rmX7_errorCode : Room := { frames := 0, cells := 0, slots := 0, locals := 0 }
set_option maxHeartbeats 1000000 in
set_option maxRecDepth 100000 in
theorem met_X7_errorCode (l : Launch) (D : va_G) (kA : Nat → ClassId) (a : Nat → Nat) (pf : Nat → Option Nat) (V : Sz) (X : Sz) {r : Int} (hf : f_X7_errorCode V X = some r) : MP l yX7_errorCode cX7_errorCode 1 (some .int) rmX7_errorCode D kA [.ref (a 0)] (cs_X7 kA a V X pf) (some (vI r)) := by
  refine zPI (own := RX7) rfl rfl (Nat.le_of_ble_eq_true rfl) ?_
  intro p e s m args below meth c ls Q hC hK hP hl hret
  have hl : lv_has ls 1 [(0, .ref (a 0))] := hl
  unfold f_X7_errorCode at hf
  exact lv_aload_n hC.1 hC.2.1 dX7_errorCode_0 rfl (lv_at hl 0 rfl) <| gfX7_13 hC hK hP (q0 := 0) rfl rfl dX7_errorCode_1 <| hret (Int32.ofInt (V 2 0)) _ _ (qI hf) dX7_errorCode_4
theorem DX7_errorOffset_0 : ∀ q ∈ ([(0, .aload_n 0, 1), (1, .getfield 17, 3), (4, .ireturn, 1)] : List (Nat × Instr × Nat)), decode cX7_errorOffset q.1 = .ok q.2 := by decide +kernel
theorem dX7_errorOffset_0 : decode cX7_errorOffset 0 = .ok (.aload_n 0, 1) := DX7_errorOffset_0 (0, .aload_n 0, 1) (List.mem_of_getElem? (i := 0) rfl)
theorem dX7_errorOffset_1 : decode cX7_errorOffset 1 = .ok (.getfield 17, 3) := DX7_errorOffset_0 (1, .getfield 17, 3) (List.mem_of_getElem? (i := 1) rfl)
theorem dX7_errorOffset_4 : decode cX7_errorOffset 4 = .ok (.ireturn, 1) := DX7_errorOffset_0 (4, .ireturn, 1) (List.mem_of_getElem? (i := 2) rfl)
abbrev rmX7_errorOffset : Room := { frames := 0, cells := 0, slots := 0, locals := 0 }
set_option maxHeartbeats 1000000 in
set_option maxRecDepth 100000 in
theorem met_X7_errorOffset (l : Launch) (D : va_G) (kA : Nat → ClassId) (a : Nat → Nat) (pf : Nat → Option Nat) (V : Sz) (X : Sz) {r : Int} (hf : f_X7_errorOffset V X = some r) : MP l yX7_errorOffset cX7_errorOffset 1 (some .int) rmX7_errorOffset D kA [.ref (a 0)] (cs_X7 kA a V X pf) (some (vI r)) := by
  refine zPI (own := RX7) rfl rfl (Nat.le_of_ble_eq_true rfl) ?_
  intro p e s m args below meth c ls Q hC hK hP hl hret
  have hl : lv_has ls 1 [(0, .ref (a 0))] := hl
  unfold f_X7_errorOffset at hf
  exact lv_aload_n hC.1 hC.2.1 dX7_errorOffset_0 rfl (lv_at hl 0 rfl) <| gfX7_17 hC hK hP (q0 := 0) rfl rfl dX7_errorOffset_1 <| hret (Int32.ofInt (V 3 0)) _ _ (qI hf) dX7_errorOffset_4
theorem DX7_count_0 : ∀ q ∈ ([(0, .iload_n 1, 1), (1, .tableswitch 144 0 9 #[55, 63, 74, 85, 96, 107, 115, 123, 131, 139], 55), (56, .aload_n 0, 1), (57, .getfield 23, 3), (60, .getfield 95, 3), (63, .ireturn, 1), (64, .aload_n 0, 1), (65, .getfield 23, 3), (68, .getfield 98, 3), (71, .getfield 102, 3), (74, .ireturn, 1), (75, .aload_n 0, 1), (76, .getfield 23, 3), (79, .getfield 86, 3), (82, .getfield 90, 3), (85, .ireturn, 1), (86, .aload_n 0, 1), (87, .getfield 23, 3), (90, .getfield 86, 3), (93, .invokevirtual 105, 3), (96, .ireturn, 1), (97, .aload_n 0, 1), (98, .getfield 23, 3), (101, .getfield 109, 3), (104, .getfield 113, 3), (107, .ireturn, 1), (108, .aload_n 0, 1), (109, .getfield 23, 3), (112, .getfield 116, 3), (115, .ireturn, 1), (116, .aload_n 0, 1), (117, .getfield 23, 3), (120, .getfield 119, 3), (123, .ireturn, 1), (124, .aload_n 0, 1), (125, .getfield 23, 3), (128, .getfield 122, 3), (131, .ireturn, 1), (132, .aload_n 0, 1), (133, .getfield 23, 3)] : List (Nat × Instr × Nat)), decode cX7_count q.1 = .ok q.2 := by decide +kernel
theorem dX7_count_0 : decode cX7_count 0 = .ok (.iload_n 1, 1) := DX7_count_0 (0, .iload_n 1, 1) (List.mem_of_getElem? (i := 0) rfl)
theorem dX7_count_1 : decode cX7_count 1 = .ok (.tableswitch 144 0 9 #[55, 63, 74, 85, 96, 107, 115, 123, 131, 139], 55) := DX7_count_0 (1, .tableswitch 144 0 9 #[55, 63, 74, 85, 96, 107, 115, 123, 131, 139], 55) (List.mem_of_getElem? (i := 1) rfl)
theorem dX7_count_56 : decode cX7_count 56 = .ok (.aload_n 0, 1) := DX7_count_0 (56, .aload_n 0, 1) (List.mem_of_getElem? (i := 2) rfl)
theorem dX7_count_57 : decode cX7_count 57 = .ok (.getfield 23, 3) := DX7_count_0 (57, .getfield 23, 3) (List.mem_of_getElem? (i := 3) rfl)
theorem dX7_count_60 : decode cX7_count 60 = .ok (.getfield 95, 3) := DX7_count_0 (60, .getfield 95, 3) (List.mem_of_getElem? (i := 4) rfl)
theorem dX7_count_63 : decode cX7_count 63 = .ok (.ireturn, 1) := DX7_count_0 (63, .ireturn, 1) (List.mem_of_getElem? (i := 5) rfl)
theorem dX7_count_64 : decode cX7_count 64 = .ok (.aload_n 0, 1) := DX7_count_0 (64, .aload_n 0, 1) (List.mem_of_getElem? (i := 6) rfl)
theorem dX7_count_65 : decode cX7_count 65 = .ok (.getfield 23, 3) := DX7_count_0 (65, .getfield 23, 3) (List.mem_of_getElem? (i := 7) rfl)
theorem dX7_count_68 : decode cX7_count 68 = .ok (.getfield 98, 3) := DX7_count_0 (68, .getfield 98, 3) (List.mem_of_getElem? (i := 8) rfl)
theorem dX7_count_71 : decode cX7_count 71 = .ok (.getfield 102, 3) := DX7_count_0 (71, .getfield 102, 3) (List.mem_of_getElem? (i := 9) rfl)
theorem dX7_count_74 : decode cX7_count 74 = .ok (.ireturn, 1) := DX7_count_0 (74, .ireturn, 1) (List.mem_of_getElem? (i := 10) rfl)
theorem dX7_count_75 : decode cX7_count 75 = .ok (.aload_n 0, 1) := DX7_count_0 (75, .aload_n 0, 1) (List.mem_of_getElem? (i := 11) rfl)
theorem dX7_count_76 : decode cX7_count 76 = .ok (.getfield 23, 3) := DX7_count_0 (76, .getfield 23, 3) (List.mem_of_getElem? (i := 12) rfl)
theorem dX7_count_79 : decode cX7_count 79 = .ok (.getfield 86, 3) := DX7_count_0 (79, .getfield 86, 3) (List.mem_of_getElem? (i := 13) rfl)
theorem dX7_count_82 : decode cX7_count 82 = .ok (.getfield 90, 3) := DX7_count_0 (82, .getfield 90, 3) (List.mem_of_getElem? (i := 14) rfl)
theorem dX7_count_85 : decode cX7_count 85 = .ok (.ireturn, 1) := DX7_count_0 (85, .ireturn, 1) (List.mem_of_getElem? (i := 15) rfl)
theorem dX7_count_86 : decode cX7_count 86 = .ok (.aload_n 0, 1) := DX7_count_0 (86, .aload_n 0, 1) (List.mem_of_getElem? (i := 16) rfl)
theorem dX7_count_87 : decode cX7_count 87 = .ok (.getfield 23, 3) := DX7_count_0 (87, .getfield 23, 3) (List.mem_of_getElem? (i := 17) rfl)
theorem dX7_count_90 : decode cX7_count 90 = .ok (.getfield 86, 3) := DX7_count_0 (90, .getfield 86, 3) (List.mem_of_getElem? (i := 18) rfl)
theorem dX7_count_93 : decode cX7_count 93 = .ok (.invokevirtual 105, 3) := DX7_count_0 (93, .invokevirtual 105, 3) (List.mem_of_getElem? (i := 19) rfl)
theorem dX7_count_96 : decode cX7_count 96 = .ok (.ireturn, 1) := DX7_count_0 (96, .ireturn, 1) (List.mem_of_getElem? (i := 20) rfl)
theorem dX7_count_97 : decode cX7_count 97 = .ok (.aload_n 0, 1) := DX7_count_0 (97, .aload_n 0, 1) (List.mem_of_getElem? (i := 21) rfl)
theorem dX7_count_98 : decode cX7_count 98 = .ok (.getfield 23, 3) := DX7_count_0 (98, .getfield 23, 3) (List.mem_of_getElem? (i := 22) rfl)
theorem dX7_count_101 : decode cX7_count 101 = .ok (.getfield 109, 3) := DX7_count_0 (101, .getfield 109, 3) (List.mem_of_getElem? (i := 23) rfl)
theorem dX7_count_104 : decode cX7_count 104 = .ok (.getfield 113, 3) := DX7_count_0 (104, .getfield 113, 3) (List.mem_of_getElem? (i := 24) rfl)
theorem dX7_count_107 : decode cX7_count 107 = .ok (.ireturn, 1) := DX7_count_0 (107, .ireturn, 1) (List.mem_of_getElem? (i := 25) rfl)
theorem dX7_count_108 : decode cX7_count 108 = .ok (.aload_n 0, 1) := DX7_count_0 (108, .aload_n 0, 1) (List.mem_of_getElem? (i := 26) rfl)
theorem dX7_count_109 : decode cX7_count 109 = .ok (.getfield 23, 3) := DX7_count_0 (109, .getfield 23, 3) (List.mem_of_getElem? (i := 27) rfl)
theorem dX7_count_112 : decode cX7_count 112 = .ok (.getfield 116, 3) := DX7_count_0 (112, .getfield 116, 3) (List.mem_of_getElem? (i := 28) rfl)
theorem dX7_count_115 : decode cX7_count 115 = .ok (.ireturn, 1) := DX7_count_0 (115, .ireturn, 1) (List.mem_of_getElem? (i := 29) rfl)
theorem dX7_count_116 : decode cX7_count 116 = .ok (.aload_n 0, 1) := DX7_count_0 (116, .aload_n 0, 1) (List.mem_of_getElem? (i := 30) rfl)
theorem dX7_count_117 : decode cX7_count 117 = .ok (.getfield 23, 3) := DX7_count_0 (117, .getfield 23, 3) (List.mem_of_getElem? (i := 31) rfl)
theorem dX7_count_120 : decode cX7_count 120 = .ok (.getfield 119, 3) := DX7_count_0 (120, .getfield 119, 3) (List.mem_of_getElem? (i := 32) rfl)
theorem dX7_count_123 : decode cX7_count 123 = .ok (.ireturn, 1) := DX7_count_0 (123, .ireturn, 1) (List.mem_of_getElem? (i := 33) rfl)
theorem dX7_count_124 : decode cX7_count 124 = .ok (.aload_n 0, 1) := DX7_count_0 (124, .aload_n 0, 1) (List.mem_of_getElem? (i := 34) rfl)
theorem dX7_count_125 : decode cX7_count 125 = .ok (.getfield 23, 3) := DX7_count_0 (125, .getfield 23, 3) (List.mem_of_getElem? (i := 35) rfl)
theorem dX7_count_128 : decode cX7_count 128 = .ok (.getfield 122, 3) := DX7_count_0 (128, .getfield 122, 3) (List.mem_of_getElem? (i := 36) rfl)
theorem dX7_count_131 : decode cX7_count 131 = .ok (.ireturn, 1) := DX7_count_0 (131, .ireturn, 1) (List.mem_of_getElem? (i := 37) rfl)
theorem dX7_count_132 : decode cX7_count 132 = .ok (.aload_n 0, 1) := DX7_count_0 (132, .aload_n 0, 1) (List.mem_of_getElem? (i := 38) rfl)
theorem dX7_count_133 : decode cX7_count 133 = .ok (.getfield 23, 3) := DX7_count_0 (133, .getfield 23, 3) (List.mem_of_getElem? (i := 39) rfl)
theorem DX7_count_1 : ∀ q ∈ ([(136, .invokevirtual 125, 3), (139, .ireturn, 1), (140, .aload_n 0, 1), (141, .getfield 79, 3), (144, .ireturn, 1), (145, .new 128, 3), (148, .dup, 1), (149, .ldc 130, 2), (151, .invokespecial 132, 3), (154, .athrow, 1)] : List (Nat × Instr × Nat)), decode cX7_count q.1 = .ok q.2 := by decide +kernel
theorem dX7_count_136 : decode cX7_count 136 = .ok (.invokevirtual 125, 3) := DX7_count_1 (136, .invokevirtual 125, 3) (List.mem_of_getElem? (i := 0) rfl)
theorem dX7_count_139 : decode cX7_count 139 = .ok (.ireturn, 1) := DX7_count_1 (139, .ireturn, 1) (List.mem_of_getElem? (i := 1) rfl)
theorem dX7_count_140 : decode cX7_count 140 = .ok (.aload_n 0, 1) := DX7_count_1 (140, .aload_n 0, 1) (List.mem_of_getElem? (i := 2) rfl)
theorem dX7_count_141 : decode cX7_count 141 = .ok (.getfield 79, 3) := DX7_count_1 (141, .getfield 79, 3) (List.mem_of_getElem? (i := 3) rfl)
theorem dX7_count_144 : decode cX7_count 144 = .ok (.ireturn, 1) := DX7_count_1 (144, .ireturn, 1) (List.mem_of_getElem? (i := 4) rfl)
theorem dX7_count_145 : decode cX7_count 145 = .ok (.new 128, 3) := DX7_count_1 (145, .new 128, 3) (List.mem_of_getElem? (i := 5) rfl)
theorem dX7_count_148 : decode cX7_count 148 = .ok (.dup, 1) := DX7_count_1 (148, .dup, 1) (List.mem_of_getElem? (i := 6) rfl)
theorem dX7_count_149 : decode cX7_count 149 = .ok (.ldc 130, 2) := DX7_count_1 (149, .ldc 130, 2) (List.mem_of_getElem? (i := 7) rfl)
theorem dX7_count_151 : decode cX7_count 151 = .ok (.invokespecial 132, 3) := DX7_count_1 (151, .invokespecial 132, 3) (List.mem_of_getElem? (i := 8) rfl)
theorem dX7_count_154 : decode cX7_count 154 = .ok (.athrow, 1) := DX7_count_1 (154, .athrow, 1) (List.mem_of_getElem? (i := 9) rfl)
abbrev rmX7_count : Room := { frames := 2, cells := 0, slots := 0, locals := 43 }
set_option maxHeartbeats 1000000 in
set_option maxRecDepth 100000 in
theorem met_X7_count (l : Launch) (D : va_G) (kA : Nat → ClassId) (a : Nat → Nat) (pf : Nat → Option Nat) (n : Nat) (V : Sz) (X : Sz) (x1 : Int) {r : Int} (hf : f_X7_count n V X x1 = some (.inl r)) : MP l yX7_count cX7_count 2 (some .int) rmX7_count D kA [.ref (a 0), vI x1] (cs_X7 kA a V X pf) (some (vI r)) := by
  refine zPI (own := RX7) rfl rfl (Nat.le_of_ble_eq_true rfl) ?_
  intro p e s m args below meth c ls Q hC hK hP hl hret
  have hl : lv_has ls 2 [(0, .ref (a 0)), (1, vI x1)] := hl
  unfold f_X7_count at hf
  refine ziload_n hC.1 hC.2.1 dX7_count_0 rfl (lv_at hl 1 rfl) <| ?_
  obtain ⟨hz_1, hf⟩ := ck_some hf
  by_cases hc : x1 = 0
  · have hf := it_t hf hc
    refine ztsIn (k := 0) (tgt := 56) hC.1 hC.2.1 dX7_count_1 hc (by decide) rfl (by decide) ?_
    have hf := bl_inl hf
    exact lv_aload_n hC.1 hC.2.1 dX7_count_56 rfl (lv_at hl 0 rfl) <| gfX7_23 hC hK hP (q0 := 0) rfl rfl dX7_count_57 <| gfX7_95 hC hK hP (q0 := 2) rfl rfl dX7_count_60 <| hret (Int32.ofInt (V 7 0)) _ _ (qI hf) dX7_count_63
  have hf := it_f hf hc
  have hc0 := hc
  by_cases hc : x1 = 1
  · have hf := it_t hf hc
    refine ztsIn (k := 1) (tgt := 64) hC.1 hC.2.1 dX7_count_1 hc (by decide) rfl (by decide) ?_
    have hf := bl_inl hf
    exact lv_aload_n hC.1 hC.2.1 dX7_count_64 rfl (lv_at hl 0 rfl) <| gfX7_23 hC hK hP (q0 := 0) rfl rfl dX7_count_65 <| gfX7_98 hC hK hP (q0 := 2) rfl rfl dX7_count_68 <| gfX7_102 hC hK hP (q0 := 4) rfl rfl dX7_count_71 <| hret (Int32.ofInt (V 9 0)) _ _ (qI hf) dX7_count_74
  have hf := it_f hf hc
  have hc1 := hc
  by_cases hc : x1 = 2
  · have hf := it_t hf hc
    refine ztsIn (k := 2) (tgt := 75) hC.1 hC.2.1 dX7_count_1 hc (by decide) rfl (by decide) ?_
    have hf := bl_inl hf
    exact lv_aload_n hC.1 hC.2.1 dX7_count_75 rfl (lv_at hl 0 rfl) <| gfX7_23 hC hK hP (q0 := 0) rfl rfl dX7_count_76 <| gfX7_86 hC hK hP (q0 := 2) rfl rfl dX7_count_79 <| gfX7_90 hC hK hP (q0 := 8) rfl rfl dX7_count_82 <| hret (Int32.ofInt (V 13 0)) _ _ (qI hf) dX7_count_85
  have hf := it_f hf hc
  have hc2 := hc
  by_cases hc : x1 = 3
  · have hf := it_t hf hc
    refine ztsIn (k := 3) (tgt := 86) hC.1 hC.2.1 dX7_count_1 hc (by decide) rfl (by decide) ?_
    have hf := bl_inl hf
    refine lv_aload_n hC.1 hC.2.1 dX7_count_86 rfl (lv_at hl 0 rfl) <| gfX7_23 hC hK hP (q0 := 0) rfl rfl dX7_count_87 <| gfX7_86 hC hK hP (q0 := 2) rfl rfl dX7_count_90 <| ?_
    obtain ⟨r_2, hu, hf⟩ := bd_some hf
    have hPc : va_P D vwCl (cs_X3 kA (sv 8 a) (sv 13 V)) _ := hP.sub [8, 9, 10, 11, 12, 13, 14, 15, 16, 17, 18, 19] rfl
    exact zcVP (As := []) (rest := []) hC hK (met_X3_countWithoutParts l D kA (sv 8 a) n (sv 13 V) hu) zwX7_105 hPc (q0 := 0) rfl rfl rfl rfl hl.1 rfl (Nat.le_of_ble_eq_true rfl) ⟨Nat.le_of_ble_eq_true rfl, Nat.le_of_ble_eq_true rfl⟩ ⟨rfl, rfl⟩ ⟨Nat.le_refl _, Nat.le_refl _⟩ dX7_count_93 <| hret (Int32.ofInt r_2) _ _ (qI hf) dX7_count_96
  have hf := it_f hf hc
  have hc3 := hc
  by_cases hc : x1 = 4
  · have hf := it_t hf hc
    refine ztsIn (k := 4) (tgt := 97) hC.1 hC.2.1 dX7_count_1 hc (by decide) rfl (by decide) ?_
    have hf := bl_inl hf
    exact lv_aload_n hC.1 hC.2.1 dX7_count_97 rfl (lv_at hl 0 rfl) <| gfX7_23 hC hK hP (q0 := 0) rfl rfl dX7_count_98 <| gfX7_109 hC hK hP (q0 := 2) rfl rfl dX7_count_101 <| gfX7_113 hC hK hP (q0 := 20) rfl rfl dX7_count_104 <| hret (Int32.ofInt (V 25 0)) _ _ (qI hf) dX7_count_107
  have hf := it_f hf hc
  have hc4 := hc
  by_cases hc : x1 = 5
  · have hf := it_t hf hc
    refine ztsIn (k := 5) (tgt := 108) hC.1 hC.2.1 dX7_count_1 hc (by decide) rfl (by decide) ?_
    have hf := bl_inl hf
    exact lv_aload_n hC.1 hC.2.1 dX7_count_108 rfl (lv_at hl 0 rfl) <| gfX7_23 hC hK hP (q0 := 0) rfl rfl dX7_count_109 <| gfX7_116 hC hK hP (q0 := 2) rfl rfl dX7_count_112 <| hret (Int32.ofInt (V 4 0)) _ _ (qI hf) dX7_count_115
  have hf := it_f hf hc
  have hc5 := hc
  by_cases hc : x1 = 6
  · have hf := it_t hf hc
    refine ztsIn (k := 6) (tgt := 116) hC.1 hC.2.1 dX7_count_1 hc (by decide) rfl (by decide) ?_
    have hf := bl_inl hf
    exact lv_aload_n hC.1 hC.2.1 dX7_count_116 rfl (lv_at hl 0 rfl) <| gfX7_23 hC hK hP (q0 := 0) rfl rfl dX7_count_117 <| gfX7_119 hC hK hP (q0 := 2) rfl rfl dX7_count_120 <| hret (Int32.ofInt (V 5 0)) _ _ (qI hf) dX7_count_123
  have hf := it_f hf hc
  have hc6 := hc
  by_cases hc : x1 = 7
  · have hf := it_t hf hc
    refine ztsIn (k := 7) (tgt := 124) hC.1 hC.2.1 dX7_count_1 hc (by decide) rfl (by decide) ?_
    have hf := bl_inl hf
    exact lv_aload_n hC.1 hC.2.1 dX7_count_124 rfl (lv_at hl 0 rfl) <| gfX7_23 hC hK hP (q0 := 0) rfl rfl dX7_count_125 <| gfX7_122 hC hK hP (q0 := 2) rfl rfl dX7_count_128 <| hret (Int32.ofInt (V 6 0)) _ _ (qI hf) dX7_count_131
  have hf := it_f hf hc
  have hc7 := hc
  by_cases hc : x1 = 8
  · have hf := it_t hf hc
    refine ztsIn (k := 8) (tgt := 132) hC.1 hC.2.1 dX7_count_1 hc (by decide) rfl (by decide) ?_
    have hf := bl_inl hf
    refine lv_aload_n hC.1 hC.2.1 dX7_count_132 rfl (lv_at hl 0 rfl) <| gfX7_23 hC hK hP (q0 := 0) rfl rfl dX7_count_133 <| ?_
    obtain ⟨r_3, hu, hf⟩ := bd_some hf
    have hPc : va_P D vwCl (cs_X4 kA (sv 2 a) (sv 4 V)) _ := hP.sub [2, 3, 4, 5, 6, 7, 8, 9, 10, 11, 12, 13, 14, 15, 16, 17, 18, 19, 20, 21, 22, 23, 24, 25] rfl
    exact zcVP (As := []) (rest := []) hC hK (met_X4_countSpoilt l D kA (sv 2 a) n (sv 4 V) hu) zwX7_125 hPc (q0 := 0) rfl rfl rfl rfl hl.1 rfl (Nat.le_of_ble_eq_true rfl) ⟨Nat.le_of_ble_eq_true rfl, Nat.le_of_ble_eq_true rfl⟩ ⟨rfl, rfl⟩ ⟨Nat.le_refl _, Nat.le_refl _⟩ dX7_count_136 <| hret (Int32.ofInt r_3) _ _ (qI hf) dX7_count_139
  have hf := it_f hf hc
  have hc8 := hc
  by_cases hc : x1 = 9
  · have hf := it_t hf hc
    refine ztsIn (k := 9) (tgt := 140) hC.1 hC.2.1 dX7_count_1 hc (by decide) rfl (by decide) ?_
    have hf := bl_inl hf
    exact lv_aload_n hC.1 hC.2.1 dX7_count_140 rfl (lv_at hl 0 rfl) <| gfX7_79 hC hK hP (q0 := 0) rfl rfl dX7_count_141 <| hret (Int32.ofInt (V 87 0)) _ _ (qI hf) dX7_count_144
  have hf := it_f hf hc
  have hc9 := hc
  refine ztsOut (tgt := 145) hC.1 hC.2.1 hz_1 dX7_count_1 (by decide) (by omega) ?_
  cases hf
abbrev rxX7_count : Room := { frames := 6, cells := 1, slots := 6, locals := 90 }
set_option maxHeartbeats 1000000 in
set_option maxRecDepth 100000 in
theorem thr_X7_count (l : Launch) (D : va_G) (kA : Nat → ClassId) (a : Nat → Nat) (pf : Nat → Option Nat) (n : Nat) (V : Sz) (X : Sz) (x1 : Int) {er : Nat} (hf : f_X7_count n V X x1 = some (.inr er)) : MX l yX7_count cX7_count 2 (some .int) rxX7_count D kA [.ref (a 0), vI x1] (cs_X7 kA a V X pf) (zEx er) := by
  refine zXstart (own := RX7) rfl rfl (Nat.le_of_ble_eq_true rfl) ?_
  intro p e s m args below meth c ls hC hK hP hX hl hx hlocks
  have hl : lv_has ls 2 [(0, .ref (a 0)), (1, vI x1)] := hl
  unfold f_X7_count at hf
  refine ziload_n hC.1 hC.2.1 dX7_count_0 rfl (lv_at hl 1 rfl) <| ?_
  obtain ⟨hz_1, hf⟩ := ck_some hf
  by_cases hc : x1 = 0
  · have hf := it_t hf hc
    refine ztsIn (k := 0) (tgt := 56) hC.1 hC.2.1 dX7_count_1 hc (by decide) rfl (by decide) ?_
    exact (bl_inr hf).elim
  have hf := it_f hf hc
  have hc0 := hc
  by_cases hc : x1 = 1
  · have hf := it_t hf hc
    refine ztsIn (k := 1) (tgt := 64) hC.1 hC.2.1 dX7_count_1 hc (by decide) rfl (by decide) ?_
    exact (bl_inr hf).elim
  have hf := it_f hf hc
  have hc1 := hc
  by_cases hc : x1 = 2
  · have hf := it_t hf hc
    refine ztsIn (k := 2) (tgt := 75) hC.1 hC.2.1 dX7_count_1 hc (by decide) rfl (by decide) ?_
    exact (bl_inr hf).elim
  have hf := it_f hf hc
  have hc2 := hc
  by_cases hc : x1 = 3
  · have hf := it_t hf hc
    refine ztsIn (k := 3) (tgt := 86) hC.1 hC.2.1 dX7_count_1 hc (by decide) rfl (by decide) ?_
    exact (bl_inr hf).elim
  have hf := it_f hf hc
  have hc3 := hc
  by_cases hc : x1 = 4
  · have hf := it_t hf hc
    refine ztsIn (k := 4) (tgt := 97) hC.1 hC.2.1 dX7_count_1 hc (by decide) rfl (by decide) ?_
    exact (bl_inr hf).elim
  have hf := it_f hf hc
  have hc4 := hc
  by_cases hc : x1 = 5
  · have hf := it_t hf hc
    refine ztsIn (k := 5) (tgt := 108) hC.1 hC.2.1 dX7_count_1 hc (by decide) rfl (by decide) ?_
    exact (bl_inr hf).elim
  have hf := it_f hf hc
  have hc5 := hc
  by_cases hc : x1 = 6
  · have hf := it_t hf hc
    refine ztsIn (k := 6) (tgt := 116) hC.1 hC.2.1 dX7_count_1 hc (by decide) rfl (by decide) ?_
    exact (bl_inr hf).elim
  have hf := it_f hf hc
  have hc6 := hc
  by_cases hc : x1 = 7
  · have hf := it_t hf hc
    refine ztsIn (k := 7) (tgt := 124) hC.1 hC.2.1 dX7_count_1 hc (by decide) rfl (by decide) ?_
    exact (bl_inr hf).elim
  have hf := it_f hf hc
  have hc7 := hc
  by_cases hc : x1 = 8
  · have hf := it_t hf hc
    refine ztsIn (k := 8) (tgt := 132) hC.1 hC.2.1 dX7_count_1 hc (by decide) rfl (by decide) ?_
    exact (bl_inr hf).elim
  have hf := it_f hf hc
  have hc8 := hc
  by_cases hc : x1 = 9
  · have hf := it_t hf hc
    refine ztsIn (k := 9) (tgt := 140) hC.1 hC.2.1 dX7_count_1 hc (by decide) rfl (by decide) ?_
    exact (bl_inr hf).elim
  have hf := it_f hf hc
  have hc9 := hc
  refine ztsOut (tgt := 145) hC.1 hC.2.1 hz_1 dX7_count_1 (by decide) (by omega) ?_
  cases hf
  exact zth1 (is := 130) (tx := "what is out of range") hC hX hx hlocks (by decide +kernel) hl.1 dX7_count_145 dX7_count_148 dX7_count_149 dX7_count_151 dX7_count_154 (Nat.le_of_ble_eq_true rfl) (Nat.le_of_ble_eq_true rfl) (Nat.le_of_ble_eq_true rfl) (Nat.le_of_ble_eq_true rfl)
theorem DX7_needDeclaration_0 : ∀ q ∈ ([(0, .iload_n 1, 1), (1, .ifCond .lt 17, 3), (4, .iload_n 1, 1), (5, .aload_n 0, 1), (6, .getfield 23, 3), (9, .getfield 98, 3), (12, .getfield 102, 3), (15, .if_icmp .lt 14, 3), (18, .new 288, 3), (21, .dup, 1), (22, .ldc_w 382, 3), (25, .invokespecial 292, 3), (28, .athrow, 1), (29, .return_, 1)] : List (Nat × Instr × Nat)), decode cX7_needDeclaration q.1 = .ok q.2 := by decide +kernel
theorem dX7_needDeclaration_0 : decode cX7_needDeclaration 0 = .ok (.iload_n 1, 1) := DX7_needDeclaration_0 (0, .iload_n 1, 1) (List.mem_of_getElem? (i := 0) rfl)
theorem dX7_needDeclaration_1 : decode cX7_needDeclaration 1 = .ok (.ifCond .lt 17, 3) := DX7_needDeclaration_0 (1, .ifCond .lt 17, 3) (List.mem_of_getElem? (i := 1) rfl)
theorem dX7_needDeclaration_4 : decode cX7_needDeclaration 4 = .ok (.iload_n 1, 1) := DX7_needDeclaration_0 (4, .iload_n 1, 1) (List.mem_of_getElem? (i := 2) rfl)
theorem dX7_needDeclaration_5 : decode cX7_needDeclaration 5 = .ok (.aload_n 0, 1) := DX7_needDeclaration_0 (5, .aload_n 0, 1) (List.mem_of_getElem? (i := 3) rfl)
theorem dX7_needDeclaration_6 : decode cX7_needDeclaration 6 = .ok (.getfield 23, 3) := DX7_needDeclaration_0 (6, .getfield 23, 3) (List.mem_of_getElem? (i := 4) rfl)
theorem dX7_needDeclaration_9 : decode cX7_needDeclaration 9 = .ok (.getfield 98, 3) := DX7_needDeclaration_0 (9, .getfield 98, 3) (List.mem_of_getElem? (i := 5) rfl)
theorem dX7_needDeclaration_12 : decode cX7_needDeclaration 12 = .ok (.getfield 102, 3) := DX7_needDeclaration_0 (12, .getfield 102, 3) (List.mem_of_getElem? (i := 6) rfl)
theorem dX7_needDeclaration_15 : decode cX7_needDeclaration 15 = .ok (.if_icmp .lt 14, 3) := DX7_needDeclaration_0 (15, .if_icmp .lt 14, 3) (List.mem_of_getElem? (i := 7) rfl)
theorem dX7_needDeclaration_18 : decode cX7_needDeclaration 18 = .ok (.new 288, 3) := DX7_needDeclaration_0 (18, .new 288, 3) (List.mem_of_getElem? (i := 8) rfl)
theorem dX7_needDeclaration_21 : decode cX7_needDeclaration 21 = .ok (.dup, 1) := DX7_needDeclaration_0 (21, .dup, 1) (List.mem_of_getElem? (i := 9) rfl)
theorem dX7_needDeclaration_22 : decode cX7_needDeclaration 22 = .ok (.ldc_w 382, 3) := DX7_needDeclaration_0 (22, .ldc_w 382, 3) (List.mem_of_getElem? (i := 10) rfl)
theorem dX7_needDeclaration_25 : decode cX7_needDeclaration 25 = .ok (.invokespecial 292, 3) := DX7_needDeclaration_0 (25, .invokespecial 292, 3) (List.mem_of_getElem? (i := 11) rfl)
theorem dX7_needDeclaration_28 : decode cX7_needDeclaration 28 = .ok (.athrow, 1) := DX7_needDeclaration_0 (28, .athrow, 1) (List.mem_of_getElem? (i := 12) rfl)
theorem dX7_needDeclaration_29 : decode cX7_needDeclaration 29 = .ok (.return_, 1) := DX7_needDeclaration_0 (29, .return_, 1) (List.mem_of_getElem? (i := 13) rfl)
abbrev rmX7_needDeclaration : Room := { frames := 0, cells := 0, slots := 0, locals := 0 }
set_option maxHeartbeats 1000000 in
set_option maxRecDepth 100000 in
theorem met_X7_needDeclaration (l : Launch) (D : va_G) (kA : Nat → ClassId) (a : Nat → Nat) (pf : Nat → Option Nat) (V : Sz) (X : Sz) (x1 : Int) (hf : f_X7_needDeclaration V X x1 = some (.inl ())) : MP l yX7_needDeclaration cX7_needDeclaration 2 none rmX7_needDeclaration D kA [.ref (a 0), vI x1] (cs_X7 kA a V X pf) (none) := by
  refine zPV (own := RX7) rfl rfl (Nat.le_of_ble_eq_true rfl) ?_
  intro p e s m args below meth c ls Q hC hK hP hl hret
  have hl : lv_has ls 2 [(0, .ref (a 0)), (1, vI x1)] := hl
  unfold f_X7_needDeclaration at hf
  have J18 : ∀ (ls : Array Slot), jX7_needDeclaration_18 V X x1 = some (.inl ()) → lv_has ls 2 [] → W p l e rmX7_needDeclaration s m args below meth c s.heap [] 0 0 Q (F0 m 18 ls []) := by
    intro  ls hf hl
    unfold jX7_needDeclaration_18 at hf
    cases hf
  refine ziload_n hC.1 hC.2.1 dX7_needDeclaration_0 rfl (lv_at hl 1 rfl) <| ?_
  obtain ⟨hz_1, hf⟩ := ck_some hf
  refine zif_lt (tgt := 18) hC.1 hC.2.1 hz_1 dX7_needDeclaration_1 (by decide) (fun hc => ?_) (fun hc => ?_)
  · have hf := it_t hf hc
    exact J18 _ hf (lv_sub hl [] rfl)
  · have hf := it_f hf hc
    refine ziload_n hC.1 hC.2.1 dX7_needDeclaration_4 rfl (lv_at hl 1 rfl) <| lv_aload_n hC.1 hC.2.1 dX7_needDeclaration_5 rfl (lv_at hl 0 rfl) <| gfX7_23 hC hK hP (q0 := 0) rfl rfl dX7_needDeclaration_6 <| gfX7_98 hC hK hP (q0 := 2) rfl rfl dX7_needDeclaration_9 <| gfX7_102 hC hK hP (q0 := 4) rfl rfl dX7_needDeclaration_12 <| ?_
    obtain ⟨hz_2, hf⟩ := ck_some hf
    refine zicmp_lt (tgt := 29) hC.1 hC.2.1 ⟨hz_1, hz_2⟩ dX7_needDeclaration_15 (by decide) (fun hc => ?_) (fun hc => ?_)
    · have hf := it_t hf hc
      have hf := bl_inl hf
      exact hret _ _ rfl dX7_needDeclaration_29
    · have hf := it_f hf hc
      exact J18 _ hf (lv_sub hl [] rfl)
abbrev rxX7_needDeclaration : Room := { frames := 6, cells := 1, slots := 6, locals := 90 }
set_option maxHeartbeats 1000000 in
set_option maxRecDepth 100000 in
theorem thr_X7_needDeclaration (l : Launch) (D : va_G) (kA : Nat → ClassId) (a : Nat → Nat) (pf : Nat → Option Nat) (V : Sz) (X : Sz) (x1 : Int) {er : Nat} (hf : f_X7_needDeclaration V X x1 = some (.inr er)) : MX l yX7_needDeclaration cX7_needDeclaration 2 none rxX7_needDeclaration D kA [.ref (a 0), vI x1] (cs_X7 kA a V X pf) (zEx er) := by
  refine zXstart (own := RX7) rfl rfl (Nat.le_of_ble_eq_true rfl) ?_
  intro p e s m args below meth c ls hC hK hP hX hl hx hlocks
  have hl : lv_has ls 2 [(0, .ref (a 0)), (1, vI x1)] := hl
  unfold f_X7_needDeclaration at hf
  have J18 : ∀ (ls : Array Slot), jX7_needDeclaration_18 V X x1 = some (.inr er) → lv_has ls 2 [] → W p l e rxX7_needDeclaration s m args below meth c s.heap [] 0 0 (QX below (zEx er) args s) (F0 m 18 ls []) := by
    intro  ls hf hl
    unfold jX7_needDeclaration_18 at hf
    cases hf
    exact zth0W (is := 382) (tx := "there is no such declaration") hC hX hx hlocks (by decide +kernel) hl.1 dX7_needDeclaration_18 dX7_needDeclaration_21 dX7_needDeclaration_22 dX7_needDeclaration_25 dX7_needDeclaration_28 (Nat.le_of_ble_eq_true rfl) (Nat.le_of_ble_eq_true rfl) (Nat.le_of_ble_eq_true rfl) (Nat.le_of_ble_eq_true rfl)
  refine ziload_n hC.1 hC.2.1 dX7_needDeclaration_0 rfl (lv_at hl 1 rfl) <| ?_
  obtain ⟨hz_1, hf⟩ := ck_some hf
  refine zif_lt (tgt := 18) hC.1 hC.2.1 hz_1 dX7_needDeclaration_1 (by decide) (fun hc => ?_) (fun hc => ?_)
  · have hf := it_t hf hc
    exact J18 _ hf (lv_sub hl [] rfl)
  · have hf := it_f hf hc
    refine ziload_n hC.1 hC.2.1 dX7_needDeclaration_4 rfl (lv_at hl 1 rfl) <| lv_aload_n hC.1 hC.2.1 dX7_needDeclaration_5 rfl (lv_at hl 0 rfl) <| gfX7_23 hC hK hP (q0 := 0) rfl rfl dX7_needDeclaration_6 <| gfX7_98 hC hK hP (q0 := 2) rfl rfl dX7_needDeclaration_9 <| gfX7_102 hC hK hP (q0 := 4) rfl rfl dX7_needDeclaration_12 <| ?_
    obtain ⟨hz_2, hf⟩ := ck_some hf
    refine zicmp_lt (tgt := 29) hC.1 hC.2.1 ⟨hz_1, hz_2⟩ dX7_needDeclaration_15 (by decide) (fun hc => ?_) (fun hc => ?_)
    · have hf := it_t hf hc
      exact (bl_inr hf).elim
    · have hf := it_f hf hc
      exact J18 _ hf (lv_sub hl [] rfl)
theorem DX7_declaration_0 : ∀ q ∈ ([(0, .aload_n 0, 1), (1, .iload_n 1, 1), (2, .invokevirtual 135, 3), (5, .iload_n 2, 1), (6, .tableswitch 81 0 3 #[30, 43, 56, 69], 30), (36, .aload_n 0, 1), (37, .getfield 23, 3), (40, .getfield 98, 3), (43, .getfield 138, 3), (46, .iload_n 1, 1), (47, .iaload, 1), (48, .ireturn, 1), (49, .aload_n 0, 1), (50, .getfield 23, 3), (53, .getfield 98, 3), (56, .getfield 142, 3), (59, .iload_n 1, 1), (60, .iaload, 1), (61, .ireturn, 1), (62, .aload_n 0, 1), (63, .getfield 23, 3), (66, .getfield 98, 3), (69, .getfield 145, 3), (72, .iload_n 1, 1), (73, .iaload, 1), (74, .ireturn, 1), (75, .aload_n 0, 1), (76, .getfield 23, 3), (79, .getfield 98, 3), (82, .iload_n 1, 1), (83, .invokevirtual 148, 3), (86, .ireturn, 1), (87, .new 128, 3), (90, .dup, 1), (91, .ldc 130, 2), (93, .invokespecial 132, 3), (96, .athrow, 1)] : List (Nat × Instr × Nat)), decode cX7_declaration q.1 = .ok q.2 := by decide +kernel
theorem dX7_declaration_0 : decode cX7_declaration 0 = .ok (.aload_n 0, 1) := DX7_declaration_0 (0, .aload_n 0, 1) (List.mem_of_getElem? (i := 0) rfl)
theorem dX7_declaration_1 : decode cX7_declaration 1 = .ok (.iload_n 1, 1) := DX7_declaration_0 (1, .iload_n 1, 1) (List.mem_of_getElem? (i := 1) rfl)
theorem dX7_declaration_2 : decode cX7_declaration 2 = .ok (.invokevirtual 135, 3) := DX7_declaration_0 (2, .invokevirtual 135, 3) (List.mem_of_getElem? (i := 2) rfl)
theorem dX7_declaration_5 : decode cX7_declaration 5 = .ok (.iload_n 2, 1) := DX7_declaration_0 (5, .iload_n 2, 1) (List.mem_of_getElem? (i := 3) rfl)
theorem dX7_declaration_6 : decode cX7_declaration 6 = .ok (.tableswitch 81 0 3 #[30, 43, 56, 69], 30) := DX7_declaration_0 (6, .tableswitch 81 0 3 #[30, 43, 56, 69], 30) (List.mem_of_getElem? (i := 4) rfl)
theorem dX7_declaration_36 : decode cX7_declaration 36 = .ok (.aload_n 0, 1) := DX7_declaration_0 (36, .aload_n 0, 1) (List.mem_of_getElem? (i := 5) rfl)
theorem dX7_declaration_37 : decode cX7_declaration 37 = .ok (.getfield 23, 3) := DX7_declaration_0 (37, .getfield 23, 3) (List.mem_of_getElem? (i := 6) rfl)
theorem dX7_declaration_40 : decode cX7_declaration 40 = .ok (.getfield 98, 3) := DX7_declaration_0 (40, .getfield 98, 3) (List.mem_of_getElem? (i := 7) rfl)
theorem dX7_declaration_43 : decode cX7_declaration 43 = .ok (.getfield 138, 3) := DX7_declaration_0 (43, .getfield 138, 3) (List.mem_of_getElem? (i := 8) rfl)
theorem dX7_declaration_46 : decode cX7_declaration 46 = .ok (.iload_n 1, 1) := DX7_declaration_0 (46, .iload_n 1, 1) (List.mem_of_getElem? (i := 9) rfl)
theorem dX7_declaration_47 : decode cX7_declaration 47 = .ok (.iaload, 1) := DX7_declaration_0 (47, .iaload, 1) (List.mem_of_getElem? (i := 10) rfl)
theorem dX7_declaration_48 : decode cX7_declaration 48 = .ok (.ireturn, 1) := DX7_declaration_0 (48, .ireturn, 1) (List.mem_of_getElem? (i := 11) rfl)
theorem dX7_declaration_49 : decode cX7_declaration 49 = .ok (.aload_n 0, 1) := DX7_declaration_0 (49, .aload_n 0, 1) (List.mem_of_getElem? (i := 12) rfl)
theorem dX7_declaration_50 : decode cX7_declaration 50 = .ok (.getfield 23, 3) := DX7_declaration_0 (50, .getfield 23, 3) (List.mem_of_getElem? (i := 13) rfl)
theorem dX7_declaration_53 : decode cX7_declaration 53 = .ok (.getfield 98, 3) := DX7_declaration_0 (53, .getfield 98, 3) (List.mem_of_getElem? (i := 14) rfl)
theorem dX7_declaration_56 : decode cX7_declaration 56 = .ok (.getfield 142, 3) := DX7_declaration_0 (56, .getfield 142, 3) (List.mem_of_getElem? (i := 15) rfl)
theorem dX7_declaration_59 : decode cX7_declaration 59 = .ok (.iload_n 1, 1) := DX7_declaration_0 (59, .iload_n 1, 1) (List.mem_of_getElem? (i := 16) rfl)
theorem dX7_declaration_60 : decode cX7_declaration 60 = .ok (.iaload, 1) := DX7_declaration_0 (60, .iaload, 1) (List.mem_of_getElem? (i := 17) rfl)
theorem dX7_declaration_61 : decode cX7_declaration 61 = .ok (.ireturn, 1) := DX7_declaration_0 (61, .ireturn, 1) (List.mem_of_getElem? (i := 18) rfl)
theorem dX7_declaration_62 : decode cX7_declaration 62 = .ok (.aload_n 0, 1) := DX7_declaration_0 (62, .aload_n 0, 1) (List.mem_of_getElem? (i := 19) rfl)
theorem dX7_declaration_63 : decode cX7_declaration 63 = .ok (.getfield 23, 3) := DX7_declaration_0 (63, .getfield 23, 3) (List.mem_of_getElem? (i := 20) rfl)
theorem dX7_declaration_66 : decode cX7_declaration 66 = .ok (.getfield 98, 3) := DX7_declaration_0 (66, .getfield 98, 3) (List.mem_of_getElem? (i := 21) rfl)
theorem dX7_declaration_69 : decode cX7_declaration 69 = .ok (.getfield 145, 3) := DX7_declaration_0 (69, .getfield 145, 3) (List.mem_of_getElem? (i := 22) rfl)
theorem dX7_declaration_72 : decode cX7_declaration 72 = .ok (.iload_n 1, 1) := DX7_declaration_0 (72, .iload_n 1, 1) (List.mem_of_getElem? (i := 23) rfl)
theorem dX7_declaration_73 : decode cX7_declaration 73 = .ok (.iaload, 1) := DX7_declaration_0 (73, .iaload, 1) (List.mem_of_getElem? (i := 24) rfl)
theorem dX7_declaration_74 : decode cX7_declaration 74 = .ok (.ireturn, 1) := DX7_declaration_0 (74, .ireturn, 1) (List.mem_of_getElem? (i := 25) rfl)
theorem dX7_declaration_75 : decode cX7_declaration 75 = .ok (.aload_n 0, 1) := DX7_declaration_0 (75, .aload_n 0, 1) (List.mem_of_getElem? (i := 26) rfl)
theorem dX7_declaration_76 : decode cX7_declaration 76 = .ok (.getfield 23, 3) := DX7_declaration_0 (76, .getfield 23, 3) (List.mem_of_getElem? (i := 27) rfl)
theorem dX7_declaration_79 : decode cX7_declaration 79 = .ok (.getfield 98, 3) := DX7_declaration_0 (79, .getfield 98, 3) (List.mem_of_getElem? (i := 28) rfl)
theorem dX7_declaration_82 : decode cX7_declaration 82 = .ok (.iload_n 1, 1) := DX7_declaration_0 (82, .iload_n 1, 1) (List.mem_of_getElem? (i := 29) rfl)
theorem dX7_declaration_83 : decode cX7_declaration 83 = .ok (.invokevirtual 148, 3) := DX7_declaration_0 (83, .invokevirtual 148, 3) (List.mem_of_getElem? (i := 30) rfl)
theorem dX7_declaration_86 : decode cX7_declaration 86 = .ok (.ireturn, 1) := DX7_declaration_0 (86, .ireturn, 1) (List.mem_of_getElem? (i := 31) rfl)
theorem dX7_declaration_87 : decode cX7_declaration 87 = .ok (.new 128, 3) := DX7_declaration_0 (87, .new 128, 3) (List.mem_of_getElem? (i := 32) rfl)
theorem dX7_declaration_90 : decode cX7_declaration 90 = .ok (.dup, 1) := DX7_declaration_0 (90, .dup, 1) (List.mem_of_getElem? (i := 33) rfl)
theorem dX7_declaration_91 : decode cX7_declaration 91 = .ok (.ldc 130, 2) := DX7_declaration_0 (91, .ldc 130, 2) (List.mem_of_getElem? (i := 34) rfl)
theorem dX7_declaration_93 : decode cX7_declaration 93 = .ok (.invokespecial 132, 3) := DX7_declaration_0 (93, .invokespecial 132, 3) (List.mem_of_getElem? (i := 35) rfl)
theorem dX7_declaration_96 : decode cX7_declaration 96 = .ok (.athrow, 1) := DX7_declaration_0 (96, .athrow, 1) (List.mem_of_getElem? (i := 36) rfl)
abbrev rmX7_declaration : Room := { frames := 2, cells := 0, slots := 0, locals := 81 }
set_option maxHeartbeats 1000000 in
set_option maxRecDepth 100000 in
theorem met_X7_declaration (l : Launch) (D : va_G) (kA : Nat → ClassId) (a : Nat → Nat) (pf : Nat → Option Nat) (V : Sz) (X : Sz) (x1 : Int) (x2 : Int) {r : Int} (hf : f_X7_declaration V X x1 x2 = some (.inl r)) : MP l yX7_declaration cX7_declaration 3 (some .int) rmX7_declaration D kA [.ref (a 0), vI x1, vI x2] (cs_X7 kA a V X pf) (some (vI r)) := by
  refine zPI (own := RX7) rfl rfl (Nat.le_of_ble_eq_true rfl) ?_
  intro p e s m args below meth c ls Q hC hK hP hl hret
  have hl : lv_has ls 3 [(0, .ref (a 0)), (1, vI x1), (2, vI x2)] := hl
  unfold f_X7_declaration at hf
  refine lv_aload_n hC.1 hC.2.1 dX7_declaration_0 rfl (lv_at hl 0 rfl) <| ziload_n hC.1 hC.2.1 dX7_declaration_1 rfl (lv_at hl 1 rfl) <| ?_
  obtain ⟨u, hu, hf⟩ := bx_inl hf
  refine zcVP (As := [vI x1]) (rest := []) hC hK (met_X7_needDeclaration l D kA a pf V X x1 hu) zwX7_135 hP (q0 := 0) rfl rfl rfl rfl hl.1 rfl (Nat.le_of_ble_eq_true rfl) ⟨Nat.le_of_ble_eq_true rfl, Nat.le_of_ble_eq_true rfl⟩ ⟨rfl, rfl⟩ ⟨Nat.le_refl _, Nat.le_refl _⟩ dX7_declaration_2 <| ziload_n hC.1 hC.2.1 dX7_declaration_5 rfl (lv_at hl 2 rfl) <| ?_
  obtain ⟨hz_1, hf⟩ := ck_some hf
  by_cases hc : x2 = 0
  · have hf := it_t hf hc
    refine ztsIn (k := 0) (tgt := 36) hC.1 hC.2.1 dX7_declaration_6 hc (by decide) rfl (by decide) ?_
    have hf := bl_inl hf
    refine lv_aload_n hC.1 hC.2.1 dX7_declaration_36 rfl (lv_at hl 0 rfl) <| gfX7_23 hC hK hP (q0 := 0) rfl rfl dX7_declaration_37 <| gfX7_98 hC hK hP (q0 := 2) rfl rfl dX7_declaration_40 <| gfX7_138 hC hK hP (q0 := 4) rfl rfl dX7_declaration_43 <| ziload_n hC.1 hC.2.1 dX7_declaration_46 rfl (lv_at hl 1 rfl) <| ?_
    obtain ⟨hz_2, hf⟩ := ck_some hf
    exact jal hC hK hP (q0 := 5) rfl (Nat.le_of_ble_eq_true rfl) hz_2 rfl dX7_declaration_47 <| hret (Int32.ofInt (V 10 x1.toNat)) _ _ (qI hf) dX7_declaration_48
  have hf := it_f hf hc
  have hc0 := hc
  by_cases hc : x2 = 1
  · have hf := it_t hf hc
    refine ztsIn (k := 1) (tgt := 49) hC.1 hC.2.1 dX7_declaration_6 hc (by decide) rfl (by decide) ?_
    have hf := bl_inl hf
    refine lv_aload_n hC.1 hC.2.1 dX7_declaration_49 rfl (lv_at hl 0 rfl) <| gfX7_23 hC hK hP (q0 := 0) rfl rfl dX7_declaration_50 <| gfX7_98 hC hK hP (q0 := 2) rfl rfl dX7_declaration_53 <| gfX7_142 hC hK hP (q0 := 4) rfl rfl dX7_declaration_56 <| ziload_n hC.1 hC.2.1 dX7_declaration_59 rfl (lv_at hl 1 rfl) <| ?_
    obtain ⟨hz_3, hf⟩ := ck_some hf
    exact jal hC hK hP (q0 := 6) rfl (Nat.le_of_ble_eq_true rfl) hz_3 rfl dX7_declaration_60 <| hret (Int32.ofInt (V 11 x1.toNat)) _ _ (qI hf) dX7_declaration_61
  have hf := it_f hf hc
  have hc1 := hc
  by_cases hc : x2 = 2
  · have hf := it_t hf hc
    refine ztsIn (k := 2) (tgt := 62) hC.1 hC.2.1 dX7_declaration_6 hc (by decide) rfl (by decide) ?_
    have hf := bl_inl hf
    refine lv_aload_n hC.1 hC.2.1 dX7_declaration_62 rfl (lv_at hl 0 rfl) <| gfX7_23 hC hK hP (q0 := 0) rfl rfl dX7_declaration_63 <| gfX7_98 hC hK hP (q0 := 2) rfl rfl dX7_declaration_66 <| gfX7_145 hC hK hP (q0 := 4) rfl rfl dX7_declaration_69 <| ziload_n hC.1 hC.2.1 dX7_declaration_72 rfl (lv_at hl 1 rfl) <| ?_
    obtain ⟨hz_4, hf⟩ := ck_some hf
    exact jal hC hK hP (q0 := 7) rfl (Nat.le_of_ble_eq_true rfl) hz_4 rfl dX7_declaration_73 <| hret (Int32.ofInt (V 12 x1.toNat)) _ _ (qI hf) dX7_declaration_74
  have hf := it_f hf hc
  have hc2 := hc
  by_cases hc : x2 = 3
  · have hf := it_t hf hc
    refine ztsIn (k := 3) (tgt := 75) hC.1 hC.2.1 dX7_declaration_6 hc (by decide) rfl (by decide) ?_
    have hf := bl_inl hf
    refine lv_aload_n hC.1 hC.2.1 dX7_declaration_75 rfl (lv_at hl 0 rfl) <| gfX7_23 hC hK hP (q0 := 0) rfl rfl dX7_declaration_76 <| gfX7_98 hC hK hP (q0 := 2) rfl rfl dX7_declaration_79 <| ziload_n hC.1 hC.2.1 dX7_declaration_82 rfl (lv_at hl 1 rfl) <| ?_
    obtain ⟨r_5, hu, hf⟩ := bd_some hf
    have hPc : va_P D vwCl (cs_X1 kA (sv 4 a) (sv 9 V)) _ := hP.sub [4, 5, 6, 7] rfl
    exact zcVP (As := [vI x1]) (rest := []) hC hK (met_X1_daysOf l D kA (sv 4 a) (sv 9 V) x1 hu) zwX7_148 hPc (q0 := 0) rfl rfl rfl rfl hl.1 rfl (Nat.le_of_ble_eq_true rfl) ⟨Nat.le_of_ble_eq_true rfl, Nat.le_of_ble_eq_true rfl⟩ ⟨rfl, rfl⟩ ⟨Nat.le_refl _, Nat.le_refl _⟩ dX7_declaration_83 <| hret (Int32.ofInt r_5) _ _ (qI hf) dX7_declaration_86
  have hf := it_f hf hc
  have hc3 := hc
  refine ztsOut (tgt := 87) hC.1 hC.2.1 hz_1 dX7_declaration_6 (by decide) (by omega) ?_
  cases hf
abbrev rxX7_declaration : Room := { frames := 7, cells := 1, slots := 6, locals := 111 }
set_option maxHeartbeats 1000000 in
set_option maxRecDepth 100000 in
theorem thr_X7_declaration (l : Launch) (D : va_G) (kA : Nat → ClassId) (a : Nat → Nat) (pf : Nat → Option Nat) (V : Sz) (X : Sz) (x1 : Int) (x2 : Int) {er : Nat} (hf : f_X7_declaration V X x1 x2 = some (.inr er)) : MX l yX7_declaration cX7_declaration 3 (some .int) rxX7_declaration D kA [.ref (a 0), vI x1, vI x2] (cs_X7 kA a V X pf) (zEx er) := by
  refine zXstart (own := RX7) rfl rfl (Nat.le_of_ble_eq_true rfl) ?_
  intro p e s m args below meth c ls hC hK hP hX hl hx hlocks
  have hl : lv_has ls 3 [(0, .ref (a 0)), (1, vI x1), (2, vI x2)] := hl
  unfold f_X7_declaration at hf
  refine lv_aload_n hC.1 hC.2.1 dX7_declaration_0 rfl (lv_at hl 0 rfl) <| ziload_n hC.1 hC.2.1 dX7_declaration_1 rfl (lv_at hl 1 rfl) <| ?_
  rcases bx_inr hf with hu | ⟨u, hu, hf⟩
  · exact zcVX (As := [vI x1]) (rest := []) hC hK hX hx hlocks (thr_X7_needDeclaration l D kA a pf V X x1 hu) zwX7_135 hP (q0 := 0) rfl rfl rfl rfl hl.1 rfl (Nat.le_of_ble_eq_true rfl) ⟨Nat.le_of_ble_eq_true rfl, Nat.le_of_ble_eq_true rfl⟩ ⟨rfl, rfl⟩ ⟨Nat.le_of_ble_eq_true rfl, Nat.le_of_ble_eq_true rfl⟩ dX7_declaration_2
  refine zcVP (As := [vI x1]) (rest := []) hC hK (met_X7_needDeclaration l D kA a pf V X x1 hu) zwX7_135 hP (q0 := 0) rfl rfl rfl rfl hl.1 rfl (Nat.le_of_ble_eq_true rfl) ⟨Nat.le_of_ble_eq_true rfl, Nat.le_of_ble_eq_true rfl⟩ ⟨rfl, rfl⟩ ⟨Nat.le_of_ble_eq_true rfl, Nat.le_of_ble_eq_true rfl⟩ dX7_declaration_2 <| ziload_n hC.1 hC.2.1 dX7_declaration_5 rfl (lv_at hl 2 rfl) <| ?_
  obtain ⟨hz_1, hf⟩ := ck_some hf
  by_cases hc : x2 = 0
  · have hf := it_t hf hc
    refine ztsIn (k := 0) (tgt := 36) hC.1 hC.2.1 dX7_declaration_6 hc (by decide) rfl (by decide) ?_
    exact (bl_inr hf).elim
  have hf := it_f hf hc
  have hc0 := hc
  by_cases hc : x2 = 1
  · have hf := it_t hf hc
    refine ztsIn (k := 1) (tgt := 49) hC.1 hC.2.1 dX7_declaration_6 hc (by decide) rfl (by decide) ?_
    exact (bl_inr hf).elim
  have hf := it_f hf hc
  have hc1 := hc
  by_cases hc : x2 = 2
  · have hf := it_t hf hc
    refine ztsIn (k := 2) (tgt := 62) hC.1 hC.2.1 dX7_declaration_6 hc (by decide) rfl (by decide) ?_
    exact (bl_inr hf).elim
  have hf := it_f hf hc
  have hc2 := hc
  by_cases hc : x2 = 3
  · have hf := it_t hf hc
    refine ztsIn (k := 3) (tgt := 75) hC.1 hC.2.1 dX7_declaration_6 hc (by decide) rfl (by decide) ?_
    exact (bl_inr hf).elim
  have hf := it_f hf hc
  have hc3 := hc
  refine ztsOut (tgt := 87) hC.1 hC.2.1 hz_1 dX7_declaration_6 (by decide) (by omega) ?_
  cases hf
  exact zth1 (is := 130) (tx := "what is out of range") hC hX hx hlocks (by decide +kernel) hl.1 dX7_declaration_87 dX7_declaration_90 dX7_declaration_91 dX7_declaration_93 dX7_declaration_96 (Nat.le_of_ble_eq_true rfl) (Nat.le_of_ble_eq_true rfl) (Nat.le_of_ble_eq_true rfl) (Nat.le_of_ble_eq_true rfl)
theorem DX7_needGift_0 : ∀ q ∈ ([(0, .iload_n 1, 1), (1, .ifCond .lt 17, 3), (4, .iload_n 1, 1), (5, .aload_n 0, 1), (6, .getfield 23, 3), (9, .getfield 86, 3), (12, .getfield 90, 3), (15, .if_icmp .lt 14, 3), (18, .new 288, 3), (21, .dup, 1), (22, .ldc_w 384, 3), (25, .invokespecial 292, 3), (28, .athrow, 1), (29, .return_, 1)] : List (Nat × Instr × Nat)), decode cX7_needGift q.1 = .ok q.2 := by decide +kernel
theorem dX7_needGift_0 : decode cX7_needGift 0 = .ok (.iload_n 1, 1) := DX7_needGift_0 (0, .iload_n 1, 1) (List.mem_of_getElem? (i := 0) rfl)
theorem dX7_needGift_1 : decode cX7_needGift 1 = .ok (.ifCond .lt 17, 3) := DX7_needGift_0 (1, .ifCond .lt 17, 3) (List.mem_of_getElem? (i := 1) rfl)
theorem dX7_needGift_4 : decode cX7_needGift 4 = .ok (.iload_n 1, 1) := DX7_needGift_0 (4, .iload_n 1, 1) (List.mem_of_getElem? (i := 2) rfl)
theorem dX7_needGift_5 : decode cX7_needGift 5 = .ok (.aload_n 0, 1) := DX7_needGift_0 (5, .aload_n 0, 1) (List.mem_of_getElem? (i := 3) rfl)
theorem dX7_needGift_6 : decode cX7_needGift 6 = .ok (.getfield 23, 3) := DX7_needGift_0 (6, .getfield 23, 3) (List.mem_of_getElem? (i := 4) rfl)
theorem dX7_needGift_9 : decode cX7_needGift 9 = .ok (.getfield 86, 3) := DX7_needGift_0 (9, .getfield 86, 3) (List.mem_of_getElem? (i := 5) rfl)
theorem dX7_needGift_12 : decode cX7_needGift 12 = .ok (.getfield 90, 3) := DX7_needGift_0 (12, .getfield 90, 3) (List.mem_of_getElem? (i := 6) rfl)
theorem dX7_needGift_15 : decode cX7_needGift 15 = .ok (.if_icmp .lt 14, 3) := DX7_needGift_0 (15, .if_icmp .lt 14, 3) (List.mem_of_getElem? (i := 7) rfl)
theorem dX7_needGift_18 : decode cX7_needGift 18 = .ok (.new 288, 3) := DX7_needGift_0 (18, .new 288, 3) (List.mem_of_getElem? (i := 8) rfl)
theorem dX7_needGift_21 : decode cX7_needGift 21 = .ok (.dup, 1) := DX7_needGift_0 (21, .dup, 1) (List.mem_of_getElem? (i := 9) rfl)
theorem dX7_needGift_22 : decode cX7_needGift 22 = .ok (.ldc_w 384, 3) := DX7_needGift_0 (22, .ldc_w 384, 3) (List.mem_of_getElem? (i := 10) rfl)
theorem dX7_needGift_25 : decode cX7_needGift 25 = .ok (.invokespecial 292, 3) := DX7_needGift_0 (25, .invokespecial 292, 3) (List.mem_of_getElem? (i := 11) rfl)
theorem dX7_needGift_28 : decode cX7_needGift 28 = .ok (.athrow, 1) := DX7_needGift_0 (28, .athrow, 1) (List.mem_of_getElem? (i := 12) rfl)
theorem dX7_needGift_29 : decode cX7_needGift 29 = .ok (.return_, 1) := DX7_needGift_0 (29, .return_, 1) (List.mem_of_getElem? (i := 13) rfl)
abbrev rmX7_needGift : Room := { frames := 0, cells := 0, slots := 0, locals := 0 }
set_option maxHeartbeats 1000000 in
set_option maxRecDepth 100000 in
theorem met_X7_needGift (l : Launch) (D : va_G) (kA : Nat → ClassId) (a : Nat → Nat) (pf : Nat → Option Nat) (V : Sz) (X : Sz) (x1 : Int) (hf : f_X7_needGift V X x1 = some (.inl ())) : MP l yX7_needGift cX7_needGift 2 none rmX7_needGift D kA [.ref (a 0), vI x1] (cs_X7 kA a V X pf) (none) := by
  refine zPV (own := RX7) rfl rfl (Nat.le_of_ble_eq_true rfl) ?_
  intro p e s m args below meth c ls Q hC hK hP hl hret
  have hl : lv_has ls 2 [(0, .ref (a 0)), (1, vI x1)] := hl
  unfold f_X7_needGift at hf
  have J18 : ∀ (ls : Array Slot), jX7_needGift_18 V X x1 = some (.inl ()) → lv_has ls 2 [] → W p l e rmX7_needGift s m args below meth c s.heap [] 0 0 Q (F0 m 18 ls []) := by
    intro  ls hf hl
    unfold jX7_needGift_18 at hf
    cases hf
  refine ziload_n hC.1 hC.2.1 dX7_needGift_0 rfl (lv_at hl 1 rfl) <| ?_
  obtain ⟨hz_1, hf⟩ := ck_some hf
  refine zif_lt (tgt := 18) hC.1 hC.2.1 hz_1 dX7_needGift_1 (by decide) (fun hc => ?_) (fun hc => ?_)
  · have hf := it_t hf hc
    exact J18 _ hf (lv_sub hl [] rfl)
  · have hf := it_f hf hc
    refine ziload_n hC.1 hC.2.1 dX7_needGift_4 rfl (lv_at hl 1 rfl) <| lv_aload_n hC.1 hC.2.1 dX7_needGift_5 rfl (lv_at hl 0 rfl) <| gfX7_23 hC hK hP (q0 := 0) rfl rfl dX7_needGift_6 <| gfX7_86 hC hK hP (q0 := 2) rfl rfl dX7_needGift_9 <| gfX7_90 hC hK hP (q0 := 8) rfl rfl dX7_needGift_12 <| ?_
    obtain ⟨hz_2, hf⟩ := ck_some hf
    refine zicmp_lt (tgt := 29) hC.1 hC.2.1 ⟨hz_1, hz_2⟩ dX7_needGift_15 (by decide) (fun hc => ?_) (fun hc => ?_)
    · have hf := it_t hf hc
      have hf := bl_inl hf
      exact hret _ _ rfl dX7_needGift_29
    · have hf := it_f hf hc
      exact J18 _ hf (lv_sub hl [] rfl)
abbrev rxX7_needGift : Room := { frames := 6, cells := 1, slots := 6, locals := 90 }
set_option maxHeartbeats 1000000 in
set_option maxRecDepth 100000 in
theorem thr_X7_needGift (l : Launch) (D : va_G) (kA : Nat → ClassId) (a : Nat → Nat) (pf : Nat → Option Nat) (V : Sz) (X : Sz) (x1 : Int) {er : Nat} (hf : f_X7_needGift V X x1 = some (.inr er)) : MX l yX7_needGift cX7_needGift 2 none rxX7_needGift D kA [.ref (a 0), vI x1] (cs_X7 kA a V X pf) (zEx er) := by
  refine zXstart (own := RX7) rfl rfl (Nat.le_of_ble_eq_true rfl) ?_
  intro p e s m args below meth c ls hC hK hP hX hl hx hlocks
  have hl : lv_has ls 2 [(0, .ref (a 0)), (1, vI x1)] := hl
  unfold f_X7_needGift at hf
  have J18 : ∀ (ls : Array Slot), jX7_needGift_18 V X x1 = some (.inr er) → lv_has ls 2 [] → W p l e rxX7_needGift s m args below meth c s.heap [] 0 0 (QX below (zEx er) args s) (F0 m 18 ls []) := by
    intro  ls hf hl
    unfold jX7_needGift_18 at hf
    cases hf
    exact zth0W (is := 384) (tx := "there is no such gift") hC hX hx hlocks (by decide +kernel) hl.1 dX7_needGift_18 dX7_needGift_21 dX7_needGift_22 dX7_needGift_25 dX7_needGift_28 (Nat.le_of_ble_eq_true rfl) (Nat.le_of_ble_eq_true rfl) (Nat.le_of_ble_eq_true rfl) (Nat.le_of_ble_eq_true rfl)
  refine ziload_n hC.1 hC.2.1 dX7_needGift_0 rfl (lv_at hl 1 rfl) <| ?_
  obtain ⟨hz_1, hf⟩ := ck_some hf
  refine zif_lt (tgt := 18) hC.1 hC.2.1 hz_1 dX7_needGift_1 (by decide) (fun hc => ?_) (fun hc => ?_)
  · have hf := it_t hf hc
    exact J18 _ hf (lv_sub hl [] rfl)
  · have hf := it_f hf hc
    refine ziload_n hC.1 hC.2.1 dX7_needGift_4 rfl (lv_at hl 1 rfl) <| lv_aload_n hC.1 hC.2.1 dX7_needGift_5 rfl (lv_at hl 0 rfl) <| gfX7_23 hC hK hP (q0 := 0) rfl rfl dX7_needGift_6 <| gfX7_86 hC hK hP (q0 := 2) rfl rfl dX7_needGift_9 <| gfX7_90 hC hK hP (q0 := 8) rfl rfl dX7_needGift_12 <| ?_
    obtain ⟨hz_2, hf⟩ := ck_some hf
    refine zicmp_lt (tgt := 29) hC.1 hC.2.1 ⟨hz_1, hz_2⟩ dX7_needGift_15 (by decide) (fun hc => ?_) (fun hc => ?_)
    · have hf := it_t hf hc
      exact (bl_inr hf).elim
    · have hf := it_f hf hc
      exact J18 _ hf (lv_sub hl [] rfl)
theorem DX7_gift_0 : ∀ q ∈ ([(0, .aload_n 0, 1), (1, .iload_n 1, 1), (2, .invokevirtual 152, 3), (5, .iload_n 2, 1), (6, .tableswitch 147 0 7 #[46, 59, 72, 85, 98, 110, 127, 137], 46), (52, .aload_n 0, 1), (53, .getfield 23, 3), (56, .getfield 86, 3), (59, .getfield 155, 3), (62, .iload_n 1, 1), (63, .iaload, 1), (64, .ireturn, 1), (65, .aload_n 0, 1), (66, .getfield 23, 3), (69, .getfield 86, 3), (72, .getfield 158, 3), (75, .iload_n 1, 1), (76, .iaload, 1), (77, .ireturn, 1), (78, .aload_n 0, 1), (79, .getfield 23, 3), (82, .getfield 86, 3), (85, .getfield 161, 3), (88, .iload_n 1, 1), (89, .iaload, 1), (90, .ireturn, 1), (91, .aload_n 0, 1), (92, .getfield 23, 3), (95, .getfield 86, 3), (98, .getfield 164, 3), (101, .iload_n 1, 1), (102, .iaload, 1), (103, .ireturn, 1), (104, .aload_n 0, 1), (105, .getfield 23, 3), (108, .getfield 86, 3), (111, .iload_n 1, 1), (112, .invokevirtual 167, 3), (115, .ireturn, 1), (116, .aload_n 0, 1)] : List (Nat × Instr × Nat)), decode cX7_gift q.1 = .ok q.2 := by decide +kernel
theorem dX7_gift_0 : decode cX7_gift 0 = .ok (.aload_n 0, 1) := DX7_gift_0 (0, .aload_n 0, 1) (List.mem_of_getElem? (i := 0) rfl)
theorem dX7_gift_1 : decode cX7_gift 1 = .ok (.iload_n 1, 1) := DX7_gift_0 (1, .iload_n 1, 1) (List.mem_of_getElem? (i := 1) rfl)
theorem dX7_gift_2 : decode cX7_gift 2 = .ok (.invokevirtual 152, 3) := DX7_gift_0 (2, .invokevirtual 152, 3) (List.mem_of_getElem? (i := 2) rfl)
theorem dX7_gift_5 : decode cX7_gift 5 = .ok (.iload_n 2, 1) := DX7_gift_0 (5, .iload_n 2, 1) (List.mem_of_getElem? (i := 3) rfl)
theorem dX7_gift_6 : decode cX7_gift 6 = .ok (.tableswitch 147 0 7 #[46, 59, 72, 85, 98, 110, 127, 137], 46) := DX7_gift_0 (6, .tableswitch 147 0 7 #[46, 59, 72, 85, 98, 110, 127, 137], 46) (List.mem_of_getElem? (i := 4) rfl)
theorem dX7_gift_52 : decode cX7_gift 52 = .ok (.aload_n 0, 1) := DX7_gift_0 (52, .aload_n 0, 1) (List.mem_of_getElem? (i := 5) rfl)
theorem dX7_gift_53 : decode cX7_gift 53 = .ok (.getfield 23, 3) := DX7_gift_0 (53, .getfield 23, 3) (List.mem_of_getElem? (i := 6) rfl)
theorem dX7_gift_56 : decode cX7_gift 56 = .ok (.getfield 86, 3) := DX7_gift_0 (56, .getfield 86, 3) (List.mem_of_getElem? (i := 7) rfl)
theorem dX7_gift_59 : decode cX7_gift 59 = .ok (.getfield 155, 3) := DX7_gift_0 (59, .getfield 155, 3) (List.mem_of_getElem? (i := 8) rfl)
theorem dX7_gift_62 : decode cX7_gift 62 = .ok (.iload_n 1, 1) := DX7_gift_0 (62, .iload_n 1, 1) (List.mem_of_getElem? (i := 9) rfl)
theorem dX7_gift_63 : decode cX7_gift 63 = .ok (.iaload, 1) := DX7_gift_0 (63, .iaload, 1) (List.mem_of_getElem? (i := 10) rfl)
theorem dX7_gift_64 : decode cX7_gift 64 = .ok (.ireturn, 1) := DX7_gift_0 (64, .ireturn, 1) (List.mem_of_getElem? (i := 11) rfl)
theorem dX7_gift_65 : decode cX7_gift 65 = .ok (.aload_n 0, 1) := DX7_gift_0 (65, .aload_n 0, 1) (List.mem_of_getElem? (i := 12) rfl)
theorem dX7_gift_66 : decode cX7_gift 66 = .ok (.getfield 23, 3) := DX7_gift_0 (66, .getfield 23, 3) (List.mem_of_getElem? (i := 13) rfl)
theorem dX7_gift_69 : decode cX7_gift 69 = .ok (.getfield 86, 3) := DX7_gift_0 (69, .getfield 86, 3) (List.mem_of_getElem? (i := 14) rfl)
theorem dX7_gift_72 : decode cX7_gift 72 = .ok (.getfield 158, 3) := DX7_gift_0 (72, .getfield 158, 3) (List.mem_of_getElem? (i := 15) rfl)
theorem dX7_gift_75 : decode cX7_gift 75 = .ok (.iload_n 1, 1) := DX7_gift_0 (75, .iload_n 1, 1) (List.mem_of_getElem? (i := 16) rfl)
theorem dX7_gift_76 : decode cX7_gift 76 = .ok (.iaload, 1) := DX7_gift_0 (76, .iaload, 1) (List.mem_of_getElem? (i := 17) rfl)
theorem dX7_gift_77 : decode cX7_gift 77 = .ok (.ireturn, 1) := DX7_gift_0 (77, .ireturn, 1) (List.mem_of_getElem? (i := 18) rfl)
theorem dX7_gift_78 : decode cX7_gift 78 = .ok (.aload_n 0, 1) := DX7_gift_0 (78, .aload_n 0, 1) (List.mem_of_getElem? (i := 19) rfl)
theorem dX7_gift_79 : decode cX7_gift 79 = .ok (.getfield 23, 3) := DX7_gift_0 (79, .getfield 23, 3) (List.mem_of_getElem? (i := 20) rfl)
theorem dX7_gift_82 : decode cX7_gift 82 = .ok (.getfield 86, 3) := DX7_gift_0 (82, .getfield 86, 3) (List.mem_of_getElem? (i := 21) rfl)
theorem dX7_gift_85 : decode cX7_gift 85 = .ok (.getfield 161, 3) := DX7_gift_0 (85, .getfield 161, 3) (List.mem_of_getElem? (i := 22) rfl)
theorem dX7_gift_88 : decode cX7_gift 88 = .ok (.iload_n 1, 1) := DX7_gift_0 (88, .iload_n 1, 1) (List.mem_of_getElem? (i := 23) rfl)
theorem dX7_gift_89 : decode cX7_gift 89 = .ok (.iaload, 1) := DX7_gift_0 (89, .iaload, 1) (List.mem_of_getElem? (i := 24) rfl)
theorem dX7_gift_90 : decode cX7_gift 90 = .ok (.ireturn, 1) := DX7_gift_0 (90, .ireturn, 1) (List.mem_of_getElem? (i := 25) rfl)
theorem dX7_gift_91 : decode cX7_gift 91 = .ok (.aload_n 0, 1) := DX7_gift_0 (91, .aload_n 0, 1) (List.mem_of_getElem? (i := 26) rfl)
theorem dX7_gift_92 : decode cX7_gift 92 = .ok (.getfield 23, 3) := DX7_gift_0 (92, .getfield 23, 3) (List.mem_of_getElem? (i := 27) rfl)
theorem dX7_gift_95 : decode cX7_gift 95 = .ok (.getfield 86, 3) := DX7_gift_0 (95, .getfield 86, 3) (List.mem_of_getElem? (i := 28) rfl)
theorem dX7_gift_98 : decode cX7_gift 98 = .ok (.getfield 164, 3) := DX7_gift_0 (98, .getfield 164, 3) (List.mem_of_getElem? (i := 29) rfl)
theorem dX7_gift_101 : decode cX7_gift 101 = .ok (.iload_n 1, 1) := DX7_gift_0 (101, .iload_n 1, 1) (List.mem_of_getElem? (i := 30) rfl)
theorem dX7_gift_102 : decode cX7_gift 102 = .ok (.iaload, 1) := DX7_gift_0 (102, .iaload, 1) (List.mem_of_getElem? (i := 31) rfl)
theorem dX7_gift_103 : decode cX7_gift 103 = .ok (.ireturn, 1) := DX7_gift_0 (103, .ireturn, 1) (List.mem_of_getElem? (i := 32) rfl)
theorem dX7_gift_104 : decode cX7_gift 104 = .ok (.aload_n 0, 1) := DX7_gift_0 (104, .aload_n 0, 1) (List.mem_of_getElem? (i := 33) rfl)
theorem dX7_gift_105 : decode cX7_gift 105 = .ok (.getfield 23, 3) := DX7_gift_0 (105, .getfield 23, 3) (List.mem_of_getElem? (i := 34) rfl)
theorem dX7_gift_108 : decode cX7_gift 108 = .ok (.getfield 86, 3) := DX7_gift_0 (108, .getfield 86, 3) (List.mem_of_getElem? (i := 35) rfl)
theorem dX7_gift_111 : decode cX7_gift 111 = .ok (.iload_n 1, 1) := DX7_gift_0 (111, .iload_n 1, 1) (List.mem_of_getElem? (i := 36) rfl)
theorem dX7_gift_112 : decode cX7_gift 112 = .ok (.invokevirtual 167, 3) := DX7_gift_0 (112, .invokevirtual 167, 3) (List.mem_of_getElem? (i := 37) rfl)
theorem dX7_gift_115 : decode cX7_gift 115 = .ok (.ireturn, 1) := DX7_gift_0 (115, .ireturn, 1) (List.mem_of_getElem? (i := 38) rfl)
theorem dX7_gift_116 : decode cX7_gift 116 = .ok (.aload_n 0, 1) := DX7_gift_0 (116, .aload_n 0, 1) (List.mem_of_getElem? (i := 39) rfl)
theorem DX7_gift_1 : ∀ q ∈ ([(117, .getfield 23, 3), (120, .iload_n 1, 1), (121, .invokevirtual 170, 3), (124, .ifCond .eq 7, 3), (127, .iconst 1, 1), (128, .goto 4, 3), (131, .iconst 0, 1), (132, .ireturn, 1), (133, .aload_n 0, 1), (134, .getfield 23, 3), (137, .iload_n 1, 1), (138, .iconst 2, 1), (139, .invokevirtual 174, 3), (142, .ireturn, 1), (143, .aload_n 0, 1), (144, .getfield 23, 3), (147, .iload_n 1, 1), (148, .iconst 3, 1), (149, .invokevirtual 174, 3), (152, .ireturn, 1), (153, .new 128, 3), (156, .dup, 1), (157, .ldc 130, 2), (159, .invokespecial 132, 3), (162, .athrow, 1)] : List (Nat × Instr × Nat)), decode cX7_gift q.1 = .ok q.2 := by decide +kernel
theorem dX7_gift_117 : decode cX7_gift 117 = .ok (.getfield 23, 3) := DX7_gift_1 (117, .getfield 23, 3) (List.mem_of_getElem? (i := 0) rfl)
theorem dX7_gift_120 : decode cX7_gift 120 = .ok (.iload_n 1, 1) := DX7_gift_1 (120, .iload_n 1, 1) (List.mem_of_getElem? (i := 1) rfl)
theorem dX7_gift_121 : decode cX7_gift 121 = .ok (.invokevirtual 170, 3) := DX7_gift_1 (121, .invokevirtual 170, 3) (List.mem_of_getElem? (i := 2) rfl)
theorem dX7_gift_124 : decode cX7_gift 124 = .ok (.ifCond .eq 7, 3) := DX7_gift_1 (124, .ifCond .eq 7, 3) (List.mem_of_getElem? (i := 3) rfl)
theorem dX7_gift_127 : decode cX7_gift 127 = .ok (.iconst 1, 1) := DX7_gift_1 (127, .iconst 1, 1) (List.mem_of_getElem? (i := 4) rfl)
theorem dX7_gift_128 : decode cX7_gift 128 = .ok (.goto 4, 3) := DX7_gift_1 (128, .goto 4, 3) (List.mem_of_getElem? (i := 5) rfl)
theorem dX7_gift_131 : decode cX7_gift 131 = .ok (.iconst 0, 1) := DX7_gift_1 (131, .iconst 0, 1) (List.mem_of_getElem? (i := 6) rfl)
theorem dX7_gift_132 : decode cX7_gift 132 = .ok (.ireturn, 1) := DX7_gift_1 (132, .ireturn, 1) (List.mem_of_getElem? (i := 7) rfl)
theorem dX7_gift_133 : decode cX7_gift 133 = .ok (.aload_n 0, 1) := DX7_gift_1 (133, .aload_n 0, 1) (List.mem_of_getElem? (i := 8) rfl)
theorem dX7_gift_134 : decode cX7_gift 134 = .ok (.getfield 23, 3) := DX7_gift_1 (134, .getfield 23, 3) (List.mem_of_getElem? (i := 9) rfl)
theorem dX7_gift_137 : decode cX7_gift 137 = .ok (.iload_n 1, 1) := DX7_gift_1 (137, .iload_n 1, 1) (List.mem_of_getElem? (i := 10) rfl)
theorem dX7_gift_138 : decode cX7_gift 138 = .ok (.iconst 2, 1) := DX7_gift_1 (138, .iconst 2, 1) (List.mem_of_getElem? (i := 11) rfl)
theorem dX7_gift_139 : decode cX7_gift 139 = .ok (.invokevirtual 174, 3) := DX7_gift_1 (139, .invokevirtual 174, 3) (List.mem_of_getElem? (i := 12) rfl)
theorem dX7_gift_142 : decode cX7_gift 142 = .ok (.ireturn, 1) := DX7_gift_1 (142, .ireturn, 1) (List.mem_of_getElem? (i := 13) rfl)
theorem dX7_gift_143 : decode cX7_gift 143 = .ok (.aload_n 0, 1) := DX7_gift_1 (143, .aload_n 0, 1) (List.mem_of_getElem? (i := 14) rfl)
theorem dX7_gift_144 : decode cX7_gift 144 = .ok (.getfield 23, 3) := DX7_gift_1 (144, .getfield 23, 3) (List.mem_of_getElem? (i := 15) rfl)
theorem dX7_gift_147 : decode cX7_gift 147 = .ok (.iload_n 1, 1) := DX7_gift_1 (147, .iload_n 1, 1) (List.mem_of_getElem? (i := 16) rfl)
theorem dX7_gift_148 : decode cX7_gift 148 = .ok (.iconst 3, 1) := DX7_gift_1 (148, .iconst 3, 1) (List.mem_of_getElem? (i := 17) rfl)
theorem dX7_gift_149 : decode cX7_gift 149 = .ok (.invokevirtual 174, 3) := DX7_gift_1 (149, .invokevirtual 174, 3) (List.mem_of_getElem? (i := 18) rfl)
theorem dX7_gift_152 : decode cX7_gift 152 = .ok (.ireturn, 1) := DX7_gift_1 (152, .ireturn, 1) (List.mem_of_getElem? (i := 19) rfl)
theorem dX7_gift_153 : decode cX7_gift 153 = .ok (.new 128, 3) := DX7_gift_1 (153, .new 128, 3) (List.mem_of_getElem? (i := 20) rfl)
theorem dX7_gift_156 : decode cX7_gift 156 = .ok (.dup, 1) := DX7_gift_1 (156, .dup, 1) (List.mem_of_getElem? (i := 21) rfl)
theorem dX7_gift_157 : decode cX7_gift 157 = .ok (.ldc 130, 2) := DX7_gift_1 (157, .ldc 130, 2) (List.mem_of_getElem? (i := 22) rfl)
theorem dX7_gift_159 : decode cX7_gift 159 = .ok (.invokespecial 132, 3) := DX7_gift_1 (159, .invokespecial 132, 3) (List.mem_of_getElem? (i := 23) rfl)
theorem dX7_gift_162 : decode cX7_gift 162 = .ok (.athrow, 1) := DX7_gift_1 (162, .athrow, 1) (List.mem_of_getElem? (i := 24) rfl)
abbrev rmX7_gift : Room := { frames := 3, cells := 0, slots := 0, locals := 67 }
set_option maxHeartbeats 1000000 in
set_option maxRecDepth 100000 in
theorem met_X7_gift (l : Launch) (D : va_G) (kA : Nat → ClassId) (a : Nat → Nat) (pf : Nat → Option Nat) (n : Nat) (V : Sz) (X : Sz) (x1 : Int) (x2 : Int) {r : Int} (hf : f_X7_gift n V X x1 x2 = some (.inl r)) : MP l yX7_gift cX7_gift 3 (some .int) rmX7_gift D kA [.ref (a 0), vI x1, vI x2] (cs_X7 kA a V X pf) (some (vI r)) := by
  refine zPI (own := RX7) rfl rfl (Nat.le_of_ble_eq_true rfl) ?_
  intro p e s m args below meth c ls Q hC hK hP hl hret
  have hl : lv_has ls 3 [(0, .ref (a 0)), (1, vI x1), (2, vI x2)] := hl
  unfold f_X7_gift at hf
  refine lv_aload_n hC.1 hC.2.1 dX7_gift_0 rfl (lv_at hl 0 rfl) <| ziload_n hC.1 hC.2.1 dX7_gift_1 rfl (lv_at hl 1 rfl) <| ?_
  obtain ⟨u, hu, hf⟩ := bx_inl hf
  refine zcVP (As := [vI x1]) (rest := []) hC hK (met_X7_needGift l D kA a pf V X x1 hu) zwX7_152 hP (q0 := 0) rfl rfl rfl rfl hl.1 rfl (Nat.le_of_ble_eq_true rfl) ⟨Nat.le_of_ble_eq_true rfl, Nat.le_of_ble_eq_true rfl⟩ ⟨rfl, rfl⟩ ⟨Nat.le_refl _, Nat.le_refl _⟩ dX7_gift_2 <| ziload_n hC.1 hC.2.1 dX7_gift_5 rfl (lv_at hl 2 rfl) <| ?_
  obtain ⟨hz_1, hf⟩ := ck_some hf
  by_cases hc : x2 = 0
  · have hf := it_t hf hc
    refine ztsIn (k := 0) (tgt := 52) hC.1 hC.2.1 dX7_gift_6 hc (by decide) rfl (by decide) ?_
    have hf := bl_inl hf
    refine lv_aload_n hC.1 hC.2.1 dX7_gift_52 rfl (lv_at hl 0 rfl) <| gfX7_23 hC hK hP (q0 := 0) rfl rfl dX7_gift_53 <| gfX7_86 hC hK hP (q0 := 2) rfl rfl dX7_gift_56 <| gfX7_155 hC hK hP (q0 := 8) rfl rfl dX7_gift_59 <| ziload_n hC.1 hC.2.1 dX7_gift_62 rfl (lv_at hl 1 rfl) <| ?_
    obtain ⟨hz_2, hf⟩ := ck_some hf
    exact jal hC hK hP (q0 := 9) rfl (Nat.le_of_ble_eq_true rfl) hz_2 rfl dX7_gift_63 <| hret (Int32.ofInt (V 14 x1.toNat)) _ _ (qI hf) dX7_gift_64
  have hf := it_f hf hc
  have hc0 := hc
  by_cases hc : x2 = 1
  · have hf := it_t hf hc
    refine ztsIn (k := 1) (tgt := 65) hC.1 hC.2.1 dX7_gift_6 hc (by decide) rfl (by decide) ?_
    have hf := bl_inl hf
    refine lv_aload_n hC.1 hC.2.1 dX7_gift_65 rfl (lv_at hl 0 rfl) <| gfX7_23 hC hK hP (q0 := 0) rfl rfl dX7_gift_66 <| gfX7_86 hC hK hP (q0 := 2) rfl rfl dX7_gift_69 <| gfX7_158 hC hK hP (q0 := 8) rfl rfl dX7_gift_72 <| ziload_n hC.1 hC.2.1 dX7_gift_75 rfl (lv_at hl 1 rfl) <| ?_
    obtain ⟨hz_3, hf⟩ := ck_some hf
    exact jal hC hK hP (q0 := 10) rfl (Nat.le_of_ble_eq_true rfl) hz_3 rfl dX7_gift_76 <| hret (Int32.ofInt (V 15 x1.toNat)) _ _ (qI hf) dX7_gift_77
  have hf := it_f hf hc
  have hc1 := hc
  by_cases hc : x2 = 2
  · have hf := it_t hf hc
    refine ztsIn (k := 2) (tgt := 78) hC.1 hC.2.1 dX7_gift_6 hc (by decide) rfl (by decide) ?_
    have hf := bl_inl hf
    refine lv_aload_n hC.1 hC.2.1 dX7_gift_78 rfl (lv_at hl 0 rfl) <| gfX7_23 hC hK hP (q0 := 0) rfl rfl dX7_gift_79 <| gfX7_86 hC hK hP (q0 := 2) rfl rfl dX7_gift_82 <| gfX7_161 hC hK hP (q0 := 8) rfl rfl dX7_gift_85 <| ziload_n hC.1 hC.2.1 dX7_gift_88 rfl (lv_at hl 1 rfl) <| ?_
    obtain ⟨hz_4, hf⟩ := ck_some hf
    exact jal hC hK hP (q0 := 11) rfl (Nat.le_of_ble_eq_true rfl) hz_4 rfl dX7_gift_89 <| hret (Int32.ofInt (V 16 x1.toNat)) _ _ (qI hf) dX7_gift_90
  have hf := it_f hf hc
  have hc2 := hc
  by_cases hc : x2 = 3
  · have hf := it_t hf hc
    refine ztsIn (k := 3) (tgt := 91) hC.1 hC.2.1 dX7_gift_6 hc (by decide) rfl (by decide) ?_
    have hf := bl_inl hf
    refine lv_aload_n hC.1 hC.2.1 dX7_gift_91 rfl (lv_at hl 0 rfl) <| gfX7_23 hC hK hP (q0 := 0) rfl rfl dX7_gift_92 <| gfX7_86 hC hK hP (q0 := 2) rfl rfl dX7_gift_95 <| gfX7_164 hC hK hP (q0 := 8) rfl rfl dX7_gift_98 <| ziload_n hC.1 hC.2.1 dX7_gift_101 rfl (lv_at hl 1 rfl) <| ?_
    obtain ⟨hz_5, hf⟩ := ck_some hf
    exact jal hC hK hP (q0 := 13) rfl (Nat.le_of_ble_eq_true rfl) hz_5 rfl dX7_gift_102 <| hret (Int32.ofInt (V 18 x1.toNat)) _ _ (qI hf) dX7_gift_103
  have hf := it_f hf hc
  have hc3 := hc
  by_cases hc : x2 = 4
  · have hf := it_t hf hc
    refine ztsIn (k := 4) (tgt := 104) hC.1 hC.2.1 dX7_gift_6 hc (by decide) rfl (by decide) ?_
    have hf := bl_inl hf
    refine lv_aload_n hC.1 hC.2.1 dX7_gift_104 rfl (lv_at hl 0 rfl) <| gfX7_23 hC hK hP (q0 := 0) rfl rfl dX7_gift_105 <| gfX7_86 hC hK hP (q0 := 2) rfl rfl dX7_gift_108 <| ziload_n hC.1 hC.2.1 dX7_gift_111 rfl (lv_at hl 1 rfl) <| ?_
    obtain ⟨r_6, hu, hf⟩ := bd_some hf
    have hPc : va_P D vwCl (cs_X3 kA (sv 8 a) (sv 13 V)) _ := hP.sub [8, 9, 10, 11, 12, 13, 14, 15, 16, 17, 18, 19] rfl
    exact zcVP (As := [vI x1]) (rest := []) hC hK (met_X3_leftOf l D kA (sv 8 a) (sv 13 V) x1 hu) zwX7_167 hPc (q0 := 0) rfl rfl rfl rfl hl.1 rfl (Nat.le_of_ble_eq_true rfl) ⟨Nat.le_of_ble_eq_true rfl, Nat.le_of_ble_eq_true rfl⟩ ⟨rfl, rfl⟩ ⟨Nat.le_refl _, Nat.le_refl _⟩ dX7_gift_112 <| hret (Int32.ofInt r_6) _ _ (qI hf) dX7_gift_115
  have hf := it_f hf hc
  have hc4 := hc
  by_cases hc : x2 = 5
  · have hf := it_t hf hc
    refine ztsIn (k := 5) (tgt := 116) hC.1 hC.2.1 dX7_gift_6 hc (by decide) rfl (by decide) ?_
    have hf := bl_inl hf
    refine lv_aload_n hC.1 hC.2.1 dX7_gift_116 rfl (lv_at hl 0 rfl) <| gfX7_23 hC hK hP (q0 := 0) rfl rfl dX7_gift_117 <| ziload_n hC.1 hC.2.1 dX7_gift_120 rfl (lv_at hl 1 rfl) <| ?_
    obtain ⟨r_7, hu, hf⟩ := bd_some hf
    have hPc : va_P D vwCl (cs_X4 kA (sv 2 a) (sv 4 V)) _ := hP.sub [2, 3, 4, 5, 6, 7, 8, 9, 10, 11, 12, 13, 14, 15, 16, 17, 18, 19, 20, 21, 22, 23, 24, 25] rfl
    refine zcVP (As := [vI x1]) (rest := []) hC hK (met_X4_isSpoilt l D kA (sv 2 a) (sv 4 V) x1 hu) zwX7_170 hPc (q0 := 0) rfl rfl rfl rfl hl.1 rfl (Nat.le_of_ble_eq_true rfl) ⟨Nat.le_of_ble_eq_true rfl, Nat.le_of_ble_eq_true rfl⟩ ⟨rfl, rfl⟩ ⟨Nat.le_refl _, Nat.le_refl _⟩ dX7_gift_121 <| zifb_eq (tgt := 131) hC.1 hC.2.1 dX7_gift_124 (by decide) (fun hc => ?_) (fun hc => ?_)
    · have hf := it_t hf hc
      exact ziconst hC.1 hC.2.1 dX7_gift_131 <| hret (Int32.ofInt 0) _ _ (qI hf) dX7_gift_132
    · have hf := it_f hf hc
      exact ziconst hC.1 hC.2.1 dX7_gift_127 <| lv_goto (tgt := 132) hC.1 hC.2.1 dX7_gift_128 (by decide) <| hret (Int32.ofInt 1) _ _ (qI hf) dX7_gift_132
  have hf := it_f hf hc
  have hc5 := hc
  by_cases hc : x2 = 6
  · have hf := it_t hf hc
    refine ztsIn (k := 6) (tgt := 133) hC.1 hC.2.1 dX7_gift_6 hc (by decide) rfl (by decide) ?_
    have hf := bl_inl hf
    refine lv_aload_n hC.1 hC.2.1 dX7_gift_133 rfl (lv_at hl 0 rfl) <| gfX7_23 hC hK hP (q0 := 0) rfl rfl dX7_gift_134 <| ziload_n hC.1 hC.2.1 dX7_gift_137 rfl (lv_at hl 1 rfl) <| ziconst hC.1 hC.2.1 dX7_gift_138 <| ?_
    obtain ⟨r_8, hu, hf⟩ := bd_some hf
    have hPc : va_P D vwCl (cs_X4 kA (sv 2 a) (sv 4 V)) _ := hP.sub [2, 3, 4, 5, 6, 7, 8, 9, 10, 11, 12, 13, 14, 15, 16, 17, 18, 19, 20, 21, 22, 23, 24, 25] rfl
    exact zcVP (As := [vI x1, vI 2]) (rest := []) hC hK (met_X4_sumOfGift l D kA (sv 2 a) n (sv 4 V) x1 2 hu) zwX7_174 hPc (q0 := 0) rfl rfl rfl rfl hl.1 rfl (Nat.le_of_ble_eq_true rfl) ⟨Nat.le_of_ble_eq_true rfl, Nat.le_of_ble_eq_true rfl⟩ ⟨rfl, rfl⟩ ⟨Nat.le_refl _, Nat.le_refl _⟩ dX7_gift_139 <| hret (Int32.ofInt r_8) _ _ (qI hf) dX7_gift_142
  have hf := it_f hf hc
  have hc6 := hc
  by_cases hc : x2 = 7
  · have hf := it_t hf hc
    refine ztsIn (k := 7) (tgt := 143) hC.1 hC.2.1 dX7_gift_6 hc (by decide) rfl (by decide) ?_
    have hf := bl_inl hf
    refine lv_aload_n hC.1 hC.2.1 dX7_gift_143 rfl (lv_at hl 0 rfl) <| gfX7_23 hC hK hP (q0 := 0) rfl rfl dX7_gift_144 <| ziload_n hC.1 hC.2.1 dX7_gift_147 rfl (lv_at hl 1 rfl) <| ziconst hC.1 hC.2.1 dX7_gift_148 <| ?_
    obtain ⟨r_9, hu, hf⟩ := bd_some hf
    have hPc : va_P D vwCl (cs_X4 kA (sv 2 a) (sv 4 V)) _ := hP.sub [2, 3, 4, 5, 6, 7, 8, 9, 10, 11, 12, 13, 14, 15, 16, 17, 18, 19, 20, 21, 22, 23, 24, 25] rfl
    exact zcVP (As := [vI x1, vI 3]) (rest := []) hC hK (met_X4_sumOfGift l D kA (sv 2 a) n (sv 4 V) x1 3 hu) zwX7_174 hPc (q0 := 0) rfl rfl rfl rfl hl.1 rfl (Nat.le_of_ble_eq_true rfl) ⟨Nat.le_of_ble_eq_true rfl, Nat.le_of_ble_eq_true rfl⟩ ⟨rfl, rfl⟩ ⟨Nat.le_refl _, Nat.le_refl _⟩ dX7_gift_149 <| hret (Int32.ofInt r_9) _ _ (qI hf) dX7_gift_152
  have hf := it_f hf hc
  have hc7 := hc
  refine ztsOut (tgt := 153) hC.1 hC.2.1 hz_1 dX7_gift_6 (by decide) (by omega) ?_
  cases hf
abbrev rxX7_gift : Room := { frames := 7, cells := 1, slots := 6, locals := 111 }
set_option maxHeartbeats 1000000 in
set_option maxRecDepth 100000 in
theorem thr_X7_gift (l : Launch) (D : va_G) (kA : Nat → ClassId) (a : Nat → Nat) (pf : Nat → Option Nat) (n : Nat) (V : Sz) (X : Sz) (x1 : Int) (x2 : Int) {er : Nat} (hf : f_X7_gift n V X x1 x2 = some (.inr er)) : MX l yX7_gift cX7_gift 3 (some .int) rxX7_gift D kA [.ref (a 0), vI x1, vI x2] (cs_X7 kA a V X pf) (zEx er) := by
  refine zXstart (own := RX7) rfl rfl (Nat.le_of_ble_eq_true rfl) ?_
  intro p e s m args below meth c ls hC hK hP hX hl hx hlocks
  have hl : lv_has ls 3 [(0, .ref (a 0)), (1, vI x1), (2, vI x2)] := hl
  unfold f_X7_gift at hf
  refine lv_aload_n hC.1 hC.2.1 dX7_gift_0 rfl (lv_at hl 0 rfl) <| ziload_n hC.1 hC.2.1 dX7_gift_1 rfl (lv_at hl 1 rfl) <| ?_
  rcases bx_inr hf with hu | ⟨u, hu, hf⟩
  · exact zcVX (As := [vI x1]) (rest := []) hC hK hX hx hlocks (thr_X7_needGift l D kA a pf V X x1 hu) zwX7_152 hP (q0 := 0) rfl rfl rfl rfl hl.1 rfl (Nat.le_of_ble_eq_true rfl) ⟨Nat.le_of_ble_eq_true rfl, Nat.le_of_ble_eq_true rfl⟩ ⟨rfl, rfl⟩ ⟨Nat.le_of_ble_eq_true rfl, Nat.le_of_ble_eq_true rfl⟩ dX7_gift_2
  refine zcVP (As := [vI x1]) (rest := []) hC hK (met_X7_needGift l D kA a pf V X x1 hu) zwX7_152 hP (q0 := 0) rfl rfl rfl rfl hl.1 rfl (Nat.le_of_ble_eq_true rfl) ⟨Nat.le_of_ble_eq_true rfl, Nat.le_of_ble_eq_true rfl⟩ ⟨rfl, rfl⟩ ⟨Nat.le_of_ble_eq_true rfl, Nat.le_of_ble_eq_true rfl⟩ dX7_gift_2 <| ziload_n hC.1 hC.2.1 dX7_gift_5 rfl (lv_at hl 2 rfl) <| ?_
  obtain ⟨hz_1, hf⟩ := ck_some hf
  by_cases hc : x2 = 0
  · have hf := it_t hf hc
    refine ztsIn (k := 0) (tgt := 52) hC.1 hC.2.1 dX7_gift_6 hc (by decide) rfl (by decide) ?_
    exact (bl_inr hf).elim
  have hf := it_f hf hc
  have hc0 := hc
  by_cases hc : x2 = 1
  · have hf := it_t hf hc
    refine ztsIn (k := 1) (tgt := 65) hC.1 hC.2.1 dX7_gift_6 hc (by decide) rfl (by decide) ?_
    exact (bl_inr hf).elim
  have hf := it_f hf hc
  have hc1 := hc
  by_cases hc : x2 = 2
  · have hf := it_t hf hc
    refine ztsIn (k := 2) (tgt := 78) hC.1 hC.2.1 dX7_gift_6 hc (by decide) rfl (by decide) ?_
    exact (bl_inr hf).elim
  have hf := it_f hf hc
  have hc2 := hc
  by_cases hc : x2 = 3
  · have hf := it_t hf hc
    refine ztsIn (k := 3) (tgt := 91) hC.1 hC.2.1 dX7_gift_6 hc (by decide) rfl (by decide) ?_
    exact (bl_inr hf).elim
  have hf := it_f hf hc
  have hc3 := hc
  by_cases hc : x2 = 4
  · have hf := it_t hf hc
    refine ztsIn (k := 4) (tgt := 104) hC.1 hC.2.1 dX7_gift_6 hc (by decide) rfl (by decide) ?_
    exact (bl_inr hf).elim
  have hf := it_f hf hc
  have hc4 := hc
  by_cases hc : x2 = 5
  · have hf := it_t hf hc
    refine ztsIn (k := 5) (tgt := 116) hC.1 hC.2.1 dX7_gift_6 hc (by decide) rfl (by decide) ?_
    exact (bl_inr hf).elim
  have hf := it_f hf hc
  have hc5 := hc
  by_cases hc : x2 = 6
  · have hf := it_t hf hc
    refine ztsIn (k := 6) (tgt := 133) hC.1 hC.2.1 dX7_gift_6 hc (by decide) rfl (by decide) ?_
    exact (bl_inr hf).elim
  have hf := it_f hf hc
  have hc6 := hc
  by_cases hc : x2 = 7
  · have hf := it_t hf hc
    refine ztsIn (k := 7) (tgt := 143) hC.1 hC.2.1 dX7_gift_6 hc (by decide) rfl (by decide) ?_
    exact (bl_inr hf).elim
  have hf := it_f hf hc
  have hc7 := hc
  refine ztsOut (tgt := 153) hC.1 hC.2.1 hz_1 dX7_gift_6 (by decide) (by omega) ?_
  cases hf
  exact zth1 (is := 130) (tx := "what is out of range") hC hX hx hlocks (by decide +kernel) hl.1 dX7_gift_153 dX7_gift_156 dX7_gift_157 dX7_gift_159 dX7_gift_162 (Nat.le_of_ble_eq_true rfl) (Nat.le_of_ble_eq_true rfl) (Nat.le_of_ble_eq_true rfl) (Nat.le_of_ble_eq_true rfl)
theorem DX7_needPart_0 : ∀ q ∈ ([(0, .aload_n 0, 1), (1, .iload_n 1, 1), (2, .invokevirtual 152, 3), (5, .iload_n 2, 1), (6, .ifCond .lt 19, 3), (9, .iload_n 2, 1), (10, .aload_n 0, 1), (11, .getfield 23, 3), (14, .getfield 86, 3), (17, .getfield 164, 3), (20, .iload_n 1, 1), (21, .iaload, 1), (22, .if_icmp .lt 14, 3), (25, .new 288, 3), (28, .dup, 1), (29, .ldc_w 386, 3), (32, .invokespecial 292, 3), (35, .athrow, 1), (36, .return_, 1)] : List (Nat × Instr × Nat)), decode cX7_needPart q.1 = .ok q.2 := by decide +kernel
theorem dX7_needPart_0 : decode cX7_needPart 0 = .ok (.aload_n 0, 1) := DX7_needPart_0 (0, .aload_n 0, 1) (List.mem_of_getElem? (i := 0) rfl)
theorem dX7_needPart_1 : decode cX7_needPart 1 = .ok (.iload_n 1, 1) := DX7_needPart_0 (1, .iload_n 1, 1) (List.mem_of_getElem? (i := 1) rfl)
theorem dX7_needPart_2 : decode cX7_needPart 2 = .ok (.invokevirtual 152, 3) := DX7_needPart_0 (2, .invokevirtual 152, 3) (List.mem_of_getElem? (i := 2) rfl)
theorem dX7_needPart_5 : decode cX7_needPart 5 = .ok (.iload_n 2, 1) := DX7_needPart_0 (5, .iload_n 2, 1) (List.mem_of_getElem? (i := 3) rfl)
theorem dX7_needPart_6 : decode cX7_needPart 6 = .ok (.ifCond .lt 19, 3) := DX7_needPart_0 (6, .ifCond .lt 19, 3) (List.mem_of_getElem? (i := 4) rfl)
theorem dX7_needPart_9 : decode cX7_needPart 9 = .ok (.iload_n 2, 1) := DX7_needPart_0 (9, .iload_n 2, 1) (List.mem_of_getElem? (i := 5) rfl)
theorem dX7_needPart_10 : decode cX7_needPart 10 = .ok (.aload_n 0, 1) := DX7_needPart_0 (10, .aload_n 0, 1) (List.mem_of_getElem? (i := 6) rfl)
theorem dX7_needPart_11 : decode cX7_needPart 11 = .ok (.getfield 23, 3) := DX7_needPart_0 (11, .getfield 23, 3) (List.mem_of_getElem? (i := 7) rfl)
theorem dX7_needPart_14 : decode cX7_needPart 14 = .ok (.getfield 86, 3) := DX7_needPart_0 (14, .getfield 86, 3) (List.mem_of_getElem? (i := 8) rfl)
theorem dX7_needPart_17 : decode cX7_needPart 17 = .ok (.getfield 164, 3) := DX7_needPart_0 (17, .getfield 164, 3) (List.mem_of_getElem? (i := 9) rfl)
theorem dX7_needPart_20 : decode cX7_needPart 20 = .ok (.iload_n 1, 1) := DX7_needPart_0 (20, .iload_n 1, 1) (List.mem_of_getElem? (i := 10) rfl)
theorem dX7_needPart_21 : decode cX7_needPart 21 = .ok (.iaload, 1) := DX7_needPart_0 (21, .iaload, 1) (List.mem_of_getElem? (i := 11) rfl)
theorem dX7_needPart_22 : decode cX7_needPart 22 = .ok (.if_icmp .lt 14, 3) := DX7_needPart_0 (22, .if_icmp .lt 14, 3) (List.mem_of_getElem? (i := 12) rfl)
theorem dX7_needPart_25 : decode cX7_needPart 25 = .ok (.new 288, 3) := DX7_needPart_0 (25, .new 288, 3) (List.mem_of_getElem? (i := 13) rfl)
theorem dX7_needPart_28 : decode cX7_needPart 28 = .ok (.dup, 1) := DX7_needPart_0 (28, .dup, 1) (List.mem_of_getElem? (i := 14) rfl)
theorem dX7_needPart_29 : decode cX7_needPart 29 = .ok (.ldc_w 386, 3) := DX7_needPart_0 (29, .ldc_w 386, 3) (List.mem_of_getElem? (i := 15) rfl)
theorem dX7_needPart_32 : decode cX7_needPart 32 = .ok (.invokespecial 292, 3) := DX7_needPart_0 (32, .invokespecial 292, 3) (List.mem_of_getElem? (i := 16) rfl)
theorem dX7_needPart_35 : decode cX7_needPart 35 = .ok (.athrow, 1) := DX7_needPart_0 (35, .athrow, 1) (List.mem_of_getElem? (i := 17) rfl)
theorem dX7_needPart_36 : decode cX7_needPart 36 = .ok (.return_, 1) := DX7_needPart_0 (36, .return_, 1) (List.mem_of_getElem? (i := 18) rfl)
abbrev rmX7_needPart : Room := { frames := 1, cells := 0, slots := 0, locals := 21 }
set_option maxHeartbeats 1000000 in
set_option maxRecDepth 100000 in
theorem met_X7_needPart (l : Launch) (D : va_G) (kA : Nat → ClassId) (a : Nat → Nat) (pf : Nat → Option Nat) (V : Sz) (X : Sz) (x1 : Int) (x2 : Int) (hf : f_X7_needPart V X x1 x2 = some (.inl ())) : MP l yX7_needPart cX7_needPart 3 none rmX7_needPart D kA [.ref (a 0), vI x1, vI x2] (cs_X7 kA a V X pf) (none) := by
  refine zPV (own := RX7) rfl rfl (Nat.le_of_ble_eq_true rfl) ?_
  intro p e s m args below meth c ls Q hC hK hP hl hret
  have hl : lv_has ls 3 [(0, .ref (a 0)), (1, vI x1), (2, vI x2)] := hl
  unfold f_X7_needPart at hf
  have J25 : ∀ (ls : Array Slot), jX7_needPart_25 V X x1 x2 = some (.inl ()) → lv_has ls 3 [] → W p l e rmX7_needPart s m args below meth c s.heap [] 0 0 Q (F0 m 25 ls []) := by
    intro  ls hf hl
    unfold jX7_needPart_25 at hf
    cases hf
  refine lv_aload_n hC.1 hC.2.1 dX7_needPart_0 rfl (lv_at hl 0 rfl) <| ziload_n hC.1 hC.2.1 dX7_needPart_1 rfl (lv_at hl 1 rfl) <| ?_
  obtain ⟨u, hu, hf⟩ := bx_inl hf
  refine zcVP (As := [vI x1]) (rest := []) hC hK (met_X7_needGift l D kA a pf V X x1 hu) zwX7_152 hP (q0 := 0) rfl rfl rfl rfl hl.1 rfl (Nat.le_of_ble_eq_true rfl) ⟨Nat.le_of_ble_eq_true rfl, Nat.le_of_ble_eq_true rfl⟩ ⟨rfl, rfl⟩ ⟨Nat.le_refl _, Nat.le_refl _⟩ dX7_needPart_2 <| ziload_n hC.1 hC.2.1 dX7_needPart_5 rfl (lv_at hl 2 rfl) <| ?_
  obtain ⟨hz_1, hf⟩ := ck_some hf
  refine zif_lt (tgt := 25) hC.1 hC.2.1 hz_1 dX7_needPart_6 (by decide) (fun hc => ?_) (fun hc => ?_)
  · have hf := it_t hf hc
    exact J25 _ hf (lv_sub hl [] rfl)
  · have hf := it_f hf hc
    refine ziload_n hC.1 hC.2.1 dX7_needPart_9 rfl (lv_at hl 2 rfl) <| lv_aload_n hC.1 hC.2.1 dX7_needPart_10 rfl (lv_at hl 0 rfl) <| gfX7_23 hC hK hP (q0 := 0) rfl rfl dX7_needPart_11 <| gfX7_86 hC hK hP (q0 := 2) rfl rfl dX7_needPart_14 <| gfX7_164 hC hK hP (q0 := 8) rfl rfl dX7_needPart_17 <| ziload_n hC.1 hC.2.1 dX7_needPart_20 rfl (lv_at hl 1 rfl) <| ?_
    obtain ⟨hz_2, hf⟩ := ck_some hf
    refine jal hC hK hP (q0 := 13) rfl (Nat.le_of_ble_eq_true rfl) hz_2 rfl dX7_needPart_21 <| ?_
    obtain ⟨hz_3, hf⟩ := ck_some hf
    refine zicmp_lt (tgt := 36) hC.1 hC.2.1 ⟨hz_1, hz_3⟩ dX7_needPart_22 (by decide) (fun hc => ?_) (fun hc => ?_)
    · have hf := it_t hf hc
      have hf := bl_inl hf
      exact hret _ _ rfl dX7_needPart_36
    · have hf := it_f hf hc
      exact J25 _ hf (lv_sub hl [] rfl)
abbrev rxX7_needPart : Room := { frames := 7, cells := 1, slots := 6, locals := 111 }
set_option maxHeartbeats 1000000 in
set_option maxRecDepth 100000 in
theorem thr_X7_needPart (l : Launch) (D : va_G) (kA : Nat → ClassId) (a : Nat → Nat) (pf : Nat → Option Nat) (V : Sz) (X : Sz) (x1 : Int) (x2 : Int) {er : Nat} (hf : f_X7_needPart V X x1 x2 = some (.inr er)) : MX l yX7_needPart cX7_needPart 3 none rxX7_needPart D kA [.ref (a 0), vI x1, vI x2] (cs_X7 kA a V X pf) (zEx er) := by
  refine zXstart (own := RX7) rfl rfl (Nat.le_of_ble_eq_true rfl) ?_
  intro p e s m args below meth c ls hC hK hP hX hl hx hlocks
  have hl : lv_has ls 3 [(0, .ref (a 0)), (1, vI x1), (2, vI x2)] := hl
  unfold f_X7_needPart at hf
  have J25 : ∀ (ls : Array Slot), jX7_needPart_25 V X x1 x2 = some (.inr er) → lv_has ls 3 [] → W p l e rxX7_needPart s m args below meth c s.heap [] 0 0 (QX below (zEx er) args s) (F0 m 25 ls []) := by
    intro  ls hf hl
    unfold jX7_needPart_25 at hf
    cases hf
    exact zth0W (is := 386) (tx := "there is no such part") hC hX hx hlocks (by decide +kernel) hl.1 dX7_needPart_25 dX7_needPart_28 dX7_needPart_29 dX7_needPart_32 dX7_needPart_35 (Nat.le_of_ble_eq_true rfl) (Nat.le_of_ble_eq_true rfl) (Nat.le_of_ble_eq_true rfl) (Nat.le_of_ble_eq_true rfl)
  refine lv_aload_n hC.1 hC.2.1 dX7_needPart_0 rfl (lv_at hl 0 rfl) <| ziload_n hC.1 hC.2.1 dX7_needPart_1 rfl (lv_at hl 1 rfl) <| ?_
  rcases bx_inr hf with hu | ⟨u, hu, hf⟩
  · exact zcVX (As := [vI x1]) (rest := []) hC hK hX hx hlocks (thr_X7_needGift l D kA a pf V X x1 hu) zwX7_152 hP (q0 := 0) rfl rfl rfl rfl hl.1 rfl (Nat.le_of_ble_eq_true rfl) ⟨Nat.le_of_ble_eq_true rfl, Nat.le_of_ble_eq_true rfl⟩ ⟨rfl, rfl⟩ ⟨Nat.le_of_ble_eq_true rfl, Nat.le_of_ble_eq_true rfl⟩ dX7_needPart_2
  refine zcVP (As := [vI x1]) (rest := []) hC hK (met_X7_needGift l D kA a pf V X x1 hu) zwX7_152 hP (q0 := 0) rfl rfl rfl rfl hl.1 rfl (Nat.le_of_ble_eq_true rfl) ⟨Nat.le_of_ble_eq_true rfl, Nat.le_of_ble_eq_true rfl⟩ ⟨rfl, rfl⟩ ⟨Nat.le_of_ble_eq_true rfl, Nat.le_of_ble_eq_true rfl⟩ dX7_needPart_2 <| ziload_n hC.1 hC.2.1 dX7_needPart_5 rfl (lv_at hl 2 rfl) <| ?_
  obtain ⟨hz_1, hf⟩ := ck_some hf
  refine zif_lt (tgt := 25) hC.1 hC.2.1 hz_1 dX7_needPart_6 (by decide) (fun hc => ?_) (fun hc => ?_)
  · have hf := it_t hf hc
    exact J25 _ hf (lv_sub hl [] rfl)
  · have hf := it_f hf hc
    refine ziload_n hC.1 hC.2.1 dX7_needPart_9 rfl (lv_at hl 2 rfl) <| lv_aload_n hC.1 hC.2.1 dX7_needPart_10 rfl (lv_at hl 0 rfl) <| gfX7_23 hC hK hP (q0 := 0) rfl rfl dX7_needPart_11 <| gfX7_86 hC hK hP (q0 := 2) rfl rfl dX7_needPart_14 <| gfX7_164 hC hK hP (q0 := 8) rfl rfl dX7_needPart_17 <| ziload_n hC.1 hC.2.1 dX7_needPart_20 rfl (lv_at hl 1 rfl) <| ?_
    obtain ⟨hz_2, hf⟩ := ck_some hf
    refine jal hC hK hP (q0 := 13) rfl (Nat.le_of_ble_eq_true rfl) hz_2 rfl dX7_needPart_21 <| ?_
    obtain ⟨hz_3, hf⟩ := ck_some hf
    refine zicmp_lt (tgt := 36) hC.1 hC.2.1 ⟨hz_1, hz_3⟩ dX7_needPart_22 (by decide) (fun hc => ?_) (fun hc => ?_)
    · have hf := it_t hf hc
      exact (bl_inr hf).elim
    · have hf := it_f hf hc
      exact J25 _ hf (lv_sub hl [] rfl)
theorem DX7_part_0 : ∀ q ∈ ([(0, .aload_n 0, 1), (1, .iload_n 1, 1), (2, .iload_n 2, 1), (3, .invokevirtual 178, 3), (6, .iload_n 1, 1), (7, .iconst 3, 1), (8, .imul, 1), (9, .iload_n 2, 1), (10, .iadd, 1), (11, .istore 4, 2), (13, .iload_n 3, 1), (14, .tableswitch 115 0 5 #[38, 52, 66, 79, 90, 101], 38), (52, .aload_n 0, 1), (53, .getfield 23, 3), (56, .getfield 86, 3), (59, .getfield 182, 3), (62, .iload 4, 2), (64, .iaload, 1), (65, .ireturn, 1), (66, .aload_n 0, 1), (67, .getfield 23, 3), (70, .getfield 86, 3), (73, .getfield 185, 3), (76, .iload 4, 2), (78, .iaload, 1), (79, .ireturn, 1), (80, .aload_n 0, 1), (81, .getfield 23, 3), (84, .getfield 86, 3), (87, .iload 4, 2), (89, .invokevirtual 188, 3), (92, .ireturn, 1), (93, .aload_n 0, 1), (94, .getfield 23, 3), (97, .getfield 191, 3), (100, .iload 4, 2), (102, .iaload, 1), (103, .ireturn, 1), (104, .aload_n 0, 1), (105, .getfield 23, 3)] : List (Nat × Instr × Nat)), decode cX7_part q.1 = .ok q.2 := by decide +kernel
theorem dX7_part_0 : decode cX7_part 0 = .ok (.aload_n 0, 1) := DX7_part_0 (0, .aload_n 0, 1) (List.mem_of_getElem? (i := 0) rfl)
theorem dX7_part_1 : decode cX7_part 1 = .ok (.iload_n 1, 1) := DX7_part_0 (1, .iload_n 1, 1) (List.mem_of_getElem? (i := 1) rfl)
theorem dX7_part_2 : decode cX7_part 2 = .ok (.iload_n 2, 1) := DX7_part_0 (2, .iload_n 2, 1) (List.mem_of_getElem? (i := 2) rfl)
theorem dX7_part_3 : decode cX7_part 3 = .ok (.invokevirtual 178, 3) := DX7_part_0 (3, .invokevirtual 178, 3) (List.mem_of_getElem? (i := 3) rfl)
theorem dX7_part_6 : decode cX7_part 6 = .ok (.iload_n 1, 1) := DX7_part_0 (6, .iload_n 1, 1) (List.mem_of_getElem? (i := 4) rfl)
theorem dX7_part_7 : decode cX7_part 7 = .ok (.iconst 3, 1) := DX7_part_0 (7, .iconst 3, 1) (List.mem_of_getElem? (i := 5) rfl)
theorem dX7_part_8 : decode cX7_part 8 = .ok (.imul, 1) := DX7_part_0 (8, .imul, 1) (List.mem_of_getElem? (i := 6) rfl)
theorem dX7_part_9 : decode cX7_part 9 = .ok (.iload_n 2, 1) := DX7_part_0 (9, .iload_n 2, 1) (List.mem_of_getElem? (i := 7) rfl)
theorem dX7_part_10 : decode cX7_part 10 = .ok (.iadd, 1) := DX7_part_0 (10, .iadd, 1) (List.mem_of_getElem? (i := 8) rfl)
theorem dX7_part_11 : decode cX7_part 11 = .ok (.istore 4, 2) := DX7_part_0 (11, .istore 4, 2) (List.mem_of_getElem? (i := 9) rfl)
theorem dX7_part_13 : decode cX7_part 13 = .ok (.iload_n 3, 1) := DX7_part_0 (13, .iload_n 3, 1) (List.mem_of_getElem? (i := 10) rfl)
theorem dX7_part_14 : decode cX7_part 14 = .ok (.tableswitch 115 0 5 #[38, 52, 66, 79, 90, 101], 38) := DX7_part_0 (14, .tableswitch 115 0 5 #[38, 52, 66, 79, 90, 101], 38) (List.mem_of_getElem? (i := 11) rfl)
theorem dX7_part_52 : decode cX7_part 52 = .ok (.aload_n 0, 1) := DX7_part_0 (52, .aload_n 0, 1) (List.mem_of_getElem? (i := 12) rfl)
theorem dX7_part_53 : decode cX7_part 53 = .ok (.getfield 23, 3) := DX7_part_0 (53, .getfield 23, 3) (List.mem_of_getElem? (i := 13) rfl)
theorem dX7_part_56 : decode cX7_part 56 = .ok (.getfield 86, 3) := DX7_part_0 (56, .getfield 86, 3) (List.mem_of_getElem? (i := 14) rfl)
theorem dX7_part_59 : decode cX7_part 59 = .ok (.getfield 182, 3) := DX7_part_0 (59, .getfield 182, 3) (List.mem_of_getElem? (i := 15) rfl)
theorem dX7_part_62 : decode cX7_part 62 = .ok (.iload 4, 2) := DX7_part_0 (62, .iload 4, 2) (List.mem_of_getElem? (i := 16) rfl)
theorem dX7_part_64 : decode cX7_part 64 = .ok (.iaload, 1) := DX7_part_0 (64, .iaload, 1) (List.mem_of_getElem? (i := 17) rfl)
theorem dX7_part_65 : decode cX7_part 65 = .ok (.ireturn, 1) := DX7_part_0 (65, .ireturn, 1) (List.mem_of_getElem? (i := 18) rfl)
theorem dX7_part_66 : decode cX7_part 66 = .ok (.aload_n 0, 1) := DX7_part_0 (66, .aload_n 0, 1) (List.mem_of_getElem? (i := 19) rfl)
theorem dX7_part_67 : decode cX7_part 67 = .ok (.getfield 23, 3) := DX7_part_0 (67, .getfield 23, 3) (List.mem_of_getElem? (i := 20) rfl)
theorem dX7_part_70 : decode cX7_part 70 = .ok (.getfield 86, 3) := DX7_part_0 (70, .getfield 86, 3) (List.mem_of_getElem? (i := 21) rfl)
theorem dX7_part_73 : decode cX7_part 73 = .ok (.getfield 185, 3) := DX7_part_0 (73, .getfield 185, 3) (List.mem_of_getElem? (i := 22) rfl)
theorem dX7_part_76 : decode cX7_part 76 = .ok (.iload 4, 2) := DX7_part_0 (76, .iload 4, 2) (List.mem_of_getElem? (i := 23) rfl)
theorem dX7_part_78 : decode cX7_part 78 = .ok (.iaload, 1) := DX7_part_0 (78, .iaload, 1) (List.mem_of_getElem? (i := 24) rfl)
theorem dX7_part_79 : decode cX7_part 79 = .ok (.ireturn, 1) := DX7_part_0 (79, .ireturn, 1) (List.mem_of_getElem? (i := 25) rfl)
theorem dX7_part_80 : decode cX7_part 80 = .ok (.aload_n 0, 1) := DX7_part_0 (80, .aload_n 0, 1) (List.mem_of_getElem? (i := 26) rfl)
theorem dX7_part_81 : decode cX7_part 81 = .ok (.getfield 23, 3) := DX7_part_0 (81, .getfield 23, 3) (List.mem_of_getElem? (i := 27) rfl)
theorem dX7_part_84 : decode cX7_part 84 = .ok (.getfield 86, 3) := DX7_part_0 (84, .getfield 86, 3) (List.mem_of_getElem? (i := 28) rfl)
theorem dX7_part_87 : decode cX7_part 87 = .ok (.iload 4, 2) := DX7_part_0 (87, .iload 4, 2) (List.mem_of_getElem? (i := 29) rfl)
theorem dX7_part_89 : decode cX7_part 89 = .ok (.invokevirtual 188, 3) := DX7_part_0 (89, .invokevirtual 188, 3) (List.mem_of_getElem? (i := 30) rfl)
theorem dX7_part_92 : decode cX7_part 92 = .ok (.ireturn, 1) := DX7_part_0 (92, .ireturn, 1) (List.mem_of_getElem? (i := 31) rfl)
theorem dX7_part_93 : decode cX7_part 93 = .ok (.aload_n 0, 1) := DX7_part_0 (93, .aload_n 0, 1) (List.mem_of_getElem? (i := 32) rfl)
theorem dX7_part_94 : decode cX7_part 94 = .ok (.getfield 23, 3) := DX7_part_0 (94, .getfield 23, 3) (List.mem_of_getElem? (i := 33) rfl)
theorem dX7_part_97 : decode cX7_part 97 = .ok (.getfield 191, 3) := DX7_part_0 (97, .getfield 191, 3) (List.mem_of_getElem? (i := 34) rfl)
theorem dX7_part_100 : decode cX7_part 100 = .ok (.iload 4, 2) := DX7_part_0 (100, .iload 4, 2) (List.mem_of_getElem? (i := 35) rfl)
theorem dX7_part_102 : decode cX7_part 102 = .ok (.iaload, 1) := DX7_part_0 (102, .iaload, 1) (List.mem_of_getElem? (i := 36) rfl)
theorem dX7_part_103 : decode cX7_part 103 = .ok (.ireturn, 1) := DX7_part_0 (103, .ireturn, 1) (List.mem_of_getElem? (i := 37) rfl)
theorem dX7_part_104 : decode cX7_part 104 = .ok (.aload_n 0, 1) := DX7_part_0 (104, .aload_n 0, 1) (List.mem_of_getElem? (i := 38) rfl)
theorem dX7_part_105 : decode cX7_part 105 = .ok (.getfield 23, 3) := DX7_part_0 (105, .getfield 23, 3) (List.mem_of_getElem? (i := 39) rfl)
theorem DX7_part_1 : ∀ q ∈ ([(108, .getfield 194, 3), (111, .iload 4, 2), (113, .iaload, 1), (114, .ireturn, 1), (115, .aload_n 0, 1), (116, .getfield 23, 3), (119, .getfield 86, 3), (122, .getfield 197, 3), (125, .iload 4, 2), (127, .iaload, 1), (128, .ireturn, 1), (129, .new 128, 3), (132, .dup, 1), (133, .ldc 130, 2), (135, .invokespecial 132, 3), (138, .athrow, 1)] : List (Nat × Instr × Nat)), decode cX7_part q.1 = .ok q.2 := by decide +kernel
theorem dX7_part_108 : decode cX7_part 108 = .ok (.getfield 194, 3) := DX7_part_1 (108, .getfield 194, 3) (List.mem_of_getElem? (i := 0) rfl)
theorem dX7_part_111 : decode cX7_part 111 = .ok (.iload 4, 2) := DX7_part_1 (111, .iload 4, 2) (List.mem_of_getElem? (i := 1) rfl)
theorem dX7_part_113 : decode cX7_part 113 = .ok (.iaload, 1) := DX7_part_1 (113, .iaload, 1) (List.mem_of_getElem? (i := 2) rfl)
theorem dX7_part_114 : decode cX7_part 114 = .ok (.ireturn, 1) := DX7_part_1 (114, .ireturn, 1) (List.mem_of_getElem? (i := 3) rfl)
theorem dX7_part_115 : decode cX7_part 115 = .ok (.aload_n 0, 1) := DX7_part_1 (115, .aload_n 0, 1) (List.mem_of_getElem? (i := 4) rfl)
theorem dX7_part_116 : decode cX7_part 116 = .ok (.getfield 23, 3) := DX7_part_1 (116, .getfield 23, 3) (List.mem_of_getElem? (i := 5) rfl)
theorem dX7_part_119 : decode cX7_part 119 = .ok (.getfield 86, 3) := DX7_part_1 (119, .getfield 86, 3) (List.mem_of_getElem? (i := 6) rfl)
theorem dX7_part_122 : decode cX7_part 122 = .ok (.getfield 197, 3) := DX7_part_1 (122, .getfield 197, 3) (List.mem_of_getElem? (i := 7) rfl)
theorem dX7_part_125 : decode cX7_part 125 = .ok (.iload 4, 2) := DX7_part_1 (125, .iload 4, 2) (List.mem_of_getElem? (i := 8) rfl)
theorem dX7_part_127 : decode cX7_part 127 = .ok (.iaload, 1) := DX7_part_1 (127, .iaload, 1) (List.mem_of_getElem? (i := 9) rfl)
theorem dX7_part_128 : decode cX7_part 128 = .ok (.ireturn, 1) := DX7_part_1 (128, .ireturn, 1) (List.mem_of_getElem? (i := 10) rfl)
theorem dX7_part_129 : decode cX7_part 129 = .ok (.new 128, 3) := DX7_part_1 (129, .new 128, 3) (List.mem_of_getElem? (i := 11) rfl)
theorem dX7_part_132 : decode cX7_part 132 = .ok (.dup, 1) := DX7_part_1 (132, .dup, 1) (List.mem_of_getElem? (i := 12) rfl)
theorem dX7_part_133 : decode cX7_part 133 = .ok (.ldc 130, 2) := DX7_part_1 (133, .ldc 130, 2) (List.mem_of_getElem? (i := 13) rfl)
theorem dX7_part_135 : decode cX7_part 135 = .ok (.invokespecial 132, 3) := DX7_part_1 (135, .invokespecial 132, 3) (List.mem_of_getElem? (i := 14) rfl)
theorem dX7_part_138 : decode cX7_part 138 = .ok (.athrow, 1) := DX7_part_1 (138, .athrow, 1) (List.mem_of_getElem? (i := 15) rfl)
abbrev rmX7_part : Room := { frames := 2, cells := 0, slots := 0, locals := 43 }
set_option maxHeartbeats 1000000 in
set_option maxRecDepth 100000 in
theorem met_X7_part (l : Launch) (D : va_G) (kA : Nat → ClassId) (a : Nat → Nat) (pf : Nat → Option Nat) (V : Sz) (X : Sz) (x1 : Int) (x2 : Int) (x3 : Int) {r : Int} (hf : f_X7_part V X x1 x2 x3 = some (.inl r)) : MP l yX7_part cX7_part 5 (some .int) rmX7_part D kA [.ref (a 0), vI x1, vI x2, vI x3] (cs_X7 kA a V X pf) (some (vI r)) := by
  refine zPI (own := RX7) rfl rfl (Nat.le_of_ble_eq_true rfl) ?_
  intro p e s m args below meth c ls Q hC hK hP hl hret
  have hl : lv_has ls 5 [(0, .ref (a 0)), (1, vI x1), (2, vI x2), (3, vI x3)] := hl
  unfold f_X7_part at hf
  refine lv_aload_n hC.1 hC.2.1 dX7_part_0 rfl (lv_at hl 0 rfl) <| ziload_n hC.1 hC.2.1 dX7_part_1 rfl (lv_at hl 1 rfl) <| ziload_n hC.1 hC.2.1 dX7_part_2 rfl (lv_at hl 2 rfl) <| ?_
  obtain ⟨u, hu, hf⟩ := bx_inl hf
  refine zcVP (As := [vI x1, vI x2]) (rest := []) hC hK (met_X7_needPart l D kA a pf V X x1 x2 hu) zwX7_178 hP (q0 := 0) rfl rfl rfl rfl hl.1 rfl (Nat.le_of_ble_eq_true rfl) ⟨Nat.le_of_ble_eq_true rfl, Nat.le_of_ble_eq_true rfl⟩ ⟨rfl, rfl⟩ ⟨Nat.le_refl _, Nat.le_refl _⟩ dX7_part_3 <| ziload_n hC.1 hC.2.1 dX7_part_6 rfl (lv_at hl 1 rfl) <| ziconst hC.1 hC.2.1 dX7_part_7 <| zimul hC.1 hC.2.1 dX7_part_8 <| ziload_n hC.1 hC.2.1 dX7_part_9 rfl (lv_at hl 2 rfl) <| ziadd hC.1 hC.2.1 dX7_part_10 <| ?_
  refine ztopi (fun x_1 ex_1 => ?_)
  have hf := nm_at hf ex_1
  refine zistore (lv' := [(4, vI x_1), (0, .ref (a 0)), (1, vI x1), (2, vI x2), (3, vI x3)]) hC.1 hC.2.1 dX7_part_11 hl (by decide) rfl (fun ls hl => ?_)
  refine ziload_n hC.1 hC.2.1 dX7_part_13 rfl (lv_at hl 4 rfl) <| ?_
  obtain ⟨hz_2, hf⟩ := ck_some hf
  by_cases hc : x3 = 0
  · have hf := it_t hf hc
    refine ztsIn (k := 0) (tgt := 52) hC.1 hC.2.1 dX7_part_14 hc (by decide) rfl (by decide) ?_
    have hf := bl_inl hf
    refine lv_aload_n hC.1 hC.2.1 dX7_part_52 rfl (lv_at hl 1 rfl) <| gfX7_23 hC hK hP (q0 := 0) rfl rfl dX7_part_53 <| gfX7_86 hC hK hP (q0 := 2) rfl rfl dX7_part_56 <| gfX7_182 hC hK hP (q0 := 8) rfl rfl dX7_part_59 <| ziload hC.1 hC.2.1 dX7_part_62 (lv_at hl 0 rfl) <| ?_
    obtain ⟨hz_3, hf⟩ := ck_some hf
    exact jal hC hK hP (q0 := 15) rfl (Nat.le_of_ble_eq_true rfl) hz_3 rfl dX7_part_64 <| hret (Int32.ofInt (V 20 x_1.toNat)) _ _ (qI hf) dX7_part_65
  have hf := it_f hf hc
  have hc0 := hc
  by_cases hc : x3 = 1
  · have hf := it_t hf hc
    refine ztsIn (k := 1) (tgt := 66) hC.1 hC.2.1 dX7_part_14 hc (by decide) rfl (by decide) ?_
    have hf := bl_inl hf
    refine lv_aload_n hC.1 hC.2.1 dX7_part_66 rfl (lv_at hl 1 rfl) <| gfX7_23 hC hK hP (q0 := 0) rfl rfl dX7_part_67 <| gfX7_86 hC hK hP (q0 := 2) rfl rfl dX7_part_70 <| gfX7_185 hC hK hP (q0 := 8) rfl rfl dX7_part_73 <| ziload hC.1 hC.2.1 dX7_part_76 (lv_at hl 0 rfl) <| ?_
    obtain ⟨hz_4, hf⟩ := ck_some hf
    exact jal hC hK hP (q0 := 17) rfl (Nat.le_of_ble_eq_true rfl) hz_4 rfl dX7_part_78 <| hret (Int32.ofInt (V 22 x_1.toNat)) _ _ (qI hf) dX7_part_79
  have hf := it_f hf hc
  have hc1 := hc
  by_cases hc : x3 = 2
  · have hf := it_t hf hc
    refine ztsIn (k := 2) (tgt := 80) hC.1 hC.2.1 dX7_part_14 hc (by decide) rfl (by decide) ?_
    have hf := bl_inl hf
    refine lv_aload_n hC.1 hC.2.1 dX7_part_80 rfl (lv_at hl 1 rfl) <| gfX7_23 hC hK hP (q0 := 0) rfl rfl dX7_part_81 <| gfX7_86 hC hK hP (q0 := 2) rfl rfl dX7_part_84 <| ziload hC.1 hC.2.1 dX7_part_87 (lv_at hl 0 rfl) <| ?_
    obtain ⟨r_5, hu, hf⟩ := bd_some hf
    have hPc : va_P D vwCl (cs_X3 kA (sv 8 a) (sv 13 V)) _ := hP.sub [8, 9, 10, 11, 12, 13, 14, 15, 16, 17, 18, 19] rfl
    exact zcVP (As := [vI x_1]) (rest := []) hC hK (met_X3_leftOfPart l D kA (sv 8 a) (sv 13 V) x_1 hu) zwX7_188 hPc (q0 := 0) rfl rfl rfl rfl hl.1 rfl (Nat.le_of_ble_eq_true rfl) ⟨Nat.le_of_ble_eq_true rfl, Nat.le_of_ble_eq_true rfl⟩ ⟨rfl, rfl⟩ ⟨Nat.le_refl _, Nat.le_refl _⟩ dX7_part_89 <| hret (Int32.ofInt r_5) _ _ (qI hf) dX7_part_92
  have hf := it_f hf hc
  have hc2 := hc
  by_cases hc : x3 = 3
  · have hf := it_t hf hc
    refine ztsIn (k := 3) (tgt := 93) hC.1 hC.2.1 dX7_part_14 hc (by decide) rfl (by decide) ?_
    have hf := bl_inl hf
    refine lv_aload_n hC.1 hC.2.1 dX7_part_93 rfl (lv_at hl 1 rfl) <| gfX7_23 hC hK hP (q0 := 0) rfl rfl dX7_part_94 <| gfX7_191 hC hK hP (q0 := 2) rfl rfl dX7_part_97 <| ziload hC.1 hC.2.1 dX7_part_100 (lv_at hl 0 rfl) <| ?_
    obtain ⟨hz_6, hf⟩ := ck_some hf
    exact jal hC hK hP (q0 := 23) rfl (Nat.le_of_ble_eq_true rfl) hz_6 rfl dX7_part_102 <| hret (Int32.ofInt (V 28 x_1.toNat)) _ _ (qI hf) dX7_part_103
  have hf := it_f hf hc
  have hc3 := hc
  by_cases hc : x3 = 4
  · have hf := it_t hf hc
    refine ztsIn (k := 4) (tgt := 104) hC.1 hC.2.1 dX7_part_14 hc (by decide) rfl (by decide) ?_
    have hf := bl_inl hf
    refine lv_aload_n hC.1 hC.2.1 dX7_part_104 rfl (lv_at hl 1 rfl) <| gfX7_23 hC hK hP (q0 := 0) rfl rfl dX7_part_105 <| gfX7_194 hC hK hP (q0 := 2) rfl rfl dX7_part_108 <| ziload hC.1 hC.2.1 dX7_part_111 (lv_at hl 0 rfl) <| ?_
    obtain ⟨hz_7, hf⟩ := ck_some hf
    exact jal hC hK hP (q0 := 24) rfl (Nat.le_of_ble_eq_true rfl) hz_7 rfl dX7_part_113 <| hret (Int32.ofInt (V 29 x_1.toNat)) _ _ (qI hf) dX7_part_114
  have hf := it_f hf hc
  have hc4 := hc
  by_cases hc : x3 = 5
  · have hf := it_t hf hc
    refine ztsIn (k := 5) (tgt := 115) hC.1 hC.2.1 dX7_part_14 hc (by decide) rfl (by decide) ?_
    have hf := bl_inl hf
    refine lv_aload_n hC.1 hC.2.1 dX7_part_115 rfl (lv_at hl 1 rfl) <| gfX7_23 hC hK hP (q0 := 0) rfl rfl dX7_part_116 <| gfX7_86 hC hK hP (q0 := 2) rfl rfl dX7_part_119 <| gfX7_197 hC hK hP (q0 := 8) rfl rfl dX7_part_122 <| ziload hC.1 hC.2.1 dX7_part_125 (lv_at hl 0 rfl) <| ?_
    obtain ⟨hz_8, hf⟩ := ck_some hf
    exact jal hC hK hP (q0 := 19) rfl (Nat.le_of_ble_eq_true rfl) hz_8 rfl dX7_part_127 <| hret (Int32.ofInt (V 24 x_1.toNat)) _ _ (qI hf) dX7_part_128
  have hf := it_f hf hc
  have hc5 := hc
  refine ztsOut (tgt := 129) hC.1 hC.2.1 hz_2 dX7_part_14 (by decide) (by omega) ?_
  cases hf
abbrev rxX7_part : Room := { frames := 8, cells := 1, slots := 6, locals := 133 }
set_option maxHeartbeats 1000000 in
set_option maxRecDepth 100000 in
theorem thr_X7_part (l : Launch) (D : va_G) (kA : Nat → ClassId) (a : Nat → Nat) (pf : Nat → Option Nat) (V : Sz) (X : Sz) (x1 : Int) (x2 : Int) (x3 : Int) {er : Nat} (hf : f_X7_part V X x1 x2 x3 = some (.inr er)) : MX l yX7_part cX7_part 5 (some .int) rxX7_part D kA [.ref (a 0), vI x1, vI x2, vI x3] (cs_X7 kA a V X pf) (zEx er) := by
  refine zXstart (own := RX7) rfl rfl (Nat.le_of_ble_eq_true rfl) ?_
  intro p e s m args below meth c ls hC hK hP hX hl hx hlocks
  have hl : lv_has ls 5 [(0, .ref (a 0)), (1, vI x1), (2, vI x2), (3, vI x3)] := hl
  unfold f_X7_part at hf
  refine lv_aload_n hC.1 hC.2.1 dX7_part_0 rfl (lv_at hl 0 rfl) <| ziload_n hC.1 hC.2.1 dX7_part_1 rfl (lv_at hl 1 rfl) <| ziload_n hC.1 hC.2.1 dX7_part_2 rfl (lv_at hl 2 rfl) <| ?_
  rcases bx_inr hf with hu | ⟨u, hu, hf⟩
  · exact zcVX (As := [vI x1, vI x2]) (rest := []) hC hK hX hx hlocks (thr_X7_needPart l D kA a pf V X x1 x2 hu) zwX7_178 hP (q0 := 0) rfl rfl rfl rfl hl.1 rfl (Nat.le_of_ble_eq_true rfl) ⟨Nat.le_of_ble_eq_true rfl, Nat.le_of_ble_eq_true rfl⟩ ⟨rfl, rfl⟩ ⟨Nat.le_of_ble_eq_true rfl, Nat.le_of_ble_eq_true rfl⟩ dX7_part_3
  refine zcVP (As := [vI x1, vI x2]) (rest := []) hC hK (met_X7_needPart l D kA a pf V X x1 x2 hu) zwX7_178 hP (q0 := 0) rfl rfl rfl rfl hl.1 rfl (Nat.le_of_ble_eq_true rfl) ⟨Nat.le_of_ble_eq_true rfl, Nat.le_of_ble_eq_true rfl⟩ ⟨rfl, rfl⟩ ⟨Nat.le_of_ble_eq_true rfl, Nat.le_of_ble_eq_true rfl⟩ dX7_part_3 <| ziload_n hC.1 hC.2.1 dX7_part_6 rfl (lv_at hl 1 rfl) <| ziconst hC.1 hC.2.1 dX7_part_7 <| zimul hC.1 hC.2.1 dX7_part_8 <| ziload_n hC.1 hC.2.1 dX7_part_9 rfl (lv_at hl 2 rfl) <| ziadd hC.1 hC.2.1 dX7_part_10 <| ?_
  refine ztopi (fun x_1 ex_1 => ?_)
  have hf := nm_at hf ex_1
  refine zistore (lv' := [(4, vI x_1), (0, .ref (a 0)), (1, vI x1), (2, vI x2), (3, vI x3)]) hC.1 hC.2.1 dX7_part_11 hl (by decide) rfl (fun ls hl => ?_)
  refine ziload_n hC.1 hC.2.1 dX7_part_13 rfl (lv_at hl 4 rfl) <| ?_
  obtain ⟨hz_2, hf⟩ := ck_some hf
  by_cases hc : x3 = 0
  · have hf := it_t hf hc
    refine ztsIn (k := 0) (tgt := 52) hC.1 hC.2.1 dX7_part_14 hc (by decide) rfl (by decide) ?_
    exact (bl_inr hf).elim
  have hf := it_f hf hc
  have hc0 := hc
  by_cases hc : x3 = 1
  · have hf := it_t hf hc
    refine ztsIn (k := 1) (tgt := 66) hC.1 hC.2.1 dX7_part_14 hc (by decide) rfl (by decide) ?_
    exact (bl_inr hf).elim
  have hf := it_f hf hc
  have hc1 := hc
  by_cases hc : x3 = 2
  · have hf := it_t hf hc
    refine ztsIn (k := 2) (tgt := 80) hC.1 hC.2.1 dX7_part_14 hc (by decide) rfl (by decide) ?_
    exact (bl_inr hf).elim
  have hf := it_f hf hc
  have hc2 := hc
  by_cases hc : x3 = 3
  · have hf := it_t hf hc
    refine ztsIn (k := 3) (tgt := 93) hC.1 hC.2.1 dX7_part_14 hc (by decide) rfl (by decide) ?_
    exact (bl_inr hf).elim
  have hf := it_f hf hc
  have hc3 := hc
  by_cases hc : x3 = 4
  · have hf := it_t hf hc
    refine ztsIn (k := 4) (tgt := 104) hC.1 hC.2.1 dX7_part_14 hc (by decide) rfl (by decide) ?_
    exact (bl_inr hf).elim
  have hf := it_f hf hc
  have hc4 := hc
  by_cases hc : x3 = 5
  · have hf := it_t hf hc
    refine ztsIn (k := 5) (tgt := 115) hC.1 hC.2.1 dX7_part_14 hc (by decide) rfl (by decide) ?_
    exact (bl_inr hf).elim
  have hf := it_f hf hc
  have hc5 := hc
  refine ztsOut (tgt := 129) hC.1 hC.2.1 hz_2 dX7_part_14 (by decide) (by omega) ?_
  cases hf
  exact zth1 (is := 130) (tx := "what is out of range") hC hX hx hlocks (by decide +kernel) hl.1 dX7_part_129 dX7_part_132 dX7_part_133 dX7_part_135 dX7_part_138 (Nat.le_of_ble_eq_true rfl) (Nat.le_of_ble_eq_true rfl) (Nat.le_of_ble_eq_true rfl) (Nat.le_of_ble_eq_true rfl)
theorem DX7_reason_0 : ∀ q ∈ ([(0, .aload_n 0, 1), (1, .iload_n 1, 1), (2, .iload_n 2, 1), (3, .invokevirtual 178, 3), (6, .aload_n 0, 1), (7, .getfield 23, 3), (10, .iload_n 1, 1), (11, .iconst 3, 1), (12, .imul, 1), (13, .iload_n 2, 1), (14, .iadd, 1), (15, .invokevirtual 200, 3), (18, .ireturn, 1)] : List (Nat × Instr × Nat)), decode cX7_reason q.1 = .ok q.2 := by decide +kernel
theorem dX7_reason_0 : decode cX7_reason 0 = .ok (.aload_n 0, 1) := DX7_reason_0 (0, .aload_n 0, 1) (List.mem_of_getElem? (i := 0) rfl)
theorem dX7_reason_1 : decode cX7_reason 1 = .ok (.iload_n 1, 1) := DX7_reason_0 (1, .iload_n 1, 1) (List.mem_of_getElem? (i := 1) rfl)
theorem dX7_reason_2 : decode cX7_reason 2 = .ok (.iload_n 2, 1) := DX7_reason_0 (2, .iload_n 2, 1) (List.mem_of_getElem? (i := 2) rfl)
theorem dX7_reason_3 : decode cX7_reason 3 = .ok (.invokevirtual 178, 3) := DX7_reason_0 (3, .invokevirtual 178, 3) (List.mem_of_getElem? (i := 3) rfl)
theorem dX7_reason_6 : decode cX7_reason 6 = .ok (.aload_n 0, 1) := DX7_reason_0 (6, .aload_n 0, 1) (List.mem_of_getElem? (i := 4) rfl)
theorem dX7_reason_7 : decode cX7_reason 7 = .ok (.getfield 23, 3) := DX7_reason_0 (7, .getfield 23, 3) (List.mem_of_getElem? (i := 5) rfl)
theorem dX7_reason_10 : decode cX7_reason 10 = .ok (.iload_n 1, 1) := DX7_reason_0 (10, .iload_n 1, 1) (List.mem_of_getElem? (i := 6) rfl)
theorem dX7_reason_11 : decode cX7_reason 11 = .ok (.iconst 3, 1) := DX7_reason_0 (11, .iconst 3, 1) (List.mem_of_getElem? (i := 7) rfl)
theorem dX7_reason_12 : decode cX7_reason 12 = .ok (.imul, 1) := DX7_reason_0 (12, .imul, 1) (List.mem_of_getElem? (i := 8) rfl)
theorem dX7_reason_13 : decode cX7_reason 13 = .ok (.iload_n 2, 1) := DX7_reason_0 (13, .iload_n 2, 1) (List.mem_of_getElem? (i := 9) rfl)
theorem dX7_reason_14 : decode cX7_reason 14 = .ok (.iadd, 1) := DX7_reason_0 (14, .iadd, 1) (List.mem_of_getElem? (i := 10) rfl)
theorem dX7_reason_15 : decode cX7_reason 15 = .ok (.invokevirtual 200, 3) := DX7_reason_0 (15, .invokevirtual 200, 3) (List.mem_of_getElem? (i := 11) rfl)
theorem dX7_reason_18 : decode cX7_reason 18 = .ok (.ireturn, 1) := DX7_reason_0 (18, .ireturn, 1) (List.mem_of_getElem? (i := 12) rfl)
abbrev rmX7_reason : Room := { frames := 3, cells := 0, slots := 0, locals := 68 }
set_option maxHeartbeats 1000000 in
set_option maxRecDepth 100000 in
theorem met_X7_reason (l : Launch) (D : va_G) (kA : Nat → ClassId) (a : Nat → Nat) (pf : Nat → Option Nat) (n : Nat) (V : Sz) (X : Sz) (x1 : Int) (x2 : Int) {r : Int} (hf : f_X7_reason n V X x1 x2 = some (.inl r)) : MP l yX7_reason cX7_reason 3 (some .int) rmX7_reason D kA [.ref (a 0), vI x1, vI x2] (cs_X7 kA a V X pf) (some (vI r)) := by
  refine zPI (own := RX7) rfl rfl (Nat.le_of_ble_eq_true rfl) ?_
  intro p e s m args below meth c ls Q hC hK hP hl hret
  have hl : lv_has ls 3 [(0, .ref (a 0)), (1, vI x1), (2, vI x2)] := hl
  unfold f_X7_reason at hf
  refine lv_aload_n hC.1 hC.2.1 dX7_reason_0 rfl (lv_at hl 0 rfl) <| ziload_n hC.1 hC.2.1 dX7_reason_1 rfl (lv_at hl 1 rfl) <| ziload_n hC.1 hC.2.1 dX7_reason_2 rfl (lv_at hl 2 rfl) <| ?_
  obtain ⟨u, hu, hf⟩ := bx_inl hf
  have hf := bl_inl hf
  refine zcVP (As := [vI x1, vI x2]) (rest := []) hC hK (met_X7_needPart l D kA a pf V X x1 x2 hu) zwX7_178 hP (q0 := 0) rfl rfl rfl rfl hl.1 rfl (Nat.le_of_ble_eq_true rfl) ⟨Nat.le_of_ble_eq_true rfl, Nat.le_of_ble_eq_true rfl⟩ ⟨rfl, rfl⟩ ⟨Nat.le_refl _, Nat.le_refl _⟩ dX7_reason_3 <| lv_aload_n hC.1 hC.2.1 dX7_reason_6 rfl (lv_at hl 0 rfl) <| gfX7_23 hC hK hP (q0 := 0) rfl rfl dX7_reason_7 <| ziload_n hC.1 hC.2.1 dX7_reason_10 rfl (lv_at hl 1 rfl) <| ziconst hC.1 hC.2.1 dX7_reason_11 <| zimul hC.1 hC.2.1 dX7_reason_12 <| ziload_n hC.1 hC.2.1 dX7_reason_13 rfl (lv_at hl 2 rfl) <| ziadd hC.1 hC.2.1 dX7_reason_14 <| ?_
  obtain ⟨r_1, hu, hf⟩ := bd_some hf
  have hPc : va_P D vwCl (cs_X4 kA (sv 2 a) (sv 4 V)) _ := hP.sub [2, 3, 4, 5, 6, 7, 8, 9, 10, 11, 12, 13, 14, 15, 16, 17, 18, 19, 20, 21, 22, 23, 24, 25] rfl
  exact zcVP (As := [vI ((x1 * 3) + x2)]) (rest := []) hC hK (met_X4_reasonOf l D kA (sv 2 a) n (sv 4 V) ((x1 * 3) + x2) hu) zwX7_200 hPc (q0 := 0) rfl rfl rfl rfl hl.1 rfl (Nat.le_of_ble_eq_true rfl) ⟨Nat.le_of_ble_eq_true rfl, Nat.le_of_ble_eq_true rfl⟩ ⟨rfl, rfl⟩ ⟨Nat.le_refl _, Nat.le_refl _⟩ dX7_reason_15 <| hret (Int32.ofInt r_1) _ _ (qI hf) dX7_reason_18
abbrev rxX7_reason : Room := { frames := 8, cells := 1, slots := 6, locals := 133 }
set_option maxHeartbeats 1000000 in
set_option maxRecDepth 100000 in
theorem thr_X7_reason (l : Launch) (D : va_G) (kA : Nat → ClassId) (a : Nat → Nat) (pf : Nat → Option Nat) (n : Nat) (V : Sz) (X : Sz) (x1 : Int) (x2 : Int) {er : Nat} (hf : f_X7_reason n V X x1 x2 = some (.inr er)) : MX l yX7_reason cX7_reason 3 (some .int) rxX7_reason D kA [.ref (a 0), vI x1, vI x2] (cs_X7 kA a V X pf) (zEx er) := by
  refine zXstart (own := RX7) rfl rfl (Nat.le_of_ble_eq_true rfl) ?_
  intro p e s m args below meth c ls hC hK hP hX hl hx hlocks
  have hl : lv_has ls 3 [(0, .ref (a 0)), (1, vI x1), (2, vI x2)] := hl
  unfold f_X7_reason at hf
  refine lv_aload_n hC.1 hC.2.1 dX7_reason_0 rfl (lv_at hl 0 rfl) <| ziload_n hC.1 hC.2.1 dX7_reason_1 rfl (lv_at hl 1 rfl) <| ziload_n hC.1 hC.2.1 dX7_reason_2 rfl (lv_at hl 2 rfl) <| ?_
  rcases bx_inr hf with hu | ⟨u, hu, hf⟩
  · exact zcVX (As := [vI x1, vI x2]) (rest := []) hC hK hX hx hlocks (thr_X7_needPart l D kA a pf V X x1 x2 hu) zwX7_178 hP (q0 := 0) rfl rfl rfl rfl hl.1 rfl (Nat.le_of_ble_eq_true rfl) ⟨Nat.le_of_ble_eq_true rfl, Nat.le_of_ble_eq_true rfl⟩ ⟨rfl, rfl⟩ ⟨Nat.le_of_ble_eq_true rfl, Nat.le_of_ble_eq_true rfl⟩ dX7_reason_3
  exact (bl_inr hf).elim
theorem DX7_needDonor_0 : ∀ q ∈ ([(0, .iload_n 1, 1), (1, .ifCond .lt 14, 3), (4, .iload_n 1, 1), (5, .aload_n 0, 1), (6, .getfield 23, 3), (9, .getfield 95, 3), (12, .if_icmp .lt 14, 3), (15, .new 288, 3), (18, .dup, 1), (19, .ldc_w 380, 3), (22, .invokespecial 292, 3), (25, .athrow, 1), (26, .return_, 1)] : List (Nat × Instr × Nat)), decode cX7_needDonor q.1 = .ok q.2 := by decide +kernel
theorem dX7_needDonor_0 : decode cX7_needDonor 0 = .ok (.iload_n 1, 1) := DX7_needDonor_0 (0, .iload_n 1, 1) (List.mem_of_getElem? (i := 0) rfl)
theorem dX7_needDonor_1 : decode cX7_needDonor 1 = .ok (.ifCond .lt 14, 3) := DX7_needDonor_0 (1, .ifCond .lt 14, 3) (List.mem_of_getElem? (i := 1) rfl)
theorem dX7_needDonor_4 : decode cX7_needDonor 4 = .ok (.iload_n 1, 1) := DX7_needDonor_0 (4, .iload_n 1, 1) (List.mem_of_getElem? (i := 2) rfl)
theorem dX7_needDonor_5 : decode cX7_needDonor 5 = .ok (.aload_n 0, 1) := DX7_needDonor_0 (5, .aload_n 0, 1) (List.mem_of_getElem? (i := 3) rfl)
theorem dX7_needDonor_6 : decode cX7_needDonor 6 = .ok (.getfield 23, 3) := DX7_needDonor_0 (6, .getfield 23, 3) (List.mem_of_getElem? (i := 4) rfl)
theorem dX7_needDonor_9 : decode cX7_needDonor 9 = .ok (.getfield 95, 3) := DX7_needDonor_0 (9, .getfield 95, 3) (List.mem_of_getElem? (i := 5) rfl)
theorem dX7_needDonor_12 : decode cX7_needDonor 12 = .ok (.if_icmp .lt 14, 3) := DX7_needDonor_0 (12, .if_icmp .lt 14, 3) (List.mem_of_getElem? (i := 6) rfl)
theorem dX7_needDonor_15 : decode cX7_needDonor 15 = .ok (.new 288, 3) := DX7_needDonor_0 (15, .new 288, 3) (List.mem_of_getElem? (i := 7) rfl)
theorem dX7_needDonor_18 : decode cX7_needDonor 18 = .ok (.dup, 1) := DX7_needDonor_0 (18, .dup, 1) (List.mem_of_getElem? (i := 8) rfl)
theorem dX7_needDonor_19 : decode cX7_needDonor 19 = .ok (.ldc_w 380, 3) := DX7_needDonor_0 (19, .ldc_w 380, 3) (List.mem_of_getElem? (i := 9) rfl)
theorem dX7_needDonor_22 : decode cX7_needDonor 22 = .ok (.invokespecial 292, 3) := DX7_needDonor_0 (22, .invokespecial 292, 3) (List.mem_of_getElem? (i := 10) rfl)
theorem dX7_needDonor_25 : decode cX7_needDonor 25 = .ok (.athrow, 1) := DX7_needDonor_0 (25, .athrow, 1) (List.mem_of_getElem? (i := 11) rfl)
theorem dX7_needDonor_26 : decode cX7_needDonor 26 = .ok (.return_, 1) := DX7_needDonor_0 (26, .return_, 1) (List.mem_of_getElem? (i := 12) rfl)
abbrev rmX7_needDonor : Room := { frames := 0, cells := 0, slots := 0, locals := 0 }
set_option maxHeartbeats 1000000 in
set_option maxRecDepth 100000 in
theorem met_X7_needDonor (l : Launch) (D : va_G) (kA : Nat → ClassId) (a : Nat → Nat) (pf : Nat → Option Nat) (V : Sz) (X : Sz) (x1 : Int) (hf : f_X7_needDonor V X x1 = some (.inl ())) : MP l yX7_needDonor cX7_needDonor 2 none rmX7_needDonor D kA [.ref (a 0), vI x1] (cs_X7 kA a V X pf) (none) := by
  refine zPV (own := RX7) rfl rfl (Nat.le_of_ble_eq_true rfl) ?_
  intro p e s m args below meth c ls Q hC hK hP hl hret
  have hl : lv_has ls 2 [(0, .ref (a 0)), (1, vI x1)] := hl
  unfold f_X7_needDonor at hf
  have J15 : ∀ (ls : Array Slot), jX7_needDonor_15 V X x1 = some (.inl ()) → lv_has ls 2 [] → W p l e rmX7_needDonor s m args below meth c s.heap [] 0 0 Q (F0 m 15 ls []) := by
    intro  ls hf hl
    unfold jX7_needDonor_15 at hf
    cases hf
  refine ziload_n hC.1 hC.2.1 dX7_needDonor_0 rfl (lv_at hl 1 rfl) <| ?_
  obtain ⟨hz_1, hf⟩ := ck_some hf
  refine zif_lt (tgt := 15) hC.1 hC.2.1 hz_1 dX7_needDonor_1 (by decide) (fun hc => ?_) (fun hc => ?_)
  · have hf := it_t hf hc
    exact J15 _ hf (lv_sub hl [] rfl)
  · have hf := it_f hf hc
    refine ziload_n hC.1 hC.2.1 dX7_needDonor_4 rfl (lv_at hl 1 rfl) <| lv_aload_n hC.1 hC.2.1 dX7_needDonor_5 rfl (lv_at hl 0 rfl) <| gfX7_23 hC hK hP (q0 := 0) rfl rfl dX7_needDonor_6 <| gfX7_95 hC hK hP (q0 := 2) rfl rfl dX7_needDonor_9 <| ?_
    obtain ⟨hz_2, hf⟩ := ck_some hf
    refine zicmp_lt (tgt := 26) hC.1 hC.2.1 ⟨hz_1, hz_2⟩ dX7_needDonor_12 (by decide) (fun hc => ?_) (fun hc => ?_)
    · have hf := it_t hf hc
      have hf := bl_inl hf
      exact hret _ _ rfl dX7_needDonor_26
    · have hf := it_f hf hc
      exact J15 _ hf (lv_sub hl [] rfl)
abbrev rxX7_needDonor : Room := { frames := 6, cells := 1, slots := 6, locals := 90 }
set_option maxHeartbeats 1000000 in
set_option maxRecDepth 100000 in
theorem thr_X7_needDonor (l : Launch) (D : va_G) (kA : Nat → ClassId) (a : Nat → Nat) (pf : Nat → Option Nat) (V : Sz) (X : Sz) (x1 : Int) {er : Nat} (hf : f_X7_needDonor V X x1 = some (.inr er)) : MX l yX7_needDonor cX7_needDonor 2 none rxX7_needDonor D kA [.ref (a 0), vI x1] (cs_X7 kA a V X pf) (zEx er) := by
  refine zXstart (own := RX7) rfl rfl (Nat.le_of_ble_eq_true rfl) ?_
  intro p e s m args below meth c ls hC hK hP hX hl hx hlocks
  have hl : lv_has ls 2 [(0, .ref (a 0)), (1, vI x1)] := hl
  unfold f_X7_needDonor at hf
  have J15 : ∀ (ls : Array Slot), jX7_needDonor_15 V X x1 = some (.inr er) → lv_has ls 2 [] → W p l e rxX7_needDonor s m args below meth c s.heap [] 0 0 (QX below (zEx er) args s) (F0 m 15 ls []) := by
    intro  ls hf hl
    unfold jX7_needDonor_15 at hf
    cases hf
    exact zth0W (is := 380) (tx := "there is no such donor") hC hX hx hlocks (by decide +kernel) hl.1 dX7_needDonor_15 dX7_needDonor_18 dX7_needDonor_19 dX7_needDonor_22 dX7_needDonor_25 (Nat.le_of_ble_eq_true rfl) (Nat.le_of_ble_eq_true rfl) (Nat.le_of_ble_eq_true rfl) (Nat.le_of_ble_eq_true rfl)
  refine ziload_n hC.1 hC.2.1 dX7_needDonor_0 rfl (lv_at hl 1 rfl) <| ?_
  obtain ⟨hz_1, hf⟩ := ck_some hf
  refine zif_lt (tgt := 15) hC.1 hC.2.1 hz_1 dX7_needDonor_1 (by decide) (fun hc => ?_) (fun hc => ?_)
  · have hf := it_t hf hc
    exact J15 _ hf (lv_sub hl [] rfl)
  · have hf := it_f hf hc
    refine ziload_n hC.1 hC.2.1 dX7_needDonor_4 rfl (lv_at hl 1 rfl) <| lv_aload_n hC.1 hC.2.1 dX7_needDonor_5 rfl (lv_at hl 0 rfl) <| gfX7_23 hC hK hP (q0 := 0) rfl rfl dX7_needDonor_6 <| gfX7_95 hC hK hP (q0 := 2) rfl rfl dX7_needDonor_9 <| ?_
    obtain ⟨hz_2, hf⟩ := ck_some hf
    refine zicmp_lt (tgt := 26) hC.1 hC.2.1 ⟨hz_1, hz_2⟩ dX7_needDonor_12 (by decide) (fun hc => ?_) (fun hc => ?_)
    · have hf := it_t hf hc
      exact (bl_inr hf).elim
    · have hf := it_f hf hc
      exact J15 _ hf (lv_sub hl [] rfl)
theorem DX7_needRange_0 : ∀ q ∈ ([(0, .iload_n 0, 1), (1, .iload_n 1, 1), (2, .if_icmp .lt 8, 3), (5, .iload_n 0, 1), (6, .iload_n 2, 1), (7, .if_icmp .le 14, 3), (10, .new 128, 3), (13, .dup, 1), (14, .ldc_w 388, 3), (17, .invokespecial 132, 3), (20, .athrow, 1), (21, .return_, 1)] : List (Nat × Instr × Nat)), decode cX7_needRange q.1 = .ok q.2 := by decide +kernel
theorem dX7_needRange_0 : decode cX7_needRange 0 = .ok (.iload_n 0, 1) := DX7_needRange_0 (0, .iload_n 0, 1) (List.mem_of_getElem? (i := 0) rfl)
theorem dX7_needRange_1 : decode cX7_needRange 1 = .ok (.iload_n 1, 1) := DX7_needRange_0 (1, .iload_n 1, 1) (List.mem_of_getElem? (i := 1) rfl)
theorem dX7_needRange_2 : decode cX7_needRange 2 = .ok (.if_icmp .lt 8, 3) := DX7_needRange_0 (2, .if_icmp .lt 8, 3) (List.mem_of_getElem? (i := 2) rfl)
theorem dX7_needRange_5 : decode cX7_needRange 5 = .ok (.iload_n 0, 1) := DX7_needRange_0 (5, .iload_n 0, 1) (List.mem_of_getElem? (i := 3) rfl)
theorem dX7_needRange_6 : decode cX7_needRange 6 = .ok (.iload_n 2, 1) := DX7_needRange_0 (6, .iload_n 2, 1) (List.mem_of_getElem? (i := 4) rfl)
theorem dX7_needRange_7 : decode cX7_needRange 7 = .ok (.if_icmp .le 14, 3) := DX7_needRange_0 (7, .if_icmp .le 14, 3) (List.mem_of_getElem? (i := 5) rfl)
theorem dX7_needRange_10 : decode cX7_needRange 10 = .ok (.new 128, 3) := DX7_needRange_0 (10, .new 128, 3) (List.mem_of_getElem? (i := 6) rfl)
theorem dX7_needRange_13 : decode cX7_needRange 13 = .ok (.dup, 1) := DX7_needRange_0 (13, .dup, 1) (List.mem_of_getElem? (i := 7) rfl)
theorem dX7_needRange_14 : decode cX7_needRange 14 = .ok (.ldc_w 388, 3) := DX7_needRange_0 (14, .ldc_w 388, 3) (List.mem_of_getElem? (i := 8) rfl)
theorem dX7_needRange_17 : decode cX7_needRange 17 = .ok (.invokespecial 132, 3) := DX7_needRange_0 (17, .invokespecial 132, 3) (List.mem_of_getElem? (i := 9) rfl)
theorem dX7_needRange_20 : decode cX7_needRange 20 = .ok (.athrow, 1) := DX7_needRange_0 (20, .athrow, 1) (List.mem_of_getElem? (i := 10) rfl)
theorem dX7_needRange_21 : decode cX7_needRange 21 = .ok (.return_, 1) := DX7_needRange_0 (21, .return_, 1) (List.mem_of_getElem? (i := 11) rfl)
abbrev rmX7_needRange : Room := { frames := 0, cells := 0, slots := 0, locals := 0 }
set_option maxHeartbeats 1000000 in
set_option maxRecDepth 100000 in
theorem met_X7_needRange (l : Launch) (D : va_G) (kA : Nat → ClassId)  (x0 : Int) (x1 : Int) (x2 : Int) (hf : f_X7_needRange x0 x1 x2 = some (.inl ())) : MP l yX7_needRange cX7_needRange 3 none rmX7_needRange D kA [vI x0, vI x1, vI x2] ([] : va_W) (none) := by
  refine zPV (own := RX7) rfl rfl (Nat.le_of_ble_eq_true rfl) ?_
  intro p e s m args below meth c ls Q hC hK hP hl hret
  have hl : lv_has ls 3 [(0, vI x0), (1, vI x1), (2, vI x2)] := hl
  unfold f_X7_needRange at hf
  have J10 : ∀ (ls : Array Slot), jX7_needRange_10 x0 x1 x2 = some (.inl ()) → lv_has ls 3 [] → W p l e rmX7_needRange s m args below meth c s.heap [] 0 0 Q (F0 m 10 ls []) := by
    intro  ls hf hl
    unfold jX7_needRange_10 at hf
    cases hf
  refine ziload_n hC.1 hC.2.1 dX7_needRange_0 rfl (lv_at hl 0 rfl) <| ziload_n hC.1 hC.2.1 dX7_needRange_1 rfl (lv_at hl 1 rfl) <| ?_
  obtain ⟨hz_1, hf⟩ := ck_some hf
  refine zicmp_lt (tgt := 10) hC.1 hC.2.1 ⟨hz_1.1, hz_1.2⟩ dX7_needRange_2 (by decide) (fun hc => ?_) (fun hc => ?_)
  · have hf := it_t hf hc
    exact J10 _ hf (lv_sub hl [] rfl)
  · have hf := it_f hf hc
    refine ziload_n hC.1 hC.2.1 dX7_needRange_5 rfl (lv_at hl 0 rfl) <| ziload_n hC.1 hC.2.1 dX7_needRange_6 rfl (lv_at hl 2 rfl) <| ?_
    obtain ⟨hz_2, hf⟩ := ck_some hf
    refine zicmp_le (tgt := 21) hC.1 hC.2.1 ⟨hz_1.1, hz_2⟩ dX7_needRange_7 (by decide) (fun hc => ?_) (fun hc => ?_)
    · have hf := it_t hf hc
      have hf := bl_inl hf
      exact hret _ _ rfl dX7_needRange_21
    · have hf := it_f hf hc
      exact J10 _ hf (lv_sub hl [] rfl)
abbrev rxX7_needRange : Room := { frames := 6, cells := 1, slots := 6, locals := 90 }
set_option maxHeartbeats 1000000 in
set_option maxRecDepth 100000 in
theorem thr_X7_needRange (l : Launch) (D : va_G) (kA : Nat → ClassId)  (x0 : Int) (x1 : Int) (x2 : Int) {er : Nat} (hf : f_X7_needRange x0 x1 x2 = some (.inr er)) : MX l yX7_needRange cX7_needRange 3 none rxX7_needRange D kA [vI x0, vI x1, vI x2] ([] : va_W) (zEx er) := by
  refine zXstart (own := RX7) rfl rfl (Nat.le_of_ble_eq_true rfl) ?_
  intro p e s m args below meth c ls hC hK hP hX hl hx hlocks
  have hl : lv_has ls 3 [(0, vI x0), (1, vI x1), (2, vI x2)] := hl
  unfold f_X7_needRange at hf
  have J10 : ∀ (ls : Array Slot), jX7_needRange_10 x0 x1 x2 = some (.inr er) → lv_has ls 3 [] → W p l e rxX7_needRange s m args below meth c s.heap [] 0 0 (QX below (zEx er) args s) (F0 m 10 ls []) := by
    intro  ls hf hl
    unfold jX7_needRange_10 at hf
    cases hf
    exact zth1W (is := 388) (tx := "a value is out of range") hC hX hx hlocks (by decide +kernel) hl.1 dX7_needRange_10 dX7_needRange_13 dX7_needRange_14 dX7_needRange_17 dX7_needRange_20 (Nat.le_of_ble_eq_true rfl) (Nat.le_of_ble_eq_true rfl) (Nat.le_of_ble_eq_true rfl) (Nat.le_of_ble_eq_true rfl)
  refine ziload_n hC.1 hC.2.1 dX7_needRange_0 rfl (lv_at hl 0 rfl) <| ziload_n hC.1 hC.2.1 dX7_needRange_1 rfl (lv_at hl 1 rfl) <| ?_
  obtain ⟨hz_1, hf⟩ := ck_some hf
  refine zicmp_lt (tgt := 10) hC.1 hC.2.1 ⟨hz_1.1, hz_1.2⟩ dX7_needRange_2 (by decide) (fun hc => ?_) (fun hc => ?_)
  · have hf := it_t hf hc
    exact J10 _ hf (lv_sub hl [] rfl)
  · have hf := it_f hf hc
    refine ziload_n hC.1 hC.2.1 dX7_needRange_5 rfl (lv_at hl 0 rfl) <| ziload_n hC.1 hC.2.1 dX7_needRange_6 rfl (lv_at hl 2 rfl) <| ?_
    obtain ⟨hz_2, hf⟩ := ck_some hf
    refine zicmp_le (tgt := 21) hC.1 hC.2.1 ⟨hz_1.1, hz_2⟩ dX7_needRange_7 (by decide) (fun hc => ?_) (fun hc => ?_)
    · have hf := it_t hf hc
      exact (bl_inr hf).elim
    · have hf := it_f hf hc
      exact J10 _ hf (lv_sub hl [] rfl)
theorem DX7_donor_0 : ∀ q ∈ ([(0, .aload_n 0, 1), (1, .iload_n 1, 1), (2, .invokevirtual 203, 3), (5, .iload_n 2, 1), (6, .iconst 0, 1), (7, .iconst 4, 1), (8, .invokestatic 206, 3), (11, .iload_n 3, 1), (12, .iconst (-1), 1), (13, .bipush 27, 2), (15, .invokestatic 206, 3), (18, .aload_n 0, 1), (19, .getfield 23, 3), (22, .iload_n 1, 1), (23, .iload_n 2, 1), (24, .iload_n 3, 1), (25, .invokevirtual 210, 3), (28, .ireturn, 1)] : List (Nat × Instr × Nat)), decode cX7_donor q.1 = .ok q.2 := by decide +kernel
theorem dX7_donor_0 : decode cX7_donor 0 = .ok (.aload_n 0, 1) := DX7_donor_0 (0, .aload_n 0, 1) (List.mem_of_getElem? (i := 0) rfl)
theorem dX7_donor_1 : decode cX7_donor 1 = .ok (.iload_n 1, 1) := DX7_donor_0 (1, .iload_n 1, 1) (List.mem_of_getElem? (i := 1) rfl)
theorem dX7_donor_2 : decode cX7_donor 2 = .ok (.invokevirtual 203, 3) := DX7_donor_0 (2, .invokevirtual 203, 3) (List.mem_of_getElem? (i := 2) rfl)
theorem dX7_donor_5 : decode cX7_donor 5 = .ok (.iload_n 2, 1) := DX7_donor_0 (5, .iload_n 2, 1) (List.mem_of_getElem? (i := 3) rfl)
theorem dX7_donor_6 : decode cX7_donor 6 = .ok (.iconst 0, 1) := DX7_donor_0 (6, .iconst 0, 1) (List.mem_of_getElem? (i := 4) rfl)
theorem dX7_donor_7 : decode cX7_donor 7 = .ok (.iconst 4, 1) := DX7_donor_0 (7, .iconst 4, 1) (List.mem_of_getElem? (i := 5) rfl)
theorem dX7_donor_8 : decode cX7_donor 8 = .ok (.invokestatic 206, 3) := DX7_donor_0 (8, .invokestatic 206, 3) (List.mem_of_getElem? (i := 6) rfl)
theorem dX7_donor_11 : decode cX7_donor 11 = .ok (.iload_n 3, 1) := DX7_donor_0 (11, .iload_n 3, 1) (List.mem_of_getElem? (i := 7) rfl)
theorem dX7_donor_12 : decode cX7_donor 12 = .ok (.iconst (-1), 1) := DX7_donor_0 (12, .iconst (-1), 1) (List.mem_of_getElem? (i := 8) rfl)
theorem dX7_donor_13 : decode cX7_donor 13 = .ok (.bipush 27, 2) := DX7_donor_0 (13, .bipush 27, 2) (List.mem_of_getElem? (i := 9) rfl)
theorem dX7_donor_15 : decode cX7_donor 15 = .ok (.invokestatic 206, 3) := DX7_donor_0 (15, .invokestatic 206, 3) (List.mem_of_getElem? (i := 10) rfl)
theorem dX7_donor_18 : decode cX7_donor 18 = .ok (.aload_n 0, 1) := DX7_donor_0 (18, .aload_n 0, 1) (List.mem_of_getElem? (i := 11) rfl)
theorem dX7_donor_19 : decode cX7_donor 19 = .ok (.getfield 23, 3) := DX7_donor_0 (19, .getfield 23, 3) (List.mem_of_getElem? (i := 12) rfl)
theorem dX7_donor_22 : decode cX7_donor 22 = .ok (.iload_n 1, 1) := DX7_donor_0 (22, .iload_n 1, 1) (List.mem_of_getElem? (i := 13) rfl)
theorem dX7_donor_23 : decode cX7_donor 23 = .ok (.iload_n 2, 1) := DX7_donor_0 (23, .iload_n 2, 1) (List.mem_of_getElem? (i := 14) rfl)
theorem dX7_donor_24 : decode cX7_donor 24 = .ok (.iload_n 3, 1) := DX7_donor_0 (24, .iload_n 3, 1) (List.mem_of_getElem? (i := 15) rfl)
theorem dX7_donor_25 : decode cX7_donor 25 = .ok (.invokevirtual 210, 3) := DX7_donor_0 (25, .invokevirtual 210, 3) (List.mem_of_getElem? (i := 16) rfl)
theorem dX7_donor_28 : decode cX7_donor 28 = .ok (.ireturn, 1) := DX7_donor_0 (28, .ireturn, 1) (List.mem_of_getElem? (i := 17) rfl)
abbrev rmX7_donor : Room := { frames := 3, cells := 0, slots := 0, locals := 69 }
set_option maxHeartbeats 1000000 in
set_option maxRecDepth 100000 in
theorem met_X7_donor (l : Launch) (D : va_G) (kA : Nat → ClassId) (a : Nat → Nat) (pf : Nat → Option Nat) (n : Nat) (V : Sz) (X : Sz) (x1 : Int) (x2 : Int) (x3 : Int) {r : Int} (hf : f_X7_donor n V X x1 x2 x3 = some (.inl r)) : MP l yX7_donor cX7_donor 4 (some .int) rmX7_donor D kA [.ref (a 0), vI x1, vI x2, vI x3] (cs_X7 kA a V X pf) (some (vI r)) := by
  refine zPI (own := RX7) rfl rfl (Nat.le_of_ble_eq_true rfl) ?_
  intro p e s m args below meth c ls Q hC hK hP hl hret
  have hl : lv_has ls 4 [(0, .ref (a 0)), (1, vI x1), (2, vI x2), (3, vI x3)] := hl
  unfold f_X7_donor at hf
  refine lv_aload_n hC.1 hC.2.1 dX7_donor_0 rfl (lv_at hl 0 rfl) <| ziload_n hC.1 hC.2.1 dX7_donor_1 rfl (lv_at hl 1 rfl) <| ?_
  obtain ⟨u, hu, hf⟩ := bx_inl hf
  refine zcVP (As := [vI x1]) (rest := []) hC hK (met_X7_needDonor l D kA a pf V X x1 hu) zwX7_203 hP (q0 := 0) rfl rfl rfl rfl hl.1 rfl (Nat.le_of_ble_eq_true rfl) ⟨Nat.le_of_ble_eq_true rfl, Nat.le_of_ble_eq_true rfl⟩ ⟨rfl, rfl⟩ ⟨Nat.le_refl _, Nat.le_refl _⟩ dX7_donor_2 <| ziload_n hC.1 hC.2.1 dX7_donor_5 rfl (lv_at hl 2 rfl) <| ziconst hC.1 hC.2.1 dX7_donor_6 <| ziconst hC.1 hC.2.1 dX7_donor_7 <| ?_
  obtain ⟨u, hu, hf⟩ := bx_inl hf
  have hPc : va_P D vwCl ([] : va_W) _ := hP.sub [] rfl
  refine zcSP (As := [vI x2, vI 0, vI 4]) (rest := []) hC hK (met_X7_needRange l D kA x2 0 4 hu) zwX7_206 hPc rfl hl.1 rfl (Nat.le_of_ble_eq_true rfl) ⟨Nat.le_of_ble_eq_true rfl, Nat.le_of_ble_eq_true rfl⟩ ⟨rfl, rfl⟩ ⟨Nat.le_refl _, Nat.le_refl _⟩ dX7_donor_8 <| ziload_n hC.1 hC.2.1 dX7_donor_11 rfl (lv_at hl 3 rfl) <| ziconst hC.1 hC.2.1 dX7_donor_12 <| zbipush hC.1 hC.2.1 dX7_donor_13 (by decide) <| ?_
  obtain ⟨u, hu, hf⟩ := bx_inl hf
  have hPc : va_P D vwCl ([] : va_W) _ := hP.sub [] rfl
  have hf := bl_inl hf
  refine zcSP (As := [vI x3, vI (-1), vI 27]) (rest := []) hC hK (met_X7_needRange l D kA x3 (-1) 27 hu) zwX7_206 hPc rfl hl.1 rfl (Nat.le_of_ble_eq_true rfl) ⟨Nat.le_of_ble_eq_true rfl, Nat.le_of_ble_eq_true rfl⟩ ⟨rfl, rfl⟩ ⟨Nat.le_refl _, Nat.le_refl _⟩ dX7_donor_15 <| lv_aload_n hC.1 hC.2.1 dX7_donor_18 rfl (lv_at hl 0 rfl) <| gfX7_23 hC hK hP (q0 := 0) rfl rfl dX7_donor_19 <| ziload_n hC.1 hC.2.1 dX7_donor_22 rfl (lv_at hl 1 rfl) <| ziload_n hC.1 hC.2.1 dX7_donor_23 rfl (lv_at hl 2 rfl) <| ziload_n hC.1 hC.2.1 dX7_donor_24 rfl (lv_at hl 3 rfl) <| ?_
  obtain ⟨r_1, hu, hf⟩ := bd_some hf
  have hPc : va_P D vwCl (cs_X4 kA (sv 2 a) (sv 4 V)) _ := hP.sub [2, 3, 4, 5, 6, 7, 8, 9, 10, 11, 12, 13, 14, 15, 16, 17, 18, 19, 20, 21, 22, 23, 24, 25] rfl
  exact zcVP (As := [vI x1, vI x2, vI x3]) (rest := []) hC hK (met_X4_sumOfDonor l D kA (sv 2 a) n (sv 4 V) x1 x2 x3 hu) zwX7_210 hPc (q0 := 0) rfl rfl rfl rfl hl.1 rfl (Nat.le_of_ble_eq_true rfl) ⟨Nat.le_of_ble_eq_true rfl, Nat.le_of_ble_eq_true rfl⟩ ⟨rfl, rfl⟩ ⟨Nat.le_refl _, Nat.le_refl _⟩ dX7_donor_25 <| hret (Int32.ofInt r_1) _ _ (qI hf) dX7_donor_28
abbrev rxX7_donor : Room := { frames := 7, cells := 1, slots := 6, locals := 112 }
set_option maxHeartbeats 1000000 in
set_option maxRecDepth 100000 in
theorem thr_X7_donor (l : Launch) (D : va_G) (kA : Nat → ClassId) (a : Nat → Nat) (pf : Nat → Option Nat) (n : Nat) (V : Sz) (X : Sz) (x1 : Int) (x2 : Int) (x3 : Int) {er : Nat} (hf : f_X7_donor n V X x1 x2 x3 = some (.inr er)) : MX l yX7_donor cX7_donor 4 (some .int) rxX7_donor D kA [.ref (a 0), vI x1, vI x2, vI x3] (cs_X7 kA a V X pf) (zEx er) := by
  refine zXstart (own := RX7) rfl rfl (Nat.le_of_ble_eq_true rfl) ?_
  intro p e s m args below meth c ls hC hK hP hX hl hx hlocks
  have hl : lv_has ls 4 [(0, .ref (a 0)), (1, vI x1), (2, vI x2), (3, vI x3)] := hl
  unfold f_X7_donor at hf
  refine lv_aload_n hC.1 hC.2.1 dX7_donor_0 rfl (lv_at hl 0 rfl) <| ziload_n hC.1 hC.2.1 dX7_donor_1 rfl (lv_at hl 1 rfl) <| ?_
  rcases bx_inr hf with hu | ⟨u, hu, hf⟩
  · exact zcVX (As := [vI x1]) (rest := []) hC hK hX hx hlocks (thr_X7_needDonor l D kA a pf V X x1 hu) zwX7_203 hP (q0 := 0) rfl rfl rfl rfl hl.1 rfl (Nat.le_of_ble_eq_true rfl) ⟨Nat.le_of_ble_eq_true rfl, Nat.le_of_ble_eq_true rfl⟩ ⟨rfl, rfl⟩ ⟨Nat.le_of_ble_eq_true rfl, Nat.le_of_ble_eq_true rfl⟩ dX7_donor_2
  refine zcVP (As := [vI x1]) (rest := []) hC hK (met_X7_needDonor l D kA a pf V X x1 hu) zwX7_203 hP (q0 := 0) rfl rfl rfl rfl hl.1 rfl (Nat.le_of_ble_eq_true rfl) ⟨Nat.le_of_ble_eq_true rfl, Nat.le_of_ble_eq_true rfl⟩ ⟨rfl, rfl⟩ ⟨Nat.le_of_ble_eq_true rfl, Nat.le_of_ble_eq_true rfl⟩ dX7_donor_2 <| ziload_n hC.1 hC.2.1 dX7_donor_5 rfl (lv_at hl 2 rfl) <| ziconst hC.1 hC.2.1 dX7_donor_6 <| ziconst hC.1 hC.2.1 dX7_donor_7 <| ?_
  rcases bx_inr hf with hu | ⟨u, hu, hf⟩
  · have hPc : va_P D vwCl ([] : va_W) _ := hP.sub [] rfl; exact zcSX (As := [vI x2, vI 0, vI 4]) (rest := []) hC hK hX hx hlocks (thr_X7_needRange l D kA x2 0 4 hu) zwX7_206 hPc rfl hl.1 rfl (Nat.le_of_ble_eq_true rfl) ⟨Nat.le_of_ble_eq_true rfl, Nat.le_of_ble_eq_true rfl⟩ ⟨rfl, rfl⟩ ⟨Nat.le_of_ble_eq_true rfl, Nat.le_of_ble_eq_true rfl⟩ dX7_donor_8
  have hPc : va_P D vwCl ([] : va_W) _ := hP.sub [] rfl
  refine zcSP (As := [vI x2, vI 0, vI 4]) (rest := []) hC hK (met_X7_needRange l D kA x2 0 4 hu) zwX7_206 hPc rfl hl.1 rfl (Nat.le_of_ble_eq_true rfl) ⟨Nat.le_of_ble_eq_true rfl, Nat.le_of_ble_eq_true rfl⟩ ⟨rfl, rfl⟩ ⟨Nat.le_of_ble_eq_true rfl, Nat.le_of_ble_eq_true rfl⟩ dX7_donor_8 <| ziload_n hC.1 hC.2.1 dX7_donor_11 rfl (lv_at hl 3 rfl) <| ziconst hC.1 hC.2.1 dX7_donor_12 <| zbipush hC.1 hC.2.1 dX7_donor_13 (by decide) <| ?_
  rcases bx_inr hf with hu | ⟨u, hu, hf⟩
  · have hPc : va_P D vwCl ([] : va_W) _ := hP.sub [] rfl; exact zcSX (As := [vI x3, vI (-1), vI 27]) (rest := []) hC hK hX hx hlocks (thr_X7_needRange l D kA x3 (-1) 27 hu) zwX7_206 hPc rfl hl.1 rfl (Nat.le_of_ble_eq_true rfl) ⟨Nat.le_of_ble_eq_true rfl, Nat.le_of_ble_eq_true rfl⟩ ⟨rfl, rfl⟩ ⟨Nat.le_of_ble_eq_true rfl, Nat.le_of_ble_eq_true rfl⟩ dX7_donor_15
  have hPc : va_P D vwCl ([] : va_W) _ := hP.sub [] rfl
  exact (bl_inr hf).elim
theorem DX7_taxLimit_0 : ∀ q ∈ ([(0, .aload_n 0, 1), (1, .iload_n 1, 1), (2, .invokevirtual 203, 3), (5, .aload_n 0, 1), (6, .getfield 23, 3), (9, .getfield 214, 3), (12, .iload_n 1, 1), (13, .iaload, 1), (14, .ireturn, 1)] : List (Nat × Instr × Nat)), decode cX7_taxLimit q.1 = .ok q.2 := by decide +kernel
theorem dX7_taxLimit_0 : decode cX7_taxLimit 0 = .ok (.aload_n 0, 1) := DX7_taxLimit_0 (0, .aload_n 0, 1) (List.mem_of_getElem? (i := 0) rfl)
theorem dX7_taxLimit_1 : decode cX7_taxLimit 1 = .ok (.iload_n 1, 1) := DX7_taxLimit_0 (1, .iload_n 1, 1) (List.mem_of_getElem? (i := 1) rfl)
theorem dX7_taxLimit_2 : decode cX7_taxLimit 2 = .ok (.invokevirtual 203, 3) := DX7_taxLimit_0 (2, .invokevirtual 203, 3) (List.mem_of_getElem? (i := 2) rfl)
theorem dX7_taxLimit_5 : decode cX7_taxLimit 5 = .ok (.aload_n 0, 1) := DX7_taxLimit_0 (5, .aload_n 0, 1) (List.mem_of_getElem? (i := 3) rfl)
theorem dX7_taxLimit_6 : decode cX7_taxLimit 6 = .ok (.getfield 23, 3) := DX7_taxLimit_0 (6, .getfield 23, 3) (List.mem_of_getElem? (i := 4) rfl)
theorem dX7_taxLimit_9 : decode cX7_taxLimit 9 = .ok (.getfield 214, 3) := DX7_taxLimit_0 (9, .getfield 214, 3) (List.mem_of_getElem? (i := 5) rfl)
theorem dX7_taxLimit_12 : decode cX7_taxLimit 12 = .ok (.iload_n 1, 1) := DX7_taxLimit_0 (12, .iload_n 1, 1) (List.mem_of_getElem? (i := 6) rfl)
theorem dX7_taxLimit_13 : decode cX7_taxLimit 13 = .ok (.iaload, 1) := DX7_taxLimit_0 (13, .iaload, 1) (List.mem_of_getElem? (i := 7) rfl)
theorem dX7_taxLimit_14 : decode cX7_taxLimit 14 = .ok (.ireturn, 1) := DX7_taxLimit_0 (14, .ireturn, 1) (List.mem_of_getElem? (i := 8) rfl)
abbrev rmX7_taxLimit : Room := { frames := 1, cells := 0, slots := 0, locals := 21 }
set_option maxHeartbeats 1000000 in
set_option maxRecDepth 100000 in
theorem met_X7_taxLimit (l : Launch) (D : va_G) (kA : Nat → ClassId) (a : Nat → Nat) (pf : Nat → Option Nat) (V : Sz) (X : Sz) (x1 : Int) {r : Int} (hf : f_X7_taxLimit V X x1 = some (.inl r)) : MP l yX7_taxLimit cX7_taxLimit 2 (some .int) rmX7_taxLimit D kA [.ref (a 0), vI x1] (cs_X7 kA a V X pf) (some (vI r)) := by
  refine zPI (own := RX7) rfl rfl (Nat.le_of_ble_eq_true rfl) ?_
  intro p e s m args below meth c ls Q hC hK hP hl hret
  have hl : lv_has ls 2 [(0, .ref (a 0)), (1, vI x1)] := hl
  unfold f_X7_taxLimit at hf
  refine lv_aload_n hC.1 hC.2.1 dX7_taxLimit_0 rfl (lv_at hl 0 rfl) <| ziload_n hC.1 hC.2.1 dX7_taxLimit_1 rfl (lv_at hl 1 rfl) <| ?_
  obtain ⟨u, hu, hf⟩ := bx_inl hf
  have hf := bl_inl hf
  refine zcVP (As := [vI x1]) (rest := []) hC hK (met_X7_needDonor l D kA a pf V X x1 hu) zwX7_203 hP (q0 := 0) rfl rfl rfl rfl hl.1 rfl (Nat.le_of_ble_eq_true rfl) ⟨Nat.le_of_ble_eq_true rfl, Nat.le_of_ble_eq_true rfl⟩ ⟨rfl, rfl⟩ ⟨Nat.le_refl _, Nat.le_refl _⟩ dX7_taxLimit_2 <| lv_aload_n hC.1 hC.2.1 dX7_taxLimit_5 rfl (lv_at hl 0 rfl) <| gfX7_23 hC hK hP (q0 := 0) rfl rfl dX7_taxLimit_6 <| gfX7_214 hC hK hP (q0 := 2) rfl rfl dX7_taxLimit_9 <| ziload_n hC.1 hC.2.1 dX7_taxLimit_12 rfl (lv_at hl 1 rfl) <| ?_
  obtain ⟨hz_1, hf⟩ := ck_some hf
  exact jal hC hK hP (q0 := 3) rfl (Nat.le_of_ble_eq_true rfl) hz_1 rfl dX7_taxLimit_13 <| hret (Int32.ofInt (V 8 x1.toNat)) _ _ (qI hf) dX7_taxLimit_14
abbrev rxX7_taxLimit : Room := { frames := 7, cells := 1, slots := 6, locals := 111 }
set_option maxHeartbeats 1000000 in
set_option maxRecDepth 100000 in
theorem thr_X7_taxLimit (l : Launch) (D : va_G) (kA : Nat → ClassId) (a : Nat → Nat) (pf : Nat → Option Nat) (V : Sz) (X : Sz) (x1 : Int) {er : Nat} (hf : f_X7_taxLimit V X x1 = some (.inr er)) : MX l yX7_taxLimit cX7_taxLimit 2 (some .int) rxX7_taxLimit D kA [.ref (a 0), vI x1] (cs_X7 kA a V X pf) (zEx er) := by
  refine zXstart (own := RX7) rfl rfl (Nat.le_of_ble_eq_true rfl) ?_
  intro p e s m args below meth c ls hC hK hP hX hl hx hlocks
  have hl : lv_has ls 2 [(0, .ref (a 0)), (1, vI x1)] := hl
  unfold f_X7_taxLimit at hf
  refine lv_aload_n hC.1 hC.2.1 dX7_taxLimit_0 rfl (lv_at hl 0 rfl) <| ziload_n hC.1 hC.2.1 dX7_taxLimit_1 rfl (lv_at hl 1 rfl) <| ?_
  rcases bx_inr hf with hu | ⟨u, hu, hf⟩
  · exact zcVX (As := [vI x1]) (rest := []) hC hK hX hx hlocks (thr_X7_needDonor l D kA a pf V X x1 hu) zwX7_203 hP (q0 := 0) rfl rfl rfl rfl hl.1 rfl (Nat.le_of_ble_eq_true rfl) ⟨Nat.le_of_ble_eq_true rfl, Nat.le_of_ble_eq_true rfl⟩ ⟨rfl, rfl⟩ ⟨Nat.le_of_ble_eq_true rfl, Nat.le_of_ble_eq_true rfl⟩ dX7_taxLimit_2
  exact (bl_inr hf).elim
theorem DX7_isDeclared_0 : ∀ q ∈ ([(0, .aload_n 0, 1), (1, .iload_n 1, 1), (2, .invokevirtual 203, 3), (5, .aload_n 0, 1), (6, .getfield 23, 3), (9, .getfield 98, 3), (12, .iload_n 1, 1), (13, .iload_n 2, 1), (14, .invokevirtual 217, 3), (17, .ireturn, 1)] : List (Nat × Instr × Nat)), decode cX7_isDeclared q.1 = .ok q.2 := by decide +kernel
theorem dX7_isDeclared_0 : decode cX7_isDeclared 0 = .ok (.aload_n 0, 1) := DX7_isDeclared_0 (0, .aload_n 0, 1) (List.mem_of_getElem? (i := 0) rfl)
theorem dX7_isDeclared_1 : decode cX7_isDeclared 1 = .ok (.iload_n 1, 1) := DX7_isDeclared_0 (1, .iload_n 1, 1) (List.mem_of_getElem? (i := 1) rfl)
theorem dX7_isDeclared_2 : decode cX7_isDeclared 2 = .ok (.invokevirtual 203, 3) := DX7_isDeclared_0 (2, .invokevirtual 203, 3) (List.mem_of_getElem? (i := 2) rfl)
theorem dX7_isDeclared_5 : decode cX7_isDeclared 5 = .ok (.aload_n 0, 1) := DX7_isDeclared_0 (5, .aload_n 0, 1) (List.mem_of_getElem? (i := 3) rfl)
theorem dX7_isDeclared_6 : decode cX7_isDeclared 6 = .ok (.getfield 23, 3) := DX7_isDeclared_0 (6, .getfield 23, 3) (List.mem_of_getElem? (i := 4) rfl)
theorem dX7_isDeclared_9 : decode cX7_isDeclared 9 = .ok (.getfield 98, 3) := DX7_isDeclared_0 (9, .getfield 98, 3) (List.mem_of_getElem? (i := 5) rfl)
theorem dX7_isDeclared_12 : decode cX7_isDeclared 12 = .ok (.iload_n 1, 1) := DX7_isDeclared_0 (12, .iload_n 1, 1) (List.mem_of_getElem? (i := 6) rfl)
theorem dX7_isDeclared_13 : decode cX7_isDeclared 13 = .ok (.iload_n 2, 1) := DX7_isDeclared_0 (13, .iload_n 2, 1) (List.mem_of_getElem? (i := 7) rfl)
theorem dX7_isDeclared_14 : decode cX7_isDeclared 14 = .ok (.invokevirtual 217, 3) := DX7_isDeclared_0 (14, .invokevirtual 217, 3) (List.mem_of_getElem? (i := 8) rfl)
theorem dX7_isDeclared_17 : decode cX7_isDeclared 17 = .ok (.ireturn, 1) := DX7_isDeclared_0 (17, .ireturn, 1) (List.mem_of_getElem? (i := 9) rfl)
abbrev rmX7_isDeclared : Room := { frames := 2, cells := 0, slots := 0, locals := 46 }
set_option maxHeartbeats 1000000 in
set_option maxRecDepth 100000 in
theorem met_X7_isDeclared (l : Launch) (D : va_G) (kA : Nat → ClassId) (a : Nat → Nat) (pf : Nat → Option Nat) (n : Nat) (V : Sz) (X : Sz) (x1 : Int) (x2 : Int) {r : Bool} (hf : f_X7_isDeclared n V X x1 x2 = some (.inl r)) : MP l yX7_isDeclared cX7_isDeclared 3 (some .boolean) rmX7_isDeclared D kA [.ref (a 0), vI x1, vI x2] (cs_X7 kA a V X pf) (some (vI (bI r))) := by
  refine zPZ (own := RX7) rfl rfl (Nat.le_of_ble_eq_true rfl) ?_
  intro p e s m args below meth c ls Q hC hK hP hl hret
  have hl : lv_has ls 3 [(0, .ref (a 0)), (1, vI x1), (2, vI x2)] := hl
  unfold f_X7_isDeclared at hf
  refine lv_aload_n hC.1 hC.2.1 dX7_isDeclared_0 rfl (lv_at hl 0 rfl) <| ziload_n hC.1 hC.2.1 dX7_isDeclared_1 rfl (lv_at hl 1 rfl) <| ?_
  obtain ⟨u, hu, hf⟩ := bx_inl hf
  have hf := bl_inl hf
  refine zcVP (As := [vI x1]) (rest := []) hC hK (met_X7_needDonor l D kA a pf V X x1 hu) zwX7_203 hP (q0 := 0) rfl rfl rfl rfl hl.1 rfl (Nat.le_of_ble_eq_true rfl) ⟨Nat.le_of_ble_eq_true rfl, Nat.le_of_ble_eq_true rfl⟩ ⟨rfl, rfl⟩ ⟨Nat.le_refl _, Nat.le_refl _⟩ dX7_isDeclared_2 <| lv_aload_n hC.1 hC.2.1 dX7_isDeclared_5 rfl (lv_at hl 0 rfl) <| gfX7_23 hC hK hP (q0 := 0) rfl rfl dX7_isDeclared_6 <| gfX7_98 hC hK hP (q0 := 2) rfl rfl dX7_isDeclared_9 <| ziload_n hC.1 hC.2.1 dX7_isDeclared_12 rfl (lv_at hl 1 rfl) <| ziload_n hC.1 hC.2.1 dX7_isDeclared_13 rfl (lv_at hl 2 rfl) <| ?_
  obtain ⟨r_1, hu, hf⟩ := bd_some hf
  have hPc : va_P D vwCl (cs_X1 kA (sv 4 a) (sv 9 V)) _ := hP.sub [4, 5, 6, 7] rfl
  exact zcVP (As := [vI x1, vI x2]) (rest := []) hC hK (met_X1_covers l D kA (sv 4 a) n (sv 9 V) x1 x2 hu) zwX7_217 hPc (q0 := 0) rfl rfl rfl rfl hl.1 rfl (Nat.le_of_ble_eq_true rfl) ⟨Nat.le_of_ble_eq_true rfl, Nat.le_of_ble_eq_true rfl⟩ ⟨rfl, rfl⟩ ⟨Nat.le_refl _, Nat.le_refl _⟩ dX7_isDeclared_14 <| hret (Int32.ofInt (bI r_1)) _ _ (zb01 _) (qZ hf) dX7_isDeclared_17
abbrev rxX7_isDeclared : Room := { frames := 7, cells := 1, slots := 6, locals := 111 }
set_option maxHeartbeats 1000000 in
set_option maxRecDepth 100000 in
theorem thr_X7_isDeclared (l : Launch) (D : va_G) (kA : Nat → ClassId) (a : Nat → Nat) (pf : Nat → Option Nat) (n : Nat) (V : Sz) (X : Sz) (x1 : Int) (x2 : Int) {er : Nat} (hf : f_X7_isDeclared n V X x1 x2 = some (.inr er)) : MX l yX7_isDeclared cX7_isDeclared 3 (some .boolean) rxX7_isDeclared D kA [.ref (a 0), vI x1, vI x2] (cs_X7 kA a V X pf) (zEx er) := by
  refine zXstart (own := RX7) rfl rfl (Nat.le_of_ble_eq_true rfl) ?_
  intro p e s m args below meth c ls hC hK hP hX hl hx hlocks
  have hl : lv_has ls 3 [(0, .ref (a 0)), (1, vI x1), (2, vI x2)] := hl
  unfold f_X7_isDeclared at hf
  refine lv_aload_n hC.1 hC.2.1 dX7_isDeclared_0 rfl (lv_at hl 0 rfl) <| ziload_n hC.1 hC.2.1 dX7_isDeclared_1 rfl (lv_at hl 1 rfl) <| ?_
  rcases bx_inr hf with hu | ⟨u, hu, hf⟩
  · exact zcVX (As := [vI x1]) (rest := []) hC hK hX hx hlocks (thr_X7_needDonor l D kA a pf V X x1 hu) zwX7_203 hP (q0 := 0) rfl rfl rfl rfl hl.1 rfl (Nat.le_of_ble_eq_true rfl) ⟨Nat.le_of_ble_eq_true rfl, Nat.le_of_ble_eq_true rfl⟩ ⟨rfl, rfl⟩ ⟨Nat.le_of_ble_eq_true rfl, Nat.le_of_ble_eq_true rfl⟩ dX7_isDeclared_2
  exact (bl_inr hf).elim
