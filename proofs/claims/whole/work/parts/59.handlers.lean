/-! ===== methods with handlers, and their calls ===== -/
theorem ts_stay {w : Cond} (hw : w ∈ TS) {A A' : Array Value} {s U : State} (hW : s.WarmedH U.vm) (h : w.before A s = true) : w.before A' U = true := hv_stay hW w (List.mem_filter.mp hw).2 h
abbrev hv_hs (hh : List (Nat × Nat × Nat × Nat)) : List ExceptionTableEntry := hh.map (fun q => ⟨q.1, q.2.1, q.2.2.1, q.2.2.2⟩)
theorem hv_Met.ofH {l : Launch} {y : MethodName} {own : String} {cc : ByteArray} {maxL : Nat} {ret : Option FieldType} {hh : List (Nat × Nat × Nat × Nat)} {rm : Room} {b0 : Nat} {D : va_G} {cA : Nat → ClassId} {As : List Value} {f : hv_M} {post : Option Value → hv_M → Prop} {thr : String → hv_M → Prop}
    (hy : plainName y.cls = true) (ho : y.cls = own) (hn : (lg_sl As).length ≤ maxL)
    (body : ∀ (p : Program) (e : Env) (s : State) (m : MethodId) (below : List Frame) (meth : Method) (c : Code), hv_E p c cc s m As.toArray own TS D CL (TY cA) → c.maxLocals = maxL → c.exceptionTable.toList = hv_hs hh → meth.sig.returnType = ret → meth.locks = false →
      hv_KK b0 (Fa D cA) s → hv_I D CL b0 f s.heap s.heap [] → ∀ ls : Array Slot, lv_has ls maxL (lv_args 0 As) →
      W p l e rm s m As.toArray below meth c s.heap [] 0 0 (xh_MQ below (hv_Q b0 (Fa D cA) D CL post thr) s rm.cells rm.slots (fun q => b0 ≤ q)) (F0 m 0 ls [])) :
    hv_Met l y [Cond.codeWith y cc maxL ret hh] rm b0 (Fa D cA) D CL As f post thr := by
  refine xh_Met.ofH hy rfl ?_
  intro p e s m args below meth c s₁ B hml hout hP
  obtain ⟨rfl, hU⟩ := hP
  have hFa : Fa D cA s := hU.2.2.2.here
  have hl := lv_entry As (n := maxL) hn
  rw [lg_entry_eq]
  exact body p e s m below meth c ⟨B.exec, B.bytes, by rw [← ho]; exact findClass_of_methodNamed B.named, hFa.1 _, hFa.2.1⟩ hml (xh_tab hout) B.returns B.notSynchronized hU.2.2.2 hU.start _ hl
def hv_cdH (y : MethodName) (bytes : ByteArray) (maxL : Nat) (ret : Option FieldType) (hh : List (Nat × Nat × Nat × Nat)) (n : Nat) : Prop :=
  Cond.codeWith y bytes maxL ret hh ∈ TS ∧ Cond.initialized y.cls ∈ TS ∧ (y.cls ≠ "java/lang/invoke/MethodHandle" ∧ y.cls ≠ "java/lang/invoke/VarHandle" ∧ (parseMethodDescriptor y.desc).map (fun d => d.parameters.length) = some n)
section HVH
variable {p : Program} {l : Launch} {e : Env} {R : Room} {s : State} {m : MethodId} {args : Array Value} {below : List Frame} {meth : Method} {c : Code} {H : Heap} {locs : List Loc} {cells slots : Nat} {Q : State → Prop}
variable {cc bytes : ByteArray} {pc nL maxL n index : Nat} {ls : Array Slot} {rest : List Value} {D : va_G} {cA : Nat → ClassId} {b0 : Nat} {f : hv_M} {post : Option Value → hv_M → Prop} {thr : String → hv_M → Prop} {own host C : String} {y : MethodName} {ret : Option FieldType} {hh : List (Nat × Nat × Nat × Nat)} {rm : Room} {As : List Value} {b ci : Nat} {fs : List Value} {r : vw_C}
theorem hv_cbH (hE : hv_E p c cc s m args own TS D CL (TY cA)) (cd : hv_cdH y bytes maxL ret hh n) (hR : rm.frames + 1 ≤ R.frames ∧ 8 + (maxL + 11) + rm.locals ≤ R.locals) : xh_CB R s y bytes maxL ret hh [Cond.codeWith y bytes maxL ret hh] rm n := by
  obtain ⟨h1, h2, h3, h4, h5⟩ := cd
  refine ⟨hR.1, hR.2, fun w hw a' U hW => ?_, fun a' U hW => ts_stay h1 hW (hE.2.2.2.1 _ h1), fun a' U hW => ts_stay h2 hW (hE.2.2.2.1 _ h2), ⟨h3, h4⟩, fun sig h => ?_⟩
  · rw [List.mem_singleton.mp hw]; exact ts_stay h1 hW (hE.2.2.2.1 _ h1)
  · rw [h] at h5
    exact (Option.some.inj h5).symm
/-- a static call of a method with handlers, which throws nothing -/
theorem hv_SH (hE : hv_E p c cc s m args own TS D CL (TY cA)) (hml : c.maxLocals = nL) (hK : hv_KK b0 (Fa D cA) s) (hI : hv_I D CL b0 f s.heap H locs) (hM : hv_Met l y [Cond.codeWith y bytes maxL ret hh] rm b0 (Fa D cA) D CL As f post NX) (cd : hv_cdH y bytes maxL ret hh n) (hlink : Cond.methodLink own index y ∈ TS) (hstat : Cond.static y ∈ TS)
    (hn : As.length = n) (hsize : ls.size = nL) (hW9 : (rest.map fun v => v.category).sum ≤ 8) (hdg : decode cc pc = .ok (.invokestatic index, 3)) (hR : rm.frames + 1 ≤ R.frames ∧ 8 + (maxL + 11) + rm.locals ≤ R.locals) (hf : cells + rm.cells ≤ R.cells ∧ slots + rm.slots ≤ R.slots)
    (kr : ∀ (v : Option Value) (g : hv_M) (H1 : Heap) (locs1 : List Loc), post v g → hv_I D CL b0 g s.heap H1 locs1 → W p l e R s m args below meth c H1 locs1 (cells + rm.cells) (slots + rm.slots) Q (F0 m (pc + 3) ls (v.toList ++ rest))) :
    W p l e R s m args below meth c H locs cells slots Q (F0 m pc ls (As.reverse ++ rest)) :=
  hv_call (xh_runS hE.1 hE.2.1 hml hE.2.2.1 hM (hv_cbH hE cd hR) (hE.2.2.2.1 _ hlink) (hE.2.2.2.1 _ hstat) hv_blind (hv_pre hK hI As) hn hsize (lv_room hW9) hdg hf) hI kr (fun q E ce g H1 locs1 hp => hp.elim)
/-- caught by the row x, behind the rows pre of other classes -/
theorem hv_catch (hE : hv_E p c cc s m args own TS D CL (TY cA)) (hK : hv_KK b0 (Fa D cA) s) {E : String} {ce : Cell} {q : Addr} (pre : List ExceptionTableEntry) (x : ExceptionTableEntry) (suf : List ExceptionTableEntry) (hsplit : c.exceptionTable.toList = pre ++ x :: suf)
    (hpass : ∀ z ∈ pre, covers z pc = true ∧ z.catchType ≠ 0 ∧ ∃ nm : String, Cond.classLink own z.catchType nm ∈ TS ∧ (E, nm) ∈ NC) (hx : covers x pc = true) (h0 : x.catchType ≠ 0) (hlink : Cond.classLink own x.catchType E ∈ TS) (hcast : Cond.castable E E ∈ TS) (hcell : H[q]? = some ce) (hv : ce.vm = .none) (hcl : s.vm.findClass E = some ce.cls)
    (kk : W p l e R s m args below meth c H locs cells slots Q (F0 m x.handlerPc ls [.ref q])) : xh_W p l e R s m args below meth c H locs cells slots Q (F0 m pc ls rest) q :=
  xh_catch hE.2.2.1 pre x suf hsplit (fun z hz => by
    obtain ⟨z1, z2, nm, z3, z4⟩ := hpass z hz
    exact ⟨z1, z2, nm, hE.2.2.2.1 _ z3, hK.here.2.2.2.2 _ z4⟩) hx h0 (hE.2.2.2.1 _ hlink) (hE.2.2.2.1 _ hcast) hcell hv hcl kk
/-- more is booked than was made -/
theorem W_widen {g : JFrame} {k n9 : Nat} (h1 : cells ≤ k) (h2 : slots ≤ n9) (kk : W p l e R s m args below meth c H locs k n9 Q g) : W p l e R s m args below meth c H locs cells slots Q g := fun T hT X => kk T hT (stand_widen X h1 h2)
end HVH
