/-! ===== what holds of the tables, everywhere ===== -/
def TX : List Cond := [.laysStatic Bundle.tN "UNASSIGNED_STACK" Bundle.steD, .laysStatic Bundle.tN "SUPPRESSED_SENTINEL" Bundle.listD, .isRef (.static Bundle.tN "UNASSIGNED_STACK" Bundle.steD), .isRef (.static Bundle.tN "SUPPRESSED_SENTINEL" Bundle.listD)]
def ST : List (String × Nat × String) := [("BoxPacker", 38, "the tag is not 0 .. 65535"), ("BoxPacker", 47, "the width, height or depth is no size"), ("BoxPacker", 167, "there are 100 items"), ("BoxPacker", 62, "the width, height or depth is neither a size nor RUNNING"), ("BoxPacker", 64, "the width is no size"), ("BoxPacker", 66, "the stretch or shrink is no size or below 0"), ("BoxPacker", 71, "an order is not 0 .. 3"), ("BoxPacker", 169, "there is no such box"), ("BoxPacker", 82, "the shift is no size"), ("BoxPacker", 93, "how is not 0 .. 2"), ("BoxPacker", 95, "the size or the greatest depth is no size"), ("BoxPacker", 99, "there are 100 boxes"), ("BoxPacker", 108, "the box would be more than 10 deep"), ("BoxPacker", 210, "a sum of sizes is no size"), ("BoxPacker", 138, "what is not 0 .. 10"), ("BoxPacker", 145, "there is no such item"), ("BoxPacker", 147, "x or y is no size"), ("BoxPacker", 159, "there is no such mark"), ("BoxPacker", 161, "what is not 0 .. 5")]
def NC : List (String × String) := [("BoxPacker$Space", "BoxPacker$Solid"), ("BoxPacker$Solid", "BoxPacker$Space"), ("java/lang/UnsupportedOperationException", "java/lang/IllegalArgumentException"), ("java/lang/IllegalArgumentException", "java/lang/IndexOutOfBoundsException"), ("java/lang/UnsupportedOperationException", "java/lang/IndexOutOfBoundsException"), ("java/lang/IllegalStateException", "java/lang/IllegalArgumentException"), ("java/lang/IllegalStateException", "java/lang/UnsupportedOperationException")]
def Fa (D : va_G) (cA : Nat → ClassId) (U : State) : Prop :=
  (∀ (A : Array Value) (w : Cond), w ∈ TS → w.before A U = true) ∧ va_K D CL (TY cA) U ∧ (∀ (A : Array Value) (w : Cond), w ∈ TX → w.before A U = true) ∧ (∀ q ∈ ST, ∃ a : Nat, vk_R q.1 q.2.1 q.2.2 a U) ∧ ∀ q ∈ NC, va_Nc q.1 q.2 U
/-- the room of a method k calls above the deepest one -/
abbrev RM (k c s : Nat) : Room := { frames := 10 + k, cells := c, slots := s, locals := 200 + 40 * k }
/-- a body without handlers, by its walk -/
theorem hv_Met.of {l : Launch} {y : MethodName} {own : String} {cc : ByteArray} {maxL : Nat} {ret : Option FieldType} {rm : Room} {b0 : Nat} {D : va_G} {cA : Nat → ClassId} {As : List Value} {f : hv_M} {post : Option Value → hv_M → Prop} {thr : String → hv_M → Prop}
    (hy : plainName y.cls = true) (ho : y.cls = own) (hn : (lg_sl As).length ≤ maxL)
    (body : ∀ (p : Program) (e : Env) (s : State) (m : MethodId) (below : List Frame) (meth : Method) (c : Code), hv_E p c cc s m As.toArray own TS D CL (TY cA) → c.maxLocals = maxL → c.exceptionTable.toList = [] → meth.sig.returnType = ret → meth.locks = false → meth.name = y.name →
      hv_KK b0 (Fa D cA) s → hv_I D CL b0 f s.heap s.heap [] → ∀ ls : Array Slot, lv_has ls maxL (lv_args 0 As) →
      W p l e rm s m As.toArray below meth c s.heap [] 0 0 (xh_MQ below (hv_Q b0 (Fa D cA) D CL post thr) s rm.cells rm.slots (fun q => b0 ≤ q)) (F0 m 0 ls [])) :
    hv_Met l y [Cond.code y cc maxL ret] rm b0 (Fa D cA) D CL As f post thr := by
  refine xh_Met.ofW hy rfl ?_
  intro p e s m args below meth c s₁ B hml hout hP
  obtain ⟨rfl, hU⟩ := hP
  have hFa : Fa D cA s := hU.2.2.2.here
  have hl := lv_entry As (n := maxL) hn
  rw [lg_entry_eq]
  exact body p e s m below meth c ⟨B.exec, B.bytes, by rw [← ho]; exact findClass_of_methodNamed B.named, hFa.1 _, hFa.2.1⟩ hml hout B.returns B.notSynchronized (name_of_methodNamed B.named B.method).1 hU.2.2.2 hU.start _ hl
/-- what a caller knows of a callee: its code among the words, its class made ready, its parameters -/
def hv_cd (y : MethodName) (bytes : ByteArray) (maxL : Nat) (ret : Option FieldType) (n : Nat) : Prop :=
  Cond.code y bytes maxL ret ∈ TS ∧ Cond.initialized y.cls ∈ TS ∧ (y.cls ≠ "java/lang/invoke/MethodHandle" ∧ y.cls ≠ "java/lang/invoke/VarHandle" ∧ (parseMethodDescriptor y.desc).map (fun d => d.parameters.length) = some n)
theorem hv_good {w : Cond} {args : Array Value} {s : State} (hg : goodWord w = true) (h : w.before args s = true) : ∀ (a' : Array Value) (U : State), s.WarmedH U.vm → w.before a' U = true := fun a' U hW => word_at hW (good_of_word hg) h
section HVC
variable {p : Program} {l : Launch} {e : Env} {R : Room} {s : State} {m : MethodId} {args : Array Value} {below : List Frame} {meth : Method} {c : Code} {H : Heap} {locs : List Loc} {cells slots : Nat} {Q : State → Prop}
variable {cc bytes : ByteArray} {pc nL maxL n index : Nat} {ls : Array Slot} {rest : List Value} {D : va_G} {cA : Nat → ClassId} {b0 : Nat} {f : hv_M} {post : Option Value → hv_M → Prop} {thr : String → hv_M → Prop} {own host C : String} {y : MethodName} {ret : Option FieldType} {rm : Room} {As : List Value} {b ci : Nat} {fs : List Value} {r : vw_C}
theorem hv_cb (hE : hv_E p c cc s m args own TS D CL (TY cA)) (cd : hv_cd y bytes maxL ret n) (hR : rm.frames + 1 ≤ R.frames ∧ 8 + (maxL + 11) + rm.locals ≤ R.locals) : xh_CB R s y bytes maxL ret [] [Cond.code y bytes maxL ret] rm n := by
  obtain ⟨h1, h2, h3, h4, h5⟩ := cd
  have w1 := hv_good (w := Cond.code y bytes maxL ret) rfl (hE.2.2.2.1 _ h1)
  have w2 := hv_good (w := Cond.initialized y.cls) rfl (hE.2.2.2.1 _ h2)
  refine ⟨hR.1, hR.2, fun w hw => ?_, fun a' U hW => xh_cw (w1 a' U hW), w2, ⟨h3, h4⟩, fun sig h => ?_⟩
  · rw [List.mem_singleton.mp hw]; exact w1
  · rw [h] at h5
    exact (Option.some.inj h5).symm
theorem hv_pre (hK : hv_KK b0 (Fa D cA) s) (hI : hv_I D CL b0 f s.heap H locs) (As : List Value) : ∀ U : State, U.heap = H → s.WarmedH U.vm → hv_Pc b0 (Fa D cA) D CL As f As.toArray U := fun U hU hW => ⟨rfl, hI.U hK hU hW⟩
/-- a static call -/
theorem hv_S (hE : hv_E p c cc s m args own TS D CL (TY cA)) (hml : c.maxLocals = nL) (hK : hv_KK b0 (Fa D cA) s) (hI : hv_I D CL b0 f s.heap H locs) (hM : hv_Met l y [Cond.code y bytes maxL ret] rm b0 (Fa D cA) D CL As f post thr) (cd : hv_cd y bytes maxL ret n) (hlink : Cond.methodLink own index y ∈ TS) (hstat : Cond.static y ∈ TS)
    (hn : As.length = n) (hsize : ls.size = nL) (hW9 : (rest.map fun v => v.category).sum ≤ 8) (hdg : decode cc pc = .ok (.invokestatic index, 3)) (hR : rm.frames + 1 ≤ R.frames ∧ 8 + (maxL + 11) + rm.locals ≤ R.locals) (hf : cells + rm.cells ≤ R.cells ∧ slots + rm.slots ≤ R.slots)
    (kr : ∀ (v : Option Value) (g : hv_M) (H1 : Heap) (locs1 : List Loc), post v g → hv_I D CL b0 g s.heap H1 locs1 → W p l e R s m args below meth c H1 locs1 (cells + rm.cells) (slots + rm.slots) Q (F0 m (pc + 3) ls (v.toList ++ rest)))
    (kx : ∀ (q : Addr) (E : String) (ce : Cell) (g : hv_M) (H1 : Heap) (locs1 : List Loc), thr E g → hv_I D CL b0 g s.heap H1 locs1 → H1[q]? = some ce → ce.vm = .none → s.vm.findClass E = some ce.cls → xh_W p l e R s m args below meth c H1 locs1 (cells + rm.cells) (slots + rm.slots) Q (F0 m pc ls rest) q) :
    W p l e R s m args below meth c H locs cells slots Q (F0 m pc ls (As.reverse ++ rest)) :=
  hv_call (xh_runS hE.1 hE.2.1 hml hE.2.2.1 hM (hv_cb hE cd hR) (hE.2.2.2.1 _ hlink) (hE.2.2.2.1 _ hstat) hv_blind (hv_pre hK hI As) hn hsize (lv_room hW9) hdg hf) hI kr kx
/-- a static call of a nest mate's private method -/
theorem hv_SN (hE : hv_E p c cc s m args own TS D CL (TY cA)) (hml : c.maxLocals = nL) (hK : hv_KK b0 (Fa D cA) s) (hI : hv_I D CL b0 f s.heap H locs) (hM : hv_Met l y [Cond.code y bytes maxL ret] rm b0 (Fa D cA) D CL As f post thr) (cd : hv_cd y bytes maxL ret n) (hlink : Cond.methodLinkNest own index y host ∈ TS) (hstat : Cond.static y ∈ TS)
    (hn : As.length = n) (hsize : ls.size = nL) (hW9 : (rest.map fun v => v.category).sum ≤ 8) (hdg : decode cc pc = .ok (.invokestatic index, 3)) (hR : rm.frames + 1 ≤ R.frames ∧ 8 + (maxL + 11) + rm.locals ≤ R.locals) (hf : cells + rm.cells ≤ R.cells ∧ slots + rm.slots ≤ R.slots)
    (kr : ∀ (v : Option Value) (g : hv_M) (H1 : Heap) (locs1 : List Loc), post v g → hv_I D CL b0 g s.heap H1 locs1 → W p l e R s m args below meth c H1 locs1 (cells + rm.cells) (slots + rm.slots) Q (F0 m (pc + 3) ls (v.toList ++ rest)))
    (kx : ∀ (q : Addr) (E : String) (ce : Cell) (g : hv_M) (H1 : Heap) (locs1 : List Loc), thr E g → hv_I D CL b0 g s.heap H1 locs1 → H1[q]? = some ce → ce.vm = .none → s.vm.findClass E = some ce.cls → xh_W p l e R s m args below meth c H1 locs1 (cells + rm.cells) (slots + rm.slots) Q (F0 m pc ls rest) q) :
    W p l e R s m args below meth c H locs cells slots Q (F0 m pc ls (As.reverse ++ rest)) :=
  hv_call (xh_runSN hE.1 hE.2.1 hml hE.2.2.1 hM (hv_cb hE cd hR) (hE.2.2.2.1 _ hlink) (hE.2.2.2.1 _ hstat) hv_blind (hv_pre hK hI As) hn hsize (lv_room hW9) hdg hf) hI kr kx
/-- a virtual call -/
theorem hv_V (hE : hv_E p c cc s m args own TS D CL (TY cA)) (hml : c.maxLocals = nL) (hK : hv_KK b0 (Fa D cA) s) (hI : hv_I D CL b0 f s.heap H locs) (hM : hv_Met l y [Cond.code y bytes maxL ret] rm b0 (Fa D cA) D CL (.ref b :: As) f post thr) (cd : hv_cd y bytes maxL ret n) (hlink : Cond.methodLink own index y ∈ TS) (hinst : Cond.instanceMethod y ∈ TS) (hsel : Cond.selects r.1 y y ∈ TS)
    (he : f b = some (.inr (ci, fs))) (hc : CL[ci]? = some r)
    (hn : As.length = n) (hsize : ls.size = nL) (hW9 : (rest.map fun v => v.category).sum ≤ 8) (hdg : decode cc pc = .ok (.invokevirtual index, 3)) (hR : rm.frames + 1 ≤ R.frames ∧ 8 + (maxL + 11) + rm.locals ≤ R.locals) (hf : cells + rm.cells ≤ R.cells ∧ slots + rm.slots ≤ R.slots)
    (kr : ∀ (v : Option Value) (g : hv_M) (H1 : Heap) (locs1 : List Loc), post v g → hv_I D CL b0 g s.heap H1 locs1 → W p l e R s m args below meth c H1 locs1 (cells + rm.cells) (slots + rm.slots) Q (F0 m (pc + 3) ls (v.toList ++ rest)))
    (kx : ∀ (q : Addr) (E : String) (ce : Cell) (g : hv_M) (H1 : Heap) (locs1 : List Loc), thr E g → hv_I D CL b0 g s.heap H1 locs1 → H1[q]? = some ce → ce.vm = .none → s.vm.findClass E = some ce.cls → xh_W p l e R s m args below meth c H1 locs1 (cells + rm.cells) (slots + rm.slots) Q (F0 m pc ls rest) q) :
    W p l e R s m args below meth c H locs cells slots Q (F0 m pc ls (As.reverse ++ .ref b :: rest)) :=
  hv_call (xh_runV hE.1 hE.2.1 hml hE.2.2.1 hM (hv_cb hE cd hR) (hE.2.2.2.1 _ hlink) (hE.2.2.2.1 _ hinst) (hE.2.2.2.1 _ hsel) hv_blind (hv_recv hE hI he hc) (hv_pre hK hI (.ref b :: As)) hn hsize (lv_room hW9) hdg hf) hI kr kx
/-- a virtual call of a nest mate's private method -/
theorem hv_VN (hE : hv_E p c cc s m args own TS D CL (TY cA)) (hml : c.maxLocals = nL) (hK : hv_KK b0 (Fa D cA) s) (hI : hv_I D CL b0 f s.heap H locs) (hM : hv_Met l y [Cond.code y bytes maxL ret] rm b0 (Fa D cA) D CL (.ref b :: As) f post thr) (cd : hv_cd y bytes maxL ret n) (hlink : Cond.methodLinkNest own index y host ∈ TS) (hinst : Cond.instanceMethod y ∈ TS) (hsel : Cond.selects r.1 y y ∈ TS)
    (he : f b = some (.inr (ci, fs))) (hc : CL[ci]? = some r)
    (hn : As.length = n) (hsize : ls.size = nL) (hW9 : (rest.map fun v => v.category).sum ≤ 8) (hdg : decode cc pc = .ok (.invokevirtual index, 3)) (hR : rm.frames + 1 ≤ R.frames ∧ 8 + (maxL + 11) + rm.locals ≤ R.locals) (hf : cells + rm.cells ≤ R.cells ∧ slots + rm.slots ≤ R.slots)
    (kr : ∀ (v : Option Value) (g : hv_M) (H1 : Heap) (locs1 : List Loc), post v g → hv_I D CL b0 g s.heap H1 locs1 → W p l e R s m args below meth c H1 locs1 (cells + rm.cells) (slots + rm.slots) Q (F0 m (pc + 3) ls (v.toList ++ rest)))
    (kx : ∀ (q : Addr) (E : String) (ce : Cell) (g : hv_M) (H1 : Heap) (locs1 : List Loc), thr E g → hv_I D CL b0 g s.heap H1 locs1 → H1[q]? = some ce → ce.vm = .none → s.vm.findClass E = some ce.cls → xh_W p l e R s m args below meth c H1 locs1 (cells + rm.cells) (slots + rm.slots) Q (F0 m pc ls rest) q) :
    W p l e R s m args below meth c H locs cells slots Q (F0 m pc ls (As.reverse ++ .ref b :: rest)) :=
  hv_call (xh_runVN hE.1 hE.2.1 hml hE.2.2.1 hM (hv_cb hE cd hR) (hE.2.2.2.1 _ hlink) (hE.2.2.2.1 _ hinst) (hE.2.2.2.1 _ hsel) hv_blind (hv_recv hE hI he hc) (hv_pre hK hI (.ref b :: As)) hn hsize (lv_room hW9) hdg hf) hI kr kx
/-- a constructor -/
theorem hv_C (hE : hv_E p c cc s m args own TS D CL (TY cA)) (hml : c.maxLocals = nL) (hK : hv_KK b0 (Fa D cA) s) (hI : hv_I D CL b0 f s.heap H locs) (hM : hv_Met l y [Cond.code y bytes maxL none] rm b0 (Fa D cA) D CL (.ref b :: As) f post thr) (cd : hv_cd y bytes maxL none n) (hy1 : y.name = "<init>") (hlink : Cond.methodLink own index y ∈ TS) (hinst : Cond.instanceMethod y ∈ TS)
    (hn : As.length = n) (hsize : ls.size = nL) (hW9 : (rest.map fun v => v.category).sum ≤ 8) (hdg : decode cc pc = .ok (.invokespecial index, 3)) (hR : rm.frames + 1 ≤ R.frames ∧ 8 + (maxL + 11) + rm.locals ≤ R.locals) (hf : cells + rm.cells ≤ R.cells ∧ slots + rm.slots ≤ R.slots)
    (kr : ∀ (v : Option Value) (g : hv_M) (H1 : Heap) (locs1 : List Loc), post v g → hv_I D CL b0 g s.heap H1 locs1 → W p l e R s m args below meth c H1 locs1 (cells + rm.cells) (slots + rm.slots) Q (F0 m (pc + 3) ls (v.toList ++ rest)))
    (kx : ∀ (q : Addr) (E : String) (ce : Cell) (g : hv_M) (H1 : Heap) (locs1 : List Loc), thr E g → hv_I D CL b0 g s.heap H1 locs1 → H1[q]? = some ce → ce.vm = .none → s.vm.findClass E = some ce.cls → xh_W p l e R s m args below meth c H1 locs1 (cells + rm.cells) (slots + rm.slots) Q (F0 m pc ls rest) q) :
    W p l e R s m args below meth c H locs cells slots Q (F0 m pc ls (As.reverse ++ .ref b :: rest)) :=
  hv_call (xh_runI hE.1 hE.2.1 hml hE.2.2.1 hM (hv_cb hE cd hR) hy1 (hE.2.2.2.1 _ hlink) (hE.2.2.2.1 _ hinst) (hE.2.2.2.1 _ cd.1) hv_blind (hv_pre hK hI (.ref b :: As)) hn hsize (lv_room hW9) hdg hf) hI kr kx
/-- a nest mate's private constructor -/
theorem hv_CN (hE : hv_E p c cc s m args own TS D CL (TY cA)) (hml : c.maxLocals = nL) (hK : hv_KK b0 (Fa D cA) s) (hI : hv_I D CL b0 f s.heap H locs) (hM : hv_Met l y [Cond.code y bytes maxL none] rm b0 (Fa D cA) D CL (.ref b :: As) f post thr) (cd : hv_cd y bytes maxL none n) (hy1 : y.name = "<init>") (hlink : Cond.methodLinkNest own index y host ∈ TS) (hinst : Cond.instanceMethod y ∈ TS)
    (hn : As.length = n) (hsize : ls.size = nL) (hW9 : (rest.map fun v => v.category).sum ≤ 8) (hdg : decode cc pc = .ok (.invokespecial index, 3)) (hR : rm.frames + 1 ≤ R.frames ∧ 8 + (maxL + 11) + rm.locals ≤ R.locals) (hf : cells + rm.cells ≤ R.cells ∧ slots + rm.slots ≤ R.slots)
    (kr : ∀ (v : Option Value) (g : hv_M) (H1 : Heap) (locs1 : List Loc), post v g → hv_I D CL b0 g s.heap H1 locs1 → W p l e R s m args below meth c H1 locs1 (cells + rm.cells) (slots + rm.slots) Q (F0 m (pc + 3) ls (v.toList ++ rest)))
    (kx : ∀ (q : Addr) (E : String) (ce : Cell) (g : hv_M) (H1 : Heap) (locs1 : List Loc), thr E g → hv_I D CL b0 g s.heap H1 locs1 → H1[q]? = some ce → ce.vm = .none → s.vm.findClass E = some ce.cls → xh_W p l e R s m args below meth c H1 locs1 (cells + rm.cells) (slots + rm.slots) Q (F0 m pc ls rest) q) :
    W p l e R s m args below meth c H locs cells slots Q (F0 m pc ls (As.reverse ++ .ref b :: rest)) :=
  hv_call (xh_runIN hE.1 hE.2.1 hml hE.2.2.1 hM (hv_cb hE cd hR) hy1 (hE.2.2.2.1 _ hlink) (hE.2.2.2.1 _ hinst) (hE.2.2.2.1 _ cd.1) hv_blind (hv_pre hK hI (.ref b :: As)) hn hsize (lv_room hW9) hdg hf) hI kr kx
/-- the words of a throw, out of the tables' -/
theorem hv_thr {cls text : String} {names : List String} {ik is ic : Nat} (hw : ∀ w ∈ Cond.classLink own ik cls :: Cond.initialized cls :: Bundle.ownAtoms own ic cls names, w ∈ TS ∨ w ∈ TX) (hs : (own, is, text) ∈ ST) : ∀ U : State, Fa D cA U →
    (∀ (A : Array Value) (w : Cond), w ∈ Cond.classLink own ik cls :: Cond.initialized cls :: Bundle.ownAtoms own ic cls names → w.before A U = true) ∧ ∃ sa : Nat, vk_R own is text sa U :=
  fun U h => ⟨fun A w hw9 => (hw w hw9).elim (h.1 A w) (h.2.2.1 A w), h.2.2.2.1 _ hs⟩
end HVC
