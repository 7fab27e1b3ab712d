/-! ===== calls of methods that return or throw ===== -/
theorem xh_cw {y : MethodName} {b : ByteArray} {n : Nat} {r : Option FieldType} {a : Array Value} {s : State} (h : (Cond.code y b n r).before a s = true) : (Cond.codeWith y b n r []).before a s = true := by
  unfold Cond.before Cond.holds at h ⊢
  rw [← Cond.code_iff_codeWith_nil]
  exact h
/-- what a caller must know of the callee -/
def xh_CB (R : Room) (s : State) (y : MethodName) (bytes : ByteArray) (maxL : Nat) (ret : Option FieldType) (hh : List (Nat × Nat × Nat × Nat)) (ws : List Cond) (rm : Room) (n : Nat) : Prop :=
  rm.frames + 1 ≤ R.frames ∧ 8 + (maxL + 11) + rm.locals ≤ R.locals ∧ (∀ w ∈ ws, ∀ (a' : Array Value) (U : State), s.WarmedH U.vm → w.before a' U = true) ∧ (∀ (a' : Array Value) (U : State), s.WarmedH U.vm → (Cond.codeWith y bytes maxL ret hh).before a' U = true) ∧
  (∀ (a' : Array Value) (U : State), s.WarmedH U.vm → (Cond.initialized y.cls).before a' U = true) ∧ (y.cls ≠ "java/lang/invoke/MethodHandle" ∧ y.cls ≠ "java/lang/invoke/VarHandle") ∧ (∀ sig, parseMethodDescriptor y.desc = some sig → n = sig.parameters.length)
/-- words that stay, in warmer tables -/
theorem xh_warm {Ts : List Cond} {args : Array Value} {s : State} (hgood : ∀ w ∈ Ts, goodWord w = true) (hts : ∀ w ∈ Ts, w.before args s = true) : ∀ w ∈ Ts, ∀ (a' : Array Value) (U : State), s.WarmedH U.vm → w.before a' U = true :=
  fun w hw a' U hW => word_at hW (good_of_word (hgood w hw)) (hts w hw)
theorem xh_CB.code {R : Room} {s : State} {args : Array Value} {y : MethodName} {bytes : ByteArray} {maxL : Nat} {ret : Option FieldType} {Ts : List Cond} {rm : Room} {n : Nat} (hgood : ∀ w ∈ Ts, goodWord w = true) (hts : ∀ w ∈ Ts, w.before args s = true)
    (hc : Cond.code y bytes maxL ret ∈ Ts) (hi : Cond.initialized y.cls ∈ Ts) (hd : y.cls ≠ "java/lang/invoke/MethodHandle" ∧ y.cls ≠ "java/lang/invoke/VarHandle" ∧ (parseMethodDescriptor y.desc).map (fun d => d.parameters.length) = some n)
    (hR : rm.frames + 1 ≤ R.frames ∧ 8 + (maxL + 11) + rm.locals ≤ R.locals) : xh_CB R s y bytes maxL ret [] (Cond.code y bytes maxL ret :: Ts) rm n := by
  have hw := xh_warm hgood hts
  refine ⟨hR.1, hR.2, fun w h => ?_, fun a' U hW => xh_cw (hw _ hc a' U hW), hw _ hi, ⟨hd.1, hd.2.1⟩, fun sig h => ?_⟩
  · rcases List.mem_cons.mp h with rfl | h
    · exact hw _ hc
    · exact hw _ h
  · have h2 := hd.2.2
    rw [h] at h2
    exact (Option.some.inj h2).symm
/-- the call at g, whose arguments lie over rest -/
def xh_Run (p : Program) (l : Launch) (e : Env) (R : Room) (s : State) (m : MethodId) (args : Array Value) (below : List Frame) (meth : Method) (c : Code) (H : Heap) (locs : List Loc) (cells slots : Nat) (g : JFrame) (rest : List Value) (rm : Room) (Qc : State → Outcome → State → Prop) (free : Addr → Prop) : Prop :=
  ∀ T : State, T.heap = H → Stand p l e R s m args below meth c T locs cells slots → ∃ (o : Outcome) (st t V : State) (L : List Loc), st.heap = H ∧ s.WarmedH st.vm ∧ Stand p l e R s m args below meth c V (locs ++ L) (cells + rm.cells) (slots + rm.slots) ∧ V.heap = t.heap ∧ V.vm = t.vm ∧ (∀ z ∈ L, free z.base) ∧ Qc st o t ∧
    Steps p.tables e below (T.setTop g) (xh_to V { g with stack := rest } 3 o)
section XHD
variable {p : Program} {l : Launch} {e : Env} {R : Room} {s : State} {m : MethodId} {args : Array Value} {below : List Frame} {meth : Method} {c : Code} {H : Heap} {locs : List Loc} {cells slots : Nat}
variable {y : MethodName} {ws : List Cond} {rm : Room} {Pc : Array Value → State → Prop} {Qc : State → Outcome → State → Prop} {free : Addr → Prop} {bytes cc : ByteArray} {maxL nL n index pc : Nat} {ret : Option FieldType} {hh : List (Nat × Nat × Nat × Nat)} {own host C : String} {b : Addr} {As rest : List Value} {ls : Array Slot}
/-- a virtual call, the method being the named one -/
theorem xh_runV (hx : p.tables.exec = Jvm.exec) (hb : c.code = cc) (hml : c.maxLocals = nL) (hown : s.vm.findClass own = some m.cls) (hM : xh_Met l y ws rm Pc Qc free) (cb : xh_CB R s y bytes maxL ret hh ws rm n)
    (hlink : (Cond.methodLink own index y).before args s = true) (hinst : (Cond.instanceMethod y).before args s = true) (hsel : (Cond.selects C y y).before args s = true) (hbl : FrameBlind Pc)
    (hrecv : ∃ cellB : Cell, H[b]? = some cellB ∧ cellB.vm.isStatics = false ∧ s.vm.findClass C = some cellB.cls) (hPc : ∀ U : State, U.heap = H → s.WarmedH U.vm → Pc (Value.ref b :: As).toArray U)
    (hn : As.length = n) (hsize : ls.size = nL) (hW9 : 2 * (F0 m pc ls rest).monitorRoom + (rest.map fun v => v.category).sum ≤ 8) (hdg : decode cc pc = .ok (.invokevirtual index, 3)) (hf : cells + rm.cells ≤ R.cells ∧ slots + rm.slots ≤ R.slots) :
    xh_Run p l e R s m args below meth c H locs cells slots (F0 m pc ls (As.reverse ++ .ref b :: rest)) rest rm Qc free := by
  intro T hT X
  obtain ⟨hfr, hlo, hws, hcw, hini, hy, hlen⟩ := cb
  obtain ⟨mk, methM, hnamed, hmethM, hstM, habM⟩ := Cond.instanceMethod_spec hinst
  obtain ⟨m9, meth9, c9, hn9, hm9, -, -, -, -, -, -, hsigM⟩ := Cond.codeWith_spec (hcw args s (State.WarmedH.refl s))
  cases hnamed.symm.trans hn9
  cases hmethM.symm.trans hm9
  obtain ⟨c2, r2, m2, q1, q2, q3, q4, kP, hkP, hkPi⟩ := Cond.selects_spec hsel
  obtain ⟨cellB, hcB, hoB, hclB⟩ := hrecv
  cases hclB.symm.trans q1
  cases (State.methodFound?_of_named hnamed hy).symm.trans q2
  cases hnamed.symm.trans q3
  have hselP : selectMethod e.platform s.vm cellB.cls mk = .method mk := by rw [Launch.admits_selectMethod X.admits]; exact q4
  have hdg' : decode c.code pc = .ok (.invokevirtual index, 3) := by rw [hb]; exact hdg
  obtain ⟨vm₁, X₁, hstep₁⟩ := X.invokevirtual hx hown hlink hnamed hmethM hstM hkP hkPi hy (a := b) (cell := cellB) (by rw [hT]; exact hcB) (fun z h => by rw [h] at hoB; cases hoB) hselP hmethM habM hkP hkPi
    (g := F0 m pc ls (As.reverse ++ .ref b :: rest)) rfl (argsL := As) (rest := rest) (hn.trans (hlen _ hsigM)) rfl hdg'
  obtain ⟨o, t, V, L, XV, e1, e2, hL, hq, hst⟩ := xh_back hM X₁ (g := F0 m pc ls rest) (W9 := 8) (a := (Value.ref b :: As).toArray) rfl (hsize.trans hml.symm) hdg' hW9 (X₁.named hnamed) (fun w hw => hws w hw _ _ X₁.warmed) (hcw _ _ X₁.warmed) (hini _ _ X₁.warmed) hfr hlo hf.1 hf.2
    (hbl _ _ _ _ (hPc (T.setVm vm₁) hT X₁.warmed))
  exact ⟨o, (T.setVm vm₁).calling (F0 m pc ls rest) mk (Value.ref b :: As).toArray, t, V, L, hT, X₁.warmed, XV, e1, e2, hL, hq, hstep₁ _ fun acts => by rw [doInvoke_state]; exact hst⟩
/-- a virtual call of a nest mate's private method -/
theorem xh_runVN (hx : p.tables.exec = Jvm.exec) (hb : c.code = cc) (hml : c.maxLocals = nL) (hown : s.vm.findClass own = some m.cls) (hM : xh_Met l y ws rm Pc Qc free) (cb : xh_CB R s y bytes maxL ret hh ws rm n)
    (hlink : (Cond.methodLinkNest own index y host).before args s = true) (hinst : (Cond.instanceMethod y).before args s = true) (hsel : (Cond.selects C y y).before args s = true) (hbl : FrameBlind Pc)
    (hrecv : ∃ cellB : Cell, H[b]? = some cellB ∧ cellB.vm.isStatics = false ∧ s.vm.findClass C = some cellB.cls) (hPc : ∀ U : State, U.heap = H → s.WarmedH U.vm → Pc (Value.ref b :: As).toArray U)
    (hn : As.length = n) (hsize : ls.size = nL) (hW9 : 2 * (F0 m pc ls rest).monitorRoom + (rest.map fun v => v.category).sum ≤ 8) (hdg : decode cc pc = .ok (.invokevirtual index, 3)) (hf : cells + rm.cells ≤ R.cells ∧ slots + rm.slots ≤ R.slots) :
    xh_Run p l e R s m args below meth c H locs cells slots (F0 m pc ls (As.reverse ++ .ref b :: rest)) rest rm Qc free := by
  intro T hT X
  obtain ⟨hfr, hlo, hws, hcw, hini, hy, hlen⟩ := cb
  obtain ⟨mk, methM, hnamed, hmethM, hstM, habM⟩ := Cond.instanceMethod_spec hinst
  obtain ⟨m9, meth9, c9, hn9, hm9, -, -, -, -, -, -, hsigM⟩ := Cond.codeWith_spec (hcw args s (State.WarmedH.refl s))
  cases hnamed.symm.trans hn9
  cases hmethM.symm.trans hm9
  obtain ⟨c2, r2, m2, q1, q2, q3, q4, kP, hkP, hkPi⟩ := Cond.selects_spec hsel
  obtain ⟨cellB, hcB, hoB, hclB⟩ := hrecv
  cases hclB.symm.trans q1
  cases (State.methodFound?_of_named hnamed hy).symm.trans q2
  cases hnamed.symm.trans q3
  have hselP : selectMethod e.platform s.vm cellB.cls mk = .method mk := by rw [Launch.admits_selectMethod X.admits]; exact q4
  have hdg' : decode c.code pc = .ok (.invokevirtual index, 3) := by rw [hb]; exact hdg
  obtain ⟨vm₁, X₁, hstep₁⟩ := X.invokevirtualNest hx hown hlink hnamed hmethM hstM hkP hkPi hy (a := b) (cell := cellB) (by rw [hT]; exact hcB) (fun z h => by rw [h] at hoB; cases hoB) hselP hmethM habM hkP hkPi
    (g := F0 m pc ls (As.reverse ++ .ref b :: rest)) rfl (argsL := As) (rest := rest) (hn.trans (hlen _ hsigM)) rfl hdg'
  obtain ⟨o, t, V, L, XV, e1, e2, hL, hq, hst⟩ := xh_back hM X₁ (g := F0 m pc ls rest) (W9 := 8) (a := (Value.ref b :: As).toArray) rfl (hsize.trans hml.symm) hdg' hW9 (X₁.named hnamed) (fun w hw => hws w hw _ _ X₁.warmed) (hcw _ _ X₁.warmed) (hini _ _ X₁.warmed) hfr hlo hf.1 hf.2
    (hbl _ _ _ _ (hPc (T.setVm vm₁) hT X₁.warmed))
  exact ⟨o, (T.setVm vm₁).calling (F0 m pc ls rest) mk (Value.ref b :: As).toArray, t, V, L, hT, X₁.warmed, XV, e1, e2, hL, hq, hstep₁ _ fun acts => by rw [doInvoke_state]; exact hst⟩
/-- a static call -/
theorem xh_runS (hx : p.tables.exec = Jvm.exec) (hb : c.code = cc) (hml : c.maxLocals = nL) (hown : s.vm.findClass own = some m.cls) (hM : xh_Met l y ws rm Pc Qc free) (cb : xh_CB R s y bytes maxL ret hh ws rm n)
    (hlink : (Cond.methodLink own index y).before args s = true) (hstat : (Cond.static y).before args s = true) (hbl : FrameBlind Pc) (hPc : ∀ U : State, U.heap = H → s.WarmedH U.vm → Pc As.toArray U)
    (hn : As.length = n) (hsize : ls.size = nL) (hW9 : 2 * (F0 m pc ls rest).monitorRoom + (rest.map fun v => v.category).sum ≤ 8) (hdg : decode cc pc = .ok (.invokestatic index, 3)) (hf : cells + rm.cells ≤ R.cells ∧ slots + rm.slots ≤ R.slots) :
    xh_Run p l e R s m args below meth c H locs cells slots (F0 m pc ls (As.reverse ++ rest)) rest rm Qc free := by
  intro T hT X
  obtain ⟨hfr, hlo, hws, hcw, hini, hy, hlen⟩ := cb
  obtain ⟨mk, methM, cM, hnamed, hmethM, -, -, -, -, -, -, hsigM⟩ := Cond.codeWith_spec (hcw args s (State.WarmedH.refl s))
  have hstatic : methM.isStatic = true := Cond.static_spec hnamed hmethM hstat
  obtain ⟨kP, hkP, -⟩ := className_of_methodNamed hnamed
  have hinitP : kP.init = .initialized := Cond.initialized_spec (findClass_of_methodNamed hnamed) hkP (hini args s (State.WarmedH.refl s))
  have hdg' : decode c.code pc = .ok (.invokestatic index, 3) := by rw [hb]; exact hdg
  obtain ⟨vm₁, X₁, hstep₁⟩ := X.invokestatic hx hown hlink hnamed hmethM hstatic hkP hinitP hy (g := F0 m pc ls (As.reverse ++ rest)) rfl (argsL := As) (rest := rest) (hn.trans (hlen _ hsigM)) rfl hdg'
  obtain ⟨o, t, V, L, XV, e1, e2, hL, hq, hst⟩ := xh_back hM X₁ (g := F0 m pc ls rest) (W9 := 8) (a := As.toArray) rfl (hsize.trans hml.symm) hdg' hW9 (X₁.named hnamed) (fun w hw => hws w hw _ _ X₁.warmed) (hcw _ _ X₁.warmed) (hini _ _ X₁.warmed) hfr hlo hf.1 hf.2
    (hbl _ _ _ _ (hPc (T.setVm vm₁) hT X₁.warmed))
  exact ⟨o, (T.setVm vm₁).calling (F0 m pc ls rest) mk As.toArray, t, V, L, hT, X₁.warmed, XV, e1, e2, hL, hq, hstep₁ _ fun acts => by rw [doInvoke_state]; exact hst⟩
/-- a static call of a nest mate's private method -/
theorem xh_runSN (hx : p.tables.exec = Jvm.exec) (hb : c.code = cc) (hml : c.maxLocals = nL) (hown : s.vm.findClass own = some m.cls) (hM : xh_Met l y ws rm Pc Qc free) (cb : xh_CB R s y bytes maxL ret hh ws rm n)
    (hlink : (Cond.methodLinkNest own index y host).before args s = true) (hstat : (Cond.static y).before args s = true) (hbl : FrameBlind Pc) (hPc : ∀ U : State, U.heap = H → s.WarmedH U.vm → Pc As.toArray U)
    (hn : As.length = n) (hsize : ls.size = nL) (hW9 : 2 * (F0 m pc ls rest).monitorRoom + (rest.map fun v => v.category).sum ≤ 8) (hdg : decode cc pc = .ok (.invokestatic index, 3)) (hf : cells + rm.cells ≤ R.cells ∧ slots + rm.slots ≤ R.slots) :
    xh_Run p l e R s m args below meth c H locs cells slots (F0 m pc ls (As.reverse ++ rest)) rest rm Qc free := by
  intro T hT X
  obtain ⟨hfr, hlo, hws, hcw, hini, hy, hlen⟩ := cb
  obtain ⟨mk, methM, cM, hnamed, hmethM, -, -, -, -, -, -, hsigM⟩ := Cond.codeWith_spec (hcw args s (State.WarmedH.refl s))
  have hstatic : methM.isStatic = true := Cond.static_spec hnamed hmethM hstat
  obtain ⟨kP, hkP, -⟩ := className_of_methodNamed hnamed
  have hinitP : kP.init = .initialized := Cond.initialized_spec (findClass_of_methodNamed hnamed) hkP (hini args s (State.WarmedH.refl s))
  have hdg' : decode c.code pc = .ok (.invokestatic index, 3) := by rw [hb]; exact hdg
  obtain ⟨vm₁, X₁, hstep₁⟩ := X.invokestaticNest hx hown hlink hnamed hmethM hstatic hkP hinitP hy (g := F0 m pc ls (As.reverse ++ rest)) rfl (argsL := As) (rest := rest) (hn.trans (hlen _ hsigM)) rfl hdg'
  obtain ⟨o, t, V, L, XV, e1, e2, hL, hq, hst⟩ := xh_back hM X₁ (g := F0 m pc ls rest) (W9 := 8) (a := As.toArray) rfl (hsize.trans hml.symm) hdg' hW9 (X₁.named hnamed) (fun w hw => hws w hw _ _ X₁.warmed) (hcw _ _ X₁.warmed) (hini _ _ X₁.warmed) hfr hlo hf.1 hf.2
    (hbl _ _ _ _ (hPc (T.setVm vm₁) hT X₁.warmed))
  exact ⟨o, (T.setVm vm₁).calling (F0 m pc ls rest) mk As.toArray, t, V, L, hT, X₁.warmed, XV, e1, e2, hL, hq, hstep₁ _ fun acts => by rw [doInvoke_state]; exact hst⟩
/-- a constructor -/
theorem xh_runI (hx : p.tables.exec = Jvm.exec) (hb : c.code = cc) (hml : c.maxLocals = nL) (hown : s.vm.findClass own = some m.cls) (hM : xh_Met l y ws rm Pc Qc free) (cb : xh_CB R s y bytes maxL none [] ws rm n) (hy1 : y.name = "<init>")
    (hlink : (Cond.methodLink own index y).before args s = true) (hinst : (Cond.instanceMethod y).before args s = true) (hcode : (Cond.code y bytes maxL none).before args s = true) (hbl : FrameBlind Pc) (hPc : ∀ U : State, U.heap = H → s.WarmedH U.vm → Pc (Value.ref b :: As).toArray U)
    (hn : As.length = n) (hsize : ls.size = nL) (hW9 : 2 * (F0 m pc ls rest).monitorRoom + (rest.map fun v => v.category).sum ≤ 8) (hdg : decode cc pc = .ok (.invokespecial index, 3)) (hf : cells + rm.cells ≤ R.cells ∧ slots + rm.slots ≤ R.slots) :
    xh_Run p l e R s m args below meth c H locs cells slots (F0 m pc ls (As.reverse ++ .ref b :: rest)) rest rm Qc free := by
  intro T hT X
  obtain ⟨hfr, hlo, hws, hcw, hini, hy, hlen⟩ := cb
  have hpl : e.platform.magicAccessors = ({} : Platform).magicAccessors := by rw [X.admits.platform]
  have hdg' : decode c.code pc = .ok (.invokespecial index, 3) := by rw [hb]; exact hdg
  obtain ⟨mk, methM, cM, kP, vm₁, hnamed, hmethM, hcodeM, -, hlocalsM, -, hkP, -, hW₁, hstep₁⟩ := Steps.initColdArgs (e := e) X.here hx X.warmed hpl hown hy1 hy hlink hinst hcode (f := F0 m pc ls (As.reverse ++ .ref b :: rest)) rfl (argsL := As) (rest := rest) (a := b) (fun sig h => hn.trans (hlen sig h)) rfl hdg'
  have X₁ := X.noted hW₁
  obtain ⟨o, t, V, L, XV, e1, e2, hL, hq, hst⟩ := xh_back hM X₁ (g := F0 m pc ls rest) (W9 := 8) (a := (Value.ref b :: As).toArray) rfl (hsize.trans hml.symm) hdg' hW9 (X₁.named hnamed) (fun w hw => hws w hw _ _ X₁.warmed) (hcw _ _ X₁.warmed) (hini _ _ X₁.warmed) hfr hlo hf.1 hf.2
    (hbl _ _ _ _ (hPc (T.setVm vm₁) hT X₁.warmed))
  exact ⟨o, (T.setVm vm₁).calling (F0 m pc ls rest) mk (Value.ref b :: As).toArray, t, V, L, hT, X₁.warmed, XV, e1, e2, hL, hq, hstep₁ _ fun acts => by rw [doInvoke_state]; exact hst⟩
/-- a nest mate's private constructor -/
theorem xh_runIN (hx : p.tables.exec = Jvm.exec) (hb : c.code = cc) (hml : c.maxLocals = nL) (hown : s.vm.findClass own = some m.cls) (hM : xh_Met l y ws rm Pc Qc free) (cb : xh_CB R s y bytes maxL none [] ws rm n) (hy1 : y.name = "<init>")
    (hlink : (Cond.methodLinkNest own index y host).before args s = true) (hinst : (Cond.instanceMethod y).before args s = true) (hcode : (Cond.code y bytes maxL none).before args s = true) (hbl : FrameBlind Pc) (hPc : ∀ U : State, U.heap = H → s.WarmedH U.vm → Pc (Value.ref b :: As).toArray U)
    (hn : As.length = n) (hsize : ls.size = nL) (hW9 : 2 * (F0 m pc ls rest).monitorRoom + (rest.map fun v => v.category).sum ≤ 8) (hdg : decode cc pc = .ok (.invokespecial index, 3)) (hf : cells + rm.cells ≤ R.cells ∧ slots + rm.slots ≤ R.slots) :
    xh_Run p l e R s m args below meth c H locs cells slots (F0 m pc ls (As.reverse ++ .ref b :: rest)) rest rm Qc free := by
  intro T hT X
  obtain ⟨hfr, hlo, hws, hcw, hini, hy, hlen⟩ := cb
  have hpl : e.platform.magicAccessors = ({} : Platform).magicAccessors := by rw [X.admits.platform]
  have hdg' : decode c.code pc = .ok (.invokespecial index, 3) := by rw [hb]; exact hdg
  obtain ⟨mk, methM, cM, kP, vm₁, hnamed, hmethM, hcodeM, -, hlocalsM, -, hkP, -, hW₁, hstep₁⟩ := Steps.initColdArgsNest (e := e) X.here hx X.warmed hpl hown hy1 hy hlink hinst hcode (f := F0 m pc ls (As.reverse ++ .ref b :: rest)) rfl (argsL := As) (rest := rest) (a := b) (fun sig h => hn.trans (hlen sig h)) rfl hdg'
  have X₁ := X.noted hW₁
  obtain ⟨o, t, V, L, XV, e1, e2, hL, hq, hst⟩ := xh_back hM X₁ (g := F0 m pc ls rest) (W9 := 8) (a := (Value.ref b :: As).toArray) rfl (hsize.trans hml.symm) hdg' hW9 (X₁.named hnamed) (fun w hw => hws w hw _ _ X₁.warmed) (hcw _ _ X₁.warmed) (hini _ _ X₁.warmed) hfr hlo hf.1 hf.2
    (hbl _ _ _ _ (hPc (T.setVm vm₁) hT X₁.warmed))
  exact ⟨o, (T.setVm vm₁).calling (F0 m pc ls rest) mk (Value.ref b :: As).toArray, t, V, L, hT, X₁.warmed, XV, e1, e2, hL, hq, hstep₁ _ fun acts => by rw [doInvoke_state]; exact hst⟩
end XHD
