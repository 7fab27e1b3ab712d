/-! ===== outcomes: a method returns or throws; one contract says both ===== -/
/-- what is left behind a call, however it ended: warmer tables, the written slots L, at most mc cells of ms slots more -/
def xh_End (st t : State) (mc ms : Nat) (free : Addr → Prop) : Prop :=
  ∃ L : List Loc, st.WarmedH t.vm ∧ st.sameButNew ({ t with vm := st.vm } : State) L mc ms ∧ ∀ z ∈ L, free z.base
/-- the contract: from Pc the method comes to an end o with Qc -/
def xh_Met (l : Launch) (y : MethodName) (ws : List Cond) (rm : Room) (Pc : Array Value → State → Prop) (Qc : State → Outcome → State → Prop) (free : Addr → Prop) : Prop :=
  MetFree l y (headSpec ws rm) Pc (fun _ _ _ _ _ => True) (fun _ st o t => Qc st o t ∧ xh_End st t rm.cells rm.slots free)
/-- what a body owes at its end -/
def xh_MQ (below : List Frame) (Qc : State → Outcome → State → Prop) (s : State) (mc ms : Nat) (free : Addr → Prop) : State → Prop := fun t =>
  ∃ o, t.status = .running ∧ Ended t below o ∧ Qc s o t ∧ xh_End s t mc ms free
section XHA
variable {l : Launch} {y : MethodName} {ws ws' : List Cond} {rm : Room} {Pc : Array Value → State → Prop} {Qc : State → Outcome → State → Prop} {free : Addr → Prop} {cc : ByteArray} {maxL : Nat} {ret : Option FieldType}
/-- a body without handlers -/
theorem xh_Met.ofW (hy : plainName y.cls = true) (hw : ws = Cond.code y cc maxL ret :: ws')
    (body : ∀ p e s m args below meth c s₁, BodyLoose p l y (headSpec ws rm) cc maxL ret e s m args below meth c s₁ → c.maxLocals = maxL → c.exceptionTable.toList = [] → Pc args s →
      W p l e rm s m args below meth c s.heap [] 0 0 (xh_MQ below Qc s rm.cells rm.slots free) (entryFrame m args maxL)) : xh_Met l y ws rm Pc Qc free := by
  refine MetFree.of_bodyS (code := cc) (maxLocals := maxL) (ret := ret) hy ?_ ?_
  · intro args s m h hn
    obtain ⟨meth, c, h1, h2, h3, h4, h5, h6, -, -⟩ := Cond.code_spec hn (atoms_spec (ws := ws) h _ (by rw [hw]; exact List.mem_cons_self))
    exact ⟨meth, c, h1, h2, h3, h4, h5, h6⟩
  · intro p e s m args below meth c s₁ B hml hP _
    have hh0 : s₁.heap = s.heap := by rw [B.state]; rfl
    have hx : c.exceptionTable.isEmpty = true := B.noHandlers (atoms_spec (ws := ws) B.pre _ (by rw [hw]; exact List.mem_cons_self))
    have hx2 : c.exceptionTable.toList = [] := by
      have h0 : c.exceptionTable.size = 0 := by simpa [Array.isEmpty] using hx
      exact List.eq_nil_of_length_eq_zero (by simpa using h0)
    obtain ⟨t, a1, o, b1, b2, b3⟩ := body p e s m args below meth c s₁ B hml hx2 hP s₁ hh0 (Stand.of_body B)
    exact ⟨t, o, a1, b1, b2, b3⟩
/-- a body with the handlers hh -/
theorem xh_Met.ofH {hh : List (Nat × Nat × Nat × Nat)} (hy : plainName y.cls = true) (hw : ws = Cond.codeWith y cc maxL ret hh :: ws')
    (body : ∀ p e s m args below meth c s₁, BodyLoose p l y (headSpec ws rm) cc maxL ret e s m args below meth c s₁ → c.maxLocals = maxL → c.exceptionTable.toList.map (fun h => (h.startPc, h.endPc, h.handlerPc, h.catchType)) = hh → Pc args s →
      W p l e rm s m args below meth c s.heap [] 0 0 (xh_MQ below Qc s rm.cells rm.slots free) (entryFrame m args maxL)) : xh_Met l y ws rm Pc Qc free := by
  refine MetFree.of_bodyS (code := cc) (maxLocals := maxL) (ret := ret) hy ?_ ?_
  · intro args s m h hn
    obtain ⟨m9, meth, c, hn9, h1, h2, h3, h4, -, h5, h6, -⟩ := Cond.codeWith_spec (atoms_spec (ws := ws) h _ (by rw [hw]; exact List.mem_cons_self))
    cases hn.symm.trans hn9
    exact ⟨meth, c, h1, h2, h3, h4, h5, h6⟩
  · intro p e s m args below meth c s₁ B hml hP _
    have hh0 : s₁.heap = s.heap := by rw [B.state]; rfl
    obtain ⟨m9, meth9, c9, hn9, h1, h2, -, -, h7, -⟩ := Cond.codeWith_spec (atoms_spec (ws := ws) B.pre _ (by rw [hw]; exact List.mem_cons_self))
    cases B.named.symm.trans hn9
    cases B.method.symm.trans h1
    cases (Stand.of_body B).code.symm.trans h2
    obtain ⟨t, a1, o, b1, b2, b3⟩ := body p e s m args below meth c s₁ B hml h7 hP s₁ hh0 (Stand.of_body B)
    exact ⟨t, o, a1, b1, b2, b3⟩
end XHA
section XHB
variable {p : Program} {l : Launch} {e : Env} {R : Room} {s : State} {m : MethodId} {args : Array Value} {below : List Frame} {meth : Method} {c : Code} {H : Heap} {locs : List Loc} {cells slots : Nat} {Q : State → Prop}
variable {Qc : State → Outcome → State → Prop} {free : Addr → Prop} {mc ms : Nat}
/-- the kit's returns, under this end -/
theorem xh_ret {g : JFrame} (hc : cells ≤ mc) (hs : slots ≤ ms) (k : W p l e R s m args below meth c H locs cells slots (MQ below (fun _ st o t => Qc st o t) args s cells slots free) g) : W p l e R s m args below meth c H locs cells slots (xh_MQ below Qc s mc ms free) g := by
  intro T hT X
  obtain ⟨t, a1, o, b1, b2, b3, L, ⟨-, hW, hsm⟩, hL⟩ := k T hT X
  exact ⟨t, a1, o, b1, b2, b3, L, hW, hsm.mono hc hs, hL⟩
/-- the frame g stands, and q is being thrown over it -/
def xh_W (p : Program) (l : Launch) (e : Env) (R : Room) (s : State) (m : MethodId) (args : Array Value) (below : List Frame) (meth : Method) (c : Code) (H : Heap) (locs : List Loc) (cells slots : Nat) (Q : State → Prop) (g : JFrame) (q : Addr) : Prop :=
  ∀ T : State, T.heap = H → Stand p l e R s m args below meth c T locs cells slots → ∃ t, Steps p.tables e below ((T.setTop g).pushFrame (.throwing q)) t ∧ Q t
theorem xh_W.widen {g : JFrame} {q : Addr} {k n : Nat} (h1 : cells ≤ k) (h2 : slots ≤ n) (kk : xh_W p l e R s m args below meth c H locs k n Q g q) : xh_W p l e R s m args below meth c H locs cells slots Q g q := fun T hT X => kk T hT (stand_widen X h1 h2)
/-- nothing here catches it: the method ends with it -/
theorem xh_out {pc : Nat} {ls : Array Slot} {rest : List Value} {q : Addr} (hout : c.exceptionTable.toList = []) (hlocks : meth.locks = false) (hq : ∀ t : State, t.heap = H → s.WarmedH t.vm → Qc s (.threw q) t) (hf : ∀ z ∈ locs, free z.base) (hc : cells ≤ mc) (hs : slots ≤ ms) :
    xh_W p l e R s m args below meth c H locs cells slots (xh_MQ below Qc s mc ms free) (F0 m pc ls rest) q := by
  intro T hT X
  obtain ⟨st1, hrun, hend, hW, hsm⟩ := X.leaveThrown q (g := F0 m pc ls rest) rfl rfl rfl (by rw [hout]; intro x hx; cases hx) hlocks
  exact ⟨_, st1, .threw q, hrun, hend, hq _ hT hW, locs, hW, hsm.mono hc hs, hf⟩
end XHB
section XHC
variable {l : Launch} {R : Room} {p : Program} {e : Env} {below : List Frame} {s : State} {sargs : Array Value} {m : MethodId} {meth : Method} {c : Code} {U : State} {Ls : List Loc} {c0 s0 : Nat}
variable {y : MethodName} {ws : List Cond} {rm : Room} {Pc : Array Value → State → Prop} {Qc : State → Outcome → State → Prop} {free : Addr → Prop} {bytes : ByteArray} {maxL : Nat} {ret : Option FieldType} {hh : List (Nat × Nat × Nat × Nat)}
/-- where the caller stands behind the call: at the next instruction with the answer, or with q thrown over it -/
def xh_to (V : State) (g : JFrame) (len : Nat) : Outcome → State
  | .returned v => V.setTop { g with pc := g.pc + len, stack := v.toList ++ g.stack }
  | .threw q => (V.setTop g).pushFrame (.throwing q)
/-- a contract pays a call -/
theorem xh_back {g : JFrame} {ig : Instr} {len W9 : Nat} {mk : MethodId} {a : Array Value} (hM : xh_Met l y ws rm Pc Qc free) (X : Stand p l e R s m sargs below meth c U Ls c0 s0)
    (hg : g.method = m) (hsize : g.locals.size = c.maxLocals) (hdg : decode c.code g.pc = .ok (ig, len)) (hW9 : 2 * g.monitorRoom + (g.stack.map fun v => v.category).sum ≤ W9) (hn : U.methodNamed? y = some mk)
    (hws : ∀ w ∈ ws, w.before a U = true) (hcode : (Cond.codeWith y bytes maxL ret hh).before a U = true) (hini : (Cond.initialized y.cls).before a U = true)
    (hframes : rm.frames + 1 ≤ R.frames) (hlocals : W9 + (maxL + 11) + rm.locals ≤ R.locals) (hcells : c0 + rm.cells ≤ R.cells) (hslots : s0 + rm.slots ≤ R.slots) (hPc : Pc a (U.calling g mk a)) :
    ∃ (o : Outcome) (t V : State) (L : List Loc), Stand p l e R s m sargs below meth c V (Ls ++ L) (c0 + rm.cells) (s0 + rm.slots) ∧ V.heap = t.heap ∧ V.vm = t.vm ∧ (∀ z ∈ L, free z.base) ∧ Qc (U.calling g mk a) o t ∧
      Steps p.tables e below (doInvoke e (U.setTop g) [] mk a).1 (xh_to V g len o) := by
  obtain ⟨m9, methY, cY, hn9, hmY, hcY, -, hlY, -⟩ := Cond.codeWith_spec hcode
  cases hn.symm.trans hn9
  obtain ⟨kY, hkY, -⟩ := className_of_methodNamed hn
  have hinitY : kY.init = .initialized := Cond.initialized_spec (findClass_of_methodNamed hn) hkY hini
  subst hg
  have h : At U g.method c below := X.here
  have happ : (headSpec ws rm).appliesLoose y e.platform (U.calling g mk a) = true :=
    Spec.appliesLoose_calling (g := g) h hdg hn hkY hinitY (X.room_calling (g := g) (R' := rm) hsize hmY hcY hframes (by rw [hlY]; omega) hcells hslots) (atoms_intro hws)
  obtain ⟨mid, hmid⟩ := h.above
  have hfr : (U.setTop g).frames = (.java g :: mid) ++ below := by rw [State.frames_setTop' g h.top, hmid]; rfl
  obtain ⟨o, s₂, hsteps, -, hend, hq, L, hWm, hsm, hL⟩ := Steps.callFree hM p X.admits X.cas X.clock (acts := []) hfr happ hPc trivial
  rw [State.frames_setTop' g h.top] at hend
  obtain ⟨g₀, hg0⟩ := Option.isSome_iff_exists.mp h.top
  obtain ⟨r, hr⟩ := State.topJava?_eq_some.mp hg0
  obtain ⟨th, hth, -⟩ := State.frames_cons hr
  have hW' : U.WarmedH s₂.vm := hWm
  have hsm' : (U.calling g mk a).sameButNew ({ s₂ with vm := (U.calling g mk a).vm } : State) L rm.cells rm.slots := hsm
  obtain ⟨e2, q2⟩ := hsm'
  obtain ⟨V, hV⟩ : ∃ V : State, V = ({ U with heap := s₂.heap, slotsUsed := s₂.slotsUsed } : State).setVm s₂.vm := ⟨_, rfl⟩
  have hVfr : V.frames = .java g₀ :: r := by rw [hV]; exact hr
  have e3 : s₂ = V.setFrames s₂.frames := by
    have e4 : s₂ = ({ s₂ with vm := (U.calling g mk a).vm } : State).setVm s₂.vm := rfl
    rw [e2] at e4
    refine e4.trans ?_
    rw [hV, State.calling_eq h.top, State.setFrames_setFrames]
    rfl
  have hsame : U.sameButNew (V.setVm U.vm) L rm.cells rm.slots := by
    refine ⟨?_, ?_⟩
    · rw [hV]
      show ({ U with heap := s₂.heap, slotsUsed := s₂.slotsUsed } : State) = { U.setFrames U.frames with heap := s₂.heap, slotsUsed := s₂.slotsUsed }
      rw [State.setFrames_self hth]
    · rw [hV]
      exact q2
  have XV : Stand p l e R s g.method sargs below meth c V (Ls ++ L) (c0 + rm.cells) (s0 + rm.slots) :=
    X.moved (by rw [hV]; exact (X.here.setHeapUsed s₂.heap s₂.slotsUsed).setVm hW'.alike) (by rw [hV]; exact X.tail) (by rw [hV]; rfl) (by rw [hV]; rfl) (by rw [hV]; exact hW') hsame
  refine ⟨o, s₂, V, L, XV, by rw [hV]; rfl, by rw [hV]; rfl, hL, hq, ?_⟩
  cases o with
  | returned v =>
    obtain ⟨c₂, i₂, len₂, hc₂, hd₂, hf₂⟩ := hend
    have hcc : c₂ = c := by
      have h1 : s₂.code? g.method = U.code? g.method := by rw [State.code?_eq, State.code?_eq, hW'.alike.method?]
      exact Option.some.inj (hc₂.symm.trans (h1.trans h.code))
    subst hcc
    have hlen : len₂ = len := by rw [hdg] at hd₂; cases hd₂; rfl
    subst hlen
    show Steps p.tables e below _ (V.setTop { g with pc := g.pc + len₂, stack := v.toList ++ g.stack })
    rw [State.setTop_of_frames _ hVfr, show r = U.frames.tail by rw [hr]; rfl, ← hf₂, ← e3]
    exact hsteps
  | threw q =>
    have hf₂ : s₂.frames = .throwing q :: .java g :: U.frames.tail := hend
    show Steps p.tables e below _ ((V.setTop g).pushFrame (.throwing q))
    rw [State.pushFrame, State.frames_setTop _ hVfr, State.setTop_of_frames _ hVfr, State.setFrames_setFrames, show r = U.frames.tail by rw [hr]; rfl, ← hf₂, ← e3]
    exact hsteps
end XHC
