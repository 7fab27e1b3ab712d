/-! ===== calls with more on the stack ===== -/
theorem lv_room12 {m : MethodId} {pc : Nat} {ls : Array Slot} {rest st : List Value} (h : (st.map fun v => v.category).sum ≤ 12) : 2 * (F0 m pc ls rest).monitorRoom + (st.map fun v => v.category).sum ≤ 12 := by
  show 2 * 0 + _ ≤ 12
  omega
def xh_CB12 (R : Room) (s : State) (y : MethodName) (bytes : ByteArray) (maxL : Nat) (ret : Option FieldType) (hh : List (Nat × Nat × Nat × Nat)) (ws : List Cond) (rm : Room) (n : Nat) : Prop :=
  rm.frames + 1 ≤ R.frames ∧ 12 + (maxL + 11) + rm.locals ≤ R.locals ∧ (∀ w ∈ ws, ∀ (a' : Array Value) (U : State), s.WarmedH U.vm → w.before a' U = true) ∧ (∀ (a' : Array Value) (U : State), s.WarmedH U.vm → (Cond.codeWith y bytes maxL ret hh).before a' U = true) ∧
  (∀ (a' : Array Value) (U : State), s.WarmedH U.vm → (Cond.initialized y.cls).before a' U = true) ∧ (y.cls ≠ "java/lang/invoke/MethodHandle" ∧ y.cls ≠ "java/lang/invoke/VarHandle") ∧ (∀ sig, parseMethodDescriptor y.desc = some sig → n = sig.parameters.length)
section XHX
variable {p : Program} {l : Launch} {e : Env} {R : Room} {s : State} {m : MethodId} {args : Array Value} {below : List Frame} {meth : Method} {c : Code} {H : Heap} {locs : List Loc} {cells slots : Nat}
variable {y : MethodName} {ws : List Cond} {rm : Room} {Pc : Array Value → State → Prop} {Qc : State → Outcome → State → Prop} {free : Addr → Prop} {bytes cc : ByteArray} {maxL nL n index pc : Nat} {ret : Option FieldType} {hh : List (Nat × Nat × Nat × Nat)} {own host C : String} {b : Addr} {As rest : List Value} {ls : Array Slot}
theorem xh_runV12 (hx : p.tables.exec = Jvm.exec) (hb : c.code = cc) (hml : c.maxLocals = nL) (hown : s.vm.findClass own = some m.cls) (hM : xh_Met l y ws rm Pc Qc free) (cb : xh_CB12 R s y bytes maxL ret hh ws rm n)
    (hlink : (Cond.methodLink own index y).before args s = true) (hinst : (Cond.instanceMethod y).before args s = true) (hsel : (Cond.selects C y y).before args s = true) (hbl : FrameBlind Pc)
    (hrecv : ∃ cellB : Cell, H[b]? = some cellB ∧ cellB.vm.isStatics = false ∧ s.vm.findClass C = some cellB.cls) (hPc : ∀ U : State, U.heap = H → s.WarmedH U.vm → Pc (Value.ref b :: As).toArray U)
    (hn : As.length = n) (hsize : ls.size = nL) (hW9 : 2 * (F0 m pc ls rest).monitorRoom + (rest.map fun v => v.category).sum ≤ 12) (hdg : decode cc pc = .ok (.invokevirtual index, 3)) (hf : cells + rm.cells ≤ R.cells ∧ slots + rm.slots ≤ R.slots) :
    xh_Run p l e R s m args below meth c H locs cells slots (F0 m pc ls (As.reverse ++ .ref b :: rest)) rest rm Qc free := by
  intro T hT X
  obtain ⟨hfr, hlo, hws, hcw, hini, hy, hlen⟩ := cb
  obtain ⟨mk, methM, hnamed, hmethM, hstM, habM⟩ := Cond.instanceMethod_spec hinst
  obtain ⟨m9, meth9, c9, hn9, hm9, -, -, -, -, -, -, hsigM⟩ := Cond.codeWith_spec (hcw args s (State.WarmedH.refl s))
  cases hnamed.symm.trans hn9
  cases hmethM.symm.trans hm9
  obtain ⟨c2, r2, m2, q1, q2, q3, q4, kP, hkP, hkPi⟩ := Cond.selects_spec hsel
  obtain ⟨cellB, hcB, hoB, hclB⟩ := hrecv
  cases hclB.symm.trans q1
  cases (State.methodFound?_of_named hnamed hy).symm.trans q2
  cases hnamed.symm.trans q3
  have hselP : selectMethod e.platform s.vm cellB.cls mk = .method mk := by rw [Launch.admits_selectMethod X.admits]; exact q4
  have hdg' : decode c.code pc = .ok (.invokevirtual index, 3) := by rw [hb]; exact hdg
  obtain ⟨vm₁, X₁, hstep₁⟩ := X.invokevirtual hx hown hlink hnamed hmethM hstM hkP hkPi hy (a := b) (cell := cellB) (by rw [hT]; exact hcB) (fun z h => by rw [h] at hoB; cases hoB) hselP hmethM habM hkP hkPi
    (g := F0 m pc ls (As.reverse ++ .ref b :: rest)) rfl (argsL := As) (rest := rest) (hn.trans (hlen _ hsigM)) rfl hdg'
  obtain ⟨o, t, V, L, XV, e1, e2, hL, hq, hst⟩ := xh_back hM X₁ (g := F0 m pc ls rest) (W9 := 12) (a := (Value.ref b :: As).toArray) rfl (hsize.trans hml.symm) hdg' hW9 (X₁.named hnamed) (fun w hw => hws w hw _ _ X₁.warmed) (hcw _ _ X₁.warmed) (hini _ _ X₁.warmed) hfr hlo hf.1 hf.2
    (hbl _ _ _ _ (hPc (T.setVm vm₁) hT X₁.warmed))
  exact ⟨o, (T.setVm vm₁).calling (F0 m pc ls rest) mk (Value.ref b :: As).toArray, t, V, L, hT, X₁.warmed, XV, e1, e2, hL, hq, hstep₁ _ fun acts => by rw [doInvoke_state]; exact hst⟩
end XHX
section HVX
variable {p : Program} {l : Launch} {e : Env} {R : Room} {s : State} {m : MethodId} {args : Array Value} {below : List Frame} {meth : Method} {c : Code} {H : Heap} {locs : List Loc} {cells slots : Nat} {Q : State → Prop}
variable {cc bytes : ByteArray} {pc nL maxL n index : Nat} {ls : Array Slot} {rest : List Value} {D : va_G} {cA : Nat → ClassId} {b0 : Nat} {f : hv_M} {post : Option Value → hv_M → Prop} {thr : String → hv_M → Prop} {own host C : String} {y : MethodName} {ret : Option FieldType} {rm : Room} {As : List Value} {b ci : Nat} {fs : List Value} {r : vw_C}
theorem hv_cb12 (hE : hv_E p c cc s m args own TS D CL (TY cA)) (cd : hv_cd y bytes maxL ret n) (hR : rm.frames + 1 ≤ R.frames ∧ 12 + (maxL + 11) + rm.locals ≤ R.locals) : xh_CB12 R s y bytes maxL ret [] [Cond.code y bytes maxL ret] rm n := by
  obtain ⟨h1, h2, h3, h4, h5⟩ := cd
  have w1 := hv_good (w := Cond.code y bytes maxL ret) rfl (hE.2.2.2.1 _ h1)
  have w2 := hv_good (w := Cond.initialized y.cls) rfl (hE.2.2.2.1 _ h2)
  refine ⟨hR.1, hR.2, fun w hw => ?_, fun a' U hW => xh_cw (w1 a' U hW), w2, ⟨h3, h4⟩, fun sig h => ?_⟩
  · rw [List.mem_singleton.mp hw]; exact w1
  · rw [h] at h5
    exact (Option.some.inj h5).symm
theorem hv_V12 (hE : hv_E p c cc s m args own TS D CL (TY cA)) (hml : c.maxLocals = nL) (hK : hv_KK b0 (Fa D cA) s) (hI : hv_I D CL b0 f s.heap H locs) (hM : hv_Met l y [Cond.code y bytes maxL ret] rm b0 (Fa D cA) D CL (.ref b :: As) f post thr) (cd : hv_cd y bytes maxL ret n) (hlink : Cond.methodLink own index y ∈ TS) (hinst : Cond.instanceMethod y ∈ TS) (hsel : Cond.selects r.1 y y ∈ TS)
    (he : f b = some (.inr (ci, fs))) (hc : CL[ci]? = some r)
    (hn : As.length = n) (hsize : ls.size = nL) (hW9 : (rest.map fun v => v.category).sum ≤ 12) (hdg : decode cc pc = .ok (.invokevirtual index, 3)) (hR : rm.frames + 1 ≤ R.frames ∧ 12 + (maxL + 11) + rm.locals ≤ R.locals) (hf : cells + rm.cells ≤ R.cells ∧ slots + rm.slots ≤ R.slots)
    (kr : ∀ (v : Option Value) (g : hv_M) (H1 : Heap) (locs1 : List Loc), post v g → hv_I D CL b0 g s.heap H1 locs1 → W p l e R s m args below meth c H1 locs1 (cells + rm.cells) (slots + rm.slots) Q (F0 m (pc + 3) ls (v.toList ++ rest)))
    (kx : ∀ (q : Addr) (E : String) (ce : Cell) (g : hv_M) (H1 : Heap) (locs1 : List Loc), thr E g → hv_I D CL b0 g s.heap H1 locs1 → H1[q]? = some ce → ce.vm = .none → s.vm.findClass E = some ce.cls → xh_W p l e R s m args below meth c H1 locs1 (cells + rm.cells) (slots + rm.slots) Q (F0 m pc ls rest) q) :
    W p l e R s m args below meth c H locs cells slots Q (F0 m pc ls (As.reverse ++ .ref b :: rest)) :=
  hv_call (xh_runV12 hE.1 hE.2.1 hml hE.2.2.1 hM (hv_cb12 hE cd hR) (hE.2.2.2.1 _ hlink) (hE.2.2.2.1 _ hinst) (hE.2.2.2.1 _ hsel) hv_blind (hv_recv hE hI he hc) (hv_pre hK hI (.ref b :: As)) hn hsize (lv_room12 hW9) hdg hf) hI kr kx
end HVX
section HVY
variable {p : Program} {l : Launch} {e : Env} {R : Room} {s : State} {m : MethodId} {args : Array Value} {below : List Frame} {meth : Method} {c : Code} {H : Heap} {locs : List Loc} {cells slots : Nat} {Q : State → Prop}
variable {cc bytes : ByteArray} {pc nL maxL n index : Nat} {ls : Array Slot} {rest : List Value} {D : va_G} {cA : Nat → ClassId} {b0 : Nat} {f : hv_M} {v0 : Option Value} {own host C : String} {y : MethodName} {ret : Option FieldType} {rm : Room} {As : List Value} {b ci : Nat} {fs : List Value} {r : vw_C}
theorem hv_Vp12 (hE : hv_E p c cc s m args own TS D CL (TY cA)) (hml : c.maxLocals = nL) (hK : hv_KK b0 (Fa D cA) s) (hI : hv_I D CL b0 f s.heap H locs) (hM : hv_Met l y [Cond.code y bytes maxL ret] rm b0 (Fa D cA) D CL (.ref b :: As) f (PV f v0) NX) (cd : hv_cd y bytes maxL ret n) (hlink : Cond.methodLink own index y ∈ TS) (hinst : Cond.instanceMethod y ∈ TS) (hsel : Cond.selects r.1 y y ∈ TS) (he : f b = some (.inr (ci, fs))) (hc : CL[ci]? = some r)
    (hc0 : rm.cells = 0) (hs0 : rm.slots = 0) (hn : As.length = n) (hsize : ls.size = nL) (hW9 : (rest.map fun v => v.category).sum ≤ 12) (hdg : decode cc pc = .ok (.invokevirtual index, 3)) (hR : rm.frames + 1 ≤ R.frames ∧ 12 + (maxL + 11) + rm.locals ≤ R.locals) (hf : cells ≤ R.cells ∧ slots ≤ R.slots)
    (kr : ∀ (H1 : Heap) (locs1 : List Loc), hv_I D CL b0 f s.heap H1 locs1 → W p l e R s m args below meth c H1 locs1 cells slots Q (F0 m (pc + 3) ls (v0.toList ++ rest))) :
    W p l e R s m args below meth c H locs cells slots Q (F0 m pc ls (As.reverse ++ .ref b :: rest)) := by
  refine hv_V12 hE hml hK hI hM cd hlink hinst hsel he hc hn hsize hW9 hdg hR (by rw [hc0, hs0]; exact hf) (fun v g H1 locs1 hp hI1 => ?_) (fun q E ce g H1 locs1 hp => hp.elim)
  obtain ⟨hv, hg⟩ := hp
  rw [hg] at hI1
  rw [hc0, hs0, hv]
  exact kr H1 locs1 hI1
end HVY
