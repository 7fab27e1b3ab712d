/-! ===== contracts over pictures ===== -/
/-- Fa holds here, and wherever the tables are warmer and the cells below b0 the same -/
def hv_KK (b0 : Nat) (Fa : State → Prop) (U : State) : Prop := ∀ V : State, U.WarmedH V.vm → (∀ q : Nat, q < b0 → V.heap[q]? = U.heap[q]?) → Fa V
theorem hv_KK.go {b0 : Nat} {Fa : State → Prop} {s t : State} (h : hv_KK b0 Fa s) (hW : s.WarmedH t.vm) (hq : ∀ q : Nat, q < b0 → t.heap[q]? = s.heap[q]?) : hv_KK b0 Fa t :=
  fun V h1 h2 => h V (State.WarmedH.trans hW h1) (fun q hq9 => (h2 q hq9).trans (hq q hq9))
theorem hv_KK.here {b0 : Nat} {Fa : State → Prop} {s : State} (h : hv_KK b0 Fa s) : Fa s := h s (State.WarmedH.refl s) (fun _ _ => rfl)
/-- a state that a method may be called in -/
def hv_U (b0 : Nat) (Fa : State → Prop) (D : va_G) (cl : List vw_C) (f : hv_M) (U : State) : Prop :=
  (∀ (a : Nat) (x : va_E), f a = some x → va_at D cl (a, x) U.heap) ∧ (∀ (a : Nat) (x : va_E), f a = some x → b0 ≤ a) ∧ b0 ≤ U.heap.size ∧ hv_KK b0 Fa U
def hv_Pc (b0 : Nat) (Fa : State → Prop) (D : va_G) (cl : List vw_C) (As : List Value) (f : hv_M) : Array Value → State → Prop := fun v U => v = As.toArray ∧ hv_U b0 Fa D cl f U
/-- how it ends: it returns v, the picture being g, with post; or it throws an E, with thr -/
def hv_Q (b0 : Nat) (Fa : State → Prop) (D : va_G) (cl : List vw_C) (post : Option Value → hv_M → Prop) (thr : String → hv_M → Prop) : State → Outcome → State → Prop := fun st o t =>
  ((∃ (v : Option Value) (g : hv_M), o = .returned v ∧ post v g ∧ hv_U b0 Fa D cl g t) ∨ ∃ (q : Addr) (E : String) (ce : Cell) (g : hv_M), o = .threw q ∧ thr E g ∧ hv_U b0 Fa D cl g t ∧ t.heap[q]? = some ce ∧ ce.vm = .none ∧ st.vm.findClass E = some ce.cls) ∧
    st.heap.size ≤ t.heap.size ∧ ∀ q : Nat, q < b0 → t.heap[q]? = st.heap[q]?
def hv_Met (l : Launch) (y : MethodName) (ws : List Cond) (rm : Room) (b0 : Nat) (Fa : State → Prop) (D : va_G) (cl : List vw_C) (As : List Value) (f : hv_M) (post : Option Value → hv_M → Prop) (thr : String → hv_M → Prop) : Prop :=
  xh_Met l y ws rm (hv_Pc b0 Fa D cl As f) (hv_Q b0 Fa D cl post thr) (fun q => b0 ≤ q)
theorem hv_blind {b0 : Nat} {Fa : State → Prop} {D : va_G} {cl : List vw_C} {As : List Value} {f : hv_M} : FrameBlind (hv_Pc b0 Fa D cl As f) := fun a U g mk h => ⟨h.1, h.2.1, h.2.2.1, h.2.2.2.1, fun V h1 h2 => h.2.2.2.2 V h1 h2⟩
theorem hv_U.start {b0 : Nat} {Fa : State → Prop} {D : va_G} {cl : List vw_C} {f : hv_M} {s : State} (h : hv_U b0 Fa D cl f s) : hv_I D cl b0 f s.heap s.heap [] := ⟨h.1, h.2.1, h.2.2.1, va_S.rf⟩
theorem hv_I.below {D : va_G} {cl : List vw_C} {b0 : Nat} {f : hv_M} {H0 H : Heap} {locs : List Loc} (h : hv_I D cl b0 f H0 H locs) : ∀ q : Nat, q < b0 → H[q]? = H0[q]? := fun q hq => h.2.2.2.2.1 q (Nat.lt_of_lt_of_le hq h.2.2.1) (Nat.not_le.mpr hq)
theorem hv_I.U {D : va_G} {cl : List vw_C} {b0 : Nat} {Fa : State → Prop} {f : hv_M} {s t : State} {H : Heap} {locs : List Loc} (h : hv_I D cl b0 f s.heap H locs) (hK : hv_KK b0 Fa s) (ht : t.heap = H) (hW : s.WarmedH t.vm) : hv_U b0 Fa D cl f t :=
  ⟨fun a x ha => by rw [ht]; exact h.1 a x ha, h.2.1, by rw [ht]; exact Nat.le_trans h.2.2.1 h.2.2.2.1, hK.go hW (fun q hq => by rw [ht]; exact h.below q hq)⟩
theorem hv_I.ret {D : va_G} {cl : List vw_C} {b0 : Nat} {Fa : State → Prop} {f : hv_M} {s t : State} {H : Heap} {locs : List Loc} {post : Option Value → hv_M → Prop} {thr : String → hv_M → Prop} {v : Option Value} (h : hv_I D cl b0 f s.heap H locs) (hK : hv_KK b0 Fa s) (hp : post v f) (ht : t.heap = H) (hW : s.WarmedH t.vm) : hv_Q b0 Fa D cl post thr s (.returned v) t :=
  ⟨Or.inl ⟨v, f, rfl, hp, h.U hK ht hW⟩, by rw [ht]; exact h.2.2.2.1, fun q hq => by rw [ht]; exact h.below q hq⟩
section HVB
variable {p : Program} {l : Launch} {e : Env} {R : Room} {s : State} {m : MethodId} {args : Array Value} {below : List Frame} {meth : Method} {c : Code} {H : Heap} {locs : List Loc} {cells slots : Nat} {Q : State → Prop}
variable {cc : ByteArray} {pc : Nat} {ls : Array Slot} {rest st0 : List Value} {D : va_G} {cl : List vw_C} {b0 mc ms : Nat} {Fa : State → Prop} {f : hv_M} {post : Option Value → hv_M → Prop} {thr : String → hv_M → Prop} {own : String} {Ts : List Cond} {tys : List (ClassId × FieldType)}
theorem hv_iret (hE : hv_E p c cc s m args own Ts D cl tys) (hr : meth.sig.returnType = some .int) (hlocks : meth.locks = false) (hI : hv_I D cl b0 f s.heap H locs) (hK : hv_KK b0 Fa s) {v : Int32} (hp : post (some (.int v)) f) (hc : cells ≤ mc) (hs : slots ≤ ms) (hd : decode cc pc = .ok (.ireturn, 1)) :
    W p l e R s m args below meth c H locs cells slots (xh_MQ below (hv_Q b0 Fa D cl post thr) s mc ms (fun q => b0 ≤ q)) (F0 m pc ls [.int v]) :=
  xh_ret hc hs (W.iret hE.1 hE.2.1 hr (fun t ht hW => hI.ret hK hp ht hW) hI.2.2.2.2.2 hd hlocks)
theorem hv_zret (hE : hv_E p c cc s m args own Ts D cl tys) (hr : meth.sig.returnType = some .boolean) (hlocks : meth.locks = false) (hI : hv_I D cl b0 f s.heap H locs) (hK : hv_KK b0 Fa s) {v : Int32} (hn : narrow .boolean (.int v) = .int v) (hp : post (some (.int v)) f) (hc : cells ≤ mc) (hs : slots ≤ ms) (hd : decode cc pc = .ok (.ireturn, 1)) :
    W p l e R s m args below meth c H locs cells slots (xh_MQ below (hv_Q b0 Fa D cl post thr) s mc ms (fun q => b0 ≤ q)) (F0 m pc ls [.int v]) :=
  xh_ret hc hs (W.zret hE.1 hE.2.1 hr hn (fun t ht hW => hI.ret hK hp ht hW) hI.2.2.2.2.2 hd hlocks)
theorem hv_vret (hE : hv_E p c cc s m args own Ts D cl tys) (hr : meth.sig.returnType = none) (hlocks : meth.locks = false) (hI : hv_I D cl b0 f s.heap H locs) (hK : hv_KK b0 Fa s) (hp : post none f) (hc : cells ≤ mc) (hs : slots ≤ ms) (hd : decode cc pc = .ok (.return_, 1)) :
    W p l e R s m args below meth c H locs cells slots (xh_MQ below (hv_Q b0 Fa D cl post thr) s mc ms (fun q => b0 ≤ q)) (F0 m pc ls []) :=
  xh_ret hc hs (W.vret hE.1 hE.2.1 hr (fun t ht hW => hI.ret hK hp ht hW) hI.2.2.2.2.2 hd hlocks)
theorem hv_aret (hE : hv_E p c cc s m args own Ts D cl tys) {rt : FieldType} (hr : meth.sig.returnType = some rt) (hrt : (∃ n, rt = .object n) ∨ ∃ t, rt = .array t) (hlocks : meth.locks = false) (hI : hv_I D cl b0 f s.heap H locs) (hK : hv_KK b0 Fa s) {v : Value} (hv : v = .null ∨ ∃ a, v = .ref a) (hp : post (some v) f) (hc : cells ≤ mc) (hs : slots ≤ ms) (hd : decode cc pc = .ok (.areturn, 1)) :
    W p l e R s m args below meth c H locs cells slots (xh_MQ below (hv_Q b0 Fa D cl post thr) s mc ms (fun q => b0 ≤ q)) (F0 m pc ls [v]) :=
  xh_ret hc hs (W.aret hE.1 hE.2.1 hr hrt hv (fun t ht hW => hI.ret hK hp ht hW) hI.2.2.2.2.2 hd hlocks)
theorem hv_lret (hE : hv_E p c cc s m args own Ts D cl tys) (hr : meth.sig.returnType = some .long) (hlocks : meth.locks = false) (hI : hv_I D cl b0 f s.heap H locs) (hK : hv_KK b0 Fa s) {v : Int64} (hp : post (some (.long v)) f) (hc : cells ≤ mc) (hs : slots ≤ ms) (hd : decode cc pc = .ok (.lreturn, 1)) :
    W p l e R s m args below meth c H locs cells slots (xh_MQ below (hv_Q b0 Fa D cl post thr) s mc ms (fun q => b0 ≤ q)) (F0 m pc ls [.long v]) :=
  xh_ret hc hs (W.lret hE.1 hE.2.1 hr (fun t ht hW => hI.ret hK hp ht hW) hI.2.2.2.2.2 hd hlocks)
/-- what was thrown in a callee leaves this method too -/
theorem hv_out (hout : c.exceptionTable.toList = []) (hlocks : meth.locks = false) (hI : hv_I D cl b0 f s.heap H locs) (hK : hv_KK b0 Fa s) {q : Addr} {E : String} {ce : Cell} (hce : H[q]? = some ce) (hv : ce.vm = .none) (hcl : s.vm.findClass E = some ce.cls) (hp : thr E f) (hc : cells ≤ mc) (hs : slots ≤ ms) :
    xh_W p l e R s m args below meth c H locs cells slots (xh_MQ below (hv_Q b0 Fa D cl post thr) s mc ms (fun q => b0 ≤ q)) (F0 m pc ls rest) q :=
  xh_out hout hlocks (fun t ht hW => ⟨Or.inr ⟨q, E, ce, f, rfl, hp, hI.U hK ht hW, by rw [ht]; exact hce, hv, hcl⟩, by rw [ht]; exact hI.2.2.2.1, fun q hq => by rw [ht]; exact hI.below q hq⟩) hI.2.2.2.2.2 hc hs
/-- throw new E("text") -/
theorem hv_throw (hE : hv_E p c cc s m args own Ts D cl tys) (hl : l.stackTraces = false) {cls text : String} {names : List String} {ik is ic : Nat} (hcls : Bundle.fit cls = true) (hnames : ∀ n ∈ names, Bundle.fit n = true) (hI : hv_I D cl b0 f s.heap H locs) (hK : hv_KK b0 Fa s)
    (hF : ∀ U : State, Fa U → (∀ (A : Array Value) (w : Cond), w ∈ Cond.classLink own ik cls :: Cond.initialized cls :: Bundle.ownAtoms own ic cls names → w.before A U = true) ∧ ∃ sa : Nat, vk_R own is text sa U) (hsize : ls.size = c.maxLocals)
    (d0 : decode cc pc = .ok (.new ik, 3)) (d3 : decode cc (pc + 3) = .ok (.dup, 1)) (d4 : decode cc (pc + 4) = .ok (.ldc is, 2)) (d6 : decode cc (pc + 6) = .ok (.invokespecial ic, 3)) (d9 : decode cc (pc + 9) = .ok (.athrow, 1))
    (hout : c.exceptionTable.toList = []) (hRf : names.length + 3 < R.frames) (hRl : (rest.map fun v => v.category).sum + (13 * (names.length + 1) + 43) ≤ R.locals) (hlocks : meth.locks = false) (hp : thr cls f) (hc : cells + 1 ≤ mc) (hs : slots + 6 ≤ ms) (hmc : mc ≤ R.cells) (hms : ms ≤ R.slots) :
    W p l e R s m args below meth c H locs cells slots (xh_MQ below (hv_Q b0 Fa D cl post thr) s mc ms (fun q => b0 ≤ q)) (F0 m pc ls rest) := by
  refine xh_throw hE.1 hE.2.1 hl hE.2.2.1 hcls hnames (fun U hW hq => hF U (hK U hW hq)) hI.below hsize d0 d3 d4 d6 d9 hout hRf hRl hlocks (fun t q ce hW hz hk hq hce hv hcl => ?_) hI.2.2.2.2.2 hc hs hmc hms
  have hk0 : ∀ q : Nat, q < b0 → t.heap[q]? = s.heap[q]? := fun q hq => by
    have h9 : q < H.size := Nat.lt_of_lt_of_le hq (Nat.le_trans hI.2.2.1 hI.2.2.2.1)
    rw [hk q h9]; exact hI.below q hq
  refine ⟨Or.inr ⟨q, cls, ce, f, rfl, hp, ⟨fun a x ha => (hI.1 a x ha).kept (hk a (hI.1 a x ha).lt), hI.2.1, Nat.le_trans (Nat.le_trans hI.2.2.1 hI.2.2.2.1) hz, hK.go hW hk0⟩, hce, hv, hcl⟩, Nat.le_trans hI.2.2.2.1 hz, hk0⟩
/-- behind a call: it has returned, or thrown -/
theorem hv_call {rm : Room} (hr : xh_Run p l e R s m args below meth c H locs cells slots (F0 m pc ls st0) rest rm (hv_Q b0 Fa D cl post thr) (fun q => b0 ≤ q)) (hI : hv_I D cl b0 f s.heap H locs)
    (kr : ∀ (v : Option Value) (g : hv_M) (H1 : Heap) (locs1 : List Loc), post v g → hv_I D cl b0 g s.heap H1 locs1 → W p l e R s m args below meth c H1 locs1 (cells + rm.cells) (slots + rm.slots) Q (F0 m (pc + 3) ls (v.toList ++ rest)))
    (kx : ∀ (q : Addr) (E : String) (ce : Cell) (g : hv_M) (H1 : Heap) (locs1 : List Loc), thr E g → hv_I D cl b0 g s.heap H1 locs1 → H1[q]? = some ce → ce.vm = .none → s.vm.findClass E = some ce.cls → xh_W p l e R s m args below meth c H1 locs1 (cells + rm.cells) (slots + rm.slots) Q (F0 m pc ls rest) q) :
    W p l e R s m args below meth c H locs cells slots Q (F0 m pc ls st0) := by
  intro T hT X
  obtain ⟨o, st, t, V, L, hst, hWs, XV, e1, e2, hL, ⟨hq, hz, hk⟩, hsteps⟩ := hr T hT X
  have mk : ∀ g : hv_M, hv_U b0 Fa D cl g t → hv_I D cl b0 g s.heap V.heap (locs ++ L) := fun g hU => by
    refine ⟨fun a x ha => by rw [e1]; exact hU.1 a x ha, hU.2.1, hI.2.2.1, ?_, ?_, ?_⟩
    · rw [e1]
      exact Nat.le_trans hI.2.2.2.1 (by rw [← hst]; exact hz)
    · intro q _ hq2
      have hq3 : q < b0 := Nat.not_le.mp hq2
      rw [e1, hk q hq3, hst]
      exact hI.below q hq3
    · intro z hz2
      rcases List.mem_append.mp hz2 with h | h
      · exact hI.2.2.2.2.2 z h
      · exact hL z h
  rcases hq with ⟨v, g, rfl, hp, hU⟩ | ⟨q, E, ce, g, rfl, hp, hU, hce, hcv, hcl⟩
  · obtain ⟨t2, a1, b1⟩ := kr v g V.heap (locs ++ L) hp (mk g hU) V rfl XV
    exact ⟨t2, hsteps.trans a1, b1⟩
  · have hcl' : s.vm.findClass E = some ce.cls := by
      rw [hWs.alike.findClass] at hcl
      exact hcl
    obtain ⟨t2, a1, b1⟩ := kx q E ce g V.heap (locs ++ L) hp (mk g hU) (by rw [e1]; exact hce) hcv hcl' V rfl XV
    exact ⟨t2, hsteps.trans a1, b1⟩
end HVB
