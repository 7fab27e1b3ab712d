/-! ===== calls that only answer ===== -/
abbrev PV (f : hv_M) (v0 : Option Value) : Option Value → hv_M → Prop := fun v g => v = v0 ∧ g = f
abbrev NX : String → hv_M → Prop := fun _ _ => False
/-- one kind of exception, nothing changed -/
abbrev TX1 (E0 : String) (f : hv_M) (cond : Prop) : String → hv_M → Prop := fun E g => E = E0 ∧ g = f ∧ cond
section HVD
variable {p : Program} {l : Launch} {e : Env} {R : Room} {s : State} {m : MethodId} {args : Array Value} {below : List Frame} {meth : Method} {c : Code} {H : Heap} {locs : List Loc} {cells slots : Nat} {Q : State → Prop}
variable {cc bytes : ByteArray} {pc nL maxL n index : Nat} {ls : Array Slot} {rest : List Value} {D : va_G} {cA : Nat → ClassId} {b0 : Nat} {f : hv_M} {v0 : Option Value} {own host C : String} {y : MethodName} {ret : Option FieldType} {rm : Room} {As : List Value} {b ci : Nat} {fs : List Value} {r : vw_C}
theorem hv_Sp (hE : hv_E p c cc s m args own TS D CL (TY cA)) (hml : c.maxLocals = nL) (hK : hv_KK b0 (Fa D cA) s) (hI : hv_I D CL b0 f s.heap H locs) (hM : hv_Met l y [Cond.code y bytes maxL ret] rm b0 (Fa D cA) D CL As f (PV f v0) NX) (cd : hv_cd y bytes maxL ret n) (hlink : Cond.methodLink own index y ∈ TS) (hstat : Cond.static y ∈ TS)
    (hc0 : rm.cells = 0) (hs0 : rm.slots = 0) (hn : As.length = n) (hsize : ls.size = nL) (hW9 : (rest.map fun v => v.category).sum ≤ 8) (hdg : decode cc pc = .ok (.invokestatic index, 3)) (hR : rm.frames + 1 ≤ R.frames ∧ 8 + (maxL + 11) + rm.locals ≤ R.locals) (hf : cells ≤ R.cells ∧ slots ≤ R.slots)
    (kr : ∀ (H1 : Heap) (locs1 : List Loc), hv_I D CL b0 f s.heap H1 locs1 → W p l e R s m args below meth c H1 locs1 cells slots Q (F0 m (pc + 3) ls (v0.toList ++ rest))) :
    W p l e R s m args below meth c H locs cells slots Q (F0 m pc ls (As.reverse ++ rest)) := by
  refine hv_S hE hml hK hI hM cd hlink hstat hn hsize hW9 hdg hR (by rw [hc0, hs0]; exact hf) (fun v g H1 locs1 hp hI1 => ?_) (fun q E ce g H1 locs1 hp => hp.elim)
  obtain ⟨hv, hg⟩ := hp
  rw [hg] at hI1
  rw [hc0, hs0, hv]
  exact kr H1 locs1 hI1
theorem hv_SNp (hE : hv_E p c cc s m args own TS D CL (TY cA)) (hml : c.maxLocals = nL) (hK : hv_KK b0 (Fa D cA) s) (hI : hv_I D CL b0 f s.heap H locs) (hM : hv_Met l y [Cond.code y bytes maxL ret] rm b0 (Fa D cA) D CL As f (PV f v0) NX) (cd : hv_cd y bytes maxL ret n) (hlink : Cond.methodLinkNest own index y host ∈ TS) (hstat : Cond.static y ∈ TS)
    (hc0 : rm.cells = 0) (hs0 : rm.slots = 0) (hn : As.length = n) (hsize : ls.size = nL) (hW9 : (rest.map fun v => v.category).sum ≤ 8) (hdg : decode cc pc = .ok (.invokestatic index, 3)) (hR : rm.frames + 1 ≤ R.frames ∧ 8 + (maxL + 11) + rm.locals ≤ R.locals) (hf : cells ≤ R.cells ∧ slots ≤ R.slots)
    (kr : ∀ (H1 : Heap) (locs1 : List Loc), hv_I D CL b0 f s.heap H1 locs1 → W p l e R s m args below meth c H1 locs1 cells slots Q (F0 m (pc + 3) ls (v0.toList ++ rest))) :
    W p l e R s m args below meth c H locs cells slots Q (F0 m pc ls (As.reverse ++ rest)) := by
  refine hv_SN hE hml hK hI hM cd hlink hstat hn hsize hW9 hdg hR (by rw [hc0, hs0]; exact hf) (fun v g H1 locs1 hp hI1 => ?_) (fun q E ce g H1 locs1 hp => hp.elim)
  obtain ⟨hv, hg⟩ := hp
  rw [hg] at hI1
  rw [hc0, hs0, hv]
  exact kr H1 locs1 hI1
theorem hv_Vp (hE : hv_E p c cc s m args own TS D CL (TY cA)) (hml : c.maxLocals = nL) (hK : hv_KK b0 (Fa D cA) s) (hI : hv_I D CL b0 f s.heap H locs) (hM : hv_Met l y [Cond.code y bytes maxL ret] rm b0 (Fa D cA) D CL (.ref b :: As) f (PV f v0) NX) (cd : hv_cd y bytes maxL ret n) (hlink : Cond.methodLink own index y ∈ TS) (hinst : Cond.instanceMethod y ∈ TS) (hsel : Cond.selects r.1 y y ∈ TS) (he : f b = some (.inr (ci, fs))) (hc : CL[ci]? = some r)
    (hc0 : rm.cells = 0) (hs0 : rm.slots = 0) (hn : As.length = n) (hsize : ls.size = nL) (hW9 : (rest.map fun v => v.category).sum ≤ 8) (hdg : decode cc pc = .ok (.invokevirtual index, 3)) (hR : rm.frames + 1 ≤ R.frames ∧ 8 + (maxL + 11) + rm.locals ≤ R.locals) (hf : cells ≤ R.cells ∧ slots ≤ R.slots)
    (kr : ∀ (H1 : Heap) (locs1 : List Loc), hv_I D CL b0 f s.heap H1 locs1 → W p l e R s m args below meth c H1 locs1 cells slots Q (F0 m (pc + 3) ls (v0.toList ++ rest))) :
    W p l e R s m args below meth c H locs cells slots Q (F0 m pc ls (As.reverse ++ .ref b :: rest)) := by
  refine hv_V hE hml hK hI hM cd hlink hinst hsel he hc hn hsize hW9 hdg hR (by rw [hc0, hs0]; exact hf) (fun v g H1 locs1 hp hI1 => ?_) (fun q E ce g H1 locs1 hp => hp.elim)
  obtain ⟨hv, hg⟩ := hp
  rw [hg] at hI1
  rw [hc0, hs0, hv]
  exact kr H1 locs1 hI1
theorem hv_VNp (hE : hv_E p c cc s m args own TS D CL (TY cA)) (hml : c.maxLocals = nL) (hK : hv_KK b0 (Fa D cA) s) (hI : hv_I D CL b0 f s.heap H locs) (hM : hv_Met l y [Cond.code y bytes maxL ret] rm b0 (Fa D cA) D CL (.ref b :: As) f (PV f v0) NX) (cd : hv_cd y bytes maxL ret n) (hlink : Cond.methodLinkNest own index y host ∈ TS) (hinst : Cond.instanceMethod y ∈ TS) (hsel : Cond.selects r.1 y y ∈ TS) (he : f b = some (.inr (ci, fs))) (hc : CL[ci]? = some r)
    (hc0 : rm.cells = 0) (hs0 : rm.slots = 0) (hn : As.length = n) (hsize : ls.size = nL) (hW9 : (rest.map fun v => v.category).sum ≤ 8) (hdg : decode cc pc = .ok (.invokevirtual index, 3)) (hR : rm.frames + 1 ≤ R.frames ∧ 8 + (maxL + 11) + rm.locals ≤ R.locals) (hf : cells ≤ R.cells ∧ slots ≤ R.slots)
    (kr : ∀ (H1 : Heap) (locs1 : List Loc), hv_I D CL b0 f s.heap H1 locs1 → W p l e R s m args below meth c H1 locs1 cells slots Q (F0 m (pc + 3) ls (v0.toList ++ rest))) :
    W p l e R s m args below meth c H locs cells slots Q (F0 m pc ls (As.reverse ++ .ref b :: rest)) := by
  refine hv_VN hE hml hK hI hM cd hlink hinst hsel he hc hn hsize hW9 hdg hR (by rw [hc0, hs0]; exact hf) (fun v g H1 locs1 hp hI1 => ?_) (fun q E ce g H1 locs1 hp => hp.elim)
  obtain ⟨hv, hg⟩ := hp
  rw [hg] at hI1
  rw [hc0, hs0, hv]
  exact kr H1 locs1 hI1
end HVD
/-! ===== numbers ===== -/
def b2i (b : Bool) : Int32 := if b = true then 1 else 0
theorem b2i_nar (b : Bool) : narrow .boolean (.int (b2i b)) = .int (b2i b) := by cases b <;> rfl
theorem b2i_ne {b : Bool} : b2i b = 0 ↔ b = false := by cases b <;> decide
def sz (x : Int64) : Bool := decide (-1073741823 ≤ x) && decide (x ≤ 1073741823)
def szr (x : Int32) : Bool := decide (x = -1073741824) || sz x.toInt64
def ord4 (x : Int32) : Bool := decide (0 ≤ x) && decide (x < 4)
def kn (x r : Int32) : Int32 := if x = -1073741824 then r else x
theorem hv_ne {f : hv_M} {a b : Nat} {x y : va_E} (ha : f a = some x) (hb : f b = some y) (h : x ≠ y) : a ≠ b := fun q => by
  subst q
  exact h (Option.some.inj (ha.symm.trans hb))
theorem hv_nn {f : hv_M} {a b : Nat} {x : va_E} (ha : f a = some x) (hb : f b = none) : a ≠ b := fun q => by
  subst q
  rw [hb] at ha
  cases ha
theorem hv_up_up (f : hv_M) (a : Nat) (x y : va_E) : hv_up (hv_up f a x) a y = hv_up f a y := by
  funext z
  simp only [hv_up]
  by_cases h : z = a <;> simp [h]
theorem nI_cl {n : Nat} (h : n < 2 ^ 31) : (nI n).toNatClampNeg = n := nI_clamp h
theorem nI_lt100 {n : Nat} (h : n < 2 ^ 31) : nI n < 100 ↔ n < 100 := nI_ltI (b := 100) h (by decide)
/-! ===== the words of the four throws ===== -/
abbrev NMS : List String := ["java/lang/RuntimeException", "java/lang/Exception"]
theorem tw_of {L : List Cond} (h : ∀ w ∈ L, (w ∈ lw_tbl ∧ hv_st w = true) ∨ w ∈ TX) : ∀ w ∈ L, w ∈ TS ∨ w ∈ TX := fun w hw => (h w hw).elim (fun q => Or.inl (List.mem_filter.mpr q)) Or.inr
set_option maxRecDepth 100000 in
theorem tw_IAE : ∀ w ∈ Cond.classLink "BoxPacker" 36 "java/lang/IllegalArgumentException" :: Cond.initialized "java/lang/IllegalArgumentException" :: Bundle.ownAtoms "BoxPacker" 40 "java/lang/IllegalArgumentException" NMS, w ∈ TS ∨ w ∈ TX := tw_of (by decide +kernel)
set_option maxRecDepth 100000 in
theorem tw_UOE : ∀ w ∈ Cond.classLink "BoxPacker" 97 "java/lang/UnsupportedOperationException" :: Cond.initialized "java/lang/UnsupportedOperationException" :: Bundle.ownAtoms "BoxPacker" 101 "java/lang/UnsupportedOperationException" NMS, w ∈ TS ∨ w ∈ TX := tw_of (by decide +kernel)
set_option maxRecDepth 100000 in
theorem tw_IOB : ∀ w ∈ Cond.classLink "BoxPacker" 136 "java/lang/IndexOutOfBoundsException" :: Cond.initialized "java/lang/IndexOutOfBoundsException" :: Bundle.ownAtoms "BoxPacker" 140 "java/lang/IndexOutOfBoundsException" NMS, w ∈ TS ∨ w ∈ TX := tw_of (by decide +kernel)
set_option maxRecDepth 100000 in
theorem tw_ISE : ∀ w ∈ Cond.classLink "BoxPacker" 208 "java/lang/IllegalStateException" :: Cond.initialized "java/lang/IllegalStateException" :: Bundle.ownAtoms "BoxPacker" 212 "java/lang/IllegalStateException" NMS, w ∈ TS ∨ w ∈ TX := tw_of (by decide +kernel)
