/-! ===== casts, Math ===== -/
section HVE
variable {p : Program} {l : Launch} {e : Env} {R : Room} {s : State} {m : MethodId} {args : Array Value} {below : List Frame} {meth : Method} {c : Code} {H : Heap} {locs : List Loc} {cells slots : Nat} {Q : State → Prop}
variable {cc : ByteArray} {pc index ci N a b0 : Nat} {ls : Array Slot} {rest : List Value} {D : va_G} {cA : Nat → ClassId} {f : hv_M} {own C nm : String} {T : u_T} {fs : List Value} {H0 : Heap}
theorem hv_instS (hE : hv_E p c cc s m args own TS D CL (TY cA)) (hI : hv_I D CL b0 f H0 H locs) (he : f a = some (.inr (ci, fs))) (hc : CL[ci]? = some (C, T, N)) (hl : Cond.classLink own index C ∈ TS) (hd : decode cc pc = .ok (.instanceof index, 3))
    (kk : W p l e R s m args below meth c H locs cells slots Q (F0 m (pc + 3) ls (.int 1 :: rest))) : W p l e R s m args below meth c H locs cells slots Q (F0 m pc ls (.ref a :: rest)) :=
  va_instS hE.1 hE.2.1 hE.2.2.1 (hE.2.2.2.1 _ hl) (hE.2.2.2.2.1 ci _ hc).2 (hv_recv hE hI he hc) hd kk
theorem hv_castS (hE : hv_E p c cc s m args own TS D CL (TY cA)) (hI : hv_I D CL b0 f H0 H locs) (he : f a = some (.inr (ci, fs))) (hc : CL[ci]? = some (C, T, N)) (hl : Cond.classLink own index C ∈ TS) (hd : decode cc pc = .ok (.checkcast index, 3))
    (kk : W p l e R s m args below meth c H locs cells slots Q (F0 m (pc + 3) ls (.ref a :: rest))) : W p l e R s m args below meth c H locs cells slots Q (F0 m pc ls (.ref a :: rest)) :=
  va_castS hE.1 hE.2.1 hE.2.2.1 (hE.2.2.2.1 _ hl) (hE.2.2.2.2.1 ci _ hc).2 (hv_recv hE hI he hc) hd kk
theorem hv_instN (hE : hv_E p c cc s m args own TS D CL (TY cA)) (hI : hv_I D CL b0 f H0 H locs) (hK : hv_KK b0 (Fa D cA) s) (he : f a = some (.inr (ci, fs))) (hc : CL[ci]? = some (C, T, N)) (hn : (C, nm) ∈ NC) (hl : Cond.classLink own index nm ∈ TS) (hd : decode cc pc = .ok (.instanceof index, 3))
    (kk : W p l e R s m args below meth c H locs cells slots Q (F0 m (pc + 3) ls (.int 0 :: rest))) : W p l e R s m args below meth c H locs cells slots Q (F0 m pc ls (.ref a :: rest)) :=
  va_instNo hE.1 hE.2.1 hE.2.2.1 (hE.2.2.2.1 _ hl) (hK.here.2.2.2.2 _ hn) (hv_recv hE hI he hc) hd kk
end HVE
/-! ===== what the boxes' methods reckon ===== -/
def mx (x y : Int32) : Int32 := if x < y then y else x
def jsum (x y : Int64) : Option Int32 := if sz (x + y) = true then some (x + y).toInt32 else none
theorem jsum_t {x y : Int64} (h : sz (x + y) = true) : jsum x y = some (x + y).toInt32 := if_pos h
theorem jsum_f {x y : Int64} (h : ¬ sz (x + y) = true) : jsum x y = none := if_neg h
/-- an item as its cell shows it: solid (tag, width, height, depth, inner box, shift) or space (width, stretch, its order, shrink, its order) -/
abbrev It : Type := (Int32 × Int32 × Int32 × Int32 × Option Nat × Int32) ⊕ (Int32 × Int32 × Int32 × Int32 × Int32)
def itE : It → va_E
  | .inl (t, w, h, d, q, z) => .inr (2, [.int t, .int w, .int h, .int d, va_rf q, .int z])
  | .inr (w, a, b, d, z) => .inr (3, [.int w, .int a, .int b, .int d, .int z])
/-- measureAlong from item i on, k items: width, height, depth and places -/
def alongF (iv : Nat → It) : Nat → Nat → Int32 → Int32 → Int32 → (Nat → Int32) → Option (Int32 × Int32 × Int32 × (Nat → Int32))
  | 0, _, w, h, d, gp => some (w, h, d, gp)
  | k + 1, i, w, h, d, gp => match iv i with
    | .inl (_, iw, ih, id9, _, z) => (jsum w.toInt64 (kn iw 0).toInt64).bind fun w1 => (jsum (kn ih 0).toInt64 (-z).toInt64).bind fun h1 => (jsum (kn id9 0).toInt64 z.toInt64).bind fun d1 =>
        alongF iv k (i + 1) w1 (mx h h1) (mx d d1) (upd gp i w)
    | .inr (iw, _, _, _, _) => (jsum w.toInt64 iw.toInt64).bind fun w1 => alongF iv k (i + 1) w1 h d (upd gp i w)
/-- the items of a list lie in the picture -/
def itsAt (f : hv_M) (n : Nat) (gc : Nat → Option Nat) (iv : Nat → It) : Prop := ∀ i, i < n → ∃ q, gc i = some q ∧ f q = some (itE (iv i))
