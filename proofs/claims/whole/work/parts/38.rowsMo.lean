/-! ===== arrays of booleans ===== -/
section HVG
variable {p : Program} {l : Launch} {e : Env} {R : Room} {s : State} {m : MethodId} {args : Array Value} {below : List Frame} {meth : Method} {c : Code} {H : Heap} {locs : List Loc} {cells slots : Nat} {Q : State → Prop}
variable {cc : ByteArray} {pc : Nat} {ls : Array Slot} {rest : List Value} {D : va_G} {cl : List vw_C} {tys : List (ClassId × FieldType)} {Ts : List Cond} {b0 a ci N index : Nat} {f : hv_M} {H0 : Heap} {own host C : String} {T : u_T} {ty : Nat → FieldType} {fs : List Value} {v : Value}
variable {n t0 : Nat} {cA : ClassId} {i : Int32}
theorem hv_zald (hE : hv_E p c cc s m args own Ts D cl tys) (hI : hv_I D cl b0 f H0 H locs) (t0 : Nat) {g : Nat → Int32} (he : f a = some (.inl (cA, n, .inl g))) (ht : tys[t0]? = some (cA, .boolean)) (hin : vp_in i n) (hd : decode cc pc = .ok (.baload, 1))
    (kk : W p l e R s m args below meth c H locs cells slots Q (F0 m (pc + 1) ls (.int (g i.toNatClampNeg) :: rest))) : W p l e R s m args below meth c H locs cells slots Q (F0 m pc ls (.int i :: .ref a :: rest)) :=
  va_zald (D := D) hE.1 hE.2.1 hE.2.2.2.2 (hI.one he) 0 t0 rfl ht hin hd kk
theorem hv_zast (hE : hv_E p c cc s m args own Ts D cl tys) (hI : hv_I D cl b0 f H0 H locs) (t0 : Nat) {g : Nat → Int32} {x : Bool} (he : f a = some (.inl (cA, n, .inl g))) (ht : tys[t0]? = some (cA, .boolean)) (hin : vp_in i n) (hd : decode cc pc = .ok (.bastore, 1))
    (kk : ∀ (H1 : Heap) (locs1 : List Loc), hv_I D cl b0 (hv_up f a (.inl (cA, n, .inl (upd g i.toNatClampNeg (b2i x))))) H0 H1 locs1 → W p l e R s m args below meth c H1 locs1 cells slots Q (F0 m (pc + 1) ls rest)) : W p l e R s m args below meth c H locs cells slots Q (F0 m pc ls (.int (b2i x) :: .int i :: .ref a :: rest)) := by
  obtain ⟨hx, hb, hown, hts, hK⟩ := hE
  refine W.zast hx hb (hI.1 a _ he) ((hK.2 t0 _ ht).1 n (fun j => .int (g j))) (fun q => by cases q) (by show ¬ (i < 0 ∨ (arrV _ _ _).slots.size ≤ _); rw [arrV_size]; exact hin) rfl rfl hd fun H1 e1 z oq => ?_
  refine kk H1 _ (hI.set he ?_ z oq)
  show H1[a]? = some (vp_cell _ _)
  rw [e1, vp_cell_i, vp_cell_i, arrV_store]
  congr 2
  funext q
  by_cases hq : q = i.toNatClampNeg
  · subst hq
    cases x <;> simp [updV, upd] <;> rfl
  · simp [updV, upd, hq]
theorem hv_newZ (hE : hv_E p c cc s m args own Ts D cl tys) (hI : hv_I D cl b0 f H0 H locs) (t0 : Nat) (ht : tys[t0]? = some (cA, .boolean)) (hw : Cond.arrayClass .boolean ∈ Ts) {z : Int32} (hn : ¬ z < 0) (hz : z.toNatClampNeg = n) (hbytes : n * 1 ≤ 536870912) (hcells : cells + 1 ≤ R.cells) (hslots : slots + n ≤ R.slots) (hd : decode cc pc = .ok (.newarray .boolean, 2))
    (kk : ∀ (q : Nat) (H1 : Heap), f q = none → hv_I D cl b0 (hv_up f q (.inl (cA, n, .inl (fun _ => 0)))) H0 H1 locs → W p l e R s m args below meth c H1 locs (cells + 1) (slots + n) Q (F0 m (pc + 2) ls (.ref q :: rest))) : W p l e R s m args below meth c H locs cells slots Q (F0 m pc ls (.int z :: rest)) := by
  obtain ⟨hx, hb, hown, hts, hK⟩ := hE
  refine va_newaK (atype := .boolean) hx hb (hts _ hw) rfl hd rfl hn hz hbytes hcells hslots rfl fun H1 cB e1 z1 o1 hAr hNm => ?_
  have hcB : cB = cA := Option.some.inj (hNm.symm.trans (hK.2 t0 _ ht).2)
  subst hcB
  obtain ⟨hI1, hn1⟩ := hI.push (x := .inl (cB, n, .inl (fun _ => 0))) (by show H1[H.size]? = some (vp_cell _ _); rw [e1]; rfl) z1 o1
  exact kk _ H1 hn1 hI1
end HVG
/-! ===== the reference's cells ===== -/
abbrev moE (a : Nat → Nat) (th st en ct : Int32) (gd : Bool) (ln bf ac un : Int64) (md : Int32) : va_E :=
  .inr (5, [.int th, .ref (a 0), .ref (a 1), .int st, .int en, .int ct, .ref (a 2), .ref (a 3), .ref (a 4), .ref (a 5), .ref (a 6), .ref (a 7), .ref (a 8), .ref (a 9), .ref (a 10), .ref (a 11), .ref (a 12), .ref (a 13), .int (b2i gd), .long ln, .long bf, .long ac, .long un, .ref (a 14), .ref (a 15), .ref (a 16), .int md])
/-- its arrays that only pack changes: kinds, numbers, from, isBelow, the attributes -/
def moA (cA : Nat → ClassId) (f : hv_M) (a : Nat → Nat) (V : Wd) : Prop :=
  f (a 0) = some (.inl (cA 0, 10200, .inl (wK V))) ∧ f (a 1) = some (.inl (cA 0, 51000, .inl V.2.1)) ∧ f (a 2) = some (.inl (cA 0, 101, .inl (fun b => nI (wF V b)))) ∧ f (a 3) = some (.inl (cA 2, 100, .inl (fun b => b2i (wB V b)))) ∧ ∀ j, j < 10 → f (a (4 + j)) = some (.inl (cA 0, 100, .inl (wA V j)))
/-- the addresses are apart -/
def moN (m : Nat) (a : Nat → Nat) : Prop := (∀ i j, i < 17 → j < 17 → i ≠ j → a i ≠ a j) ∧ ∀ i, i < 17 → a i ≠ m
theorem nI_sub {a b : Nat} (h : b ≤ a) : nI a - nI b = nI (a - b) := by
  have h1 : nI a = nI (a - b) + nI b := by rw [nI_add, Nat.sub_add_cancel h]
  rw [h1, Int32.add_sub_cancel]
theorem nI_eqI {a b : Nat} (ha : a < 2 ^ 31) (hb : b < 2 ^ 31) : nI a = nI b ↔ a = b := ⟨fun h => by rw [← nI_clamp ha, h, nI_clamp hb], fun h => by rw [h]⟩
