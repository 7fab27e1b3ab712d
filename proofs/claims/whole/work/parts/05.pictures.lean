/-! ===== pictures: which cell lies at which address; a row an instruction ===== -/
abbrev hv_M : Type := Nat → Option va_E
def hv_up (f : hv_M) (a : Nat) (x : va_E) : hv_M := fun q => if q = a then some x else f q
theorem hv_up_self (f : hv_M) (a : Nat) (x : va_E) : hv_up f a x a = some x := by simp [hv_up]
theorem hv_up_ne (f : hv_M) {a q : Nat} (x : va_E) (h : q ≠ a) : hv_up f a x q = f q := by simp [hv_up, h]
/-- the walk's heap H, begun at H0: the picture f lies in it, at b0 and above; below b0 nothing has changed -/
def hv_I (D : va_G) (cl : List vw_C) (b0 : Nat) (f : hv_M) (H0 H : Heap) (locs : List Loc) : Prop :=
  (∀ (a : Nat) (x : va_E), f a = some x → va_at D cl (a, x) H) ∧ (∀ (a : Nat) (x : va_E), f a = some x → b0 ≤ a) ∧ b0 ≤ H0.size ∧ va_S (fun q => b0 ≤ q) H0 H locs
theorem hv_I.one {D : va_G} {cl : List vw_C} {b0 : Nat} {f : hv_M} {H0 H : Heap} {locs : List Loc} (h : hv_I D cl b0 f H0 H locs) {a : Nat} {x : va_E} (ha : f a = some x) : va_P D cl [(a, x)] H := by
  intro k q hk
  match k, hk with
  | 0, hk => cases hk; exact h.1 a x ha
  | k + 1, hk => simp at hk
theorem hv_I.set {D : va_G} {cl : List vw_C} {b0 : Nat} {f : hv_M} {H0 H H1 : Heap} {locs : List Loc} {a k : Nat} {x0 x : va_E} (h : hv_I D cl b0 f H0 H locs) (ha : f a = some x0) (hx : va_at D cl (a, x) H1) (z : H1.size = H.size) (oq : ∀ q : Nat, q ≠ a → H1[q]? = H[q]?) :
    hv_I D cl b0 (hv_up f a x) H0 H1 (locs ++ [⟨a, k⟩]) := by
  obtain ⟨h1, h2, h3, h4⟩ := h
  refine ⟨fun q y hq => ?_, fun q y hq => ?_, h3, h4.put z oq (h2 a x0 ha)⟩
  · by_cases hqa : q = a
    · subst hqa
      rw [hv_up_self] at hq
      cases hq
      exact hx
    · rw [hv_up_ne _ _ hqa] at hq
      exact (h1 q y hq).kept (oq q hqa)
  · by_cases hqa : q = a
    · subst hqa
      exact h2 _ x0 ha
    · rw [hv_up_ne _ _ hqa] at hq
      exact h2 q y hq
theorem hv_I.push {D : va_G} {cl : List vw_C} {b0 : Nat} {f : hv_M} {H0 H H1 : Heap} {locs : List Loc} {x : va_E} (h : hv_I D cl b0 f H0 H locs) (hx : va_at D cl (H.size, x) H1) (z : H1.size = H.size + 1) (oq : ∀ q : Nat, q < H.size → H1[q]? = H[q]?) :
    hv_I D cl b0 (hv_up f H.size x) H0 H1 locs ∧ f H.size = none := by
  obtain ⟨h1, h2, h3, h4, h5, h6⟩ := h
  have hlt : ∀ (q : Nat) (y : va_E), f q = some y → q < H.size := fun q y hq => (h1 q y hq).lt
  refine ⟨⟨fun q y hq => ?_, fun q y hq => ?_, h3, Nat.le_trans h4 (by omega), fun q hq hn => (oq q (Nat.lt_of_lt_of_le hq h4)).trans (h5 q hq hn), h6⟩, ?_⟩
  · by_cases hqa : q = H.size
    · subst hqa
      rw [hv_up_self] at hq
      cases hq
      exact hx
    · rw [hv_up_ne _ _ hqa] at hq
      exact (h1 q y hq).kept (oq q (hlt q y hq))
  · by_cases hqa : q = H.size
    · subst hqa
      exact Nat.le_trans h3 h4
    · rw [hv_up_ne _ _ hqa] at hq
      exact h2 q y hq
  · cases hf : f H.size with
    | none => rfl
    | some y => exact absurd (hlt _ y hf) (Nat.lt_irrefl _)
/-- what a class's rows need, once for each class -/
def hv_Cl (cl : List vw_C) (Ts : List Cond) (ci : Nat) (C : String) (T : u_T) (N : Nat) (ty : Nat → FieldType) : Prop :=
  cl[ci]? = some (C, T, N) ∧ (∀ w ∈ u_ws C T N, w ∈ Ts) ∧ (∀ k, k < N → parseFieldDescriptor (T k).2.2.1 = some (ty k)) ∧ (∀ a, a < N → ∀ b, b < N → a ≠ b → (T a).2.1 ≠ (T b).2.1)
/-- where a walk goes: the machine, the code, whose it is, the words, the classes -/
def hv_E (p : Program) (c : Code) (cc : ByteArray) (s : State) (m : MethodId) (args : Array Value) (own : String) (Ts : List Cond) (D : va_G) (cl : List vw_C) (tys : List (ClassId × FieldType)) : Prop :=
  p.tables.exec = Jvm.exec ∧ c.code = cc ∧ s.vm.findClass own = some m.cls ∧ (∀ w ∈ Ts, w.before args s = true) ∧ va_K D cl tys s
section HVA
variable {p : Program} {l : Launch} {e : Env} {R : Room} {s : State} {m : MethodId} {args : Array Value} {below : List Frame} {meth : Method} {c : Code} {H : Heap} {locs : List Loc} {cells slots : Nat} {Q : State → Prop}
variable {cc : ByteArray} {pc : Nat} {ls : Array Slot} {rest : List Value} {D : va_G} {cl : List vw_C} {tys : List (ClassId × FieldType)} {Ts : List Cond} {b0 a ci N index : Nat} {f : hv_M} {H0 : Heap} {own host C : String} {T : u_T} {ty : Nat → FieldType} {fs : List Value} {v : Value}
theorem hv_get (hE : hv_E p c cc s m args own Ts D cl tys) (K : hv_Cl cl Ts ci C T N ty) (hI : hv_I D cl b0 f H0 H locs) (k : Nat) (hk : k < N) (hl : Cond.fieldLink own index (T k).1 (T k).2.1 (T k).2.2.1 ∈ Ts) (he : f a = some (.inr (ci, fs))) (hv : fs[k]? = some v) (hd : decode cc pc = .ok (.getfield index, 3))
    (kk : W p l e R s m args below meth c H locs cells slots Q (F0 m (pc + 3) ls (v :: rest))) : W p l e R s m args below meth c H locs cells slots Q (F0 m pc ls (.ref a :: rest)) :=
  va_get (D := D) (v := v) hE.1 hE.2.1 hE.2.2.2.1 K.2.1 hE.2.2.1 hE.2.2.2.2 (hI.one he) 0 rfl K.1 k hk (hE.2.2.2.1 _ hl) (fun _ h9 => h9) hv hd kk
theorem hv_getN (hE : hv_E p c cc s m args own Ts D cl tys) (K : hv_Cl cl Ts ci C T N ty) (hI : hv_I D cl b0 f H0 H locs) (k : Nat) (hk : k < N) (hl : Cond.fieldLinkNest own index (T k).1 (T k).2.1 (T k).2.2.1 host ∈ Ts) (he : f a = some (.inr (ci, fs))) (hv : fs[k]? = some v) (hd : decode cc pc = .ok (.getfield index, 3))
    (kk : W p l e R s m args below meth c H locs cells slots Q (F0 m (pc + 3) ls (v :: rest))) : W p l e R s m args below meth c H locs cells slots Q (F0 m pc ls (.ref a :: rest)) :=
  va_getN (D := D) (v := v) hE.1 hE.2.1 hE.2.2.2.1 K.2.1 hE.2.2.1 hE.2.2.2.2 (hI.one he) 0 rfl K.1 k hk (hE.2.2.2.1 _ hl) (fun _ h9 => h9) hv hd kk
theorem hv_put (hE : hv_E p c cc s m args own Ts D cl tys) (K : hv_Cl cl Ts ci C T N ty) (hI : hv_I D cl b0 f H0 H locs) (k : Nat) (hk : k < N) (hl : Cond.fieldLink own index (T k).1 (T k).2.1 (T k).2.2.1 ∈ Ts) (he : f a = some (.inr (ci, fs))) (hfin : (T k).2.2.2 = false) (hn : narrow (ty k) v = v) (hfit : fits (ty k) v = true) (hlen : k < fs.length) (hd : decode cc pc = .ok (.putfield index, 3))
    (kk : ∀ (H1 : Heap) (locs1 : List Loc), hv_I D cl b0 (hv_up f a (.inr (ci, fs.set k v))) H0 H1 locs1 → W p l e R s m args below meth c H1 locs1 cells slots Q (F0 m (pc + 3) ls rest)) : W p l e R s m args below meth c H locs cells slots Q (F0 m pc ls (v :: .ref a :: rest)) := by
  obtain ⟨hx, hb, hown, hts, hK⟩ := hE
  obtain ⟨hc, hin, hty, hnm⟩ := K
  have hap := va_apart (own := own) hts hin ty hty hnm hK hc
  obtain ⟨r, h1, cell, q1, q2, q3, q4⟩ := hI.1 a _ he
  have hr : r = (C, T, N) := Option.some.inj (h1.symm.trans hc)
  subst hr
  obtain ⟨hS, hfc, kC, hkC, hkind⟩ := hK.1 ci _ hc
  obtain ⟨cf, kf, fi, fd, hi, hsl⟩ := hS k hk
  have hlay := hts _ (hin _ (u_in_lay hk))
  unfold u_lay at hlay
  rw [if_neg (by rw [hfin]; decide)] at hlay
  refine W.putK hx hb (f := fd) ⟨hown, hts _ hl, ⟨_, _, _, hi⟩, (u_facts hfc hkC (u_lays hts hin hk) hi).1⟩ (by rw [q2]; exact u_store hfc hkC hkind hlay hi (hty k hk) hn hfit) q1 q3 (by rw [hsl]; exact k2_hasslot (q4 k hk)) rfl rfl hd fun H1 e1 e2 e3 => ?_
  rw [hsl] at e1 ⊢
  exact kk H1 _ (hI.set he ⟨_, hc, t_OB.to (V := updV (vp_V fs) k v) ⟨_, e1, q2, q3, t_set q4 hap hk v⟩ (fun j _ => vp_updV_set hlen v j)⟩ e2 e3)
theorem hv_putF (hE : hv_E p c cc s m args own Ts D cl tys) (K : hv_Cl cl Ts ci C T N ty) (hI : hv_I D cl b0 f H0 H locs) (hin2 : meth.name = "<init>") (k : Nat) (hk : k < N) (hl : Cond.fieldLink own index (T k).1 (T k).2.1 (T k).2.2.1 ∈ Ts) (he : f a = some (.inr (ci, fs))) (hfin : (T k).2.2.2 = true) (hdecl : (T k).1 = own) (hn : narrow (ty k) v = v) (hfit : fits (ty k) v = true) (hlen : k < fs.length) (hd : decode cc pc = .ok (.putfield index, 3))
    (kk : ∀ (H1 : Heap) (locs1 : List Loc), hv_I D cl b0 (hv_up f a (.inr (ci, fs.set k v))) H0 H1 locs1 → W p l e R s m args below meth c H1 locs1 cells slots Q (F0 m (pc + 3) ls rest)) : W p l e R s m args below meth c H locs cells slots Q (F0 m pc ls (v :: .ref a :: rest)) := by
  obtain ⟨hx, hb, hown, hts, hK⟩ := hE
  obtain ⟨hc, hin, hty, hnm⟩ := K
  have hap := va_apart (own := own) hts hin ty hty hnm hK hc
  obtain ⟨r, h1, cell, q1, q2, q3, q4⟩ := hI.1 a _ he
  have hr : r = (C, T, N) := Option.some.inj (h1.symm.trans hc)
  subst hr
  obtain ⟨hS, hfc, kC, hkC, hkind⟩ := hK.1 ci _ hc
  obtain ⟨cf, kf, fi, fd, hi, hsl⟩ := hS k hk
  have hlay := hts _ (hin _ (u_in_lay hk))
  unfold u_lay at hlay
  rw [if_pos hfin] at hlay
  have hcf : m.cls = cf := by
    obtain ⟨_, _, c', _, _, _, -, -, hf', -, -, -, hown2, -⟩ := Cond.laysFinal_spec hlay
    have e1 : c' = cf := by have := hi.symm.trans hf'; simp at this; exact this.1.symm
    rw [hdecl] at hown2
    rw [← e1]; exact Option.some.inj (hown.symm.trans hown2)
  refine W.putFinK hx hb hown (hts _ hl) hi (u_facts hfc hkC (u_lays hts hin hk) hi).1 hcf hin2 (by rw [q2]; exact u_fits hfc hkC hkind (Or.inr hlay) hi (hty k hk) hn hfit) q1 q3 (by rw [hsl]; exact k2_hasslot (q4 k hk)) rfl rfl hd fun H1 e1 e2 e3 => ?_
  rw [hsl] at e1 ⊢
  exact kk H1 _ (hI.set he ⟨_, hc, t_OB.to (V := updV (vp_V fs) k v) ⟨_, e1, q2, q3, t_set q4 hap hk v⟩ (fun j _ => vp_updV_set hlen v j)⟩ e2 e3)
theorem hv_new (hE : hv_E p c cc s m args own Ts D cl tys) (K : hv_Cl cl Ts ci C T N ty) (hI : hv_I D cl b0 f H0 H locs) (hl : Cond.classLink own index C ∈ Ts) (hi : Cond.instantiable C N ∈ Ts) (hini : Cond.initialized C ∈ Ts) (hfs : ∀ j, j < N → defaultValue (ty j) = vp_V fs j) (hcells : cells + 1 ≤ R.cells) (hslots : slots + N ≤ R.slots) (hd : decode cc pc = .ok (.new index, 3))
    (kk : ∀ (q : Nat) (H1 : Heap), f q = none → hv_I D cl b0 (hv_up f q (.inr (ci, fs))) H0 H1 locs → W p l e R s m args below meth c H1 locs (cells + 1) (slots + N) Q (F0 m (pc + 3) ls (.ref q :: rest))) : W p l e R s m args below meth c H locs cells slots Q (F0 m pc ls rest) := by
  obtain ⟨hx, hb, hown, hts, hK⟩ := hE
  obtain ⟨hc, hin, hty, hnm⟩ := K
  have hKn := hK.1 ci _ hc
  refine W.newcK hx hb hown (hts _ hl) (hts _ hi) (hts _ hini) rfl hd hcells hslots hKn.2.1 rfl fun H1 kC hkC e1 z1 o1 => ?_
  obtain ⟨hI1, hn⟩ := hI.push (x := .inr (ci, fs)) ⟨_, hc, (u_born ty hts hin hKn hkC e1 hty).to hfs⟩ z1 o1
  exact kk _ H1 hn hI1
variable {n t0 : Nat} {cA : ClassId} {i : Int32}
theorem hv_alen (hE : hv_E p c cc s m args own Ts D cl tys) (hI : hv_I D cl b0 f H0 H locs) (t0 : Nat) {x : vp_A} (he : f a = some (.inl (cA, x))) {t : FieldType} (ht : tys[t0]? = some (cA, t)) {z : Int32} (hz : Int32.ofNat x.1 = z) (hd : decode cc pc = .ok (.arraylength, 1))
    (kk : W p l e R s m args below meth c H locs cells slots Q (F0 m (pc + 1) ls (.int z :: rest))) : W p l e R s m args below meth c H locs cells slots Q (F0 m pc ls (.ref a :: rest)) :=
  va_alen (D := D) hE.1 hE.2.1 hE.2.2.2.2 (hI.one he) 0 t0 rfl ht hz hd kk
theorem hv_iald (hE : hv_E p c cc s m args own Ts D cl tys) (hI : hv_I D cl b0 f H0 H locs) (t0 : Nat) {g : Nat → Int32} (he : f a = some (.inl (cA, n, .inl g))) (ht : tys[t0]? = some (cA, .int)) (hin : vp_in i n) (hd : decode cc pc = .ok (.iaload, 1))
    (kk : W p l e R s m args below meth c H locs cells slots Q (F0 m (pc + 1) ls (.int (g i.toNatClampNeg) :: rest))) : W p l e R s m args below meth c H locs cells slots Q (F0 m pc ls (.int i :: .ref a :: rest)) :=
  va_iald (D := D) hE.1 hE.2.1 hE.2.2.2.2 (hI.one he) 0 t0 rfl ht hin hd kk
theorem hv_lald (hE : hv_E p c cc s m args own Ts D cl tys) (hI : hv_I D cl b0 f H0 H locs) (t0 : Nat) {g : Nat → Int64} (he : f a = some (.inl (cA, n, .inr (.inl g)))) (ht : tys[t0]? = some (cA, .long)) (hin : vp_in i n) (hd : decode cc pc = .ok (.laload, 1))
    (kk : W p l e R s m args below meth c H locs cells slots Q (F0 m (pc + 1) ls (.long (g i.toNatClampNeg) :: rest))) : W p l e R s m args below meth c H locs cells slots Q (F0 m pc ls (.int i :: .ref a :: rest)) :=
  va_lald (D := D) hE.1 hE.2.1 hE.2.2.2.2 (hI.one he) 0 t0 rfl ht hin hd kk
theorem hv_aald (hE : hv_E p c cc s m args own Ts D cl tys) (hI : hv_I D cl b0 f H0 H locs) (t0 : Nat) {B : String} {g : Nat → Option Nat} (he : f a = some (.inl (cA, n, .inr (.inr (.inr (.inr g)))))) (ht : tys[t0]? = some (cA, .object B)) (hin : vp_in i n) (hd : decode cc pc = .ok (.aaload, 1))
    (kk : W p l e R s m args below meth c H locs cells slots Q (F0 m (pc + 1) ls (va_rf (g i.toNatClampNeg) :: rest))) : W p l e R s m args below meth c H locs cells slots Q (F0 m pc ls (.int i :: .ref a :: rest)) :=
  va_aldq (D := D) hE.1 hE.2.1 hE.2.2.2.2 (hI.one he) 0 t0 rfl ht hin hd kk
theorem hv_iast (hE : hv_E p c cc s m args own Ts D cl tys) (hI : hv_I D cl b0 f H0 H locs) (t0 : Nat) {g : Nat → Int32} {x : Int32} (he : f a = some (.inl (cA, n, .inl g))) (ht : tys[t0]? = some (cA, .int)) (hin : vp_in i n) (hd : decode cc pc = .ok (.iastore, 1))
    (kk : ∀ (H1 : Heap) (locs1 : List Loc), hv_I D cl b0 (hv_up f a (.inl (cA, n, .inl (upd g i.toNatClampNeg x)))) H0 H1 locs1 → W p l e R s m args below meth c H1 locs1 cells slots Q (F0 m (pc + 1) ls rest)) : W p l e R s m args below meth c H locs cells slots Q (F0 m pc ls (.int x :: .int i :: .ref a :: rest)) := by
  obtain ⟨hx, hb, hown, hts, hK⟩ := hE
  refine W.iast hx hb (hI.1 a _ he) ((hK.2 t0 _ ht).1 n (fun j => .int (g j))) (fun q => by cases q) (by show ¬ (i < 0 ∨ (arrV _ _ _).slots.size ≤ _); rw [arrV_size]; exact hin) rfl rfl hd fun H1 e1 z oq => ?_
  refine kk H1 _ (hI.set he ?_ z oq)
  show H1[a]? = some (vp_cell _ _)
  rw [e1, vp_cell_i, vp_cell_i, arrV_store]
  congr 2
  funext q
  by_cases hq : q = i.toNatClampNeg
  · subst hq
    simp [updV, upd]
  · simp [updV, upd, hq]
theorem hv_last (hE : hv_E p c cc s m args own Ts D cl tys) (hI : hv_I D cl b0 f H0 H locs) (t0 : Nat) {g : Nat → Int64} {x : Int64} (he : f a = some (.inl (cA, n, .inr (.inl g)))) (ht : tys[t0]? = some (cA, .long)) (hin : vp_in i n) (hd : decode cc pc = .ok (.lastore, 1))
    (kk : ∀ (H1 : Heap) (locs1 : List Loc), hv_I D cl b0 (hv_up f a (.inl (cA, n, .inr (.inl (vp_updL g i.toNatClampNeg x))))) H0 H1 locs1 → W p l e R s m args below meth c H1 locs1 cells slots Q (F0 m (pc + 1) ls rest)) : W p l e R s m args below meth c H locs cells slots Q (F0 m pc ls (.long x :: .int i :: .ref a :: rest)) := by
  obtain ⟨hx, hb, hown, hts, hK⟩ := hE
  refine W.last hx hb (hI.1 a _ he) ((hK.2 t0 _ ht).1 n (fun j => .long (g j))) (fun q => by cases q) (by show ¬ (i < 0 ∨ (arrV _ _ _).slots.size ≤ _); rw [arrV_size]; exact hin) rfl rfl hd fun H1 e1 z oq => ?_
  refine kk H1 _ (hI.set he ?_ z oq)
  show H1[a]? = some (vp_cell _ _)
  rw [e1, vp_cell_l, vp_cell_l, arrV_store]
  congr 2
  funext q
  by_cases hq : q = i.toNatClampNeg
  · subst hq
    simp [updV, vp_updL]
  · simp [updV, vp_updL, hq]
/-- a reference into an array of B's: the object's class C can be taken for a B -/
theorem hv_aast (hE : hv_E p c cc s m args own Ts D cl tys) (hI : hv_I D cl b0 f H0 H locs) (t0 : Nat) {B : String} {g : Nat → Option Nat} {v0 : Nat} {vs : List Value} {r : vw_C} (he : f a = some (.inl (cA, n, .inr (.inr (.inr (.inr g)))))) (ht : tys[t0]? = some (cA, .object B)) (hv : f v0 = some (.inr (ci, vs))) (hc : cl[ci]? = some r) (hca : Cond.castable r.1 B ∈ Ts) (hin : vp_in i n) (hd : decode cc pc = .ok (.aastore, 1))
    (kk : ∀ (H1 : Heap) (locs1 : List Loc), hv_I D cl b0 (hv_up f a (.inl (cA, n, .inr (.inr (.inr (.inr (va_up g i.toNatClampNeg (some v0)))))))) H0 H1 locs1 → W p l e R s m args below meth c H1 locs1 cells slots Q (F0 m (pc + 1) ls rest)) : W p l e R s m args below meth c H locs cells slots Q (F0 m pc ls (.ref v0 :: .int i :: .ref a :: rest)) := by
  obtain ⟨hx, hb, hown, hts, hK⟩ := hE
  have hlt : i.toNatClampNeg < n := Nat.not_le.mp fun q => hin (Or.inr q)
  have h0 : ¬ i < 0 := fun q => hin (Or.inl q)
  obtain ⟨r', hr', cellV, g1, g2, g3, -⟩ := hI.1 v0 _ hv
  cases hc.symm.trans hr'
  have hcls := (hK.1 ci r hc).2.1
  obtain ⟨kA, comp, k1, k2, k3, -⟩ := (hK.2 t0 _ ht).2
  obtain ⟨kE, hkE, -⟩ := Vm.findClass_spec k3
  obtain ⟨kC, hkC, -⟩ := Vm.findClass_spec hcls
  obtain ⟨x1, x2, f1, f2, f3⟩ := Cond.castable_spec (hts _ hca)
  cases hcls.symm.trans f1
  cases k3.symm.trans f2
  refine W.aast hx hb (hI.1 a _ he) (fun q h => by cases h) (fun h => by cases h) k1 k2 rfl hkE ⟨h0, by show _ < (arrV _ _ _).slots.size; rw [arrV_size]; exact hlt⟩ g1 (fun q h => by rw [g3] at h; cases h) (by rw [g2]; exact hkC) (by rw [g2]; exact f3) rfl rfl hd fun H1 e1 z oq => ?_
  refine kk H1 _ (hI.set he ?_ z oq)
  show H1[a]? = some (vp_cell _ _)
  rw [e1, vp_cell_q, vp_cell_q, arrV_store]
  congr 2
  funext q
  by_cases hq : q = i.toNatClampNeg
  · subst hq
    simp [updV, va_up, va_rf]
  · simp [updV, va_up, hq]
theorem hv_newI (hE : hv_E p c cc s m args own Ts D cl tys) (hI : hv_I D cl b0 f H0 H locs) (t0 : Nat) (ht : tys[t0]? = some (cA, .int)) (hw : Cond.arrayClass .int ∈ Ts) {z : Int32} (hn : ¬ z < 0) (hz : z.toNatClampNeg = n) (hbytes : n * 4 ≤ 536870912) (hcells : cells + 1 ≤ R.cells) (hslots : slots + n ≤ R.slots) (hd : decode cc pc = .ok (.newarray .int, 2))
    (kk : ∀ (q : Nat) (H1 : Heap), f q = none → hv_I D cl b0 (hv_up f q (.inl (cA, n, .inl (fun _ => 0)))) H0 H1 locs → W p l e R s m args below meth c H1 locs (cells + 1) (slots + n) Q (F0 m (pc + 2) ls (.ref q :: rest))) : W p l e R s m args below meth c H locs cells slots Q (F0 m pc ls (.int z :: rest)) := by
  obtain ⟨hx, hb, hown, hts, hK⟩ := hE
  refine va_newaK (atype := .int) hx hb (hts _ hw) rfl hd rfl hn hz hbytes hcells hslots rfl fun H1 cB e1 z1 o1 hAr hNm => ?_
  have hcB : cB = cA := Option.some.inj (hNm.symm.trans (hK.2 t0 _ ht).2)
  subst hcB
  obtain ⟨hI1, hn1⟩ := hI.push (x := .inl (cB, n, .inl (fun _ => 0))) (by show H1[H.size]? = some (vp_cell _ _); rw [e1]; rfl) z1 o1
  exact kk _ H1 hn1 hI1
theorem hv_newL (hE : hv_E p c cc s m args own Ts D cl tys) (hI : hv_I D cl b0 f H0 H locs) (t0 : Nat) (ht : tys[t0]? = some (cA, .long)) (hw : Cond.arrayClass .long ∈ Ts) {z : Int32} (hn : ¬ z < 0) (hz : z.toNatClampNeg = n) (hbytes : n * 8 ≤ 536870912) (hcells : cells + 1 ≤ R.cells) (hslots : slots + n ≤ R.slots) (hd : decode cc pc = .ok (.newarray .long, 2))
    (kk : ∀ (q : Nat) (H1 : Heap), f q = none → hv_I D cl b0 (hv_up f q (.inl (cA, n, .inr (.inl (fun _ => 0))))) H0 H1 locs → W p l e R s m args below meth c H1 locs (cells + 1) (slots + n) Q (F0 m (pc + 2) ls (.ref q :: rest))) : W p l e R s m args below meth c H locs cells slots Q (F0 m pc ls (.int z :: rest)) := by
  obtain ⟨hx, hb, hown, hts, hK⟩ := hE
  refine va_newaK (atype := .long) hx hb (hts _ hw) rfl hd rfl hn hz hbytes hcells hslots rfl fun H1 cB e1 z1 o1 hAr hNm => ?_
  have hcB : cB = cA := Option.some.inj (hNm.symm.trans (hK.2 t0 _ ht).2)
  subst hcB
  obtain ⟨hI1, hn1⟩ := hI.push (x := .inl (cB, n, .inr (.inl (fun _ => 0)))) (by show H1[H.size]? = some (vp_cell _ _); rw [e1]; rfl) z1 o1
  exact kk _ H1 hn1 hI1
theorem hv_newQ (hE : hv_E p c cc s m args own Ts D cl tys) (hI : hv_I D cl b0 f H0 H locs) (t0 : Nat) {B : String} (ht : tys[t0]? = some (cA, .object B)) (hl : Cond.classLink own index B ∈ Ts) (hw : Cond.arrayOver (.object B) ∈ Ts) {z : Int32} (hn : ¬ z < 0) (hz : z.toNatClampNeg = n) (hbytes : n * 4 ≤ 536870912) (hcells : cells + 1 ≤ R.cells) (hslots : slots + n ≤ R.slots) (hd : decode cc pc = .ok (.anewarray index, 3))
    (kk : ∀ (q : Nat) (H1 : Heap), f q = none → hv_I D cl b0 (hv_up f q (.inl (cA, n, .inr (.inr (.inr (.inr (fun _ => none))))))) H0 H1 locs → W p l e R s m args below meth c H1 locs (cells + 1) (slots + n) Q (F0 m (pc + 3) ls (.ref q :: rest))) : W p l e R s m args below meth c H locs cells slots Q (F0 m pc ls (.int z :: rest)) := by
  obtain ⟨hx, hb, hown, hts, hK⟩ := hE
  subst hz
  refine W.anew hx hb hown (hts _ hl) (hts _ hw) rfl hd rfl hn hbytes hcells hslots fun cB kA comp f1 f2 f3 f4 => ?_
  obtain ⟨kA', comp', k1, k2, k3, k4⟩ := (hK.2 t0 _ ht).2
  have hcB : cB = cA := Option.some.inj (f1.symm.trans k4)
  subst hcB
  generalize hH1 : H.push ({ cls := cB, slots := Array.replicate z.toNatClampNeg .null, vm := .none } : Cell) = H1
  have z1 : H1.size = H.size + 1 := by rw [← hH1, Array.size_push]
  have e1 : H1[H.size]? = some (arrV cB z.toNatClampNeg (fun _ => .null)) := by rw [← hH1, Array.getElem?_push_size, ← arrV_new]
  have o1 : ∀ q : Nat, q < H.size → H1[q]? = H[q]? := fun q hq => by rw [← hH1, Array.getElem?_push, if_neg (Nat.ne_of_lt hq)]
  obtain ⟨hI1, hn1⟩ := hI.push (x := .inl (cB, z.toNatClampNeg, .inr (.inr (.inr (.inr (fun _ => none)))))) (by show H1[H.size]? = some (vp_cell _ _); rw [vp_cell_q]; exact e1) z1 o1
  exact kk _ H1 hn1 hI1
/-- an object of the picture, as a receiver -/
theorem hv_recv (hE : hv_E p c cc s m args own Ts D cl tys) (hI : hv_I D cl b0 f H0 H locs) {r : vw_C} (he : f a = some (.inr (ci, fs))) (hc : cl[ci]? = some r) : ∃ cell : Cell, H[a]? = some cell ∧ cell.vm.isStatics = false ∧ s.vm.findClass r.1 = some cell.cls :=
  va_recv hE.2.2.2.2 (hI.one he) hc (q0 := 0) rfl
end HVA
