/-! ===== one state, two pictures ===== -/
def InvS (V : Wd) (st en ct : Nat) (r : Mk) : Prop :=
  st ≤ en ∧ en - st ≤ 100 ∧ ct ≤ 100 ∧ st ≤ 100 * ct ∧ wF V ct = st ∧ (∀ b, b < ct → bxV V b) ∧ (∀ b, b < ct → wF V (b + 1) ≤ st) ∧ (∀ i, i < en - st → itV V ct (st + i)) ∧ r.2 ≤ 1000
/-- the class's picture of it -/
def RC (cA : Nat → ClassId) (f : hv_M) (x la ma mk rw9 : Nat) (gl gb : Nat → Option Nat) (ad ca pa : Nat → Nat) (gc : Nat → Nat → Option Nat) (gp : Nat → Nat → Int32) (V : Wd) (st en ct : Nat) (r : Mk) : Prop :=
  f x = some (bpE la ma mk (en - st) ct) ∧ f la = some (.inl (cA 3, 100, .inr (.inr (.inr (.inr gl))))) ∧ f ma = some (.inl (cA 4, 100, .inr (.inr (.inr (.inr gb))))) ∧ la ≠ ma ∧ mkAt cA f mk rw9 r ∧
  itsAt f (en - st) gl (fun i => itO V ad (st + i)) ∧ (∀ b, b < ct → gb b = some (ad b)) ∧ (∀ b, b < ct → boxR cA f V ad ca pa gc gp b) ∧ ∀ b, b < ct → la ≠ ca b ∧ ma ≠ ca b
/-- the reference's -/
def RMo (cA : Nat → ClassId) (f : hv_M) (mo : Nat) (a : Nat → Nat) (th : Int32) (V : Wd) (st en ct : Nat) (r : Mk) : Prop :=
  moN mo a ∧ moA cA f a V ∧ msc cA f mo a th (nI st) (nI en) (nI ct) r
/-- they are apart -/
def DJ (a pa : Nat → Nat) (rw9 ct : Nat) : Prop := rw9 ≠ a 16 ∧ ∀ b, b < ct → ∀ i, i < 17 → pa b ≠ a i
abbrev outE (cA : Nat → ClassId) (ow : Nat → Int64) : va_E := .inl (cA 1, 1, .inr (.inl ow))
def RP (cA : Nat → ClassId) (f : hv_M) (x mo o : Nat) (th : Int32) (ow : Nat → Int64) : Prop :=
  ∃ (V : Wd) (st en ct : Nat) (r : Mk) (la ma mk rw9 : Nat) (gl gb : Nat → Option Nat) (ad ca pa : Nat → Nat) (gc : Nat → Nat → Option Nat) (gp : Nat → Nat → Int32) (a : Nat → Nat),
    InvS V st en ct r ∧ RC cA f x la ma mk rw9 gl gb ad ca pa gc gp V st en ct r ∧ RMo cA f mo a th V st en ct r ∧ DJ a pa rw9 ct ∧ f o = some (outE cA ow)
section RP0
variable {cA : Nat → ClassId} {f g : hv_M} {x la ma mk rw9 mo o : Nat} {gl gb : Nat → Option Nat} {ad ca pa a : Nat → Nat} {gc : Nat → Nat → Option Nat} {gp : Nat → Nat → Int32} {V : Wd} {st en ct : Nat} {r : Mk} {th : Int32} {ow : Nat → Int64}
theorem RC.keep (h : RC cA f x la ma mk rw9 gl gb ad ca pa gc gp V st en ct r) (h1 : g x = f x) (h2 : g la = f la) (h3 : g ma = f ma) (h4 : g mk = f mk) (h5 : g rw9 = f rw9) (h6 : ∀ (z : Nat) (y : It), f z = some (itE y) → g z = f z) (h7 : ∀ b, b < ct → g (ad b) = f (ad b) ∧ g (ca b) = f (ca b) ∧ g (pa b) = f (pa b)) : RC cA g x la ma mk rw9 gl gb ad ca pa gc gp V st en ct r := by
  obtain ⟨a1, a2, a3, a4, a5, a6, a7, a8, a9⟩ := h
  exact ⟨by rw [h1]; exact a1, by rw [h2]; exact a2, by rw [h3]; exact a3, a4, ⟨by rw [h4]; exact a5.1, by rw [h5]; exact a5.2⟩, a6.keep h6, a7, fun b hb => (a8 b hb).keep (h7 b hb).1 (h7 b hb).2.1 (h7 b hb).2.2 h6, a9⟩
/-- what lies at the reference's addresses -/
theorem RMo.lies (h : RMo cA f mo a th V st en ct r) {i : Nat} (hi : i < 17) : (i < 14 ∧ ∃ (c : ClassId) (n : Nat) (w : Nat → Int32), f (a i) = some (.inl (c, n, .inl w))) ∨ (¬ i = 16 ∧ ∃ w : Nat → Int64, f (a i) = some (.inl (cA 1, 4, .inr (.inl w)))) ∨ (i = 16 ∧ f (a i) = some (.inl (cA 1, 6000, .inr (.inl r.1)))) := by
  obtain ⟨h1, ⟨k0, k1, k2, k3, k4⟩, ⟨⟨gd, v, s1, s2, s3⟩, s4⟩⟩ := h
  by_cases c0 : i = 0
  · subst c0; exact Or.inl ⟨by omega, _, _, _, k0⟩
  by_cases c1 : i = 1
  · subst c1; exact Or.inl ⟨by omega, _, _, _, k1⟩
  by_cases c2 : i = 2
  · subst c2; exact Or.inl ⟨by omega, _, _, _, k2⟩
  by_cases c3 : i = 3
  · subst c3; exact Or.inl ⟨by omega, _, _, _, k3⟩
  by_cases c4 : i < 14
  · have := k4 (i - 4) (by omega)
    rw [show 4 + (i - 4) = i by omega] at this
    exact Or.inl ⟨c4, _, _, _, this⟩
  by_cases c5 : i = 14
  · subst c5; exact Or.inr (Or.inl ⟨by omega, _, s2⟩)
  by_cases c6 : i = 15
  · subst c6; exact Or.inr (Or.inl ⟨by omega, _, s3⟩)
  have c7 : i = 16 := by omega
  subst c7
  exact Or.inr (Or.inr ⟨rfl, s4⟩)
/-- an object or an array of references is not there -/
theorem RMo.ob (h : RMo cA f mo a th V st en ct r) {z : Nat} {y : Nat × List Value} (hz : f z = some (.inr y)) : ∀ i, i < 17 → z ≠ a i := fun i hi => by
  rcases h.lies hi with ⟨-, c, n, w, q⟩ | ⟨-, w, q⟩ | ⟨-, q⟩ <;> exact hv_ne hz q (by simp)
theorem RMo.rf (h : RMo cA f mo a th V st en ct r) {z n : Nat} {c : ClassId} {w : Nat → Option Nat} (hz : f z = some (.inl (c, n, .inr (.inr (.inr (.inr w)))))) : ∀ i, i < 17 → z ≠ a i := fun i hi => by
  rcases h.lies hi with ⟨-, c, n, w, q⟩ | ⟨-, w, q⟩ | ⟨-, q⟩ <;> exact hv_ne hz q (by simp)
theorem RMo.obj (h : RMo cA f mo a th V st en ct r) : ∃ fs, f mo = some (.inr (5, fs)) := by
  obtain ⟨h1, h2, ⟨⟨gd, v, s1, -⟩, -⟩⟩ := h
  exact ⟨_, s1⟩
theorem RMo.keep (h : RMo cA f mo a th V st en ct r) (h1 : g mo = f mo) (h2 : ∀ i, i < 17 → g (a i) = f (a i)) : RMo cA g mo a th V st en ct r := by
  obtain ⟨q, ⟨k0, k1, k2, k3, k4⟩, ⟨⟨gd, v, s1, s2, s3⟩, s4⟩⟩ := h
  exact ⟨q, ⟨by rw [h2 0 (by omega)]; exact k0, by rw [h2 1 (by omega)]; exact k1, by rw [h2 2 (by omega)]; exact k2, by rw [h2 3 (by omega)]; exact k3, fun j hj => by rw [h2 (4 + j) (by omega)]; exact k4 j hj⟩, ⟨gd, v, by rw [h1]; exact s1, by rw [h2 14 (by omega)]; exact s2, by rw [h2 15 (by omega)]; exact s3⟩, by rw [h2 16 (by omega)]; exact s4⟩
theorem itE_inr (y : It) : ∃ w, itE y = .inr w := by
  rcases y with ⟨t, w, h, d, q, z⟩ | ⟨w, a, b, d, z⟩ <;> exact ⟨_, rfl⟩
theorem itE_mo (y : It) (fs : List Value) : itE y ≠ .inr (5, fs) := by
  rcases y with ⟨t, w, h, d, q, z⟩ | ⟨w, a, b, d, z⟩ <;> simp [itE]
/-- the reference's steps leave the class's picture -/
theorem RC.byMo (hC : RC cA f x la ma mk rw9 gl gb ad ca pa gc gp V st en ct r) {th9 : Int32} {V9 : Wd} {st9 en9 ct9 : Nat} {r9 : Mk} (hM : RMo cA f mo a th9 V9 st9 en9 ct9 r9) (hD : DJ a pa rw9 ct) (ho : ∀ z, z ≠ mo → (∀ i, i < 17 → z ≠ a i) → g z = f z) : RC cA g x la ma mk rw9 gl gb ad ca pa gc gp V st en ct r := by
  obtain ⟨fs, hmo⟩ := hM.obj
  obtain ⟨a1, a2, a3, a4, a5, a6, a7, a8, a9⟩ := id hC
  refine hC.keep (ho x (hv_ne a1 hmo (by simp)) (hM.ob a1)) (ho la (hv_ne a2 hmo (by simp)) (hM.rf a2)) (ho ma (hv_ne a3 hmo (by simp)) (hM.rf a3)) (ho mk (hv_ne a5.1 hmo (by simp)) (hM.ob a5.1)) (ho rw9 (hv_ne a5.2 hmo (by simp)) (fun i hi => ?_)) (fun z y hz => ?_) (fun b hb => ?_)
  · rcases hM.lies hi with ⟨-, c, n, w, q⟩ | ⟨-, w, q⟩ | ⟨e, q⟩
    · exact hv_ne a5.2 q (by simp)
    · exact hv_ne a5.2 q (by simp)
    · subst e; exact hD.1
  · obtain ⟨w, hw⟩ := itE_inr y
    exact ho z (hv_ne hz hmo (itE_mo _ _)) (hM.ob (by rw [hz, hw]))
  · obtain ⟨b1, b2, b3, -⟩ := a8 b hb
    exact ⟨ho _ (hv_ne b1 hmo (by simp)) (hM.ob b1), ho _ (hv_ne b2 hmo (by simp)) (hM.rf b2), ho _ (hv_ne b3 hmo (by simp)) (hD.2 b hb)⟩
/-- what a step of the class leaves alone -/
def CF (f g : hv_M) (x la ma mk rw9 : Nat) : Prop := ∀ z y, z ≠ x → z ≠ la → z ≠ ma → z ≠ mk → z ≠ rw9 → f z = some y → g z = some y
theorem RMo.cl (hM : RMo cA f mo a th V st en ct r) {V9 : Wd} {st9 en9 ct9 : Nat} {r9 : Mk} (hC : RC cA f x la ma mk rw9 gl gb ad ca pa gc gp V9 st9 en9 ct9 r9) (hD : DJ a pa rw9 ct9) (hF : CF f g x la ma mk rw9) : RMo cA g mo a th V st en ct r := by
  obtain ⟨fs, hmo⟩ := hM.obj
  obtain ⟨a1, a2, a3, a4, a5, a6, a7, a8, a9⟩ := hC
  refine hM.keep ?_ (fun i hi => ?_)
  · rw [hmo]
    exact hF mo _ (hv_ne hmo a1 (by simp)) (hv_ne hmo a2 (by simp)) (hv_ne hmo a3 (by simp)) (hv_ne hmo a5.1 (by simp)) (hv_ne hmo a5.2 (by simp)) hmo
  · have n1 := Ne.symm (hM.ob a1 i hi)
    have n2 := Ne.symm (hM.rf a2 i hi)
    have n3 := Ne.symm (hM.rf a3 i hi)
    have n4 := Ne.symm (hM.ob a5.1 i hi)
    rcases hM.lies hi with ⟨-, c, n, w, q⟩ | ⟨-, w, q⟩ | ⟨e, q⟩
    · rw [q]; exact hF _ _ n1 n2 n3 n4 (hv_ne q a5.2 (by simp)) q
    · rw [q]; exact hF _ _ n1 n2 n3 n4 (hv_ne q a5.2 (by simp)) q
    · subst e
      rw [q]; exact hF _ _ n1 n2 n3 n4 (Ne.symm hD.1) q
theorem CF.keepO (hF : CF f g x la ma mk rw9) (hC : RC cA f x la ma mk rw9 gl gb ad ca pa gc gp V st en ct r) (ho : f o = some (outE cA ow)) : g o = some (outE cA ow) := by
  obtain ⟨a1, a2, a3, a4, a5, a6, a7, a8, a9⟩ := hC
  exact hF o _ (hv_ne ho a1 (by simp)) (hv_ne ho a2 (by simp)) (hv_ne ho a3 (by simp)) (hv_ne ho a5.1 (by simp)) (hv_ne ho a5.2 (by simp)) ho
/-- 'out' is written -/
theorem RC.out (hC : RC cA f x la ma mk rw9 gl gb ad ca pa gc gp V st en ct r) (hct : ct ≤ 100) (ho : f o = some (outE cA ow)) {y : va_E} : RC cA (hv_up f o y) x la ma mk rw9 gl gb ad ca pa gc gp V st en ct r := by
  obtain ⟨a1, a2, a3, a4, a5, a6, a7, a8, a9⟩ := id hC
  have k : ∀ z, z ≠ o → hv_up f o y z = f z := fun z hz => hv_up_ne _ _ hz
  refine hC.keep (k x (hv_ne a1 ho (by simp))) (k la (hv_ne a2 ho (by simp))) (k ma (hv_ne a3 ho (by simp))) (k mk (hv_ne a5.1 ho (by simp))) (k rw9 (hv_ne a5.2 ho (by simp))) (fun z w hz => k z (hv_ne hz ho (itE_arr _ _))) (fun b hb => ?_)
  obtain ⟨b1, b2, b3, -⟩ := a8 b hb
  exact ⟨k _ (hv_ne b1 ho (by simp)), k _ (hv_ne b2 ho (by simp)), k _ (hv_ne b3 ho (by simp))⟩
theorem RMo.out (hM : RMo cA f mo a th V st en ct r) (ho : f o = some (outE cA ow)) {y : va_E} : RMo cA (hv_up f o y) mo a th V st en ct r := by
  obtain ⟨fs, hmo⟩ := hM.obj
  have k : ∀ z, z ≠ o → hv_up f o y z = f z := fun z hz => hv_up_ne _ _ hz
  refine hM.keep (k mo (hv_ne hmo ho (by simp))) (fun i hi => k _ ?_)
  rcases hM.lies hi with ⟨-, c, n, w, q⟩ | ⟨-, w, q⟩ | ⟨e, q⟩
  · exact hv_ne q ho (by simp)
  · exact hv_ne q ho (by simp)
  · exact hv_ne q ho (by simp)
/-- the reference's steps leave 'out' -/
theorem RMo.oo (hM : RMo cA f mo a th V st en ct r) (ho : f o = some (outE cA ow)) (hk : ∀ z, z ≠ mo → (∀ i, i < 17 → z ≠ a i) → g z = f z) : g o = some (outE cA ow) := by
  obtain ⟨fs, hmo⟩ := hM.obj
  rw [hk o (hv_ne ho hmo (by simp)) (fun i hi => ?_)]
  · exact ho
  rcases hM.lies hi with ⟨-, c, n, w, q⟩ | ⟨-, w, q⟩ | ⟨e, q⟩
  · exact Ne.symm (hv_ne q ho (by simp))
  · exact Ne.symm (hv_ne q ho (by simp))
  · exact Ne.symm (hv_ne q ho (by simp))
/-! the reference's steps -/
theorem RMo.ref (hM : RMo cA f mo a th V st en ct r) {th9 : Int32} {st9 en9 ct9 : Nat} {gd : Bool} {ln bf ac un : Int64} (hr : moRef f g mo (moE a th9 (nI st9) (nI en9) (nI ct9) gd ln bf ac un (nI r.2))) : RMo cA g mo a th9 V st9 en9 ct9 r ∧ ∀ z, z ≠ mo → (∀ i, i < 17 → z ≠ a i) → g z = f z := by
  obtain ⟨h1, h2⟩ := hr
  obtain ⟨q, ⟨k0, k1, k2, k3, k4⟩, ⟨⟨gd0, v0, s1, s2, s3⟩, s4⟩⟩ := hM
  have k : ∀ i, i < 17 → g (a i) = f (a i) := fun i hi => h2 _ (q.2 i hi)
  refine ⟨⟨q, ⟨by rw [k 0 (by omega)]; exact k0, by rw [k 1 (by omega)]; exact k1, by rw [k 2 (by omega)]; exact k2, by rw [k 3 (by omega)]; exact k3, fun j hj => by rw [k (4 + j) (by omega)]; exact k4 j hj⟩, ⟨gd, (ln, bf, ac, un, v0.2.2.2.2), h1, by rw [k 14 (by omega)]; exact s2, by rw [k 15 (by omega)]; exact s3⟩, by rw [k 16 (by omega)]; exact s4⟩, fun z hz _ => h2 z hz⟩
theorem RMo.added (hM : RMo cA f mo a th V st en ct r) {th9 : Int32} {V9 : Wd} {st9 en9 ct9 : Nat} {gd : Bool} {ln bf ac un : Int64} (hr : moAdd cA f g mo a V9 (moE a th9 (nI st9) (nI en9) (nI ct9) gd ln bf ac un (nI r.2))) : RMo cA g mo a th9 V9 st9 en9 ct9 r ∧ ∀ z, z ≠ mo → (∀ i, i < 17 → z ≠ a i) → g z = f z := by
  obtain ⟨h1, h2, h3⟩ := hr
  obtain ⟨q, -, ⟨⟨gd0, v0, s1, s2, s3⟩, s4⟩⟩ := hM
  have k : ∀ i, 2 ≤ i → i < 17 → g (a i) = f (a i) := fun i h2 hi => h3 _ (q.2 i hi) (q.1 i 0 hi (by omega) (by omega)) (q.1 i 1 hi (by omega) (by omega))
  refine ⟨⟨q, h2, ⟨gd, (ln, bf, ac, un, v0.2.2.2.2), h1, by rw [k 14 (by omega) (by omega)]; exact s2, by rw [k 15 (by omega) (by omega)]; exact s3⟩, by rw [k 16 (by omega) (by omega)]; exact s4⟩, fun z hz hi => h3 z hz (hi 0 (by omega)) (hi 1 (by omega))⟩
theorem RMo.laid (hM : RMo cA f mo a th V st en ct r) {th9 : Int32} {st9 en9 ct9 : Nat} {r9 : Mk} (hr : msc cA g mo a th9 (nI st9) (nI en9) (nI ct9) r9) (hk : ∀ z, z ≠ mo → z ≠ a 14 → z ≠ a 15 → z ≠ a 16 → g z = f z) : RMo cA g mo a th9 V st9 en9 ct9 r9 ∧ ∀ z, z ≠ mo → (∀ i, i < 17 → z ≠ a i) → g z = f z := by
  obtain ⟨q, hA, -⟩ := hM
  exact ⟨⟨q, hA.keep3 q hk, hr⟩, fun z hz hi => hk z hz (hi 14 (by omega)) (hi 15 (by omega)) (hi 16 (by omega))⟩
theorem RMo.asked (hM : RMo cA f mo a th V st en ct r) {th9 : Int32} {st9 en9 ct9 : Nat} (hr : ∃ (gd9 : Bool) (v9 : Vl), scr cA g mo a th9 (nI st9) (nI en9) (nI ct9) (nI r.2) gd9 v9) (hk : ∀ z, z ≠ mo → z ≠ a 14 → z ≠ a 15 → g z = f z) : RMo cA g mo a th9 V st9 en9 ct9 r ∧ ∀ z, z ≠ mo → (∀ i, i < 17 → z ≠ a i) → g z = f z := by
  obtain ⟨q, hA, -, s4⟩ := id hM
  exact hM.laid (r9 := r) ⟨hr, by rw [hk _ (q.2 16 (by omega)) (q.1 16 14 (by omega) (by omega) (by omega)) (q.1 16 15 (by omega) (by omega) (by omega))]; exact s4⟩ (fun z h1 h2 h3 _ => hk z h1 h2 h3)
theorem RMo.packed (hM : RMo cA f mo a th V st en ct r) {th9 : Int32} {V9 : Wd} {st9 en9 ct9 : Nat} (hr : ∃ (gd9 : Bool) (v9 : Vl), scr cA g mo a th9 (nI st9) (nI en9) (nI ct9) (nI r.2) gd9 v9) (hA9 : moA cA g a V9) (hk : ∀ z, z ≠ mo → (∀ i, 2 ≤ i → i < 16 → z ≠ a i) → g z = f z) : RMo cA g mo a th9 V9 st9 en9 ct9 r ∧ ∀ z, z ≠ mo → (∀ i, i < 17 → z ≠ a i) → g z = f z := by
  obtain ⟨q, hA, -, s4⟩ := id hM
  exact ⟨⟨q, hA9, hr, by rw [hk _ (q.2 16 (by omega)) (fun i h2 hi => q.1 16 i (by omega) (by omega) (by omega))]; exact s4⟩, fun z hz hi => hk z hz (fun i h2 h16 => hi i (by omega))⟩
end RP0
