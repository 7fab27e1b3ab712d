/-! ===== the first state ===== -/
theorem RP_start {cA : Nat → ClassId} {g : hv_M} {x mo o la ma mk rw9 : Nat} {a : Nat → Nat} {ow : Nat → Int64} (hlm : la ≠ ma) (h1 : g x = some (.inr (0, [.ref la, .int 0, .ref ma, .int 0, .ref mk]))) (h2 : g la = some (.inl (cA 3, 100, .inr (.inr (.inr (.inr (fun _ => none))))))) (h3 : g ma = some (.inl (cA 4, 100, .inr (.inr (.inr (.inr (fun _ => none))))))) (h4 : g mk = some (.inr (4, [.ref rw9, .int 0]))) (h5 : g rw9 = some (.inl (cA 1, 6000, .inr (.inl (fun _ => 0)))))
    (hN : moN mo a) (m1 : g mo = some (moE a 0 0 0 0 false 0 0 0 0 0)) (m2 : moA cA g a V00) (m3 : g (a 14) = some (.inl (cA 1, 4, .inr (.inl (fun _ => 0))))) (m4 : g (a 15) = some (.inl (cA 1, 4, .inr (.inl (fun _ => 0))))) (m5 : g (a 16) = some (.inl (cA 1, 6000, .inr (.inl (fun _ => 0))))) (hd : rw9 ≠ a 16) (ho : g o = some (outE cA ow)) : RP cA g x mo o 0 ow := by
  refine ⟨V00, 0, 0, 0, (fun _ => 0, 0), la, ma, mk, rw9, fun _ => none, fun _ => none, fun _ => 0, fun _ => 0, fun _ => 0, fun _ _ => none, fun _ _ => 0, a, ?_, ?_, ?_, ?_, ho⟩
  · exact ⟨Nat.le_refl _, Nat.zero_le _, Nat.zero_le _, Nat.zero_le _, rfl, fun b hb => absurd hb (Nat.not_lt_zero b), fun b hb => absurd hb (Nat.not_lt_zero b), fun i hi => absurd hi (Nat.not_lt_zero i), Nat.zero_le _⟩
  · exact ⟨h1, h2, h3, hlm, ⟨h4, h5⟩, fun i hi => absurd hi (Nat.not_lt_zero i), fun b hb => absurd hb (Nat.not_lt_zero b), fun b hb => absurd hb (Nat.not_lt_zero b), fun b hb => absurd hb (Nat.not_lt_zero b)⟩
  · exact ⟨hN, m2, ⟨false, (0, 0, 0, 0, fun _ => 0, fun _ => 0), m1, m3, m4⟩, m5⟩
  · exact ⟨hd, fun b hb => absurd hb (Nat.not_lt_zero b)⟩
theorem RP.thrown {cA : Nat → ClassId} {g : hv_M} {x mo o : Nat} {th : Int32} {ow : Nat → Int64} (h : RP cA g x mo o th ow) : ∃ (a : Nat → Nat) (st en ct : Int32) (gd : Bool) (ln bf ac un : Int64) (md : Int32), g mo = some (moE a th st en ct gd ln bf ac un md) ∧ moN mo a := by
  obtain ⟨V, st, en, ct, r, la, ma, mk, rw9, gl, gb, ad, ca, pa, gc, gp, a, -, -, hM, -, -⟩ := h
  obtain ⟨hN, -, ⟨⟨gd, v, s1, -⟩, -⟩⟩ := hM
  exact ⟨a, _, _, _, gd, _, _, _, _, _, s1, hN⟩
theorem RP.outAt {cA : Nat → ClassId} {g : hv_M} {x mo o : Nat} {th : Int32} {ow : Nat → Int64} (h : RP cA g x mo o th ow) : g o = some (outE cA ow) := by
  obtain ⟨V, st, en, ct, r, la, ma, mk, rw9, gl, gb, ad, ca, pa, gc, gp, a, -, -, -, -, ho⟩ := h
  exact ho
theorem InvS.lt {V : Wd} {st en ct : Nat} {r : Mk} (h : InvS V st en ct r) : en < 10200 := by
  obtain ⟨i1, i2, i3, i4, -⟩ := h
  omega
theorem InvS.boxes {V : Wd} {st en ct : Nat} {r : Mk} (h : InvS V st en ct r) : ∀ b, b < ct → wF V b ≤ wF V (b + 1) ∧ wF V (b + 1) - wF V b ≤ 100 ∧ wF V (b + 1) ≤ 10100 ∧ ∀ j, j < wF V (b + 1) - wF V b → itN V (wF V b + j) := by
  obtain ⟨i1, i2, i3, i4, i5, i6, i7, i8, i9⟩ := h
  intro b hb
  have v := i6 b hb
  exact ⟨v.1, v.2.1, by have := i7 b hb; omega, fun j hj => itV_N (v.2.2.2.2.2.2.2.2.2.2.2 j hj).1 (by omega)⟩
theorem InvS.items {V : Wd} {st en ct : Nat} {r : Mk} (h : InvS V st en ct r) : ∀ i, i < en - st → itN V (st + i) := fun i hi => itV_N (h.2.2.2.2.2.2.2.1 i hi) h.2.2.1
/-! ===== the law's counting ===== -/
theorem law_gt {L j : Nat} (hL : L ≤ 3072) (hj : j ≤ 512) : (nI (6 * j) > Int32.ofNat L - 6) ↔ L < 6 * j + 6 := by
  have e1 : (nI (6 * j)).toInt = ((6 * j : Nat) : Int) := nI_toInt (by omega)
  have e2 : (Int32.ofNat L).toInt = (L : Int) := nI_toInt (n := L) (by omega)
  have e3 : (Int32.ofNat L - 6).toInt = (L : Int) - 6 := by
    rw [Int32.toInt_sub, e2, show (6 : Int32).toInt = 6 by decide, Int.bmod_eq_of_le (by omega) (by omega)]
  show Int32.ofNat L - 6 < nI (6 * j) ↔ _
  rw [Int32.lt_iff_toInt_lt, e1, e3]
  omega
theorem law_ix {j k : Nat} (hj : j ≤ 512) (hk : k ≤ 6) : (nI (6 * j) + nI k).toNatClampNeg = 6 * j + k := by
  rw [nI_add, nI_clamp (by omega)]
