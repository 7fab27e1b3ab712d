/-! ===== the class's steps ===== -/
section RP1
variable {cA : Nat → ClassId} {f g : hv_M} {x la ma mk rw9 mo o : Nat} {gl gb : Nat → Option Nat} {ad ca pa a : Nat → Nat} {gc : Nat → Nat → Option Nat} {gp : Nat → Nat → Int32} {V : Wd} {st en ct : Nat} {r : Mk} {th : Int32} {ow : Nat → Int64}
/-- a box's picture, in another world that agrees -/
theorem boxR_world {V' : Wd} {b c : Nat} {ad' ca' pa' : Nat → Nat} {gc' : Nat → Nat → Option Nat} {gp' : Nat → Nat → Int32} (h : boxR cA f V ad ca pa gc gp b) (hA : bxA V V' c) (hb : b < c) (hv : bxV V b) (e1 : ∀ b, b < c → ad' b = ad b) (e2 : ca' b = ca b) (e3 : pa' b = pa b) (e4 : gc' b = gc b) (e5 : gp' b = gp b) : boxR cA f V' ad' ca' pa' gc' gp' b := by
  obtain ⟨h1, h2, h3, h4, h5⟩ := h
  have F0 := hA.1 b (Nat.le_of_lt hb)
  have F1 := hA.1 (b + 1) hb
  have at9 := hA.2.2.1 b hb
  have hn : wF V' (b + 1) - wF V' b = wF V (b + 1) - wF V b := by rw [F0, F1]
  refine ⟨?_, ?_, ?_, ?_, ?_⟩
  · rw [e1 b hb, h1, boxC, boxC, hA.2.1 b hb, e2, e3, at9, at9, at9, at9, at9, at9, at9, at9, at9]
  · rw [e2, h2, hn, e4]
  · rw [e3, h3, hn, e5]
  · intro i hi
    rw [hn] at hi
    obtain ⟨q, q1, q2⟩ := h4 i hi
    refine ⟨q, by rw [e4]; exact q1, ?_⟩
    show f q = some (itE (itO V' ad' (wF V' b + i)))
    have q2 : f q = some (itE (itO V ad (wF V b + i))) := q2
    rw [q2, F0, itO_congr (hA.2.2.2 b hb i hi) hA.2.2.1 e1 (itV_mono (Nat.le_of_lt hb) (hv.2.2.2.2.2.2.2.2.2.2.2 i hi).1)]
  · intro i hi
    rw [hn] at hi
    rw [e5, h5 i hi, plF_congr hA hb hv hi]
theorem adW_bx {kd x0 x1 x2 x3 x4 : Int32} (hI : InvS V st en ct r) : bxA V (adW V en kd x0 x1 x2 x3 x4) ct := by
  obtain ⟨i1, i2, i3, i4, i5, i6, i7, i8, i9⟩ := hI
  refine ⟨fun b _ => rfl, fun b _ => rfl, fun b _ j => rfl, fun b hb i hi => adW_ne ?_⟩
  have := i7 b hb
  omega
theorem InvS.added {kd x0 x1 x2 x3 x4 : Int32} (hI : InvS V st en ct r) (hn : en - st < 100) (hv : itV (adW V en kd x0 x1 x2 x3 x4) ct en) : InvS (adW V en kd x0 x1 x2 x3 x4) st (en + 1) ct r := by
  have hA := adW_bx (kd := kd) (x0 := x0) (x1 := x1) (x2 := x2) (x3 := x3) (x4 := x4) hI
  obtain ⟨i1, i2, i3, i4, i5, i6, i7, i8, i9⟩ := hI
  refine ⟨by omega, by omega, i3, i4, i5, fun b hb => bxV_congr hA hb (i6 b hb), i7, fun i hi => ?_, i9⟩
  by_cases e : st + i = en
  · rw [e]; exact hv
  · exact itV_congr (adW_ne e) (i8 i (by omega))
theorem RC.added {kd x0 x1 x2 x3 x4 : Int32} {y : It} (hC : RC cA f x la ma mk rw9 gl gb ad ca pa gc gp V st en ct r) (hI : InvS V st en ct r) (hn : en - st < 100) (ha : addedI cA f g x la ma mk (en - st) ct gl (itE y)) (hy : y = itO (adW V en kd x0 x1 x2 x3 x4) ad en) :
    CF f g x la ma mk rw9 ∧ ∃ gl', RC cA g x la ma mk rw9 gl' gb ad ca pa gc gp (adW V en kd x0 x1 x2 x3 x4) st (en + 1) ct r := by
  have hA := adW_bx (kd := kd) (x0 := x0) (x1 := x1) (x2 := x2) (x3 := x3) (x4 := x4) hI
  obtain ⟨i1, i2, i3, i4, i5, i6, i7, i8, i9⟩ := hI
  obtain ⟨a1, a2, a3, a4, a5, a6, a7, a8, a9⟩ := hC
  obtain ⟨q, q0, q1, q2, q3, q4⟩ := ha
  have kp : ∀ z w, z ≠ x → z ≠ la → f z = some w → g z = f z := fun z w h1 h2 hz => q4 z h1 h2 (hv_nn hz q0)
  have nx : ∀ z w, f z = some (.inl w) → z ≠ x := fun z w hz => hv_ne hz a1 (by simp)
  have kI : ∀ (z : Nat) (w : It), f z = some (itE w) → g z = f z := fun z w hz => kp z _ (hv_ne hz a1 (itE_bp _ _)) (hv_ne hz a2 (itE_arr _ _)) hz
  have en1 : en + 1 - st = (en - st) + 1 := by omega
  refine ⟨fun z w h1 h2 h3 h4 h5 hz => by rw [kp z w h1 h2 hz]; exact hz, _, ?_, q2, ?_, a4, ⟨?_, ?_⟩, ?_, a7, fun b hb => ?_, a9⟩
  · rw [en1]; exact q1
  · rw [kp ma _ (nx _ _ a3) (Ne.symm a4) a3]; exact a3
  · rw [kp mk _ (hv_ne a5.1 a1 (by simp)) (hv_ne a5.1 a2 (by simp)) a5.1]; exact a5.1
  · rw [kp rw9 _ (nx _ _ a5.2) (hv_ne a5.2 a2 (by simp)) a5.2]; exact a5.2
  · intro i hi
    rw [en1] at hi
    by_cases e : i = en - st
    · subst e
      refine ⟨q, by simp [va_up], ?_⟩
      show g q = some (itE (itO (adW V en kd x0 x1 x2 x3 x4) ad (st + (en - st))))
      rw [q3, show st + (en - st) = en by omega, hy]
    · obtain ⟨z, z1, z2⟩ := a6 i (by omega)
      refine ⟨z, by simp [va_up, e, z1], ?_⟩
      show g z = some (itE (itO (adW V en kd x0 x1 x2 x3 x4) ad (st + i)))
      have z2 : f z = some (itE (itO V ad (st + i))) := z2
      rw [kI z _ z2, z2, itO_congr (adW_ne (by omega)) hA.2.2.1 (fun _ _ => rfl) (i8 i (by omega))]
  · have hb9 := a8 b hb
    obtain ⟨b1, b2, b3, -⟩ := id hb9
    have w := boxR_world hb9 hA hb (i6 b hb) (ad' := ad) (ca' := ca) (pa' := pa) (gc' := gc) (gp' := gp) (fun _ _ => rfl) rfl rfl rfl rfl
    exact w.keep (kp _ _ (hv_ne b1 a1 (by simp)) (hv_ne b1 a2 (by simp)) b1) (kp _ _ (nx _ _ b2) (Ne.symm (a9 b hb).1) b2) (kp _ _ (nx _ _ b3) (hv_ne b3 a2 (by simp)) b3) kI
/-- keep -/
theorem InvS.cut (hI : InvS V st en ct r) {j : Nat} (hj : j ≤ en - st) : InvS V st (st + j) ct r := by
  obtain ⟨i1, i2, i3, i4, i5, i6, i7, i8, i9⟩ := hI
  exact ⟨by omega, by omega, i3, i4, i5, i6, i7, fun i hi => i8 i (by omega), i9⟩
theorem RC.cut (hC : RC cA f x la ma mk rw9 gl gb ad ca pa gc gp V st en ct r) {j : Nat} (hj : j ≤ en - st) : RC cA (hv_up f x (bpE la ma mk j ct)) x la ma mk rw9 gl gb ad ca pa gc gp V st (st + j) ct r ∧ CF f (hv_up f x (bpE la ma mk j ct)) x la ma mk rw9 := by
  obtain ⟨a1, a2, a3, a4, a5, a6, a7, a8, a9⟩ := hC
  have k : ∀ z, z ≠ x → hv_up f x (bpE la ma mk j ct) z = f z := fun z hz => hv_up_ne _ _ hz
  have kI : ∀ (z : Nat) (w : It), f z = some (itE w) → hv_up f x (bpE la ma mk j ct) z = f z := fun z w hz => k z (hv_ne hz a1 (itE_bp _ _))
  refine ⟨⟨?_, ?_, ?_, a4, ⟨?_, ?_⟩, ?_, a7, fun b hb => ?_, a9⟩, fun z w h1 _ _ _ _ hz => by rw [k z h1]; exact hz⟩
  · rw [hv_up_self, show st + j - st = j by omega]
  · rw [k la (hv_ne a2 a1 (by simp))]; exact a2
  · rw [k ma (hv_ne a3 a1 (by simp))]; exact a3
  · rw [k mk (hv_ne a5.1 a1 (by simp))]; exact a5.1
  · rw [k rw9 (hv_ne a5.2 a1 (by simp))]; exact a5.2
  · intro i hi
    obtain ⟨z, z1, z2⟩ := a6 i (by omega)
    exact ⟨z, z1, by rw [kI z _ z2]; exact z2⟩
  · have hb9 := a8 b hb
    obtain ⟨b1, b2, b3, -⟩ := id hb9
    exact hb9.keep (k _ (hv_ne b1 a1 (by simp))) (k _ (hv_ne b2 a1 (by simp))) (k _ (hv_ne b3 a1 (by simp))) kI
/-- lay -/
theorem RC.marked (hC : RC cA f x la ma mk rw9 gl gb ad ca pa gc gp V st en ct r) {r' : Mk} (hm : mkAt cA g mk rw9 r') (hk : ∀ z, z ≠ mk → z ≠ rw9 → g z = f z) : RC cA g x la ma mk rw9 gl gb ad ca pa gc gp V st en ct r' ∧ CF f g x la ma mk rw9 := by
  obtain ⟨a1, a2, a3, a4, a5, a6, a7, a8, a9⟩ := hC
  have kI : ∀ (z : Nat) (w : It), f z = some (itE w) → g z = f z := fun z w hz => hk z (hv_ne hz a5.1 (itE_mk _ _)) (hv_ne hz a5.2 (itE_arr _ _))
  refine ⟨⟨?_, ?_, ?_, a4, hm, a6.keep kI, a7, fun b hb => (a8 b hb).marks a5 hk, a9⟩, fun z w _ _ _ h4 h5 hz => by rw [hk z h4 h5]; exact hz⟩
  · rw [hk x (hv_ne a1 a5.1 (by simp)) (hv_ne a1 a5.2 (by simp))]; exact a1
  · rw [hk la (hv_ne a2 a5.1 (by simp)) (hv_ne a2 a5.2 (by simp))]; exact a2
  · rw [hk ma (hv_ne a3 a5.1 (by simp)) (hv_ne a3 a5.2 (by simp))]; exact a3
/-- a step that keeps all there is -/
theorem RC.more (hC : RC cA f x la ma mk rw9 gl gb ad ca pa gc gp V st en ct r) (hk : ∀ z y, f z = some y → g z = some y) : RC cA g x la ma mk rw9 gl gb ad ca pa gc gp V st en ct r ∧ CF f g x la ma mk rw9 := by
  obtain ⟨a1, a2, a3, a4, a5, a6, a7, a8, a9⟩ := id hC
  have k : ∀ z y, f z = some y → g z = f z := fun z y hz => (hk z y hz).trans hz.symm
  refine ⟨hC.keep (k _ _ a1) (k _ _ a2) (k _ _ a3) (k _ _ a5.1) (k _ _ a5.2) (fun z y hz => k z _ hz) (fun b hb => ?_), fun z y _ _ _ _ _ hz => hk z y hz⟩
  obtain ⟨b1, b2, b3, -⟩ := a8 b hb
  exact ⟨k _ _ b1, k _ _ b2, k _ _ b3⟩
/-- pack -/
theorem InvS.packed (hI : InvS V st en ct r) {bel : Bool} {A : Nat → Int32} (hc : ct < 100) (hn : bxV (pkW V st en ct bel A) ct) : InvS (pkW V st en ct bel A) en en (ct + 1) r := by
  obtain ⟨i1, i2, i3, i4, i5, i6, i7, i8, i9⟩ := hI
  have hA := pkW_bx (e9 := en) (bel := bel) (at9 := A) i5
  obtain ⟨f1, f2, -⟩ := pkW_F0 (V := V) (s9 := st) (e9 := en) (c9 := ct) (bel := bel) (at9 := A)
  refine ⟨Nat.le_refl _, by omega, by omega, by omega, f2, fun b hb => ?_, fun b hb => ?_, fun i hi => absurd hi (by omega), i9⟩
  · by_cases e : b = ct
    · subst e; exact hn
    · exact bxV_congr hA (by omega) (i6 b (by omega))
  · by_cases e : b = ct
    · subst e; rw [f2]; exact Nat.le_refl _
    · rw [hA.1 (b + 1) (by omega)]
      exact Nat.le_trans (i7 b (by omega)) i1
theorem RC.packed (hC : RC cA f x la ma mk rw9 gl gb ad ca pa gc gp V st en ct r) (hI : InvS V st en ct r) {bel : Bool} {A : Nat → Int32} {q q1 q2 : Nat} {gc9 : Nat → Option Nat} {gp9 : Nat → Int32} (h0 : f q = none) (h1 : f q1 = none) (h2 : f q2 = none)
    (g0 : g q = some (.inr (1, [.int (b2i bel), .ref q1, .ref q2, .int (A 8), .int (A 9), .int (A 0), .int (A 1), .int (A 2), .int (A 3), .int (A 4), .int (A 5), .int (A 7)]))) (g1 : g q1 = some (.inl (cA 3, en - st, .inr (.inr (.inr (.inr gc9)))))) (hgc : ∀ j, j < en - st → gc9 j = gl j) (g2 : g q2 = some (.inl (cA 0, en - st, .inl gp9))) (gm : g ma = some (.inl (cA 4, 100, .inr (.inr (.inr (.inr (va_up gb ct (some q)))))))) (gx : g x = some (bpE la ma mk 0 (ct + 1))) (hk : ∀ z y, z ≠ x → z ≠ ma → f z = some y → g z = some y)
    (hp : ∀ j, j < en - st → (gp9 j).toInt64 = plX V bel (A 3) (A 4) (A 5) (A 7) st j) :
    CF f g x la ma mk rw9 ∧ RC cA g x la ma mk rw9 gl (va_up gb ct (some q)) (va_up ad ct q) (va_up ca ct q1) (va_up pa ct q2) (va_up gc ct gc9) (va_up gp ct gp9) (pkW V st en ct bel A) en en (ct + 1) r := by
  obtain ⟨i1, i2, i3, i4, i5, i6, i7, i8, i9⟩ := hI
  obtain ⟨a1, a2, a3, a4, a5, a6, a7, a8, a9⟩ := hC
  have hA := pkW_bx (e9 := en) (bel := bel) (at9 := A) i5
  obtain ⟨f1, f2, f3, f4⟩ := pkW_F0 (V := V) (s9 := st) (e9 := en) (c9 := ct) (bel := bel) (at9 := A)
  have k : ∀ z y, z ≠ x → z ≠ ma → f z = some y → g z = f z := fun z y n1 n2 hz => (hk z y n1 n2 hz).trans hz.symm
  have nx : ∀ z w, f z = some (.inl w) → z ≠ x := fun z w hz => hv_ne hz a1 (by simp)
  have kI : ∀ (z : Nat) (w : It), f z = some (itE w) → g z = f z := fun z w hz => k z _ (hv_ne hz a1 (itE_bp _ _)) (hv_ne hz a3 (itE_arr _ _)) hz
  have had : ∀ b, b < ct → va_up ad ct q b = ad b := fun b hb => by simp [va_up, show ¬ b = ct by omega]
  refine ⟨fun z w n1 n2 n3 _ _ hz => hk z w n1 n3 hz, ?_, ?_, gm, a4, ⟨?_, ?_⟩, ?_, fun b hb => ?_, fun b hb => ?_, fun b hb => ?_⟩
  · rw [Nat.sub_self]; exact gx
  · exact hk la _ (nx _ _ a2) a4 a2
  · exact hk mk _ (hv_ne a5.1 a1 (by simp)) (hv_ne a5.1 a3 (by simp)) a5.1
  · exact hk rw9 _ (nx _ _ a5.2) (hv_ne a5.2 a3 (by simp)) a5.2
  · intro i hi; omega
  · by_cases e : b = ct
    · subst e; simp [va_up]
    · simp [va_up, e, a7 b (by omega)]
  · by_cases e : b = ct
    · subst e
      refine ⟨?_, ?_, ?_, ?_, ?_⟩
      · rw [boxC, f3, f4, f4, f4, f4, f4, f4, f4, f4, f4]
        simp only [va_up, if_true]
        exact g0
      · rw [f1, f2]; simp only [va_up, if_true]; exact g1
      · rw [f1, f2]; simp only [va_up, if_true]; exact g2
      · rw [f1, f2]
        intro i hi
        obtain ⟨z, z1, z2⟩ := a6 i hi
        refine ⟨z, by simp only [va_up, if_true]; rw [hgc i hi]; exact z1, ?_⟩
        show g z = some (itE (itO (pkW V st en b bel A) (va_up ad b q) (st + i)))
        have z2 : f z = some (itE (itO V ad (st + i))) := z2
        rw [kI z _ z2, z2, itO_congr (pkW_it _) pkW_at had (i8 i hi)]
      · rw [f1, f2]
        intro i hi
        simp only [va_up, if_true]
        rw [hp i hi, plF_plX, f1, f3, f4, f4, f4, f4, plX_congr (V := V) (fun i _ => pkW_it _) pkW_at (fun i hi => i8 i hi) hi]
    · have hb2 : b < ct := by omega
      have hb9 := a8 b hb2
      obtain ⟨b1, b2, b3, -⟩ := id hb9
      have w := hb9.keep (g := g) (k _ _ (hv_ne b1 a1 (by simp)) (hv_ne b1 a3 (by simp)) b1) (k _ _ (nx _ _ b2) (Ne.symm (a9 b hb2).2) b2) (k _ _ (nx _ _ b3) (hv_ne b3 a3 (by simp)) b3) kI
      exact boxR_world w hA hb2 (i6 b hb2) had (by simp [va_up, e]) (by simp [va_up, e]) (by simp [va_up, e]) (by simp [va_up, e])
  · by_cases e : b = ct
    · subst e
      simp only [va_up, if_true]
      exact ⟨hv_nn a2 h1, hv_nn a3 h1⟩
    · simp only [va_up, if_neg e]
      exact a9 b (by omega)
end RP1
