/-! ===== pack ===== -/
def biF (f : hv_M) (q : Nat) : Int32 × Int32 := match f q with
  | some (.inr (_, _ :: _ :: _ :: .int dp :: .int al :: _)) => (dp, al)
  | _ => (0, 0)
section RP3
variable {cA : Nat → ClassId} {f g1 g2 : hv_M} {x la ma mk rw9 mo o : Nat} {gl gb : Nat → Option Nat} {ad ca pa a : Nat → Nat} {gc : Nat → Nat → Option Nat} {gp : Nat → Nat → Int32} {V : Wd} {st en ct : Nat} {r : Mk} {th : Int32} {ow : Nat → Int64} {k : Int32} {v2 : Option Value} {gd : Bool} {ln bf ac un : Int64}

abbrev PPk (cA : Nat → ClassId) (f : hv_M) (x la ma mk n bn : Nat) (gl gb : Nat → Option Nat) (iv : Nat → It) (bi : Nat → Int32 × Int32) (bel : Bool) (how size gr : Int32) : Option Value → hv_M → Prop := fun v g => v = some (.int (nI bn)) ∧ okPack how size gr = true ∧ bn < 100 ∧ ∃ (dp al w h d ex od to ov : Int32) (q q1 q2 : Nat) (gc : Nat → Option Nat) (gp : Nat → Int32), initF bi iv n 0 1 (nI n) = (dp, al) ∧ ¬ 10 < dp ∧ fitF bel how size gr iv n = some (w, h, d, ex, od, to, ov, gp) ∧ f q = none ∧ f q1 = none ∧ f q2 = none ∧ g q = some (.inr (1, [.int (b2i bel), .ref q1, .ref q2, .int dp, .int al, .int w, .int h, .int d, .int ex, .int od, .int to, .int ov])) ∧ g q1 = some (.inl (cA 3, n, .inr (.inr (.inr (.inr gc))))) ∧ (∀ j, j < n → gc j = gl j) ∧ g q2 = some (.inl (cA 0, n, .inl gp)) ∧ g ma = some (.inl (cA 4, 100, .inr (.inr (.inr (.inr (va_up gb bn (some q))))))) ∧ g x = some (bpE la ma mk 0 (bn + 1)) ∧ ∀ z y, z ≠ x → z ≠ ma → f z = some y → g z = some y
abbrev TPk (f : hv_M) (n bn : Nat) (iv : Nat → It) (bi : Nat → Int32 × Int32) (bel : Bool) (how size gr : Int32) : String → hv_M → Prop := fun E g => (∀ z y, f z = some y → g z = some y) ∧ ((E = "java/lang/IllegalArgumentException" ∧ okPack how size gr = false) ∨ (E = "java/lang/UnsupportedOperationException" ∧ okPack how size gr = true ∧ (100 ≤ bn ∨ (bn < 100 ∧ 10 < (initF bi iv n 0 1 (nI n)).1))) ∨ (E = "java/lang/IllegalStateException" ∧ okPack how size gr = true ∧ bn < 100 ∧ ¬ 10 < (initF bi iv n 0 1 (nI n)).1 ∧ fitF bel how size gr iv n = none))
theorem biF_ad (hC : RC cA f x la ma mk rw9 gl gb ad ca pa gc gp V st en ct r) : ∀ b, b < ct → biF f (ad b) = (wA V 8 b, wA V 9 b) := fun b hb => by
  have h1 := (hC.2.2.2.2.2.2.2.1 b hb).1
  simp only [biF, h1]
theorem pk_bi (hI : InvS V st en ct r) (hC : RC cA f x la ma mk rw9 gl gb ad ca pa gc gp V st en ct r) : ∀ i, i < en - st → ∀ t w h d q z, itO V ad (st + i) = .inl (t, w, h, d, some q, z) → bxAt f q (biF f q) := fun i hi t w h d q z e => by
  rcases kd_box (ad := ad) (hI.2.2.2.2.2.2.2.1 i hi) with ⟨-, w4, t', w', h', d', z', e4⟩ | ⟨-, ⟨t', w', h', d', z', e4⟩ | ⟨z', e4⟩⟩
  · rw [e4] at e
    simp only [Sum.inl.injEq, Prod.mk.injEq, Option.some.injEq] at e
    obtain ⟨-, -, -, -, e5, -⟩ := e
    subst e5
    rw [biF_ad hC _ w4]
    exact ⟨_, _, _, _, _, _, _, _, _, _, (hC.2.2.2.2.2.2.2.1 _ w4).1⟩
  · rw [e4] at e; simp at e
  · rw [e4] at e; cases e
theorem pk_or (hI : InvS V st en ct r) : ordsIn (en - st) (fun i => itO V ad (st + i)) := fun i hi w b1 b d z e => by
  obtain ⟨-, -, f3⟩ := itO_sp (hI.2.2.2.2.2.2.2.1 i hi) e
  rcases f3 with ⟨-, -, e2, -, e4, hok⟩ | ⟨-, -, e2, -, e4⟩
  · obtain ⟨o1, o2⟩ := okGlue_ord hok
    rw [e2, e4]; exact ⟨ord_in o1, ord_in o2⟩
  · rw [e2, e4]; exact ⟨ord_in (by decide), ord_in (by decide)⟩
theorem CF.of_pack {n bn : Nat} {iv : Nat → It} {bi : Nat → Int32 × Int32} {bel : Bool} {how size gr : Int32} {v : Option Value} (h : PPk cA f x la ma mk n bn gl gb iv bi bel how size gr v g1) : CF f g1 x la ma mk rw9 := by
  obtain ⟨-, -, -, dp, al, w, h, d, ex, od, to, ov, q, q1, q2, gc, gp, -, -, -, -, -, -, -, -, -, -, -, -, hk⟩ := h
  exact fun z y n1 n2 n3 _ _ hz => hk z y n1 n3 hz
theorem op_pack {bel : Bool} {how size gr : Int32} (hI : InvS V st en ct r) (hC : RC cA f x la ma mk rw9 gl gb ad ca pa gc gp V st en ct r) (hM : RMo cA f mo a th V st en ct r) (hD : DJ a pa rw9 ct) (ho : f o = some (outE cA ow))
    (h1 : HPi (PPk cA f x la ma mk (en - st) ct gl gb (fun i => itO V ad (st + i)) (biF f) bel how size gr) (TPk f (en - st) ct (fun i => itO V ad (st + i)) (biF f) bel how size gr) cA o ow [("java/lang/IllegalArgumentException", 1), ("java/lang/UnsupportedOperationException", 2), ("java/lang/IllegalStateException", 3)] k g1) (hM1 : RMo cA g1 mo a th V st en ct r)
    (h2 : (okPack how size gr = false ∧ v2 = some (.int 0) ∧ moRef g1 g2 mo (moE a 1 (nI st) (nI en) (nI ct) gd ln bf ac un (nI r.2))) ∨ (okPack how size gr = true ∧ (ct = 100 ∨ (¬ ct = 100 ∧ dL V st (en - st) = 10)) ∧ v2 = some (.int 0) ∧ moRef g1 g2 mo (moE a 2 (nI st) (nI en) (nI ct) gd ln bf ac un (nI r.2))) ∨ (okPack how size gr = true ∧ ¬ ct = 100 ∧ ¬ dL V st (en - st) = 10 ∧ (gL V bel st (en - st) && gdM bel how size gr (fL V bel st (en - st))) = false ∧ v2 = some (.int 0) ∧ (∃ (gd9 : Bool) (v9 : Vl), scr cA g2 mo a 3 (nI st) (nI en) (nI ct) (nI r.2) gd9 v9) ∧ ∀ z, z ≠ mo → z ≠ a 14 → z ≠ a 15 → g2 z = g1 z) ∨
      (okPack how size gr = true ∧ ¬ ct = 100 ∧ ¬ dL V st (en - st) = 10 ∧ (gL V bel st (en - st) && gdM bel how size gr (fL V bel st (en - st))) = true ∧ v2 = some (.int (nI ct)) ∧ (∃ (gd9 : Bool) (v9 : Vl), scr cA g2 mo a 0 (nI en) (nI en) (nI (ct + 1)) (nI r.2) gd9 v9) ∧ moA cA g2 a (pkW V st en ct bel (atM V bel how size gr st (en - st) (fL V bel st (en - st)))) ∧ ∀ z, z ≠ mo → (∀ i, 2 ≤ i → i < 16 → z ≠ a i) → g2 z = g1 z)) : ∃ (b : Int32) (ow1 : Nat → Int64), v2 = some (.int b) ∧ RP cA g2 x mo o k ow1 ∧ (k = 0 → ow1 0 = b.toInt64) := by
  have i1 := hI.1
  have i2 := hI.2.1
  have hbx := hI.2.2.2.2.2.1
  have hv := hI.2.2.2.2.2.2.2.1
  have hb : ∀ b, b < ct → szI (wA V 0 b) ∧ szI (wA V 1 b) ∧ szI (wA V 2 b) := fun b h => ⟨(hbx b h).2.2.1, (hbx b h).2.2.2.1, (hbx b h).2.2.2.2.1⟩
  have hb8 : ∀ b, b < ct → 1 ≤ (wA V 8 b).toInt ∧ (wA V 8 b).toInt ≤ 10 := fun b h => (hbx b h).2.2.2.2.2.2.2.2.1
  have hb9 : ∀ b, b < ct → 0 ≤ (wA V 9 b).toInt ∧ (wA V 9 b).toInt ≤ 1000000 := fun b h => (hbx b h).2.2.2.2.2.2.2.2.2.1
  have ini := init_all (ad := ad) (bi := biF f) i2 hv hb8 hb9 (biF_ad hC)
  obtain ⟨d10, -⟩ := dL_10 hv hb8
  have exc : ∀ (E : String) (kx : Int32), ¬ kx = 0 → k = kx → (∀ z y, f z = some y → g1 z = some y) → v2 = some (.int 0) → (RMo cA g2 mo a kx V st en ct r ∧ ∀ z, z ≠ mo → (∀ i, i < 17 → z ≠ a i) → g2 z = g1 z) → ∃ (b : Int32) (ow1 : Nat → Int64), v2 = some (.int b) ∧ RP cA g2 x mo o k ow1 ∧ (k = 0 → ow1 0 = b.toInt64) := fun E kx n0 ek hk w1 hR => by
    obtain ⟨c1, c2⟩ := hC.more hk
    exact ⟨_, ow, w1, by rw [ek]; exact RP.made hI c1 hM1 hD (c2.keepO hC ho) hR, fun q => by rw [ek] at q; exact absurd q n0⟩
  rcases h1 with ⟨v, g0, ⟨e1, e2, e3, dp, al, w, h, d, ex, od, to, ov, q, q1, q2, gc9, gp9, p1, p2, p3, p4, p5, p6, p7, p8, p9, p10, p11, p12, p13⟩, k0, rfl⟩ | ⟨E, ⟨hk, ⟨e1, e2⟩ | ⟨e1, e2, e3⟩ | ⟨e1, e2, e3, e4, e5⟩⟩, ek⟩
  · rw [ini] at p1
    simp only [Prod.mk.injEq] at p1
    have hd : ¬ dL V st (en - st) = 10 := fun z => p2 (by rw [← p1.1]; exact d10.mpr z)
    rcases fit_sim (ad := ad) (bel := bel) hv hb e2 with ⟨s1, -⟩ | ⟨A, gp8, hA, s1, s2, s3, z0, z1, z2, z3, z5, z6, z7⟩
    · rw [s1] at p3; cases p3
    · rw [s1] at p3
      simp only [Option.some.injEq, Prod.mk.injEq] at p3
      obtain ⟨r0, r1, r2, r3, r4, r5, r6, r7⟩ := p3
      have a8 : A 8 = dp := by rw [← p1.1, hA]; rfl
      have a9 : A 9 = al := by rw [← p1.2, hA]; rfl
      rcases h2 with ⟨w, -⟩ | ⟨-, w, -⟩ | ⟨-, -, -, w, -⟩ | ⟨-, -, -, -, w1, w2, w3, w4⟩
      · rw [e2] at w; cases w
      · rcases w with w | w
        · omega
        · exact absurd w.2 hd
      · rw [s2] at w; cases w
      · rw [← hA] at w3
        obtain ⟨c1, c2⟩ := hC.packed hI (bel := bel) (A := A) p4 p5 p6 (by rw [a8, a9, r0, r1, r2, r3, r4, r5, r6]; exact p7) p8 p9 p10 p11 p12 p13 (by rw [← r7]; exact s3)
        have hnew := pkW_new (V := V) (c9 := ct) hA i1 i2 hv hb8 hb9 hd z0 z1 z2 z3 z5 z6 z7
        have o0 := c1.keepO hC ho
        have ev : v = nI ct := by simpa using e1
        have hI9 := hI.packed e3 hnew
        have hD9 : DJ a (va_up pa ct q2) rw9 (ct + 1) := ⟨hD.1, fun b hb i hi => by
          by_cases e : b = ct
          · subst e
            simp only [va_up, if_true]
            rcases hM.lies hi with ⟨-, c, n, w, z⟩ | ⟨-, w, z⟩ | ⟨-, z⟩ <;> exact Ne.symm (hv_nn z p6)
          · simp only [va_up, if_neg e]
            exact hD.2 b (by omega) i hi⟩
        refine ⟨_, vp_updL ow 0 v.toInt64, w1, ?_, fun _ => ?_⟩
        · rw [k0]
          exact RP.made hI9 (c2.out hI9.2.2.1 o0) hM1 hD9 (hv_up_self _ _ _) (hM1.packed w2 w3 w4)
        · simp [vp_updL, ev]
  · subst e1
    have ek : k = 1 := by simpa using ek
    rcases h2 with ⟨w, w1, w2⟩ | ⟨w, -⟩ | ⟨w, -⟩ | ⟨w, -⟩
    · exact exc "java/lang/IllegalArgumentException" 1 (by decide) ek hk w1 (hM1.ref w2)
    · rw [e2] at w; cases w
    · rw [e2] at w; cases w
    · rw [e2] at w; cases w
  · subst e1
    have ek : k = 2 := by simpa using ek
    have hor : ct = 100 ∨ dL V st (en - st) = 10 := by
      rcases e3 with z | ⟨-, z⟩
      · exact Or.inl (Nat.le_antisymm hI.2.2.1 z)
      · rw [ini] at z; exact Or.inr (d10.mp z)
    rcases h2 with ⟨w, -⟩ | ⟨-, -, w1, w2⟩ | ⟨-, w, w', -⟩ | ⟨-, w, w', -⟩
    · rw [e2] at w; cases w
    · exact exc "java/lang/UnsupportedOperationException" 2 (by decide) ek hk w1 (hM1.ref w2)
    · exact absurd hor (by rintro (z | z); exact w z; exact w' z)
    · exact absurd hor (by rintro (z | z); exact w z; exact w' z)
  · subst e1
    have ek : k = 3 := by simpa using ek
    rw [ini] at e4
    have hd : ¬ dL V st (en - st) = 10 := fun z => e4 (d10.mpr z)
    have sF : (gL V bel st (en - st) && gdM bel how size gr (fL V bel st (en - st))) = false := by
      rcases fit_sim (ad := ad) (bel := bel) hv hb e2 with ⟨-, s2⟩ | ⟨A, gp8, -, s1, -⟩
      · exact s2
      · rw [s1] at e5; cases e5
    rcases h2 with ⟨w, -⟩ | ⟨-, w, -⟩ | ⟨-, -, -, -, w1, w2, w3⟩ | ⟨-, -, -, w, -⟩
    · rw [e2] at w; cases w
    · rcases w with w | w
      · omega
      · exact absurd w.2 hd
    · exact exc "java/lang/IllegalStateException" 3 (by decide) ek hk w1 (hM1.asked w2 w3)
    · rw [sF] at w; cases w
end RP3
