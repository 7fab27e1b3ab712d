/-! ===== a step of the law: the helper, then the reference ===== -/
/-- how the law's helper ends: with the answer written, or with the exception's number -/
def HPi (P : Option Value → hv_M → Prop) (T : String → hv_M → Prop) (cA : Nat → ClassId) (o : Nat) (ow : Nat → Int64) (kE : List (String × Int32)) (k : Int32) (g1 : hv_M) : Prop :=
  (∃ (v : Int32) (g0 : hv_M), P (some (.int v)) g0 ∧ k = 0 ∧ g1 = hv_up g0 o (outE cA (vp_updL ow 0 v.toInt64))) ∨ ∃ E, T E g1 ∧ (E, k) ∈ kE
def HPl (P : Option Value → hv_M → Prop) (T : String → hv_M → Prop) (cA : Nat → ClassId) (o : Nat) (ow : Nat → Int64) (kE : List (String × Int32)) (k : Int32) (g1 : hv_M) : Prop :=
  (∃ (v : Int64) (g0 : hv_M), P (some (.long v)) g0 ∧ k = 0 ∧ g1 = hv_up g0 o (outE cA (vp_updL ow 0 v))) ∨ ∃ E, T E g1 ∧ (E, k) ∈ kE
section RP2
variable {cA : Nat → ClassId} {f g1 g2 : hv_M} {x la ma mk rw9 mo o : Nat} {gl gb : Nat → Option Nat} {ad ca pa a : Nat → Nat} {gc : Nat → Nat → Option Nat} {gp : Nat → Nat → Int32} {V : Wd} {st en ct : Nat} {r : Mk} {th : Int32} {ow : Nat → Int64} {k : Int32} {v2 : Option Value} {gd : Bool} {ln bf ac un : Int64}

theorem mid_i {P : Option Value → hv_M → Prop} {T : String → hv_M → Prop} {kE : List (String × Int32)} (hI : InvS V st en ct r) (hC : RC cA f x la ma mk rw9 gl gb ad ca pa gc gp V st en ct r) (hM : RMo cA f mo a th V st en ct r) (hD : DJ a pa rw9 ct) (ho : f o = some (outE cA ow)) (hP : ∀ v g, P v g → CF f g x la ma mk rw9) (hT : ∀ E g, T E g → CF f g x la ma mk rw9) (h : HPi P T cA o ow kE k g1) : RMo cA g1 mo a th V st en ct r := by
  rcases h with ⟨v, g0, p1, -, rfl⟩ | ⟨E, p1, -⟩
  · exact (hM.cl hC hD (hP _ _ p1)).out ((hP _ _ p1).keepO hC ho)
  · exact hM.cl hC hD (hT _ _ p1)
theorem mid_l {P : Option Value → hv_M → Prop} {T : String → hv_M → Prop} {kE : List (String × Int32)} (hI : InvS V st en ct r) (hC : RC cA f x la ma mk rw9 gl gb ad ca pa gc gp V st en ct r) (hM : RMo cA f mo a th V st en ct r) (hD : DJ a pa rw9 ct) (ho : f o = some (outE cA ow)) (hP : ∀ v g, P v g → CF f g x la ma mk rw9) (hT : ∀ E g, T E g → CF f g x la ma mk rw9) (h : HPl P T cA o ow kE k g1) : RMo cA g1 mo a th V st en ct r := by
  rcases h with ⟨v, g0, p1, -, rfl⟩ | ⟨E, p1, -⟩
  · exact (hM.cl hC hD (hP _ _ p1)).out ((hP _ _ p1).keepO hC ho)
  · exact hM.cl hC hD (hT _ _ p1)
theorem CF.rfl' : CF f f x la ma mk rw9 := fun _ _ _ _ _ _ _ h => h
theorem CF.of_added {e : va_E} {n bn : Nat} (h : addedI cA f g1 x la ma mk n bn gl e) : CF f g1 x la ma mk rw9 := fun z y h1 h2 _ _ _ hz => by
  obtain ⟨q, q0, -, -, -, q4⟩ := h
  rw [q4 z h1 h2 (hv_nn hz q0)]; exact hz
abbrev PAdd (cA : Nat → ClassId) (f : hv_M) (x la ma mk n bn : Nat) (gl : Nat → Option Nat) (ok : Bool) (y : It) : Option Value → hv_M → Prop := fun v g => v = some (.int (nI n)) ∧ ok = true ∧ n < 100 ∧ addedI cA f g x la ma mk n bn gl (itE y)
abbrev TAdd (f : hv_M) (n : Nat) (ok : Bool) : String → hv_M → Prop := fun E g => (E = "java/lang/IllegalArgumentException" ∧ ok = false ∧ g = f) ∨ (E = "java/lang/UnsupportedOperationException" ∧ ok = true ∧ 100 ≤ n ∧ g = f)
/-- the reference's part done, the class's world and the reference's being the same: the next state -/
theorem RP.made {V9 : Wd} {st9 en9 ct9 st0 en0 ct0 : Nat} {r9 r0 : Mk} {V0 : Wd} {th0 : Int32} {ow1 : Nat → Int64} (hI : InvS V9 st9 en9 ct9 r9) (hC : RC cA g1 x la ma mk rw9 gl gb ad ca pa gc gp V9 st9 en9 ct9 r9) (hM0 : RMo cA g1 mo a th0 V0 st0 en0 ct0 r0) (hD : DJ a pa rw9 ct9) (ho : g1 o = some (outE cA ow1)) (h2 : RMo cA g2 mo a th V9 st9 en9 ct9 r9 ∧ ∀ z, z ≠ mo → (∀ i, i < 17 → z ≠ a i) → g2 z = g1 z) : RP cA g2 x mo o th ow1 :=
  ⟨V9, st9, en9, ct9, r9, la, ma, mk, rw9, gl, gb, ad, ca, pa, gc, gp, a, hI, hC.byMo hM0 hD h2.2, h2.1, hD, hM0.oo ho h2.2⟩
theorem op_add {ok : Bool} {y : It} {kd x0 x1 x2 x3 x4 : Int32} (hI : InvS V st en ct r) (hC : RC cA f x la ma mk rw9 gl gb ad ca pa gc gp V st en ct r) (hM : RMo cA f mo a th V st en ct r) (hD : DJ a pa rw9 ct) (ho : f o = some (outE cA ow)) (hy : y = itO (adW V en kd x0 x1 x2 x3 x4) ad en) (hv : ok = true → itV (adW V en kd x0 x1 x2 x3 x4) ct en)
    (h1 : HPi (PAdd cA f x la ma mk (en - st) ct gl ok y) (TAdd f (en - st) ok) cA o ow [("java/lang/IllegalArgumentException", 1), ("java/lang/UnsupportedOperationException", 2)] k g1) (hM1 : RMo cA g1 mo a th V st en ct r)
    (h2 : (ok = false ∧ v2 = some (.int 0) ∧ moRef g1 g2 mo (moE a 1 (nI st) (nI en) (nI ct) gd ln bf ac un (nI r.2))) ∨ ((ok = true ∧ en - st = 100) ∧ v2 = some (.int 0) ∧ moRef g1 g2 mo (moE a 2 (nI st) (nI en) (nI ct) gd ln bf ac un (nI r.2))) ∨ ((ok = true ∧ en - st < 100) ∧ v2 = some (.int (nI (en - st))) ∧ moAdd cA g1 g2 mo a (adW V en kd x0 x1 x2 x3 x4) (moE a 0 (nI st) (nI (en + 1)) (nI ct) gd ln bf ac un (nI r.2)))) : ∃ (b : Int32) (ow1 : Nat → Int64), v2 = some (.int b) ∧ RP cA g2 x mo o k ow1 ∧ (k = 0 → ow1 0 = b.toInt64) := by
  rcases h1 with ⟨v, g0, ⟨e1, e2, e3, e4⟩, k0, rfl⟩ | ⟨E, ⟨e1, e2, e3⟩ | ⟨e1, e2, e3, e4⟩, ek⟩
  · rcases h2 with ⟨w, -⟩ | ⟨⟨-, w⟩, -⟩ | ⟨-, w1, w2⟩
    · rw [e2] at w; cases w
    · omega
    · obtain ⟨c1, gl9, c2⟩ := hC.added hI e3 e4 hy
      have o0 := c1.keepO hC ho
      have ev : v = nI (en - st) := by simpa using e1
      refine ⟨_, vp_updL ow 0 v.toInt64, w1, ?_, fun _ => ?_⟩
      · rw [k0]
        exact RP.made (hI.added e3 (hv e2)) (c2.out hI.2.2.1 o0) hM1 hD (hv_up_self _ _ _) (hM1.added w2)
      · simp [vp_updL, ev]
  · subst e3 e1
    have ek : k = 1 := by simpa using ek
    rcases h2 with ⟨w, w1, w2⟩ | ⟨⟨w, -⟩, -⟩ | ⟨⟨w, -⟩, -⟩
    · refine ⟨_, ow, w1, by rw [ek]; exact RP.made hI hC hM1 hD ho (hM1.ref w2), fun q => by rw [ek] at q; exact absurd q (by decide)⟩
    · rw [e2] at w; cases w
    · rw [e2] at w; cases w
  · subst e4 e1
    have ek : k = 2 := by simpa using ek
    rcases h2 with ⟨w, -⟩ | ⟨-, w1, w2⟩ | ⟨⟨-, w⟩, -⟩
    · rw [e2] at w; cases w
    · refine ⟨_, ow, w1, by rw [ek]; exact RP.made hI hC hM1 hD ho (hM1.ref w2), fun q => by rw [ek] at q; exact absurd q (by decide)⟩
    · omega
theorem it_leaf {t w h d : Int32} (hok : okLeaf t w h d = true) : itV (adW V en 0 t w h d 0) ct en := by
  obtain ⟨n1, n2, n3, n4, n5, n6⟩ := adW_N (V := V) (e := en) (kd := 0) (x0 := t) (x1 := w) (x2 := h) (x3 := d) (x4 := 0)
  simp only [okLeaf, Bool.and_eq_true, Bool.not_eq_true', decide_eq_false_iff_not] at hok
  exact Or.inl ⟨n1, by rw [n2]; exact hok.1.1.1.1, by rw [n3]; exact hok.1.1.2, by rw [n4]; exact hok.1.2, by rw [n5]; exact hok.2⟩
theorem io_leaf {t w h d : Int32} : (.inl (t, w, h, d, none, 0) : It) = itO (adW V en 0 t w h d 0) ad en := by
  obtain ⟨n1, n2, n3, n4, n5, n6⟩ := adW_N (V := V) (e := en) (kd := 0) (x0 := t) (x1 := w) (x2 := h) (x3 := d) (x4 := 0)
  rw [itO, if_pos n1, n2, n3, n4, n5]
theorem it_rule {w h d : Int32} (hok : okRule w h d = true) : itV (adW V en 1 w h d 0 0) ct en := by
  obtain ⟨n1, n2, n3, n4, n5, n6⟩ := adW_N (V := V) (e := en) (kd := 1) (x0 := w) (x1 := h) (x2 := d) (x3 := 0) (x4 := 0)
  simp only [okRule, Bool.and_eq_true] at hok
  exact Or.inr (Or.inl ⟨n1, by rw [n2]; exact hok.1.1, by rw [n3]; exact hok.1.2, by rw [n4]; exact hok.2⟩)
theorem io_rule {w h d : Int32} : (.inl (-1, w, h, d, none, 0) : It) = itO (adW V en 1 w h d 0 0) ad en := by
  obtain ⟨n1, n2, n3, n4, n5, n6⟩ := adW_N (V := V) (e := en) (kd := 1) (x0 := w) (x1 := h) (x2 := d) (x3 := 0) (x4 := 0)
  rw [itO, if_neg (by rw [n1]; decide), if_pos n1, n2, n3, n4]
theorem it_glue {w x0 b d z : Int32} (hok : okGlue w x0 b d z = true) : itV (adW V en 2 w x0 b d z) ct en := by
  obtain ⟨n1, n2, n3, n4, n5, n6⟩ := adW_N (V := V) (e := en) (kd := 2) (x0 := w) (x1 := x0) (x2 := b) (x3 := d) (x4 := z)
  exact Or.inr (Or.inr (Or.inl ⟨n1, by rw [n2, n3, n4, n5, n6]; exact hok⟩))
theorem io_glue {w x0 b d z : Int32} : (.inr (w, x0, b, d, z) : It) = itO (adW V en 2 w x0 b d z) ad en := by
  obtain ⟨n1, n2, n3, n4, n5, n6⟩ := adW_N (V := V) (e := en) (kd := 2) (x0 := w) (x1 := x0) (x2 := b) (x3 := d) (x4 := z)
  rw [itO, if_neg (by rw [n1]; decide), if_neg (by rw [n1]; decide), if_neg (by rw [n1]; decide), n2, n3, n4, n5, n6]
theorem it_kern {w : Int32} (hok : sz w.toInt64 = true) : itV (adW V en 3 w 0 0 0 0) ct en := by
  obtain ⟨n1, n2, n3, n4, n5, n6⟩ := adW_N (V := V) (e := en) (kd := 3) (x0 := w) (x1 := 0) (x2 := 0) (x3 := 0) (x4 := 0)
  exact Or.inr (Or.inr (Or.inr (Or.inl ⟨n1, by rw [n2]; exact hok, n3, n4, n5, n6⟩)))
theorem io_kern {w : Int32} : (.inr (w, 0, 0, 0, 0) : It) = itO (adW V en 3 w 0 0 0 0) ad en := by
  obtain ⟨n1, n2, n3, n4, n5, n6⟩ := adW_N (V := V) (e := en) (kd := 3) (x0 := w) (x1 := 0) (x2 := 0) (x3 := 0) (x4 := 0)
  rw [itO, if_neg (by rw [n1]; decide), if_neg (by rw [n1]; decide), if_neg (by rw [n1]; decide), n2, n3, n4, n5, n6]
/-- box -/
abbrev PBox (cA : Nat → ClassId) (f : hv_M) (x la ma mk n bn : Nat) (gl : Nat → Option Nat) (kk z w h d : Int32) (q : Nat) : Option Value → hv_M → Prop := fun v g => v = some (.int (nI n)) ∧ isBx kk bn = true ∧ sz z.toInt64 = true ∧ n < 100 ∧ addedI cA f g x la ma mk n bn gl (itE (.inl (-1, w, h, d, some q, z)))
abbrev TBox (f : hv_M) (n bn : Nat) (kk z : Int32) : String → hv_M → Prop := fun E g => (E = "java/lang/IndexOutOfBoundsException" ∧ isBx kk bn = false ∧ g = f) ∨ (E = "java/lang/IllegalArgumentException" ∧ isBx kk bn = true ∧ sz z.toInt64 = false ∧ g = f) ∨ (E = "java/lang/UnsupportedOperationException" ∧ isBx kk bn = true ∧ sz z.toInt64 = true ∧ 100 ≤ n ∧ g = f)
theorem op_box {kk z : Int32} (hI : InvS V st en ct r) (hC : RC cA f x la ma mk rw9 gl gb ad ca pa gc gp V st en ct r) (hM : RMo cA f mo a th V st en ct r) (hD : DJ a pa rw9 ct) (ho : f o = some (outE cA ow))
    (h1 : HPi (PBox cA f x la ma mk (en - st) ct gl kk z (wA V 0 kk.toNatClampNeg) (wA V 1 kk.toNatClampNeg) (wA V 2 kk.toNatClampNeg) (ad kk.toNatClampNeg)) (TBox f (en - st) ct kk z) cA o ow [("java/lang/IndexOutOfBoundsException", 1), ("java/lang/IllegalArgumentException", 2), ("java/lang/UnsupportedOperationException", 3)] k g1) (hM1 : RMo cA g1 mo a th V st en ct r)
    (h2 : (isBx kk ct = false ∧ v2 = some (.int 0) ∧ moRef g1 g2 mo (moE a 1 (nI st) (nI en) (nI ct) gd ln bf ac un (nI r.2))) ∨ ((isBx kk ct = true ∧ sz z.toInt64 = false) ∧ v2 = some (.int 0) ∧ moRef g1 g2 mo (moE a 2 (nI st) (nI en) (nI ct) gd ln bf ac un (nI r.2))) ∨ ((isBx kk ct = true ∧ sz z.toInt64 = true ∧ en - st = 100) ∧ v2 = some (.int 0) ∧ moRef g1 g2 mo (moE a 3 (nI st) (nI en) (nI ct) gd ln bf ac un (nI r.2))) ∨ ((isBx kk ct = true ∧ sz z.toInt64 = true ∧ en - st < 100) ∧ v2 = some (.int (nI (en - st))) ∧ moAdd cA g1 g2 mo a (adW V en 4 kk z 0 0 0) (moE a 0 (nI st) (nI (en + 1)) (nI ct) gd ln bf ac un (nI r.2)))) : ∃ (b : Int32) (ow1 : Nat → Int64), v2 = some (.int b) ∧ RP cA g2 x mo o k ow1 ∧ (k = 0 → ow1 0 = b.toInt64) := by
  rcases h1 with ⟨v, g0, ⟨e1, e2, e3, e4, e5⟩, k0, rfl⟩ | ⟨E, ⟨e1, e2, e3⟩ | ⟨e1, e2, e3, e4⟩ | ⟨e1, e2, e3, e4, e5⟩, ek⟩
  · rcases h2 with ⟨w, -⟩ | ⟨⟨-, w⟩, -⟩ | ⟨⟨-, -, w⟩, -⟩ | ⟨-, w1, w2⟩
    · rw [e2] at w; cases w
    · rw [e3] at w; cases w
    · omega
    · obtain ⟨b1, b2⟩ := isBx_nat e2 hI.2.2.1
      obtain ⟨n1, n2, n3, n4, n5, n6⟩ := adW_N (V := V) (e := en) (kd := 4) (x0 := kk) (x1 := z) (x2 := 0) (x3 := 0) (x4 := 0)
      have eI : wI (adW V en 4 kk z 0 0 0) en = kk.toNatClampNeg := by rw [wI, n2]
      have hy : (.inl (-1, wA V 0 kk.toNatClampNeg, wA V 1 kk.toNatClampNeg, wA V 2 kk.toNatClampNeg, some (ad kk.toNatClampNeg), z) : It) = itO (adW V en 4 kk z 0 0 0) ad en := by
        rw [itO, if_neg (by rw [n1]; decide), if_neg (by rw [n1]; decide), if_pos n1, eI, n3]
        rfl
      obtain ⟨c1, gl9, c2⟩ := hC.added hI e4 e5 hy
      have o0 := c1.keepO hC ho
      have ev : v = nI (en - st) := by simpa using e1
      refine ⟨_, vp_updL ow 0 v.toInt64, w1, ?_, fun _ => ?_⟩
      · rw [k0]
        exact RP.made (hI.added e4 (Or.inr (Or.inr (Or.inr (Or.inr ⟨n1, by rw [n3]; exact e3, by rw [eI]; exact b1, by rw [n2, eI]; exact b2⟩))))) (c2.out hI.2.2.1 o0) hM1 hD (hv_up_self _ _ _) (hM1.added w2)
      · simp [vp_updL, ev]
  · subst e3 e1
    have ek : k = 1 := by simpa using ek
    rcases h2 with ⟨w, w1, w2⟩ | ⟨⟨w, -⟩, -⟩ | ⟨⟨w, -⟩, -⟩ | ⟨⟨w, -⟩, -⟩
    · refine ⟨_, ow, w1, by rw [ek]; exact RP.made hI hC hM1 hD ho (hM1.ref w2), fun q => by rw [ek] at q; exact absurd q (by decide)⟩
    · rw [e2] at w; cases w
    · rw [e2] at w; cases w
    · rw [e2] at w; cases w
  · subst e4 e1
    have ek : k = 2 := by simpa using ek
    rcases h2 with ⟨w, -⟩ | ⟨-, w1, w2⟩ | ⟨⟨-, w, -⟩, -⟩ | ⟨⟨-, w, -⟩, -⟩
    · rw [e2] at w; cases w
    · refine ⟨_, ow, w1, by rw [ek]; exact RP.made hI hC hM1 hD ho (hM1.ref w2), fun q => by rw [ek] at q; exact absurd q (by decide)⟩
    · rw [e3] at w; cases w
    · rw [e3] at w; cases w
  · subst e5 e1
    have ek : k = 3 := by simpa using ek
    rcases h2 with ⟨w, -⟩ | ⟨⟨-, w⟩, -⟩ | ⟨-, w1, w2⟩ | ⟨⟨-, -, w⟩, -⟩
    · rw [e2] at w; cases w
    · rw [e3] at w; cases w
    · refine ⟨_, ow, w1, by rw [ek]; exact RP.made hI hC hM1 hD ho (hM1.ref w2), fun q => by rw [ek] at q; exact absurd q (by decide)⟩
    · omega
/-- of -/
abbrev POf (f : hv_M) (bn : Nat) (kk wh w h d ex od to ov dp al : Int32) (cn : Nat) : Option Value → hv_M → Prop := fun v g => g = f ∧ isBx kk bn = true ∧ ∃ j, j < 11 ∧ wh = nI j ∧ v = some (.int (ofV w h d ex od to ov dp al cn j))
abbrev TOf (f : hv_M) (bn : Nat) (kk wh : Int32) : String → hv_M → Prop := fun E g => E = "java/lang/IndexOutOfBoundsException" ∧ g = f ∧ (isBx kk bn = false ∨ (isBx kk bn = true ∧ isBx wh 11 = false))
theorem isBx_lt {j n : Nat} (hj : j < n) (hn : n < 2 ^ 31) : isBx (nI j) n = true := by
  have h1 : ¬ nI j < 0 := fun q => by
    have := Int32.lt_iff_toInt_lt.mp q
    rw [nI_toInt (by omega), show (0 : Int32).toInt = 0 by decide] at this
    omega
  have h2 := (nI_ltI (a := j) (b := n) (by omega) hn).mpr hj
  simp [isBx, h1, h2]
theorem nI_inj {i j : Nat} (hi : i < 2 ^ 31) (hj : j < 2 ^ 31) (h : nI i = nI j) : i = j := by rw [← nI_clamp hi, h, nI_clamp hj]
theorem op_of {kk wh : Int32} (hI : InvS V st en ct r) (hC : RC cA f x la ma mk rw9 gl gb ad ca pa gc gp V st en ct r) (hM : RMo cA f mo a th V st en ct r) (hD : DJ a pa rw9 ct) (ho : f o = some (outE cA ow))
    (h1 : HPi (POf f ct kk wh (wA V 0 kk.toNatClampNeg) (wA V 1 kk.toNatClampNeg) (wA V 2 kk.toNatClampNeg) (wA V 3 kk.toNatClampNeg) (wA V 4 kk.toNatClampNeg) (wA V 5 kk.toNatClampNeg) (wA V 7 kk.toNatClampNeg) (wA V 8 kk.toNatClampNeg) (wA V 9 kk.toNatClampNeg) (wF V (kk.toNatClampNeg + 1) - wF V kk.toNatClampNeg)) (TOf f ct kk wh) cA o ow [("java/lang/IndexOutOfBoundsException", 1)] k g1) (hM1 : RMo cA g1 mo a th V st en ct r)
    (h2 : ((isBx kk ct && isBx wh 11) = false ∧ v2 = some (.int 0) ∧ moRef g1 g2 mo (moE a 1 (nI st) (nI en) (nI ct) gd ln bf ac un (nI r.2))) ∨ (isBx kk ct = true ∧ ∃ j, j < 11 ∧ wh = nI j ∧ v2 = some (.int (ofM V kk.toNatClampNeg j)) ∧ moRef g1 g2 mo (moE a 0 (nI st) (nI en) (nI ct) gd ln bf ac un (nI r.2)))) : ∃ (b : Int32) (ow1 : Nat → Int64), v2 = some (.int b) ∧ RP cA g2 x mo o k ow1 ∧ (k = 0 → ow1 0 = b.toInt64) := by
  rcases h1 with ⟨v, g0, ⟨rfl, e2, j, e3, e4, e5⟩, k0, rfl⟩ | ⟨E, ⟨e1, rfl, e2⟩, ek⟩
  · have hw : isBx wh 11 = true := by rw [e4]; exact isBx_lt e3 (by omega)
    rcases h2 with ⟨w, -⟩ | ⟨-, i, w1, w2, w3, w4⟩
    · rw [e2, hw] at w; cases w
    · have ij : i = j := nI_inj (by omega) (by omega) (w2.symm.trans e4)
      subst ij
      obtain ⟨b1, b2⟩ := isBx_nat e2 hI.2.2.1
      have hb := hI.2.2.2.2.2.1 _ b1
      have ev : v = ofM V kk.toNatClampNeg i := by
        have : v = ofV (wA V 0 kk.toNatClampNeg) (wA V 1 kk.toNatClampNeg) (wA V 2 kk.toNatClampNeg) (wA V 3 kk.toNatClampNeg) (wA V 4 kk.toNatClampNeg) (wA V 5 kk.toNatClampNeg) (wA V 7 kk.toNatClampNeg) (wA V 8 kk.toNatClampNeg) (wA V 9 kk.toNatClampNeg) (wF V (kk.toNatClampNeg + 1) - wF V kk.toNatClampNeg) i := by simpa using e5
        rw [this, ofV, ofM, ← hb.2.2.2.2.2.2.2.2.2.2.1]
      refine ⟨_, vp_updL ow 0 v.toInt64, w3, ?_, fun _ => ?_⟩
      · rw [k0]
        exact RP.made hI (hC.out hI.2.2.1 ho) hM1 hD (hv_up_self _ _ _) (hM1.ref w4)
      · simp [vp_updL, ev]
  · subst e1
    have ek : k = 1 := by simpa using ek
    rcases h2 with ⟨w, w1, w2⟩ | ⟨w, i, w1, w2, -⟩
    · refine ⟨_, ow, w1, by rw [ek]; exact RP.made hI hC hM1 hD ho (hM1.ref w2), fun q => by rw [ek] at q; exact absurd q (by decide)⟩
    · have hw : isBx wh 11 = true := by rw [w2]; exact isBx_lt w1 (by omega)
      rcases e2 with q | ⟨-, q⟩
      · rw [w] at q; cases q
      · rw [hw] at q; cases q
/-- place -/
abbrev PPl (f : hv_M) (bn : Nat) (kk i : Int32) (cn : Nat) (gq : Nat → Int32) : Option Value → hv_M → Prop := fun v g => g = f ∧ isBx kk bn = true ∧ isBx i cn = true ∧ v = some (.int (gq i.toNatClampNeg))
abbrev TPl (f : hv_M) (bn : Nat) (kk i : Int32) (cn : Nat) : String → hv_M → Prop := fun E g => E = "java/lang/IndexOutOfBoundsException" ∧ g = f ∧ (isBx kk bn = false ∨ (isBx kk bn = true ∧ isBx i cn = false))
theorem op_place {kk i : Int32} {cn : Nat} (hI : InvS V st en ct r) (hC : RC cA f x la ma mk rw9 gl gb ad ca pa gc gp V st en ct r) (hM : RMo cA f mo a th V st en ct r) (hD : DJ a pa rw9 ct) (ho : f o = some (outE cA ow)) (hcn : isBx kk ct = true → cn = wF V (kk.toNatClampNeg + 1) - wF V kk.toNatClampNeg)
    (h1 : HPi (PPl f ct kk i cn (gp kk.toNatClampNeg)) (TPl f ct kk i cn) cA o ow [("java/lang/IndexOutOfBoundsException", 1)] k g1) (hM1 : RMo cA g1 mo a th V st en ct r)
    (h2 : ((isBx kk ct && isBx i (wF V (kk.toNatClampNeg + 1) - wF V kk.toNatClampNeg)) = false ∧ v2 = some (.int 0) ∧ moRef g1 g2 mo (moE a 1 (nI st) (nI en) (nI ct) gd ln bf ac un (nI r.2))) ∨ (isBx kk ct = true ∧ isBx i (wF V (kk.toNatClampNeg + 1) - wF V kk.toNatClampNeg) = true ∧ v2 = some (.int (plF V kk.toNatClampNeg i.toNatClampNeg).toInt32) ∧ (∃ (gd9 : Bool) (v9 : Vl), scr cA g2 mo a 0 (nI st) (nI en) (nI ct) (nI r.2) gd9 v9) ∧ ∀ z, z ≠ mo → z ≠ a 14 → z ≠ a 15 → g2 z = g1 z)) : ∃ (b : Int32) (ow1 : Nat → Int64), v2 = some (.int b) ∧ RP cA g2 x mo o k ow1 ∧ (k = 0 → ow1 0 = b.toInt64) := by
  rcases h1 with ⟨v, g0, ⟨rfl, e2, e3, e4⟩, k0, rfl⟩ | ⟨E, ⟨e1, rfl, e2⟩, ek⟩
  · rw [hcn e2] at e3
    rcases h2 with ⟨w, -⟩ | ⟨-, -, w3, w4, w5⟩
    · rw [e2, e3] at w; cases w
    · obtain ⟨b1, b2⟩ := isBx_nat e2 hI.2.2.1
      have hb := hI.2.2.2.2.2.1 _ b1
      obtain ⟨c1, c2⟩ := isBx_nat e3 hb.2.1
      have hp := (hC.2.2.2.2.2.2.2.1 _ b1).2.2.2.2 _ c1
      have ev : v = (plF V kk.toNatClampNeg i.toNatClampNeg).toInt32 := by
        have : v = gp kk.toNatClampNeg i.toNatClampNeg := by simpa using e4
        rw [this]; exact (to32 hp).symm
      refine ⟨_, vp_updL ow 0 v.toInt64, w3, ?_, fun _ => ?_⟩
      · rw [k0]
        exact RP.made hI (hC.out hI.2.2.1 ho) hM1 hD (hv_up_self _ _ _) (hM1.asked w4 w5)
      · simp [vp_updL, ev]
  · subst e1
    have ek : k = 1 := by simpa using ek
    rcases h2 with ⟨w, w1, w2⟩ | ⟨w, w1, -⟩
    · refine ⟨_, ow, w1, by rw [ek]; exact RP.made hI hC hM1 hD ho (hM1.ref w2), fun q => by rw [ek] at q; exact absurd q (by decide)⟩
    · rcases e2 with q | ⟨-, q⟩
      · rw [w] at q; cases q
      · rw [hcn w, w1] at q; cases q
/-- lay -/
abbrev PLay (cA : Nat → ClassId) (f : hv_M) (mk rw9 bn : Nat) (V : Wd) (r : Mk) (kk X Y : Int32) : Option Value → hv_M → Prop := fun v g => isBx kk bn = true ∧ sz X.toInt64 = true ∧ sz Y.toInt64 = true ∧ v = some (.int (layR V kk.toNatClampNeg X.toInt64 Y.toInt64 r).2) ∧ mkAt cA g mk rw9 (layR V kk.toNatClampNeg X.toInt64 Y.toInt64 r).1 ∧ ∀ z, z ≠ mk → z ≠ rw9 → g z = f z
abbrev TLay (f : hv_M) (bn : Nat) (kk X Y : Int32) : String → hv_M → Prop := fun E g => g = f ∧ ((E = "java/lang/IndexOutOfBoundsException" ∧ isBx kk bn = false) ∨ (E = "java/lang/IllegalArgumentException" ∧ isBx kk bn = true ∧ (sz X.toInt64 && sz Y.toInt64) = false))
theorem layR_le {b : Nat} {X Y : Int64} : (layR V b X Y r).1.2 ≤ 1000 := by
  rw [layR]
  split
  · exact Nat.zero_le _
  · split
    · exact layF_le V 10 b X Y (r.1, 0) (Nat.zero_le _)
    · exact Nat.zero_le _
theorem InvS.marks (hI : InvS V st en ct r) {r9 : Mk} (h : r9.2 ≤ 1000) : InvS V st en ct r9 := by
  obtain ⟨i1, i2, i3, i4, i5, i6, i7, i8, i9⟩ := hI
  exact ⟨i1, i2, i3, i4, i5, i6, i7, i8, h⟩
theorem op_lay {kk X Y : Int32} (hI : InvS V st en ct r) (hC : RC cA f x la ma mk rw9 gl gb ad ca pa gc gp V st en ct r) (hM : RMo cA f mo a th V st en ct r) (hD : DJ a pa rw9 ct) (ho : f o = some (outE cA ow))
    (h1 : HPi (PLay cA f mk rw9 ct V r kk X Y) (TLay f ct kk X Y) cA o ow [("java/lang/IndexOutOfBoundsException", 1), ("java/lang/IllegalArgumentException", 2)] k g1) (hM1 : RMo cA g1 mo a th V st en ct r)
    (h2 : (isBx kk ct = false ∧ v2 = some (.int 0) ∧ moRef g1 g2 mo (moE a 1 (nI st) (nI en) (nI ct) gd ln bf ac un (nI r.2))) ∨ (isBx kk ct = true ∧ (sz X.toInt64 && sz Y.toInt64) = false ∧ v2 = some (.int 0) ∧ moRef g1 g2 mo (moE a 2 (nI st) (nI en) (nI ct) gd ln bf ac un (nI r.2))) ∨ (isBx kk ct = true ∧ sz X.toInt64 = true ∧ sz Y.toInt64 = true ∧ v2 = some (.int (layR V kk.toNatClampNeg X.toInt64 Y.toInt64 r).2) ∧ msc cA g2 mo a 0 (nI st) (nI en) (nI ct) (layR V kk.toNatClampNeg X.toInt64 Y.toInt64 r).1 ∧ ∀ z, z ≠ mo → z ≠ a 14 → z ≠ a 15 → z ≠ a 16 → g2 z = g1 z)) : ∃ (b : Int32) (ow1 : Nat → Int64), v2 = some (.int b) ∧ RP cA g2 x mo o k ow1 ∧ (k = 0 → ow1 0 = b.toInt64) := by
  rcases h1 with ⟨v, g0, ⟨e2, e3, e4, e5, e6, e7⟩, k0, rfl⟩ | ⟨E, ⟨rfl, ⟨e1, e2⟩ | ⟨e1, e2, e3⟩⟩, ek⟩
  · rcases h2 with ⟨w, -⟩ | ⟨-, w, -⟩ | ⟨-, -, -, w3, w4, w5⟩
    · rw [e2] at w; cases w
    · rw [e3, e4] at w; cases w
    · obtain ⟨c2, c1⟩ := hC.marked e6 e7
      have o0 := c1.keepO hC ho
      have ev : v = (layR V kk.toNatClampNeg X.toInt64 Y.toInt64 r).2 := by simpa using e5
      refine ⟨_, vp_updL ow 0 v.toInt64, w3, ?_, fun _ => ?_⟩
      · rw [k0]
        exact RP.made (hI.marks layR_le) (c2.out hI.2.2.1 o0) hM1 hD (hv_up_self _ _ _) (hM1.laid w4 w5)
      · simp [vp_updL, ev]
  · subst e1
    have ek : k = 1 := by simpa using ek
    rcases h2 with ⟨w, w1, w2⟩ | ⟨w, -⟩ | ⟨w, -⟩
    · refine ⟨_, ow, w1, by rw [ek]; exact RP.made hI hC hM1 hD ho (hM1.ref w2), fun q => by rw [ek] at q; exact absurd q (by decide)⟩
    · rw [e2] at w; cases w
    · rw [e2] at w; cases w
  · subst e1
    have ek : k = 2 := by simpa using ek
    rcases h2 with ⟨w, -⟩ | ⟨-, w, w1, w2⟩ | ⟨-, w, w1, -⟩
    · rw [e2] at w; cases w
    · refine ⟨_, ow, w1, by rw [ek]; exact RP.made hI hC hM1 hD ho (hM1.ref w2), fun q => by rw [ek] at q; exact absurd q (by decide)⟩
    · rw [w, w1] at e3; cases e3
/-- mark -/
abbrev PMk (f : hv_M) (md : Nat) (i wh : Int32) (row : Nat → Int64) : Option Value → hv_M → Prop := fun v g => g = f ∧ isBx i md = true ∧ isBx wh 6 = true ∧ v = some (.long (row (6 * i.toNatClampNeg + wh.toNatClampNeg)))
abbrev TMk (f : hv_M) (md : Nat) (i wh : Int32) : String → hv_M → Prop := fun E g => E = "java/lang/IndexOutOfBoundsException" ∧ g = f ∧ (isBx i md = false ∨ (isBx i md = true ∧ isBx wh 6 = false))
theorem op_mark {i wh : Int32} (hI : InvS V st en ct r) (hC : RC cA f x la ma mk rw9 gl gb ad ca pa gc gp V st en ct r) (hM : RMo cA f mo a th V st en ct r) (hD : DJ a pa rw9 ct) (ho : f o = some (outE cA ow))
    (h1 : HPl (PMk f r.2 i wh r.1) (TMk f r.2 i wh) cA o ow [("java/lang/IndexOutOfBoundsException", 1)] k g1) (hM1 : RMo cA g1 mo a th V st en ct r)
    (h2 : ((isBx i r.2 && isBx wh 6) = false ∧ v2 = some (.long 0) ∧ moRef g1 g2 mo (moE a 1 (nI st) (nI en) (nI ct) gd ln bf ac un (nI r.2))) ∨ (isBx i r.2 = true ∧ isBx wh 6 = true ∧ v2 = some (.long (r.1 (6 * i.toNatClampNeg + wh.toNatClampNeg))) ∧ moRef g1 g2 mo (moE a 0 (nI st) (nI en) (nI ct) gd ln bf ac un (nI r.2)))) : ∃ (b : Int64) (ow1 : Nat → Int64), v2 = some (.long b) ∧ RP cA g2 x mo o k ow1 ∧ (k = 0 → ow1 0 = b) := by
  rcases h1 with ⟨v, g0, ⟨rfl, e2, e3, e4⟩, k0, rfl⟩ | ⟨E, ⟨e1, rfl, e2⟩, ek⟩
  · rcases h2 with ⟨w, -⟩ | ⟨-, -, w3, w4⟩
    · rw [e2, e3] at w; cases w
    · have ev : v = r.1 (6 * i.toNatClampNeg + wh.toNatClampNeg) := by simpa using e4
      refine ⟨_, vp_updL ow 0 v, w3, ?_, fun _ => ?_⟩
      · rw [k0]
        exact RP.made hI (hC.out hI.2.2.1 ho) hM1 hD (hv_up_self _ _ _) (hM1.ref w4)
      · simp [vp_updL, ev]
  · subst e1
    have ek : k = 1 := by simpa using ek
    rcases h2 with ⟨w, w1, w2⟩ | ⟨w, w1, -⟩
    · refine ⟨_, ow, w1, by rw [ek]; exact RP.made hI hC hM1 hD ho (hM1.ref w2), fun q => by rw [ek] at q; exact absurd q (by decide)⟩
    · rcases e2 with q | ⟨-, q⟩
      · rw [w] at q; cases q
      · rw [w1] at q; cases q
/-- keep, items, boxes: no exceptions, no 'out' -/
theorem op_keep {kk : Int32} {v1 : Option Value} (hI : InvS V st en ct r) (hC : RC cA f x la ma mk rw9 gl gb ad ca pa gc gp V st en ct r) (hM : RMo cA f mo a th V st en ct r) (hD : DJ a pa rw9 ct) (ho : f o = some (outE cA ow))
    (h1 : (v1 = some (.int 0) ∧ g1 = f ∧ (kk < 0 ∨ nI (en - st) < kk)) ∨ (v1 = some (.int 1) ∧ g1 = hv_up f x (.inr (0, [.ref la, .int kk, .ref ma, .int (nI ct), .ref mk])) ∧ ¬ kk < 0 ∧ ¬ nI (en - st) < kk)) : RMo cA g1 mo a th V st en ct r ∧ ((∃ z, v1 = some (.int z)) ∧
    ∀ (g2 : hv_M) (v2 : Option Value) (gd : Bool) (ln bf ac un : Int64), ((v2 = some (.int 0) ∧ (kk < 0 ∨ nI (en - st) < kk) ∧ moRef g1 g2 mo (moE a 0 (nI st) (nI en) (nI ct) gd ln bf ac un (nI r.2))) ∨ (v2 = some (.int 1) ∧ ¬ kk < 0 ∧ ¬ nI (en - st) < kk ∧ moRef g1 g2 mo (moE a 0 (nI st) (nI st + kk) (nI ct) gd ln bf ac un (nI r.2)))) → v2 = v1 ∧ RP cA g2 x mo o 0 ow) := by
  rcases h1 with ⟨e1, rfl, e2⟩ | ⟨e1, e2, e3, e4⟩
  · refine ⟨hM, ⟨_, e1⟩, fun g2 v2 gd ln bf ac un h2 => ?_⟩
    rcases h2 with ⟨w1, w2, w3⟩ | ⟨w1, w2, w3, -⟩
    · exact ⟨w1.trans e1.symm, RP.made hI hC hM hD ho (hM.ref w3)⟩
    · exact absurd e2 (by rintro (q | q); exact w2 q; exact w3 q)
  · obtain ⟨j, hj, ej⟩ := nI_of e3
    have i1 := hI.1
    have i2 := hI.2.1
    have hjn : j ≤ en - st := by
      have : ¬ (en - st) < j := fun q => e4 (by rw [ej]; exact (nI_ltI (by omega) hj).mpr q)
      omega
    obtain ⟨c1, c2⟩ := hC.cut hjn
    have eg : g1 = hv_up f x (bpE la ma mk j ct) := by rw [e2, ej]
    rw [← eg] at c1 c2
    have hM1 := hM.cl hC hD c2
    refine ⟨hM1, ⟨_, e1⟩, fun g2 v2 gd ln bf ac un h2 => ?_⟩
    rcases h2 with ⟨w1, w2, -⟩ | ⟨w1, w2, w3, w4⟩
    · exact absurd w2 (by rintro (q | q); exact e3 q; exact e4 q)
    · rw [ej, nI_add] at w4
      exact ⟨w1.trans e1.symm, RP.made (hI.cut hjn) c1 hM1 hD (c2.keepO hC ho) (hM1.ref w4)⟩
theorem op_same {th9 : Int32} (hI : InvS V st en ct r) (hC : RC cA f x la ma mk rw9 gl gb ad ca pa gc gp V st en ct r) (hM : RMo cA f mo a th V st en ct r) (hD : DJ a pa rw9 ct) (ho : f o = some (outE cA ow)) (h2 : moRef f g2 mo (moE a th9 (nI st) (nI en) (nI ct) gd ln bf ac un (nI r.2))) : RP cA g2 x mo o th9 ow := RP.made hI hC hM hD ho (hM.ref h2)
end RP2
