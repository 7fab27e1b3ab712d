/-! ===== the shares, exactly rounded ===== -/
theorem near_int {A d G : Int} (hA : 0 ≤ A) (hd : 0 < d) (hG : A ≤ d * G) : 0 ≤ (2 * A + d) / (2 * d) ∧ (2 * A + d) / (2 * d) ≤ G ∧ (2 * A + d) / (2 * d) = if d - (A - A / d * d) ≤ A - A / d * d then A / d + 1 else A / d := by
  have e0 : A = d * (A / d) + A % d := (Int.mul_ediv_add_emod A d).symm
  have r0 : 0 ≤ A % d := Int.emod_nonneg _ (by omega)
  have r1 : A % d < d := Int.emod_lt_of_pos _ hd
  have er : A - A / d * d = A % d := by rw [Int.mul_comm]; omega
  have eN : (2 * A + d) / (2 * d) = A / d + (2 * (A % d) + d) / (2 * d) := by
    have : 2 * A + d = (2 * (A % d) + d) + (2 * d) * (A / d) := by
      have e1 : (2 * d) * (A / d) = 2 * (d * (A / d)) := by rw [Int.mul_assoc]
      omega
    rw [this, Int.add_mul_ediv_left _ _ (by omega)]
    omega
  refine ⟨Int.ediv_nonneg (by omega) (by omega), ?_, ?_⟩
  · have h1 : (2 * A + d) / (2 * d) < G + 1 := by
      apply Int.ediv_lt_of_lt_mul (by omega)
      have e1 : (G + 1) * (2 * d) = 2 * (d * G) + 2 * d := by rw [Int.add_mul, Int.mul_comm G, Int.mul_assoc]; omega
      omega
    omega
  · rw [er, eN]
    by_cases q : d - A % d ≤ A % d
    · rw [if_pos q]
      have : (2 * (A % d) + d) / (2 * d) = 1 := by
        have e1 : 2 * (A % d) + d = (2 * (A % d) - d) + (2 * d) * 1 := by omega
        rw [e1, Int.add_mul_ediv_left _ _ (by omega), Int.ediv_eq_zero_of_lt (by omega) (by omega)]
        rfl
      rw [this]
    · rw [if_neg q, Int.ediv_eq_zero_of_lt (a := 2 * (A % d) + d) (by omega) (by omega)]
      omega
theorem near_sim {x : Int64} {t : Int32} {G : Int} (t0 : 0 < t.toInt) (t1 : t.toInt ≤ 1073741823) (g0 : 0 ≤ G) (g1 : G ≤ 1073741823) (hx : x.toInt ≤ t.toInt * G) (hx2 : -(t.toInt * G) ≤ x.toInt) (hm : t.toInt * G ≤ 1152921502459363329) : (dtn x t).toInt64 = nearF x t.toInt64 ∧ -1073741823 ≤ (dtn x t).toInt ∧ (dtn x t).toInt ≤ 1073741823 := by
  have t64 : t.toInt64.toInt = t.toInt := Int32.toInt_toInt64 t
  have c2 : (2 : Int64).toInt = 2 := by decide
  have c1 : (1 : Int64).toInt = 1 := by decide
  have c0 : (0 : Int64).toInt = 0 := by decide
  obtain ⟨A, hA⟩ : ∃ A : Int, A = (lab x).toInt := ⟨_, rfl⟩
  have hA2 : A = if x < 0 then -x.toInt else x.toInt := by
    rw [hA, lab]
    by_cases q : x < 0
    · rw [if_pos q, if_pos q, Int64.toInt_neg, Int.bmod_eq_of_le (by omega) (by omega)]
    · rw [if_neg q, if_neg q]
  have hq : x < 0 ↔ x.toInt < 0 := by rw [Int64.lt_iff_toInt_lt, c0]
  have A0 : 0 ≤ A := by
    rw [hA2]; split
    · rename_i q; have := hq.mp q; omega
    · rename_i q; have : ¬ x.toInt < 0 := fun n => q (hq.mpr n)
      omega
  have A1 : A ≤ t.toInt * G := by rw [hA2]; split <;> omega
  obtain ⟨n0, n1, n2⟩ := near_int A0 t0 A1
  have e2 : (2 * lab x + t.toInt64).toInt = 2 * A + t.toInt := by
    rw [Int64.toInt_add, Int64.toInt_mul, c2, ← hA, t64, Int.bmod_eq_of_le (n := 2 * A) (by omega) (by omega), Int.bmod_eq_of_le (by omega) (by omega)]
  have e3 : (2 * t.toInt64).toInt = 2 * t.toInt := by
    rw [Int64.toInt_mul, c2, t64, Int.bmod_eq_of_le (by omega) (by omega)]
  obtain ⟨N, hN⟩ : ∃ N : Int, N = (2 * A + t.toInt) / (2 * t.toInt) := ⟨_, rfl⟩
  have eN : ((2 * lab x + t.toInt64) / (2 * t.toInt64)).toInt = N := by
    rw [div64 (by rw [e2]; omega) (by rw [e3]; omega), e2, e3, hN]
  rw [← hN] at n0 n1 n2
  have eD : (dtn x t).toInt = if x < 0 then -N else N := by
    rw [dtn]
    by_cases q : x < 0
    · rw [if_pos q, if_pos q, Int64.toInt_toInt32, Int64.toInt_neg, eN, Int.bmod_eq_of_le (n := -N) (by omega) (by omega), Int.bmod_eq_of_le (by omega) (by omega)]
    · rw [if_neg q, if_neg q, Int64.toInt_toInt32, eN, Int.bmod_eq_of_le (by omega) (by omega)]
  have d0 : 0 ≤ A / t.toInt := Int.ediv_nonneg A0 (by omega)
  have d1 : A / t.toInt ≤ A := Int.ediv_le_self _ A0
  have eQ : (labs x / t.toInt64).toInt = A / t.toInt := by
    show (lab x / t.toInt64).toInt = _
    rw [div64 (by rw [← hA]; exact A0) (by rw [t64]; omega), ← hA, t64]
  have r0 : 0 ≤ A % t.toInt := Int.emod_nonneg _ (by omega)
  have r1 : A % t.toInt < t.toInt := Int.emod_lt_of_pos _ t0
  have er : A / t.toInt * t.toInt = A - A % t.toInt := by
    have := Int.mul_ediv_add_emod A t.toInt
    rw [Int.mul_comm]; omega
  have eM : (labs x / t.toInt64 * t.toInt64).toInt = A - A % t.toInt := by
    rw [Int64.toInt_mul, eQ, t64, er, Int.bmod_eq_of_le (by omega) (by omega)]
  have eR : (labs x - labs x / t.toInt64 * t.toInt64).toInt = A % t.toInt := by
    rw [Int64.toInt_sub, eM, show (labs x).toInt = A from hA.symm, Int.bmod_eq_of_le (by omega) (by omega)]
    omega
  have eB : (t.toInt64 - (labs x - labs x / t.toInt64 * t.toInt64)).toInt = t.toInt - A % t.toInt := by
    rw [Int64.toInt_sub, eR, t64, Int.bmod_eq_of_le (by omega) (by omega)]
  have eV : (if t.toInt64 - (labs x - labs x / t.toInt64 * t.toInt64) ≤ labs x - labs x / t.toInt64 * t.toInt64 then labs x / t.toInt64 + 1 else labs x / t.toInt64).toInt = N := by
    rw [n2, er, show A - (A - A % t.toInt) = A % t.toInt by omega]
    by_cases q : t.toInt - A % t.toInt ≤ A % t.toInt
    · rw [if_pos q, if_pos (Int64.le_iff_toInt_le.mpr (by rw [eB, eR]; exact q)), Int64.toInt_add, eQ, c1, Int.bmod_eq_of_le (by omega) (by omega)]
    · rw [if_neg q, if_neg (fun n => q (by have := Int64.le_iff_toInt_le.mp n; rw [eB, eR] at this; exact this)), eQ]
  refine ⟨?_, by rw [eD]; split <;> omega, by rw [eD]; split <;> omega⟩
  apply Int64.toInt_inj.mp
  rw [Int32.toInt_toInt64, eD, nearF]
  by_cases q : x < 0
  · rw [if_pos q, if_pos q, Int64.toInt_neg, eV, Int.bmod_eq_of_le (by omega) (by omega)]
  · rw [if_neg q, if_neg q, eV]
theorem share_one {bf gv : Int64} {t : Int32} (t0 : 0 < t.toInt) (t1 : t.toInt ≤ 1073741823) (b0 : 0 ≤ bf.toInt) (b1 : bf.toInt ≤ t.toInt) (g0 : -1073741823 ≤ gv.toInt) (g1 : gv.toInt ≤ 1073741823) : (dtn (bf * gv) t).toInt64 = nearF (bf * gv) t.toInt64 ∧ -1073741823 ≤ (dtn (bf * gv) t).toInt ∧ (dtn (bf * gv) t).toInt ≤ 1073741823 := by
  have k1 : bf.toInt * gv.toInt ≤ t.toInt * 1073741823 := by
    have a1 : bf.toInt * gv.toInt ≤ bf.toInt * 1073741823 := Int.mul_le_mul_of_nonneg_left g1 b0
    omega
  have k2 : -(t.toInt * 1073741823) ≤ bf.toInt * gv.toInt := by
    have a1 : bf.toInt * (-1073741823) ≤ bf.toInt * gv.toInt := Int.mul_le_mul_of_nonneg_left g0 b0
    omega
  have e : (bf * gv).toInt = bf.toInt * gv.toInt := by
    rw [Int64.toInt_mul, Int.bmod_eq_of_le (by omega) (by omega)]
  exact near_sim t0 t1 (G := 1073741823) (by omega) (by omega) (by rw [e]; exact k1) (by rw [e]; exact k2) (by omega)
theorem share_sim {V : Wd} {ad : Nat → Nat} {s : Bool} {o t : Int32} {gv : Int32} {c k0 n : Nat} (hv : ∀ i, i < n → itV V c (k0 + i)) (hb : ∀ b, b < c → szI (wA V 0 b) ∧ szI (wA V 1 b) ∧ szI (wA V 2 b)) : ∀ (k i : Nat) (gp : Nat → Int32), i + k = n →
    (∀ j, j < i → shareF s o t gv (fun i => itO V ad (k0 + i)) k i (pX V s o k0 i).toInt32 gp j = gp j) ∧ ∀ j, i ≤ j → j < n → shareF s o t gv (fun i => itO V ad (k0 + i)) k i (pX V s o k0 i).toInt32 gp j = gp j + shr (pX V s o k0 j).toInt32.toInt64 gv.toInt64 t
  | 0, i, gp, hik => ⟨fun _ _ => rfl, fun j a b => absurd a (by omega)⟩
  | k + 1, i, gp, hik => by
    have hi := hv i (by omega)
    have eb : (match itO V ad (k0 + i) with
      | .inl _ => (pX V s o k0 i).toInt32
      | .inr (_, a, b, d, z) => if gvO s b z = o then (pX V s o k0 i).toInt32 + gvA s a d else (pX V s o k0 i).toInt32) = (pX V s o k0 (i + 1)).toInt32 := by
      rw [pX]
      rcases hiv : itO V ad (k0 + i) with ⟨t, iw, ih9, id9, inn, z9⟩ | ⟨iw, a9, b9, c9, e9⟩
      · obtain ⟨f1, -⟩ := itO_so hi hb hiv
        have n2 : ¬ wK V (k0 + i) = 2 := fun q => by simp [isSo, q] at f1
        rw [if_neg (fun q : wK V (k0 + i) = 2 ∧ wN V (k0 + i) (if s = true then 4 else 2) = o => n2 q.1)]
      · obtain ⟨f1, -, f3⟩ := itO_sp hi hiv
        rcases f3 with ⟨k2, e1, e2, e3, e4, -⟩ | ⟨k2, e1, e2, e3, e4⟩
        · have ea : gvA s a9 c9 = wN V (k0 + i) (if s = true then 3 else 1) := by cases s <;> simp [gvA, e1, e3]
          have eo : gvO s b9 e9 = wN V (k0 + i) (if s = true then 4 else 2) := by cases s <;> simp [gvO, e2, e4]
          show (if gvO s b9 e9 = o then (pX V s o k0 i).toInt32 + gvA s a9 c9 else (pX V s o k0 i).toInt32) = _
          rw [ea, eo]
          by_cases q : wN V (k0 + i) (if s = true then 4 else 2) = o
          · rw [if_pos q, if_pos (And.intro k2 q), Int64.toInt32_add, Int32.toInt32_toInt64]
          · rw [if_neg q, if_neg (fun n : wK V (k0 + i) = 2 ∧ wN V (k0 + i) (if s = true then 4 else 2) = o => q n.2)]
        · have ea : gvA s a9 c9 = 0 := by cases s <;> simp [gvA, e1, e3]
          show (if gvO s b9 e9 = o then (pX V s o k0 i).toInt32 + gvA s a9 c9 else (pX V s o k0 i).toInt32) = _
          rw [ea, Int32.add_zero, if_neg (fun n : wK V (k0 + i) = 2 ∧ wN V (k0 + i) (if s = true then 4 else 2) = o => k2 n.1)]
          split <;> rfl
    obtain ⟨b1, b2⟩ := share_sim (s := s) (o := o) (t := t) (gv := gv) (ad := ad) hv hb k (i + 1) (upd gp i (gp i + shr (pX V s o k0 i).toInt32.toInt64 gv.toInt64 t)) (by omega)
    have es : shareF s o t gv (fun i => itO V ad (k0 + i)) (k + 1) i (pX V s o k0 i).toInt32 gp = shareF s o t gv (fun i => itO V ad (k0 + i)) k (i + 1) (pX V s o k0 (i + 1)).toInt32 (upd gp i (gp i + shr (pX V s o k0 i).toInt32.toInt64 gv.toInt64 t)) := by
      rw [← eb]; rfl
    rw [es]
    constructor
    · intro j hj
      rw [b1 j (by omega)]
      simp [upd, show ¬ j = i by omega]
    · intro j p q
      by_cases e : j = i
      · subst e
        rw [b1 j (by omega)]
        simp only [upd, if_true]
      · rw [b2 j (by omega) q]
        simp [upd, e]
/-- the place of item i in a box of these attributes -/
def plX (V : Wd) (bel : Bool) (ex od to ov : Int32) (k0 i : Nat) : Int64 := plB V bel k0 i + (if to = 0 then 0 else nearF (pX V (decide (ex < 0)) od k0 i * (if 0 < ov then (-to).toInt64 else ex.toInt64)) to.toInt64)
theorem plF_plX {V : Wd} {b i : Nat} : plF V b i = plX V (wB V b) (wA V 3 b) (wA V 4 b) (wA V 5 b) (wA V 7 b) (wF V b) i := by
  rw [plF, plX, plB, pL_pX, usF]
theorem add64 {x y : Int32} (h1 : szI x) (h2 : szI y) : (x + y).toInt64 = x.toInt64 + y.toInt64 := by
  have a1 := szI_iff.mp h1
  have a2 := szI_iff.mp h2
  apply Int64.toInt_inj.mp
  rw [Int32.toInt_toInt64, Int32.toInt_add, Int64.toInt_add, Int32.toInt_toInt64, Int32.toInt_toInt64, Int.bmod_eq_of_le (by omega) (by omega), Int.bmod_eq_of_le (by omega) (by omega)]
theorem addS_sim {V : Wd} {ad : Nat → Nat} {bel : Bool} {ex od to ov : Int32} {c k0 n : Nat} {gp : Nat → Int32} (hv : ∀ i, i < n → itV V c (k0 + i)) (hb : ∀ b, b < c → szI (wA V 0 b) ∧ szI (wA V 1 b) ∧ szI (wA V 2 b)) (hc1 : ∀ j, j < n → ck1 V bel (k0 + j) (fL V bel k0 j) = true) (hcx : ∀ j, j < n → ckX (decide (ex < 0)) V (k0 + j) (gvS (decide (ex < 0)) (fL V bel k0 j)) = true)
    (hgp : ∀ j, j < n → (gp j).toInt64 = plB V bel k0 j) (he : szI ex) (ht : szI to) (t0 : 0 ≤ to.toInt) (hot : ¬ to = 0 → ¬ od < 0 ∧ to.toInt64 = gvS (decide (ex < 0)) (fL V bel k0 n) od.toNatClampNeg) : ∀ j, j < n → (addS ex od to ov (fun i => itO V ad (k0 + i)) n gp j).toInt64 = plX V bel ex od to ov k0 j := by
  intro j hj
  rw [addS, plX]
  have egv : (if 0 < ov then -to else ex).toInt64 = if 0 < ov then (-to).toInt64 else ex.toInt64 := by split <;> rfl
  obtain ⟨-, h2⟩ := share_sim (s := decide (ex < 0)) (o := od) (t := to) (gv := if 0 < ov then -to else ex) (ad := ad) hv hb n 0 gp (by omega)
  have e0 : (pX V (decide (ex < 0)) od k0 0).toInt32 = 0 := by rw [show pX V (decide (ex < 0)) od k0 0 = 0 from rfl]; decide
  rw [e0] at h2
  have h3 : shareF (decide (ex < 0)) od to (if 0 < ov then -to else ex) (fun i => itO V ad (k0 + i)) n 0 0 gp j = _ := h2 j (by omega) hj
  rw [h3, egv, shr]
  by_cases q : to = 0
  · rw [if_pos q, if_pos q, Int32.add_zero, hgp j hj, Int64.add_zero]
  · rw [if_neg q, if_neg q]
    obtain ⟨o0, o1⟩ := hot q
    have hs : szI (gp j) := by rw [szI, hgp j hj]; exact plB_sz hv hb hc1 hj
    have ep := pX_eq (bel := bel) (s := decide (ex < 0)) hv o0 j (by omega)
    obtain ⟨⟨g1, g2⟩, -⟩ := gv_ok hv hcx od.toNatClampNeg j (by omega)
    obtain ⟨-, g3⟩ := gv_ok hv hcx od.toNatClampNeg n (by omega)
    have g4 := g3 j (by omega)
    rw [← o1, Int32.toInt_toInt64] at g4
    have tp : 0 < to.toInt := by
      rcases Int.lt_or_eq_of_le t0 with p | p
      · exact p
      · exact absurd (Int32.toInt_inj.mp (by rw [← p]; rfl)) q
    have tb := szI_iff.mp ht
    have eb := szI_iff.mp he
    have gb : -1073741823 ≤ (if 0 < ov then (-to).toInt64 else ex.toInt64).toInt ∧ (if 0 < ov then (-to).toInt64 else ex.toInt64).toInt ≤ 1073741823 := by
      split
      · rw [neg64 ht, Int64.toInt_neg, Int32.toInt_toInt64, Int.bmod_eq_of_le (by omega) (by omega)]; omega
      · rw [Int32.toInt_toInt64]; exact eb
    rw [← ep] at g2 g4
    have e32 : (pX V (decide (ex < 0)) od k0 j).toInt32.toInt64 = pX V (decide (ex < 0)) od k0 j := by
      apply Int64.toInt_inj.mp
      rw [Int32.toInt_toInt64, Int64.toInt_toInt32, Int.bmod_eq_of_le (by omega) (by omega)]
    obtain ⟨s1, s2, s3⟩ := share_one (bf := pX V (decide (ex < 0)) od k0 j) tp tb.2 g2 g4 gb.1 gb.2
    rw [e32, add64 hs (szI_iff.mpr ⟨s2, s3⟩), s1, hgp j hj]
