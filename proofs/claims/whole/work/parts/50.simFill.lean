/-! ===== sizes stay sizes ===== -/
theorem szO_sz {V : Wd} {c k : Nat} (hv : itV V c k) (hb : ∀ b, b < c → szI (wA V 0 b) ∧ szI (wA V 1 b) ∧ szI (wA V 2 b)) (hs : isSo V k = true) : szI (szO V k 0) ∧ szI (szO V k 1) ∧ szI (szO V k 2) := by
  rcases hv with ⟨k0, g0, g1, g2, g3⟩ | ⟨k0, g0, g1, g2⟩ | ⟨k0, -⟩ | ⟨k0, -⟩ | ⟨k0, g0, g1, g2⟩
  · simp only [szO, k0, if_true]; exact ⟨g1, g2, g3⟩
  · have n0 : ¬ wK V k = 0 := by rw [k0]; decide
    simp only [szO, if_neg n0, if_pos k0]
    exact ⟨szr_kn g0 szI_0, szr_kn g1 szI_0, szr_kn g2 szI_0⟩
  · simp [isSo, k0] at hs
  · simp [isSo, k0] at hs
  · have n0 : ¬ wK V k = 0 := by rw [k0]; decide
    have n1 : ¬ wK V k = 1 := by rw [k0]; decide
    simp only [szO, if_neg n0, if_neg n1]
    exact hb _ g1
theorem gtr_sz {x y : Int64} (h : sz x = true) (h2 : sz y = true) : sz (gtr x y) = true := by
  rw [gtr]; split <;> assumption
theorem fl_all {V : Wd} {bel : Bool} {c k0 n : Nat} (hv : ∀ i, i < n → itV V c (k0 + i)) (hb : ∀ b, b < c → szI (wA V 0 b) ∧ szI (wA V 1 b) ∧ szI (wA V 2 b)) (hc : ∀ j, j < n → ck1 V bel (k0 + j) (fL V bel k0 j) = true) : ∀ i, i ≤ n → sz (fL V bel k0 i).1 = true ∧ sz (fL V bel k0 i).2.1 = true ∧ sz (fL V bel k0 i).2.2.1 = true ∧ sz (fL V bel k0 i).2.2.2.1 = true
  | 0, _ => ⟨rfl, rfl, rfl, rfl⟩
  | i + 1, hi => by
    obtain ⟨a1, a2, a3, a4⟩ := fl_all hv hb hc i (by omega)
    have c1 := hc i (by omega)
    by_cases hs : isSo V (k0 + i) = true
    · obtain ⟨s0, s1, s2⟩ := szO_sz (hv i (by omega)) hb hs
      rw [ck1, if_pos hs, ckS] at c1
      rw [fL, stV_so hs, stS]
      cases bel with
      | true =>
        simp only [if_true, Bool.and_eq_true, Bool.or_eq_true] at c1 ⊢
        refine ⟨c1.1.2, s2, ?_, a4⟩
        split
        · exact a3
        · rename_i q; exact gtr_sz a3 (c1.2.resolve_left q)
      | false =>
        simp only [if_false, Bool.false_eq_true, Bool.and_eq_true, Bool.or_eq_true] at c1 ⊢
        refine ⟨c1.1.1, a2, ?_, ?_⟩
        · split
          · exact a3
          · rename_i q; exact gtr_sz a3 (c1.1.2.resolve_left q)
        · split
          · exact a4
          · rename_i q; exact gtr_sz a4 (c1.2.resolve_left q)
    · rw [ck1, if_neg hs, Bool.and_eq_true] at c1
      rw [fL, stV, if_neg hs]
      refine ⟨c1.2, ?_, a3, a4⟩
      cases bel with
      | true => rfl
      | false => exact a2
theorem plB_sz {V : Wd} {bel : Bool} {c k0 n : Nat} (hv : ∀ i, i < n → itV V c (k0 + i)) (hb : ∀ b, b < c → szI (wA V 0 b) ∧ szI (wA V 1 b) ∧ szI (wA V 2 b)) (hc : ∀ j, j < n → ck1 V bel (k0 + j) (fL V bel k0 j) = true) {j : Nat} (hj : j < n) : sz (plB V bel k0 j) = true := by
  rw [plB]
  split
  · rename_i q
    have c1 := hc j hj
    rw [ck1, if_pos q.2, ckS, if_pos q.1, Bool.and_eq_true, Bool.and_eq_true] at c1
    exact c1.1.1
  · rw [Int64.add_zero]; exact (fl_all hv hb hc j (by omega)).1
/-! ===== the sums of glue grow ===== -/
theorem gv_ok {V : Wd} {bel s : Bool} {c k0 n : Nat} (hv : ∀ i, i < n → itV V c (k0 + i)) (hc : ∀ j, j < n → ckX s V (k0 + j) (gvS s (fL V bel k0 j)) = true) (o : Nat) : ∀ i, i ≤ n → (sz (gvS s (fL V bel k0 i) o) = true ∧ 0 ≤ (gvS s (fL V bel k0 i) o).toInt) ∧ ∀ j, j ≤ i → (gvS s (fL V bel k0 j) o).toInt ≤ (gvS s (fL V bel k0 i) o).toInt
  | 0, _ => ⟨by cases s <;> exact ⟨rfl, Int.le_refl _⟩, fun j hj => by rw [show j = 0 by omega]; exact Int.le_refl _⟩
  | i + 1, hi => by
    obtain ⟨⟨a1, a2⟩, a3⟩ := gv_ok hv hc o i (by omega)
    have fin : ∀ z, gvS s (fL V bel k0 (i + 1)) o = z → sz z = true → (gvS s (fL V bel k0 i) o).toInt ≤ z.toInt → ((sz (gvS s (fL V bel k0 (i + 1)) o) = true ∧ 0 ≤ (gvS s (fL V bel k0 (i + 1)) o).toInt) ∧ ∀ j, j ≤ i + 1 → (gvS s (fL V bel k0 j) o).toInt ≤ (gvS s (fL V bel k0 (i + 1)) o).toInt) := fun z e1 e2 e3 => by
      rw [e1]
      refine ⟨⟨e2, by omega⟩, fun j hj => ?_⟩
      by_cases q : j = i + 1
      · subst q; rw [e1]; exact Int.le_refl _
      · exact Int.le_trans (a3 j (by omega)) e3
    by_cases hs : isSo V (k0 + i) = true
    · exact fin _ (by rw [fL_so hs]) a1 (Int.le_refl _)
    · by_cases k2 : wK V (k0 + i) = 2
      · have c1 := hc i (by omega)
        have pos : 0 ≤ (wN V (k0 + i) (if s = true then 3 else 1)).toInt := by
          rcases hv i (by omega) with ⟨q, -⟩ | ⟨q, -⟩ | ⟨q, hok⟩ | ⟨q, -⟩ | ⟨q, -⟩
          · rw [q] at k2; exact absurd k2 (by decide)
          · rw [q] at k2; exact absurd k2 (by decide)
          · simp only [okGlue, Bool.and_eq_true, Bool.not_eq_true', decide_eq_false_iff_not] at hok
            obtain ⟨⟨⟨⟨⟨⟨-, q1⟩, q2⟩, q3⟩, q4⟩, -⟩, -⟩ := hok
            cases s
            · exact Int32.le_iff_toInt_le.mp (Int32.not_lt.mp q2)
            · exact Int32.le_iff_toInt_le.mp (Int32.not_lt.mp q4)
          · rw [q] at k2; exact absurd k2 (by decide)
          · rw [q] at k2; exact absurd k2 (by decide)
        have eC : ckX s V (k0 + i) (gvS s (fL V bel k0 i)) = sz (gvS s (fL V bel k0 i) (wN V (k0 + i) (if s = true then 4 else 2)).toNatClampNeg + (wN V (k0 + i) (if s = true then 3 else 1)).toInt64) := by cases s <;> simp [ckX, ck2, ck3, k2]
        rw [eC] at c1
        by_cases ho : o = (wN V (k0 + i) (if s = true then 4 else 2)).toNatClampNeg
        · subst ho
          refine fin _ (by rw [fL_sp hs, if_pos k2]; simp only [vp_updL, if_true]) c1 ?_
          have r1 := sz_iff.mp a1
          have r3 := Int32.toInt_lt (wN V (k0 + i) (if s = true then 3 else 1))
          rw [Int64.toInt_add, Int32.toInt_toInt64, Int.bmod_eq_of_le (by omega) (by omega)]
          omega
        · exact fin _ (by rw [fL_sp hs, if_pos k2]; simp only [vp_updL, if_neg ho]) a1 (Int.le_refl _)
      · exact fin _ (by rw [fL_sp hs, if_neg k2]) a1 (Int.le_refl _)
/-- the glue of one order that lies ahead of an item -/
def pX (V : Wd) (s : Bool) (o : Int32) (k0 : Nat) : Nat → Int64
  | 0 => 0
  | i + 1 => if wK V (k0 + i) = 2 ∧ wN V (k0 + i) (if s = true then 4 else 2) = o then pX V s o k0 i + (wN V (k0 + i) (if s = true then 3 else 1)).toInt64 else pX V s o k0 i
theorem pL_pX {V : Wd} {b : Nat} : ∀ i, pL V b i = pX V (decide (wA V 3 b < 0)) (wA V 4 b) (wF V b) i
  | 0 => rfl
  | i + 1 => by
    rw [pL, pX, pL_pX i]
    by_cases h : wA V 3 b < 0 <;> simp [h]
theorem cl_inj {x y : Int32} (hx : ¬ x < 0) (hy : ¬ y < 0) (h : x.toNatClampNeg = y.toNatClampNeg) : x = y := by
  obtain ⟨i, hi, e⟩ := nI_of hx
  obtain ⟨j, hj, e2⟩ := nI_of hy
  rw [e, e2, nI_clamp hi, nI_clamp hj] at h
  rw [e, e2, h]
theorem gl_ord {V : Wd} {c k : Nat} (hv : itV V c k) (k2 : wK V k = 2) : ¬ wN V k 2 < 0 ∧ ¬ wN V k 4 < 0 := by
  rcases hv with ⟨q, -⟩ | ⟨q, -⟩ | ⟨q, hok⟩ | ⟨q, -⟩ | ⟨q, -⟩
  · rw [q] at k2; exact absurd k2 (by decide)
  · rw [q] at k2; exact absurd k2 (by decide)
  · simp only [okGlue, ord4, Bool.and_eq_true, decide_eq_true_eq] at hok
    exact ⟨Int32.not_lt.mpr hok.1.2.1, Int32.not_lt.mpr hok.2.1⟩
  · rw [q] at k2; exact absurd k2 (by decide)
  · rw [q] at k2; exact absurd k2 (by decide)
theorem pX_eq {V : Wd} {bel s : Bool} {c k0 n : Nat} {o : Int32} (hv : ∀ i, i < n → itV V c (k0 + i)) (ho : ¬ o < 0) : ∀ i, i ≤ n → pX V s o k0 i = gvS s (fL V bel k0 i) o.toNatClampNeg
  | 0, _ => by cases s <;> rfl
  | i + 1, hi => by
    rw [pX, pX_eq hv ho i (by omega)]
    by_cases hs : isSo V (k0 + i) = true
    · have n2 : ¬ wK V (k0 + i) = 2 := fun q => by simp [isSo, q] at hs
      rw [if_neg (fun q => n2 q.1), fL_so hs]
    · rw [fL_sp hs]
      by_cases k2 : wK V (k0 + i) = 2
      · rw [if_pos k2]
        obtain ⟨g2, g4⟩ := gl_ord (hv i (by omega)) k2
        have gx : ¬ wN V (k0 + i) (if s = true then 4 else 2) < 0 := by cases s <;> assumption
        by_cases e : wN V (k0 + i) (if s = true then 4 else 2) = o
        · rw [if_pos ⟨k2, e⟩, e]
          simp only [vp_updL, if_true]
        · rw [if_neg (fun q => e q.2)]
          simp only [vp_updL]
          rw [if_neg (fun q => e (cl_inj gx ho q.symm))]
      · rw [if_neg (fun q => k2 q.1), if_neg k2]
theorem lt64_0 {x : Int32} : 0 < x ↔ 0 < x.toInt64 := by
  have h := lt64 (x := 0) (y := x)
  rw [i0_64] at h
  exact h
theorem lt64_n {x : Int32} : x < 0 ↔ x.toInt64 < 0 := by
  have h := lt64 (x := x) (y := 0)
  rw [i0_64] at h
  exact h
/-! ===== fillUp ===== -/
theorem to32 {x : Int32} {y : Int64} (h : x.toInt64 = y) : y.toInt32 = x := by rw [← h, i32_64]
theorem how3 {x : Int32} (h0 : ¬ x < 0) (h2 : x ≤ 2) : x = 0 ∨ x = 1 ∨ x = 2 := by
  have a := Int32.le_iff_toInt_le.mp (Int32.not_lt.mp h0)
  have b := Int32.le_iff_toInt_le.mp h2
  rw [show (0 : Int32).toInt = 0 by decide] at a
  rw [show (2 : Int32).toInt = 2 by decide] at b
  rcases (show x.toInt = 0 ∨ x.toInt = 1 ∨ x.toInt = 2 by omega) with q | q | q
  · exact Or.inl (Int32.toInt_inj.mp q)
  · exact Or.inr (Or.inl (Int32.toInt_inj.mp q))
  · exact Or.inr (Or.inr (Int32.toInt_inj.mp q))
theorem fill_sim {bel : Bool} {how size w h : Int32} {ln : Int64} (hL : (if bel = true then h else w).toInt64 = ln) (hs : sz ln = true) (hz : szI size) (h0 : ¬ how < 0) (h2 : how ≤ 2) :
    (∃ ex ll : Int32, fillF bel how size w h = some (ex, ll) ∧ sz (exM how size ln) = true ∧ sz (ln + exM how size ln) = true ∧ ex.toInt64 = exM how size ln ∧ ll.toInt64 = ln + exM how size ln) ∨
    (fillF bel how size w h = none ∧ (sz (exM how size ln) && sz (ln + exM how size ln)) = false) := by
  have hq : szI (if bel = true then h else w) := by rw [szI, hL]; exact hs
  have fin : ∀ ex : Int32, ex.toInt64 = exM how size ln → sz (exM how size ln) = true → fillF bel how size w h = (some ex).bind (fun ex => (jsum (if bel = true then h else w).toInt64 ex.toInt64).bind fun ln => some (ex, ln)) →
      ((∃ ex ll : Int32, fillF bel how size w h = some (ex, ll) ∧ sz (exM how size ln) = true ∧ sz (ln + exM how size ln) = true ∧ ex.toInt64 = exM how size ln ∧ ll.toInt64 = ln + exM how size ln) ∨
    (fillF bel how size w h = none ∧ (sz (exM how size ln) && sz (ln + exM how size ln)) = false)) := fun ex e1 e2 e3 => by
    have s1 := jsum_eq (x := (if bel = true then h else w).toInt64) (y := ex.toInt64) (z := ln + exM how size ln) (by rw [hL, e1])
    rw [Option.bind_some, s1] at e3
    by_cases c1 : sz (ln + exM how size ln) = true
    · rw [if_pos c1] at e3
      exact Or.inl ⟨ex, _, e3, e2, c1, e1, sz_back c1⟩
    · rw [if_neg c1] at e3
      exact Or.inr ⟨e3, by rw [e2]; simpa using c1⟩
  rcases how3 h0 h2 with q | q | q
  · subst q
    exact fin 0 rfl rfl rfl
  · subst q
    have s1 := jsum_eq (x := size.toInt64) (y := (-(if bel = true then h else w)).toInt64) (z := exM 1 size ln) (by rw [neg64 hq, hL, exM, if_neg (by decide), if_pos rfl, ← Int64.sub_eq_add_neg])
    by_cases c1 : sz (exM 1 size ln) = true
    · exact fin _ (sz_back c1) c1 (by rw [fillF, if_pos rfl, s1, if_pos c1])
    · exact Or.inr ⟨by rw [fillF, if_pos rfl, s1, if_neg c1]; rfl, by rw [Bool.eq_false_iff.mpr c1]; rfl⟩
  · subst q
    exact fin size rfl hz rfl
/-! ===== findTotal ===== -/
theorem eq0_64 {x : Int32} {y : Int64} (h : x.toInt64 = y) : (y = 0) ↔ x = 0 := by
  constructor
  · intro q
    rw [q] at h
    rw [← to32 h]; rfl
  · intro q
    rw [← h, q]; rfl
theorem find_sim {gs : Nat → Int32} {s : Nat → Int64} (h : ∀ o, (gs o).toInt64 = s o) : findF gs 4 0 0 0 = oL s 4 := by
  simp only [findF, oL, eq0_64 (h 0), eq0_64 (h 1), eq0_64 (h 2), eq0_64 (h 3), to32 (h 0), to32 (h 1), to32 (h 2), to32 (h 3)]
  by_cases h0 : gs 0 = 0 <;> by_cases h1 : gs 1 = 0 <;> by_cases h2 : gs 2 = 0 <;> by_cases h3 : gs 3 = 0 <;> simp [h0, h1, h2, h3]
theorem oL_of (s : Nat → Int64) : ∀ k, oL s k = (0, 0) ∨ ∃ o, o < k ∧ oL s k = (nI o, (s o).toInt32)
  | 0 => Or.inl rfl
  | k + 1 => by
    rw [oL]
    split
    · rcases oL_of s k with q | ⟨o, q1, q2⟩
      · exact Or.inl q
      · exact Or.inr ⟨o, by omega, q2⟩
    · exact Or.inr ⟨k, by omega, rfl⟩
theorem fnd_sim {gs hs : Nat → Int32} {s : (Nat → Int64) × (Nat → Int64)} {ex : Int32} {ey : Int64} (he : ex.toInt64 = ey) (h : ∀ o, (gs o).toInt64 = s.1 o) (h2 : ∀ o, (hs o).toInt64 = s.2 o) : fndF gs hs ex = otF ey s := by
  rw [fndF, otF]
  by_cases q : ex = 0
  · have q2 := (eq0_64 he).mpr q
    rw [if_pos q2, q]
    rfl
  · have q2 : ¬ ey = 0 := fun n => q ((eq0_64 he).mp n)
    rw [if_neg q2]
    by_cases p1 : 0 < ex
    · have p2 : 0 < ey := by rw [← he]; exact lt64_0.mp p1
      rw [if_pos p1, if_pos p2, find_sim h]
    · have p2 : ¬ 0 < ey := fun n => p1 (lt64_0.mpr (by rw [he]; exact n))
      have p3 : ex < 0 := Int32.lt_of_le_of_ne (Int32.not_lt.mp p1) q
      rw [if_neg p1, if_pos p3, if_neg p2, find_sim h2]
/-! ===== overfull, badness ===== -/
theorem ms_eq {ex : Int32} (h : szI ex) : (ex < 0 → msF ex.toInt64 = (-ex).toInt64 ∧ 0 < msF ex.toInt64) ∧ (¬ ex < 0 → msF ex.toInt64 = 0) := by
  constructor
  · intro q
    have q2 : ex.toInt64 < 0 := lt64_n.mp q
    rw [msF, if_pos q2, neg64 h]
    refine ⟨rfl, ?_⟩
    have b := szI_iff.mp h
    have b2 := Int32.lt_iff_toInt_lt.mp q
    rw [show (0 : Int32).toInt = 0 by decide] at b2
    rw [Int64.lt_iff_toInt_lt, Int64.toInt_neg, Int32.toInt_toInt64, show (0 : Int64).toInt = 0 by decide, Int.bmod_eq_of_le (by omega) (by omega)]
    omega
  · intro q
    rw [msF, if_neg (fun n => q (lt64_n.mpr n))]
theorem ov_sim {ex od to : Int32} (h : szI ex) (ht : szI to) (t0 : 0 ≤ to.toInt) : ovF ex od to = ovM ex.toInt64 (od, to) ∧ (0 < ovF ex od to ↔ ovB ex.toInt64 (od, to) = true) ∧ szI (ovF ex od to) := by
  obtain ⟨m1, m2⟩ := ms_eq h
  by_cases q : ex < 0
  · obtain ⟨e1, e2⟩ := m1 q
    by_cases q1 : od = 0
    · by_cases q3 : to < -ex
      · have q4 : to.toInt64 < msF ex.toInt64 := by rw [e1]; exact lt64.mp q3
        have hB : ovB ex.toInt64 (od, to) = true := by simp [ovB, e2, q1, q4]
        have b := szI_iff.mp h
        have b1 := szI_iff.mp ht
        have b2 := Int32.lt_iff_toInt_lt.mp q3
        rw [Int32.toInt_neg, Int.bmod_eq_of_le (by omega) (by omega)] at b2
        have ev : ovF ex od to = -ex - to := if_pos ⟨q, q1, q3⟩
        have ei : (-ex - to).toInt = -ex.toInt - to.toInt := by
          rw [Int32.toInt_sub, Int32.toInt_neg, Int.bmod_eq_of_le (n := -ex.toInt) (by omega) (by omega), Int.bmod_eq_of_le (by omega) (by omega)]
        refine ⟨?_, ⟨fun _ => hB, fun _ => ?_⟩, ?_⟩
        · rw [ev, ovM, if_pos hB]
          show _ = (msF ex.toInt64 - to.toInt64).toInt32
          refine (to32 ?_).symm
          apply Int64.toInt_inj.mp
          rw [Int32.toInt_toInt64, ei, e1, Int64.toInt_sub, Int32.toInt_toInt64, Int32.toInt_toInt64, Int32.toInt_neg, Int.bmod_eq_of_le (n := -ex.toInt) (by omega) (by omega), Int.bmod_eq_of_le (by omega) (by omega)]
        · rw [ev, Int32.lt_iff_toInt_lt, ei, show (0 : Int32).toInt = 0 by decide]; omega
        · rw [ev, szI_iff, ei]; omega
      · have q4 : ¬ to.toInt64 < msF ex.toInt64 := by rw [e1]; exact fun n => q3 (lt64.mpr n)
        have hB : ovB ex.toInt64 (od, to) = false := by simp [ovB, q4]
        have ev : ovF ex od to = 0 := if_neg (fun n => q3 n.2.2)
        rw [ev, ovM, hB]
        exact ⟨rfl, by decide, szI_0⟩
    · have hB : ovB ex.toInt64 (od, to) = false := by simp [ovB, q1]
      have ev : ovF ex od to = 0 := if_neg (fun n => q1 n.2.1)
      rw [ev, ovM, hB]
      exact ⟨rfl, by decide, szI_0⟩
  · have hB : ovB ex.toInt64 (od, to) = false := by simp [ovB, m2 q]
    have ev : ovF ex od to = 0 := if_neg (fun n => q n.1)
    rw [ev, ovM, hB]
    exact ⟨rfl, by decide, szI_0⟩
theorem ab_eq {ex : Int32} (h : szI ex) : (ab ex).toInt64 = labs ex.toInt64 ∧ 0 ≤ (ab ex).toInt ∧ (ab ex).toInt ≤ 1073741823 := by
  have b := szI_iff.mp h
  rw [ab, labs]
  by_cases q : 0 ≤ ex
  · have q2 := Int32.le_iff_toInt_le.mp q
    rw [show (0 : Int32).toInt = 0 by decide] at q2
    rw [if_pos q, if_neg (fun n => Int32.not_lt.mpr q (lt64_n.mpr n))]
    exact ⟨rfl, q2, b.2⟩
  · have q2 := Int32.lt_iff_toInt_lt.mp (Int32.not_le.mp q)
    rw [show (0 : Int32).toInt = 0 by decide] at q2
    have ei : (0 - ex).toInt = - ex.toInt := by rw [Int32.toInt_sub, show (0 : Int32).toInt = 0 by decide, Int.bmod_eq_of_le (by omega) (by omega)]; omega
    rw [if_neg q, if_pos (lt64_n.mp (Int32.not_le.mp q)), ei]
    refine ⟨?_, by omega, by omega⟩
    apply Int64.toInt_inj.mp
    rw [Int32.toInt_toInt64, ei, Int64.toInt_neg, Int32.toInt_toInt64, Int.bmod_eq_of_le (by omega) (by omega)]
theorem div64 {x y : Int64} (hx : 0 ≤ x.toInt) (hy : 0 ≤ y.toInt) : (x / y).toInt = x.toInt / y.toInt := by
  have b := Int64.toInt_lt x
  have h1 : 0 ≤ x.toInt / y.toInt := Int.ediv_nonneg hx hy
  have h2 : x.toInt / y.toInt ≤ x.toInt := Int.ediv_le_self _ hx
  rw [Int64.toInt_div, Int.tdiv_eq_ediv_of_nonneg hx, Int.bmod_eq_of_le (by omega) (by omega)]
theorem div32 {x y : Int32} (hx : 0 ≤ x.toInt) (hy : 0 ≤ y.toInt) : (x / y).toInt = x.toInt / y.toInt := by
  have b := Int32.toInt_lt x
  have h1 : 0 ≤ x.toInt / y.toInt := Int.ediv_nonneg hx hy
  have h2 : x.toInt / y.toInt ≤ x.toInt := Int.ediv_le_self _ hx
  rw [Int32.toInt_div, Int.tdiv_eq_ediv_of_nonneg hx, Int.bmod_eq_of_le (by omega) (by omega)]
def braM (t s : Int64) : Int64 := if t ≤ 7230584 then t * 297 / s else if 1663497 ≤ s then t / (s / 297) else t
theorem brat_sim {m a : Int32} (m0 : 0 ≤ m.toInt) (m1 : m.toInt ≤ 1073741823) (a0 : 0 ≤ a.toInt) : (brat m a).toInt64 = braM m.toInt64 a.toInt64 ∧ 0 ≤ (brat m a).toInt := by
  have ba := Int32.toInt_lt a
  rw [brat, braM]
  have c7 : (m ≤ 7230584) ↔ (m.toInt64 ≤ 7230584) := le64 (y := 7230584)
  by_cases q : m ≤ 7230584
  · have q2 := Int32.le_iff_toInt_le.mp q
    rw [show (7230584 : Int32).toInt = 7230584 by decide] at q2
    rw [if_pos q, if_pos (c7.mp q)]
    have e1 : (297 * m).toInt = 297 * m.toInt := by rw [Int32.toInt_mul, show (297 : Int32).toInt = 297 by decide, Int.bmod_eq_of_le (by omega) (by omega)]
    have e2 : (m.toInt64 * 297).toInt = 297 * m.toInt := by rw [Int64.toInt_mul, Int32.toInt_toInt64, show (297 : Int64).toInt = 297 by decide, Int.bmod_eq_of_le (by omega) (by omega)]; omega
    have e3 : (297 * m / a).toInt = 297 * m.toInt / a.toInt := by rw [div32 (by rw [e1]; omega) a0, e1]
    refine ⟨?_, by rw [e3]; exact Int.ediv_nonneg (by omega) a0⟩
    apply Int64.toInt_inj.mp
    rw [Int32.toInt_toInt64, e3, div64 (by rw [e2]; omega) (by rw [Int32.toInt_toInt64]; exact a0), e2, Int32.toInt_toInt64]
  · rw [if_neg q, if_neg (fun n => q (c7.mpr n))]
    have c8 : (a < 1663497) ↔ (a.toInt64 < 1663497) := lt64 (y := 1663497)
    by_cases r : a < 1663497
    · rw [if_pos r, if_neg (Int64.not_le.mpr (c8.mp r))]
      exact ⟨rfl, m0⟩
    · rw [if_neg r, if_pos (Int64.not_lt.mp (fun n => r (c8.mpr n)))]
      have f1 : (a / 297).toInt = a.toInt / 297 := div32 a0 (by decide)
      have f2 : (a.toInt64 / 297).toInt = a.toInt / 297 := by rw [div64 (by rw [Int32.toInt_toInt64]; exact a0) (by decide), Int32.toInt_toInt64]; rfl
      have f0 : 0 ≤ a.toInt / 297 := Int.ediv_nonneg a0 (by decide)
      have f3 : (m / (a / 297)).toInt = m.toInt / (a.toInt / 297) := by rw [div32 m0 (by rw [f1]; exact f0), f1]
      refine ⟨?_, by rw [f3]; exact Int.ediv_nonneg m0 f0⟩
      apply Int64.toInt_inj.mp
      rw [Int32.toInt_toInt64, f3, div64 (by rw [Int32.toInt_toInt64]; exact m0) (by rw [f2]; exact f0), f2, Int32.toInt_toInt64]
theorem cube_sim {r : Int32} (r0 : 0 ≤ r.toInt) (r1 : r.toInt ≤ 1290) : ((r.toInt64 * r.toInt64 * r.toInt64 + 131072) / 262144).toInt32 = (r * r * r + 131072) / 262144 := by
  have h2 : r.toInt * r.toInt ≤ 1290 * 1290 := Int.mul_le_mul r1 r1 r0 (by decide)
  have h20 : 0 ≤ r.toInt * r.toInt := Int.mul_nonneg r0 r0
  have h3 : r.toInt * r.toInt * r.toInt ≤ 1290 * 1290 * 1290 := Int.mul_le_mul h2 r1 r0 (by decide)
  have h30 : 0 ≤ r.toInt * r.toInt * r.toInt := Int.mul_nonneg h20 r0
  have e1 : (r * r * r + 131072).toInt = r.toInt * r.toInt * r.toInt + 131072 := by
    rw [Int32.toInt_add, Int32.toInt_mul, Int32.toInt_mul, show (131072 : Int32).toInt = 131072 by decide, Int.bmod_eq_of_le (n := r.toInt * r.toInt) (by omega) (by omega), Int.bmod_eq_of_le (n := r.toInt * r.toInt * r.toInt) (by omega) (by omega), Int.bmod_eq_of_le (by omega) (by omega)]
  have e2 : (r.toInt64 * r.toInt64 * r.toInt64 + 131072).toInt = r.toInt * r.toInt * r.toInt + 131072 := by
    rw [Int64.toInt_add, Int64.toInt_mul, Int64.toInt_mul, Int32.toInt_toInt64, show (131072 : Int64).toInt = 131072 by decide, Int.bmod_eq_of_le (n := r.toInt * r.toInt) (by omega) (by omega), Int.bmod_eq_of_le (n := r.toInt * r.toInt * r.toInt) (by omega) (by omega), Int.bmod_eq_of_le (by omega) (by omega)]
  apply to32
  apply Int64.toInt_inj.mp
  rw [Int32.toInt_toInt64, div32 (by rw [e1]; omega) (by decide), div64 (by rw [e2]; omega) (by decide), e1, e2]
  rfl
theorem bad_sim {ex od to : Int32} (h : szI ex) (ht : szI to) (t0 : 0 ≤ to.toInt) : badF ex od to (ovF ex od to) = baM ex.toInt64 (od, to) := by
  obtain ⟨o1, o2, -⟩ := ov_sim (od := od) h ht t0
  obtain ⟨a1, a2, a3⟩ := ab_eq h
  rw [badF, baM]
  by_cases q : 0 < ovF ex od to
  · rw [if_pos q, if_pos (o2.mp q)]
  · rw [if_neg q, if_neg (fun n => q (o2.mpr n))]
    show _ = if 0 < od then 0 else bnF (labs ex.toInt64) to.toInt64
    by_cases q1 : 0 < od
    · rw [if_pos (Or.inr q1), if_pos q1]
    · rw [if_neg q1, bnF, ← a1]
      by_cases q2 : ex = 0
      · subst q2; rfl
      · have q3 : ¬ (ab ex).toInt64 = 0 := by
          intro n
          have n2 := (eq0_64 (x := ab ex) rfl).mp n
          rw [ab] at n2
          split at n2
          · exact q2 n2
          · apply q2
            have := congrArg Int32.toInt n2
            have b := szI_iff.mp h
            rw [Int32.toInt_sub, show (0 : Int32).toInt = 0 by decide, Int.bmod_eq_of_le (by omega) (by omega)] at this
            exact Int32.toInt_inj.mp (by rw [show (0 : Int32).toInt = 0 by decide]; omega)
        rw [if_neg (by rintro (n | n); exact q2 n; exact q1 n), if_neg q3]
        by_cases q4 : to = 0
        · rw [if_pos q4, if_pos ((eq0_64 rfl).mpr q4)]
        · rw [if_neg q4, if_neg (fun n => q4 ((eq0_64 rfl).mp n))]
          obtain ⟨r1, r2⟩ := brat_sim (m := ab ex) (a := to) a2 a3 t0
          show _ = if 1290 < braM (ab ex).toInt64 to.toInt64 then 10000 else ((braM (ab ex).toInt64 to.toInt64 * braM (ab ex).toInt64 to.toInt64 * braM (ab ex).toInt64 to.toInt64 + 131072) / 262144).toInt32
          rw [← r1]
          have c7 : (brat (ab ex) to ≤ 1290) ↔ ((brat (ab ex) to).toInt64 ≤ 1290) := le64 (y := 1290)
          by_cases q5 : brat (ab ex) to ≤ 1290
          · rw [if_pos q5, if_neg (Int64.not_lt.mpr (c7.mp q5))]
            have q6 := Int32.le_iff_toInt_le.mp q5
            rw [show (1290 : Int32).toInt = 1290 by decide] at q6
            rw [cube_sim r2 q6]
          · rw [if_neg q5, if_pos (Int64.not_le.mp (fun n => q5 (c7.mpr n)))]
