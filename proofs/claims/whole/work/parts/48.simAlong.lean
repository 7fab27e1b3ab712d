/-! ===== class and reference reckon alike: measuring ===== -/
theorem sz_back {x : Int64} (h : sz x = true) : x.toInt32.toInt64 = x := by
  have b := sz_iff.mp h
  apply Int64.toInt_inj.mp
  rw [Int32.toInt_toInt64, Int64.toInt_toInt32, Int.bmod_eq_of_le (by omega) (by omega)]
theorem i32_64 (x : Int32) : x.toInt64.toInt32 = x := by
  have b1 := Int32.le_toInt x
  have b2 := Int32.toInt_lt x
  apply Int32.toInt_inj.mp
  rw [Int64.toInt_toInt32, Int32.toInt_toInt64, Int.bmod_eq_of_le (by omega) (by omega)]
theorem neg64 {z : Int32} (h : szI z) : (-z).toInt64 = -z.toInt64 := by
  have b := szI_iff.mp h
  apply Int64.toInt_inj.mp
  rw [Int32.toInt_toInt64, Int32.toInt_neg, Int64.toInt_neg, Int32.toInt_toInt64, Int.bmod_eq_of_le (by omega) (by omega), Int.bmod_eq_of_le (by omega) (by omega)]
theorem lt64 {x y : Int32} : x < y ↔ x.toInt64 < y.toInt64 := by
  rw [Int32.lt_iff_toInt_lt, Int64.lt_iff_toInt_lt, Int32.toInt_toInt64, Int32.toInt_toInt64]
theorem le64 {x y : Int32} : x ≤ y ↔ x.toInt64 ≤ y.toInt64 := by
  rw [Int32.le_iff_toInt_le, Int64.le_iff_toInt_le, Int32.toInt_toInt64, Int32.toInt_toInt64]
theorem mx64 (x y : Int32) : (mx x y).toInt64 = gtr x.toInt64 y.toInt64 := by
  rw [mx, gtr]
  by_cases h : x < y
  · rw [if_pos h, if_pos (lt64.mp h)]
  · rw [if_neg h, if_neg (fun q => h (lt64.mpr q))]
theorem gtr_ge {x y : Int64} (h : 0 ≤ x) : 0 ≤ gtr x y := by
  rw [gtr]
  split
  · rename_i q
    exact Int64.le_of_lt (Int64.lt_of_le_of_lt h q)
  · exact h
theorem gtr_0 {x : Int64} (h : 0 ≤ x) : gtr x 0 = x := if_neg (Int64.not_lt.mpr h)
theorem szI_64 {x : Int32} (h : szI x) : sz x.toInt64 = true := h
theorem jsum_eq {x y z : Int64} (h : x + y = z) : jsum x y = if sz z = true then some z.toInt32 else none := by rw [jsum, h]
/-- what a solid's cell says, in the reference's words -/
theorem itO_so {V : Wd} {ad : Nat → Nat} {c k : Nat} {t w h d z : Int32} {q : Option Nat} (hv : itV V c k) (hb : ∀ b, b < c → szI (wA V 0 b) ∧ szI (wA V 1 b) ∧ szI (wA V 2 b)) (e : itO V ad k = .inl (t, w, h, d, q, z)) :
    isSo V k = true ∧ kn w 0 = szO V k 0 ∧ kn h 0 = szO V k 1 ∧ kn d 0 = szO V k 2 ∧ z = shO V k ∧ szI (shO V k) ∧ ∀ j, ruO V k j = true → szO V k j = 0 ∧ shO V k = 0 := by
  rcases hv with ⟨k0, g0, g1, g2, g3⟩ | ⟨k0, g0, g1, g2⟩ | ⟨k0, -⟩ | ⟨k0, -⟩ | ⟨k0, g0, g1, g2⟩
  · rw [itO, if_pos k0] at e
    simp only [Sum.inl.injEq, Prod.mk.injEq] at e
    obtain ⟨e1, e2, e3, e4, -, e6⟩ := e
    subst e1 e2 e3 e4 e6
    refine ⟨by simp [isSo, k0], ?_, ?_, ?_, ?_, ?_, ?_⟩
    · rw [szI_kn g1]; simp [szO, k0]
    · rw [szI_kn g2]; simp [szO, k0]
    · rw [szI_kn g3]; simp [szO, k0]
    · simp [shO, k0]
    · rw [show shO V k = 0 by simp [shO, k0]]; exact szI_0
    · intro j hj; simp [ruO, k0] at hj
  · have n0 : ¬ wK V k = 0 := by rw [k0]; decide
    rw [itO, if_neg n0, if_pos k0] at e
    simp only [Sum.inl.injEq, Prod.mk.injEq] at e
    obtain ⟨e1, e2, e3, e4, -, e6⟩ := e
    subst e1 e2 e3 e4 e6
    refine ⟨by simp [isSo, k0], ?_, ?_, ?_, ?_, ?_, ?_⟩
    · simp [szO, k0]
    · simp [szO, k0]
    · simp [szO, k0]
    · simp [shO, k0]
    · rw [show shO V k = 0 by simp [shO, k0]]; exact szI_0
    · intro j hj
      simp only [ruO, k0, decide_true, Bool.true_and, decide_eq_true_eq] at hj
      exact ⟨by simp [szO, k0, kn, hj], by simp [shO, k0]⟩
  · rw [itO, if_neg (by rw [k0]; decide), if_neg (by rw [k0]; decide), if_neg (by rw [k0]; decide)] at e; cases e
  · rw [itO, if_neg (by rw [k0]; decide), if_neg (by rw [k0]; decide), if_neg (by rw [k0]; decide)] at e; cases e
  · rw [itO, if_neg (by rw [k0]; decide), if_neg (by rw [k0]; decide), if_pos k0] at e
    simp only [Sum.inl.injEq, Prod.mk.injEq] at e
    obtain ⟨e1, e2, e3, e4, -, e6⟩ := e
    subst e1 e2 e3 e4 e6
    obtain ⟨b0, b1, b2⟩ := hb _ g1
    refine ⟨by simp [isSo, k0], ?_, ?_, ?_, ?_, ?_, ?_⟩
    · rw [szI_kn b0]; simp [szO, k0]
    · rw [szI_kn b1]; simp [szO, k0]
    · rw [szI_kn b2]; simp [szO, k0]
    · simp [shO, k0]
    · rw [show shO V k = wN V k 1 by simp [shO, k0]]; exact g0
    · intro j hj; simp [ruO, k0] at hj
theorem itO_sp {V : Wd} {ad : Nat → Nat} {c k : Nat} {w a b d z : Int32} (hv : itV V c k) (e : itO V ad k = .inr (w, a, b, d, z)) :
    isSo V k = false ∧ w = wN V k 0 ∧ ((wK V k = 2 ∧ a = wN V k 1 ∧ b = wN V k 2 ∧ d = wN V k 3 ∧ z = wN V k 4 ∧ okGlue (wN V k 0) (wN V k 1) (wN V k 2) (wN V k 3) (wN V k 4) = true) ∨ (¬ wK V k = 2 ∧ a = 0 ∧ b = 0 ∧ d = 0 ∧ z = 0)) := by
  rcases hv with ⟨k0, -⟩ | ⟨k0, -⟩ | ⟨k0, g0⟩ | ⟨k0, g0, g1, g2, g3, g4⟩ | ⟨k0, -⟩
  · rw [itO, if_pos k0] at e; cases e
  · rw [itO, if_neg (by rw [k0]; decide), if_pos k0] at e; cases e
  · rw [itO, if_neg (by rw [k0]; decide), if_neg (by rw [k0]; decide), if_neg (by rw [k0]; decide)] at e
    simp only [Sum.inr.injEq, Prod.mk.injEq] at e
    obtain ⟨e1, e2, e3, e4, e5⟩ := e
    exact ⟨by simp [isSo, k0], e1.symm, Or.inl ⟨k0, e2.symm, e3.symm, e4.symm, e5.symm, g0⟩⟩
  · rw [itO, if_neg (by rw [k0]; decide), if_neg (by rw [k0]; decide), if_neg (by rw [k0]; decide)] at e
    simp only [Sum.inr.injEq, Prod.mk.injEq] at e
    obtain ⟨e1, e2, e3, e4, e5⟩ := e
    exact ⟨by simp [isSo, k0], e1.symm, Or.inr ⟨by rw [k0]; decide, e2.symm.trans g1, e3.symm.trans g2, e4.symm.trans g3, e5.symm.trans g4⟩⟩
  · rw [itO, if_neg (by rw [k0]; decide), if_neg (by rw [k0]; decide), if_pos k0] at e; cases e
/-- the three tests of an item: its sizes, its stretch, its shrink -/
def ck1 (V : Wd) (bel : Bool) (k : Nat) (v : Vl) : Bool := if isSo V k = true then ckS V bel k v else (!bel || sz (v.1 + v.2.1)) && sz (v.1 + (if bel = true then v.2.1 else 0) + (wN V k 0).toInt64)
def ck2 (V : Wd) (k : Nat) (s : Nat → Int64) : Bool := !decide (wK V k = 2) || sz (s (wN V k 2).toNatClampNeg + (wN V k 1).toInt64)
def ck3 (V : Wd) (k : Nat) (s : Nat → Int64) : Bool := !decide (wK V k = 2) || sz (s (wN V k 4).toNatClampNeg + (wN V k 3).toInt64)
theorem ckV_3 {V : Wd} {bel : Bool} {k : Nat} {v : Vl} : ckV V bel k v = (ck1 V bel k v && (ck2 V k v.2.2.2.2.1 && ck3 V k v.2.2.2.2.2)) := by
  rw [ckV, ck1, ck2, ck3, ckG]
  by_cases hs : isSo V k = true
  · have h2 : ¬ wK V k = 2 := fun q => by simp [isSo, q] at hs
    simp [hs, h2]
  · by_cases h2 : wK V k = 2
    · simp [hs, h2]
    · simp [hs, h2]
theorem gL_iff {V : Wd} {bel : Bool} {k0 : Nat} : ∀ n, gL V bel k0 n = true ↔ ∀ j, j < n → ck1 V bel (k0 + j) (fL V bel k0 j) = true ∧ ck2 V (k0 + j) (fL V bel k0 j).2.2.2.2.1 = true ∧ ck3 V (k0 + j) (fL V bel k0 j).2.2.2.2.2 = true
  | 0 => ⟨fun _ j hj => absurd hj (Nat.not_lt_zero j), fun _ => rfl⟩
  | n + 1 => by
    rw [gL, Bool.and_eq_true, gL_iff n, ckV_3, Bool.and_eq_true, Bool.and_eq_true]
    constructor
    · intro h j hj
      by_cases q : j = n
      · subst q; exact h.2
      · exact h.1 j (by omega)
    · intro h
      exact ⟨fun j hj => h j (by omega), h n (by omega)⟩
theorem stV_so {V : Wd} {bel : Bool} {k : Nat} {v : Vl} (h : isSo V k = true) : stV V bel k v = stS V bel k v := if_pos h
theorem ru_or {V : Wd} {k j : Nat} {x : Int64} (h : ruO V k j = true → x = 0) : (ruO V k j || sz x) = sz x := by
  cases hr : ruO V k j with
  | false => rfl
  | true => rw [h hr]; rfl
theorem ru_gtr {V : Wd} {k j : Nat} {a x : Int64} (ha : 0 ≤ a) (h : ruO V k j = true → x = 0) : (if ruO V k j = true then a else gtr a x) = gtr a x := by
  split
  · rename_i q; rw [h q, gtr_0 ha]
  · rfl
/-! measureAlong -/
theorem along_sim {V : Wd} {ad : Nat → Nat} {c k0 n : Nat} (hv : ∀ i, i < n → itV V c (k0 + i)) (hb : ∀ b, b < c → szI (wA V 0 b) ∧ szI (wA V 1 b) ∧ szI (wA V 2 b)) : ∀ (k i : Nat) (w h d : Int32) (gp : Nat → Int32), i + k = n →
    w.toInt64 = (fL V false k0 i).1 → h.toInt64 = (fL V false k0 i).2.2.1 → d.toInt64 = (fL V false k0 i).2.2.2.1 → 0 ≤ (fL V false k0 i).2.2.1 → 0 ≤ (fL V false k0 i).2.2.2.1 →
    (∃ (w' h' d' : Int32) (gp' : Nat → Int32), alongF (fun i => itO V ad (k0 + i)) k i w h d gp = some (w', h', d', gp') ∧ (∀ j, i ≤ j → j < n → ck1 V false (k0 + j) (fL V false k0 j) = true) ∧ w'.toInt64 = (fL V false k0 n).1 ∧ h'.toInt64 = (fL V false k0 n).2.2.1 ∧ d'.toInt64 = (fL V false k0 n).2.2.2.1 ∧ (∀ j, j < i → gp' j = gp j) ∧ ∀ j, i ≤ j → j < n → (gp' j).toInt64 = (fL V false k0 j).1) ∨
    (alongF (fun i => itO V ad (k0 + i)) k i w h d gp = none ∧ ∃ j, i ≤ j ∧ j < n ∧ ck1 V false (k0 + j) (fL V false k0 j) = false)
  | 0, i, w, h, d, gp, hik, hw, hh, hd, h0, d0 => by
    have e : i = n := by omega
    subst e
    exact Or.inl ⟨w, h, d, gp, rfl, fun j a b => absurd a (by omega), hw, hh, hd, fun _ _ => rfl, fun j a b => absurd a (by omega)⟩
  | k + 1, i, w, h, d, gp, hik, hw, hh, hd, h0, d0 => by
    have hi := hv i (by omega)
    have step : ∀ (w1 h1 d1 : Int32), ck1 V false (k0 + i) (fL V false k0 i) = true → w1.toInt64 = (fL V false k0 (i + 1)).1 → h1.toInt64 = (fL V false k0 (i + 1)).2.2.1 → d1.toInt64 = (fL V false k0 (i + 1)).2.2.2.1 → 0 ≤ (fL V false k0 (i + 1)).2.2.1 → 0 ≤ (fL V false k0 (i + 1)).2.2.2.1 →
        (∃ (w' h' d' : Int32) (gp' : Nat → Int32), alongF (fun i => itO V ad (k0 + i)) k (i + 1) w1 h1 d1 (upd gp i w) = some (w', h', d', gp') ∧ (∀ j, i ≤ j → j < n → ck1 V false (k0 + j) (fL V false k0 j) = true) ∧ w'.toInt64 = (fL V false k0 n).1 ∧ h'.toInt64 = (fL V false k0 n).2.2.1 ∧ d'.toInt64 = (fL V false k0 n).2.2.2.1 ∧ (∀ j, j < i → gp' j = gp j) ∧ ∀ j, i ≤ j → j < n → (gp' j).toInt64 = (fL V false k0 j).1) ∨
        (alongF (fun i => itO V ad (k0 + i)) k (i + 1) w1 h1 d1 (upd gp i w) = none ∧ ∃ j, i ≤ j ∧ j < n ∧ ck1 V false (k0 + j) (fL V false k0 j) = false) := by
      intro w1 h1 d1 hc a1 a2 a3 a4 a5
      rcases along_sim hv hb k (i + 1) w1 h1 d1 (upd gp i w) (by omega) a1 a2 a3 a4 a5 with ⟨w', h', d', gp', b1, b2, b3, b4, b5, b6, b7⟩ | ⟨b1, j, b2, b3, b4⟩
      · refine Or.inl ⟨w', h', d', gp', b1, fun j p q => ?_, b3, b4, b5, fun j hj => ?_, fun j p q => ?_⟩
        · by_cases e : j = i
          · subst e; exact hc
          · exact b2 j (by omega) q
        · rw [b6 j (by omega)]; simp [upd, show ¬ j = i by omega]
        · by_cases e : j = i
          · subst e; rw [b6 j (by omega)]; simp only [upd, if_true]; exact hw
          · exact b7 j (by omega) q
      · exact Or.inr ⟨b1, j, by omega, b3, b4⟩
    have bad : ∀ (r : Option (Int32 × Int32 × Int32 × (Nat → Int32))), r = none → ck1 V false (k0 + i) (fL V false k0 i) = false →
        (∃ (w' h' d' : Int32) (gp' : Nat → Int32), r = some (w', h', d', gp') ∧ (∀ j, i ≤ j → j < n → ck1 V false (k0 + j) (fL V false k0 j) = true) ∧ w'.toInt64 = (fL V false k0 n).1 ∧ h'.toInt64 = (fL V false k0 n).2.2.1 ∧ d'.toInt64 = (fL V false k0 n).2.2.2.1 ∧ (∀ j, j < i → gp' j = gp j) ∧ ∀ j, i ≤ j → j < n → (gp' j).toInt64 = (fL V false k0 j).1) ∨
        (r = none ∧ ∃ j, i ≤ j ∧ j < n ∧ ck1 V false (k0 + j) (fL V false k0 j) = false) := fun r e hc => Or.inr ⟨e, i, by omega, by omega, hc⟩
    rcases hiv : itO V ad (k0 + i) with ⟨t, iw, ih9, id9, inn, z9⟩ | ⟨iw, a9, b9, c9, e9⟩
    · obtain ⟨f1, f2, f3, f4, f5, f6, f7⟩ := itO_so hi hb hiv
      have z0 : ∀ j, ruO V (k0 + i) j = true → (szO V (k0 + i) j).toInt64 = 0 := fun j q => by rw [(f7 j q).1]; decide
      have z1 : ∀ j, ruO V (k0 + i) j = true → (shO V (k0 + i)).toInt64 = 0 := fun j q => by rw [(f7 j q).2]; decide
      have eF : fL V false k0 (i + 1) = ((fL V false k0 i).1 + (szO V (k0 + i) 0).toInt64, (fL V false k0 i).2.1, gtr (fL V false k0 i).2.2.1 ((szO V (k0 + i) 1).toInt64 - (shO V (k0 + i)).toInt64), gtr (fL V false k0 i).2.2.2.1 ((szO V (k0 + i) 2).toInt64 + (shO V (k0 + i)).toInt64), (fL V false k0 i).2.2.2.2) := by
        rw [fL, stV_so f1, stS, if_neg (by decide), ru_gtr h0 (fun q => by rw [z0 1 q, z1 1 q]; decide), ru_gtr d0 (fun q => by rw [z0 2 q, z1 2 q]; decide)]
      have eC : ck1 V false (k0 + i) (fL V false k0 i) = (sz ((fL V false k0 i).1 + (szO V (k0 + i) 0).toInt64) && sz ((szO V (k0 + i) 1).toInt64 - (shO V (k0 + i)).toInt64) && sz ((szO V (k0 + i) 2).toInt64 + (shO V (k0 + i)).toInt64)) := by
        rw [ck1, if_pos f1, ckS, if_neg (by decide), ru_or (fun q => by rw [z0 1 q, z1 1 q]; decide), ru_or (fun q => by rw [z0 2 q, z1 2 q]; decide)]
      have s1 := jsum_eq (x := w.toInt64) (y := (kn iw 0).toInt64) (z := (fL V false k0 i).1 + (szO V (k0 + i) 0).toInt64) (by rw [hw, f2])
      have s2 := jsum_eq (x := (kn ih9 0).toInt64) (y := (-z9).toInt64) (z := (szO V (k0 + i) 1).toInt64 - (shO V (k0 + i)).toInt64) (by rw [f3, f5, neg64 f6, ← Int64.sub_eq_add_neg])
      have s3 := jsum_eq (x := (kn id9 0).toInt64) (y := z9.toInt64) (z := (szO V (k0 + i) 2).toInt64 + (shO V (k0 + i)).toInt64) (by rw [f4, f5])
      simp only [alongF, hiv, s1, s2, s3]
      by_cases c1 : sz ((fL V false k0 i).1 + (szO V (k0 + i) 0).toInt64) = true
      · rw [if_pos c1, Option.bind_some]
        by_cases c2 : sz ((szO V (k0 + i) 1).toInt64 - (shO V (k0 + i)).toInt64) = true
        · rw [if_pos c2, Option.bind_some]
          by_cases c3 : sz ((szO V (k0 + i) 2).toInt64 + (shO V (k0 + i)).toInt64) = true
          · rw [if_pos c3, Option.bind_some]
            refine step _ _ _ (by rw [eC, c1, c2, c3]; rfl) ?_ ?_ ?_ ?_ ?_
            · rw [eF, sz_back c1]
            · rw [eF, mx64, sz_back c2, hh]
            · rw [eF, mx64, sz_back c3, hd]
            · rw [eF]; exact gtr_ge h0
            · rw [eF]; exact gtr_ge d0
          · rw [if_neg c3, Option.bind_none]
            exact bad _ rfl (by rw [eC, c1, c2]; simpa using c3)
        · rw [if_neg c2, Option.bind_none]
          exact bad _ rfl (by rw [eC, c1]; simp [c2])
      · rw [if_neg c1, Option.bind_none]
        exact bad _ rfl (by rw [eC]; simp [c1])
    · obtain ⟨f1, f2, -⟩ := itO_sp hi hiv
      have n1 : ¬ isSo V (k0 + i) = true := by rw [f1]; decide
      have eF1 : (fL V false k0 (i + 1)).1 = (fL V false k0 i).1 + iw.toInt64 := by rw [fL, stV, if_neg n1, f2]; simp
      have eF2 : (fL V false k0 (i + 1)).2.2.1 = (fL V false k0 i).2.2.1 := by rw [fL, stV, if_neg n1]
      have eF3 : (fL V false k0 (i + 1)).2.2.2.1 = (fL V false k0 i).2.2.2.1 := by rw [fL, stV, if_neg n1]
      have eC : ck1 V false (k0 + i) (fL V false k0 i) = sz ((fL V false k0 i).1 + iw.toInt64) := by rw [ck1, if_neg n1, f2]; simp
      have s1 := jsum_eq (x := w.toInt64) (y := iw.toInt64) (z := (fL V false k0 i).1 + iw.toInt64) (by rw [hw])
      simp only [alongF, hiv, s1]
      by_cases c1 : sz ((fL V false k0 i).1 + iw.toInt64) = true
      · rw [if_pos c1, Option.bind_some]
        exact step _ _ _ (by rw [eC]; exact c1) (by rw [eF1, sz_back c1]) (by rw [eF2]; exact hh) (by rw [eF3]; exact hd) (by rw [eF2]; exact h0) (by rw [eF3]; exact d0)
      · rw [if_neg c1, Option.bind_none]
        exact bad _ rfl (by rw [eC]; simpa using c1)
