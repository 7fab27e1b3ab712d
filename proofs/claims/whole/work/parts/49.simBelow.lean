/-! ===== measureBelow ===== -/
theorem below_sim {V : Wd} {ad : Nat → Nat} {c k0 n : Nat} (hv : ∀ i, i < n → itV V c (k0 + i)) (hb : ∀ b, b < c → szI (wA V 0 b) ∧ szI (wA V 1 b) ∧ szI (wA V 2 b)) : ∀ (k i : Nat) (w h d : Int32) (gp : Nat → Int32), i + k = n →
    h.toInt64 = (fL V true k0 i).1 → d.toInt64 = (fL V true k0 i).2.1 → w.toInt64 = (fL V true k0 i).2.2.1 → 0 ≤ (fL V true k0 i).2.2.1 →
    (∃ (w' h' d' : Int32) (gp' : Nat → Int32), belowF (fun i => itO V ad (k0 + i)) k i w h d gp = some (w', h', d', gp') ∧ (∀ j, i ≤ j → j < n → ck1 V true (k0 + j) (fL V true k0 j) = true) ∧ h'.toInt64 = (fL V true k0 n).1 ∧ d'.toInt64 = (fL V true k0 n).2.1 ∧ w'.toInt64 = (fL V true k0 n).2.2.1 ∧ (∀ j, j < i → gp' j = gp j) ∧ ∀ j, i ≤ j → j < n → (gp' j).toInt64 = (fL V true k0 j).1 + (if isSo V (k0 + j) = true then (fL V true k0 j).2.1 else 0)) ∨
    (belowF (fun i => itO V ad (k0 + i)) k i w h d gp = none ∧ ∃ j, i ≤ j ∧ j < n ∧ ck1 V true (k0 + j) (fL V true k0 j) = false)
  | 0, i, w, h, d, gp, hik, hh, hd, hw, w0 => by
    have e : i = n := by omega
    subst e
    exact Or.inl ⟨w, h, d, gp, rfl, fun j a b => absurd a (by omega), hh, hd, hw, fun _ _ => rfl, fun j a b => absurd a (by omega)⟩
  | k + 1, i, w, h, d, gp, hik, hh, hd, hw, w0 => by
    have hi := hv i (by omega)
    have step : ∀ (w1 h1 d1 pl : Int32), ck1 V true (k0 + i) (fL V true k0 i) = true → h1.toInt64 = (fL V true k0 (i + 1)).1 → d1.toInt64 = (fL V true k0 (i + 1)).2.1 → w1.toInt64 = (fL V true k0 (i + 1)).2.2.1 → 0 ≤ (fL V true k0 (i + 1)).2.2.1 → pl.toInt64 = (fL V true k0 i).1 + (if isSo V (k0 + i) = true then (fL V true k0 i).2.1 else 0) →
        (∃ (w' h' d' : Int32) (gp' : Nat → Int32), belowF (fun i => itO V ad (k0 + i)) k (i + 1) w1 h1 d1 (upd gp i pl) = some (w', h', d', gp') ∧ (∀ j, i ≤ j → j < n → ck1 V true (k0 + j) (fL V true k0 j) = true) ∧ h'.toInt64 = (fL V true k0 n).1 ∧ d'.toInt64 = (fL V true k0 n).2.1 ∧ w'.toInt64 = (fL V true k0 n).2.2.1 ∧ (∀ j, j < i → gp' j = gp j) ∧ ∀ j, i ≤ j → j < n → (gp' j).toInt64 = (fL V true k0 j).1 + (if isSo V (k0 + j) = true then (fL V true k0 j).2.1 else 0)) ∨
        (belowF (fun i => itO V ad (k0 + i)) k (i + 1) w1 h1 d1 (upd gp i pl) = none ∧ ∃ j, i ≤ j ∧ j < n ∧ ck1 V true (k0 + j) (fL V true k0 j) = false) := by
      intro w1 h1 d1 pl hc a1 a2 a3 a4 a5
      rcases below_sim hv hb k (i + 1) w1 h1 d1 (upd gp i pl) (by omega) a1 a2 a3 a4 with ⟨w', h', d', gp', b1, b2, b3, b4, b5, b6, b7⟩ | ⟨b1, j, b2, b3, b4⟩
      · refine Or.inl ⟨w', h', d', gp', b1, fun j p q => ?_, b3, b4, b5, fun j hj => ?_, fun j p q => ?_⟩
        · by_cases e : j = i
          · subst e; exact hc
          · exact b2 j (by omega) q
        · rw [b6 j (by omega)]; simp [upd, show ¬ j = i by omega]
        · by_cases e : j = i
          · subst e; rw [b6 j (by omega)]; simp only [upd, if_true]; exact a5
          · exact b7 j (by omega) q
      · exact Or.inr ⟨b1, j, by omega, b3, b4⟩
    have bad : ∀ (r : Option (Int32 × Int32 × Int32 × (Nat → Int32))), r = none → ck1 V true (k0 + i) (fL V true k0 i) = false →
        (∃ (w' h' d' : Int32) (gp' : Nat → Int32), r = some (w', h', d', gp') ∧ (∀ j, i ≤ j → j < n → ck1 V true (k0 + j) (fL V true k0 j) = true) ∧ h'.toInt64 = (fL V true k0 n).1 ∧ d'.toInt64 = (fL V true k0 n).2.1 ∧ w'.toInt64 = (fL V true k0 n).2.2.1 ∧ (∀ j, j < i → gp' j = gp j) ∧ ∀ j, i ≤ j → j < n → (gp' j).toInt64 = (fL V true k0 j).1 + (if isSo V (k0 + j) = true then (fL V true k0 j).2.1 else 0)) ∨
        (r = none ∧ ∃ j, i ≤ j ∧ j < n ∧ ck1 V true (k0 + j) (fL V true k0 j) = false) := fun r e hc => Or.inr ⟨e, i, by omega, by omega, hc⟩
    have s0 := jsum_eq (x := h.toInt64) (y := d.toInt64) (z := (fL V true k0 i).1 + (fL V true k0 i).2.1) (by rw [hh, hd])
    rcases hiv : itO V ad (k0 + i) with ⟨t, iw, ih9, id9, inn, z9⟩ | ⟨iw, a9, b9, c9, e9⟩
    · obtain ⟨f1, f2, f3, f4, f5, f6, f7⟩ := itO_so hi hb hiv
      have z0 : ∀ j, ruO V (k0 + i) j = true → (szO V (k0 + i) j).toInt64 = 0 := fun j q => by rw [(f7 j q).1]; decide
      have z1 : ∀ j, ruO V (k0 + i) j = true → (shO V (k0 + i)).toInt64 = 0 := fun j q => by rw [(f7 j q).2]; decide
      have eF : fL V true k0 (i + 1) = ((fL V true k0 i).1 + (fL V true k0 i).2.1 + (szO V (k0 + i) 1).toInt64, (szO V (k0 + i) 2).toInt64, gtr (fL V true k0 i).2.2.1 ((szO V (k0 + i) 0).toInt64 + (shO V (k0 + i)).toInt64), (fL V true k0 i).2.2.2) := by
        rw [fL, stV_so f1, stS, if_pos rfl, ru_gtr w0 (fun q => by rw [z0 0 q, z1 0 q]; decide)]
      have eC : ck1 V true (k0 + i) (fL V true k0 i) = (sz ((fL V true k0 i).1 + (fL V true k0 i).2.1) && sz ((fL V true k0 i).1 + (fL V true k0 i).2.1 + (szO V (k0 + i) 1).toInt64) && sz ((szO V (k0 + i) 0).toInt64 + (shO V (k0 + i)).toInt64)) := by
        rw [ck1, if_pos f1, ckS, if_pos rfl, ru_or (fun q => by rw [z0 0 q, z1 0 q]; decide)]
      simp only [belowF, hiv, s0]
      by_cases c1 : sz ((fL V true k0 i).1 + (fL V true k0 i).2.1) = true
      · rw [if_pos c1, Option.bind_some]
        have s1 := jsum_eq (x := ((fL V true k0 i).1 + (fL V true k0 i).2.1).toInt32.toInt64) (y := (kn ih9 0).toInt64) (z := (fL V true k0 i).1 + (fL V true k0 i).2.1 + (szO V (k0 + i) 1).toInt64) (by rw [sz_back c1, f3])
        have s2 := jsum_eq (x := (kn iw 0).toInt64) (y := z9.toInt64) (z := (szO V (k0 + i) 0).toInt64 + (shO V (k0 + i)).toInt64) (by rw [f2, f5])
        rw [s1, s2]
        by_cases c2 : sz ((fL V true k0 i).1 + (fL V true k0 i).2.1 + (szO V (k0 + i) 1).toInt64) = true
        · rw [if_pos c2, Option.bind_some]
          by_cases c3 : sz ((szO V (k0 + i) 0).toInt64 + (shO V (k0 + i)).toInt64) = true
          · rw [if_pos c3, Option.bind_some]
            refine step _ _ _ _ (by rw [eC, c1, c2, c3]; rfl) ?_ ?_ ?_ ?_ ?_
            · rw [eF, sz_back c2]
            · rw [eF, f4]
            · rw [eF, mx64, sz_back c3, hw]
            · rw [eF]; exact gtr_ge w0
            · rw [if_pos f1, sz_back c1]
          · rw [if_neg c3, Option.bind_none]
            exact bad _ rfl (by rw [eC, c1, c2]; simpa using c3)
        · rw [if_neg c2, Option.bind_none]
          exact bad _ rfl (by rw [eC, c1]; simp [c2])
      · rw [if_neg c1, Option.bind_none]
        exact bad _ rfl (by rw [eC]; simp [c1])
    · obtain ⟨f1, f2, -⟩ := itO_sp hi hiv
      have n1 : ¬ isSo V (k0 + i) = true := by rw [f1]; decide
      have eF1 : (fL V true k0 (i + 1)).1 = (fL V true k0 i).1 + (fL V true k0 i).2.1 + iw.toInt64 := by rw [fL, stV, if_neg n1, f2]; simp
      have eF2 : (fL V true k0 (i + 1)).2.1 = 0 := by rw [fL, stV, if_neg n1]; rfl
      have eF3 : (fL V true k0 (i + 1)).2.2.1 = (fL V true k0 i).2.2.1 := by rw [fL, stV, if_neg n1]
      have eC : ck1 V true (k0 + i) (fL V true k0 i) = (sz ((fL V true k0 i).1 + (fL V true k0 i).2.1) && sz ((fL V true k0 i).1 + (fL V true k0 i).2.1 + iw.toInt64)) := by rw [ck1, if_neg n1, f2]; simp
      simp only [belowF, hiv, s0]
      by_cases c1 : sz ((fL V true k0 i).1 + (fL V true k0 i).2.1) = true
      · rw [if_pos c1, Option.bind_some]
        have s1 := jsum_eq (x := ((fL V true k0 i).1 + (fL V true k0 i).2.1).toInt32.toInt64) (y := iw.toInt64) (z := (fL V true k0 i).1 + (fL V true k0 i).2.1 + iw.toInt64) (by rw [sz_back c1])
        rw [s1]
        by_cases c2 : sz ((fL V true k0 i).1 + (fL V true k0 i).2.1 + iw.toInt64) = true
        · rw [if_pos c2, Option.bind_some]
          exact step _ _ _ _ (by rw [eC, c1, c2]; rfl) (by rw [eF1, sz_back c2]) (by rw [eF2]; decide) (by rw [eF3]; exact hw) (by rw [eF3]; exact w0) (by rw [if_neg n1, hh, Int64.add_zero])
        · rw [if_neg c2, Option.bind_none]
          exact bad _ rfl (by rw [eC, c1]; simpa using c2)
      · rw [if_neg c1, Option.bind_none]
        exact bad _ rfl (by rw [eC]; simp [c1])
/-- where item j would begin, were there no glue to share -/
def plB (V : Wd) (bel : Bool) (k0 j : Nat) : Int64 := (fL V bel k0 j).1 + (if bel = true ∧ isSo V (k0 + j) = true then (fL V bel k0 j).2.1 else 0)
/-- both ways of measuring: the first of the tests -/
theorem meas_sim {V : Wd} {ad : Nat → Nat} {c k0 n : Nat} {bel : Bool} {gr : Int32} (hv : ∀ i, i < n → itV V c (k0 + i)) (hb : ∀ b, b < c → szI (wA V 0 b) ∧ szI (wA V 1 b) ∧ szI (wA V 2 b)) :
    (∃ (w h d : Int32) (gp : Nat → Int32), measF bel gr (fun i => itO V ad (k0 + i)) n = some (w, h, d, gp) ∧ (∀ j, j < n → ck1 V bel (k0 + j) (fL V bel k0 j) = true) ∧ (!(bel && decide (gr.toInt64 < (fL V bel k0 n).2.1)) || sz (lnM bel gr (fL V bel k0 n))) = true ∧ (if bel = true then h else w).toInt64 = lnM bel gr (fL V bel k0 n) ∧ (if bel = true then w else h).toInt64 = (fL V bel k0 n).2.2.1 ∧ d.toInt64 = unM bel gr (fL V bel k0 n) ∧ ∀ j, j < n → (gp j).toInt64 = plB V bel k0 j) ∨
    (measF bel gr (fun i => itO V ad (k0 + i)) n = none ∧ ((∃ j, j < n ∧ ck1 V bel (k0 + j) (fL V bel k0 j) = false) ∨ (!(bel && decide (gr.toInt64 < (fL V bel k0 n).2.1)) || sz (lnM bel gr (fL V bel k0 n))) = false)) := by
  cases bel with
  | false =>
    rcases along_sim (ad := ad) hv hb n 0 0 0 0 (fun _ => 0) (by omega) i0_64 i0_64 i0_64 (Int64.le_refl _) (Int64.le_refl _) with ⟨w, h, d, gp, b1, b2, b3, b4, b5, b6, b7⟩ | ⟨b1, j, b2, b3, b4⟩
    · refine Or.inl ⟨w, h, d, gp, by rw [measF, if_neg (by decide)]; exact b1, fun j hj => b2 j (by omega) hj, rfl, ?_, ?_, ?_, fun j hj => ?_⟩
      · rw [if_neg (by decide), lnM, if_neg (by simp), b3]
      · rw [if_neg (by decide), b4]
      · rw [unM, if_neg (by decide), b5]
      · rw [plB, if_neg (by simp), b7 j (by omega) hj, Int64.add_zero]
    · exact Or.inr ⟨by rw [measF, if_neg (by decide)]; exact b1, Or.inl ⟨j, b3, b4⟩⟩
  | true =>
    rcases below_sim (ad := ad) hv hb n 0 0 0 0 (fun _ => 0) (by omega) i0_64 i0_64 i0_64 (Int64.le_refl _) with ⟨w, h, d, gp, b1, b2, b3, b4, b5, b6, b7⟩ | ⟨b1, j, b2, b3, b4⟩
    · have hp : ∀ j, j < n → (gp j).toInt64 = plB V true k0 j := fun j hj => by
        rw [plB, b7 j (by omega) hj]; simp
      by_cases hd : d ≤ gr
      · have nd : ¬ gr.toInt64 < (fL V true k0 n).2.1 := by rw [← b4]; exact Int64.not_lt.mpr (le64.mp hd)
        refine Or.inl ⟨w, h, d, gp, by rw [measF, if_pos rfl, b1, Option.bind_some, belowE, if_pos hd], fun j hj => b2 j (by omega) hj, by simp [nd], ?_, ?_, ?_, hp⟩
        · rw [if_pos rfl, lnM, if_neg (by simp [nd]), b3]
        · rw [if_pos rfl, b5]
        · rw [unM, if_pos rfl, if_neg nd, b4]
      · have yd : gr.toInt64 < (fL V true k0 n).2.1 := by rw [← b4]; exact lt64.mp (Int32.not_le.mp hd)
        have el : lnM true gr (fL V true k0 n) = (fL V true k0 n).1 + ((fL V true k0 n).2.1 - gr.toInt64) := by rw [lnM, if_pos ⟨rfl, yd⟩]
        have s1 := jsum_eq (x := h.toInt64) (y := d.toInt64 - gr.toInt64) (z := lnM true gr (fL V true k0 n)) (by rw [el, b3, b4])
        have em : measF true gr (fun i => itO V ad (k0 + i)) n = (if sz (lnM true gr (fL V true k0 n)) = true then some (lnM true gr (fL V true k0 n)).toInt32 else none).bind fun h1 => some (w, h1, gr, gp) := by
          rw [measF, if_pos rfl, b1, Option.bind_some, belowE, if_neg hd]
          simp only [s1]
        by_cases c1 : sz (lnM true gr (fL V true k0 n)) = true
        · rw [if_pos c1, Option.bind_some] at em
          refine Or.inl ⟨w, _, gr, gp, em, fun j hj => b2 j (by omega) hj, by simp [c1], ?_, ?_, ?_, hp⟩
          · rw [if_pos rfl, sz_back c1]
          · rw [if_pos rfl, b5]
          · rw [unM, if_pos rfl, if_pos yd]
        · rw [if_neg c1, Option.bind_none] at em
          exact Or.inr ⟨em, Or.inr (by simp [yd]; simpa using c1)⟩
    · exact Or.inr ⟨by rw [measF, if_pos rfl, b1]; rfl, Or.inl ⟨j, b3, b4⟩⟩
/-! ===== gives: the stretches or the shrinks ===== -/
def gvS (s : Bool) (v : Vl) : Nat → Int64 := if s = true then v.2.2.2.2.2 else v.2.2.2.2.1
def ckX (s : Bool) (V : Wd) (k : Nat) (g : Nat → Int64) : Bool := if s = true then ck3 V k g else ck2 V k g
theorem fL_so {V : Wd} {bel s : Bool} {k0 i : Nat} (h : isSo V (k0 + i) = true) : gvS s (fL V bel k0 (i + 1)) = gvS s (fL V bel k0 i) := by
  rw [fL, stV_so h, stS]
  cases bel <;> cases s <;> rfl
theorem fL_sp {V : Wd} {bel s : Bool} {k0 i : Nat} (h : ¬ isSo V (k0 + i) = true) : gvS s (fL V bel k0 (i + 1)) = if wK V (k0 + i) = 2 then vp_updL (gvS s (fL V bel k0 i)) (wN V (k0 + i) (if s = true then 4 else 2)).toNatClampNeg (gvS s (fL V bel k0 i) (wN V (k0 + i) (if s = true then 4 else 2)).toNatClampNeg + (wN V (k0 + i) (if s = true then 3 else 1)).toInt64) else gvS s (fL V bel k0 i) := by
  rw [fL, stV, if_neg h]
  by_cases h2 : wK V (k0 + i) = 2
  · cases s <;> simp [gvS, stG, h2]
  · cases s <;> simp [gvS, stG, h2]
theorem gives_sim {V : Wd} {ad : Nat → Nat} {bel s : Bool} {c k0 n : Nat} (hv : ∀ i, i < n → itV V c (k0 + i)) (hb : ∀ b, b < c → szI (wA V 0 b) ∧ szI (wA V 1 b) ∧ szI (wA V 2 b)) : ∀ (k i : Nat) (gs : Nat → Int32), i + k = n → (∀ o, (gs o).toInt64 = gvS s (fL V bel k0 i) o ∧ szI (gs o) ∧ 0 ≤ (gs o).toInt) →
    (∃ gs' : Nat → Int32, givesF s (fun i => itO V ad (k0 + i)) k i gs = some gs' ∧ (∀ j, i ≤ j → j < n → ckX s V (k0 + j) (gvS s (fL V bel k0 j)) = true) ∧ (∀ o, (gs' o).toInt64 = gvS s (fL V bel k0 n) o ∧ szI (gs' o) ∧ 0 ≤ (gs' o).toInt)) ∨
    (givesF s (fun i => itO V ad (k0 + i)) k i gs = none ∧ ∃ j, i ≤ j ∧ j < n ∧ ckX s V (k0 + j) (gvS s (fL V bel k0 j)) = false)
  | 0, i, gs, hik, hg => by
    have e : i = n := by omega
    subst e
    exact Or.inl ⟨gs, rfl, fun j a b => absurd a (by omega), hg⟩
  | k + 1, i, gs, hik, hg => by
    have hi := hv i (by omega)
    have step : ∀ (gs1 : Nat → Int32), ckX s V (k0 + i) (gvS s (fL V bel k0 i)) = true → (∀ o, (gs1 o).toInt64 = gvS s (fL V bel k0 (i + 1)) o ∧ szI (gs1 o) ∧ 0 ≤ (gs1 o).toInt) →
        (∃ gs' : Nat → Int32, givesF s (fun i => itO V ad (k0 + i)) k (i + 1) gs1 = some gs' ∧ (∀ j, i ≤ j → j < n → ckX s V (k0 + j) (gvS s (fL V bel k0 j)) = true) ∧ (∀ o, (gs' o).toInt64 = gvS s (fL V bel k0 n) o ∧ szI (gs' o) ∧ 0 ≤ (gs' o).toInt)) ∨
        (givesF s (fun i => itO V ad (k0 + i)) k (i + 1) gs1 = none ∧ ∃ j, i ≤ j ∧ j < n ∧ ckX s V (k0 + j) (gvS s (fL V bel k0 j)) = false) := by
      intro gs1 hc a1
      rcases gives_sim hv hb k (i + 1) gs1 (by omega) a1 with ⟨gs', b1, b2, b3⟩ | ⟨b1, j, b2, b3, b4⟩
      · refine Or.inl ⟨gs', b1, fun j p q => ?_, b3⟩
        by_cases e : j = i
        · subst e; exact hc
        · exact b2 j (by omega) q
      · exact Or.inr ⟨b1, j, by omega, b3, b4⟩
    rcases hiv : itO V ad (k0 + i) with ⟨t, iw, ih9, id9, inn, z9⟩ | ⟨iw, a9, b9, c9, e9⟩
    · obtain ⟨f1, -⟩ := itO_so hi hb hiv
      have n2 : ¬ wK V (k0 + i) = 2 := fun q => by simp [isSo, q] at f1
      simp only [givesF, hiv]
      exact step gs (by cases s <;> simp [ckX, ck2, ck3, n2]) (by rw [fL_so f1]; exact hg)
    · obtain ⟨f1, -, f3⟩ := itO_sp hi hiv
      have n1 : ¬ isSo V (k0 + i) = true := by rw [f1]; decide
      simp only [givesF, hiv]
      rcases f3 with ⟨k2, e1, e2, e3, e4, hok⟩ | ⟨k2, e1, e2, e3, e4⟩
      · simp only [okGlue, Bool.and_eq_true, Bool.not_eq_true', decide_eq_false_iff_not] at hok
        obtain ⟨⟨⟨⟨⟨⟨-, q1⟩, q2⟩, q3⟩, q4⟩, -⟩, -⟩ := hok
        have ea : gvA s a9 c9 = wN V (k0 + i) (if s = true then 3 else 1) := by cases s <;> simp [gvA, e1, e3]
        have eo : gvO s b9 e9 = wN V (k0 + i) (if s = true then 4 else 2) := by cases s <;> simp [gvO, e2, e4]
        have pos : 0 ≤ (wN V (k0 + i) (if s = true then 3 else 1)).toInt := by
          cases s
          · exact Int32.le_iff_toInt_le.mp (Int32.not_lt.mp q2)
          · exact Int32.le_iff_toInt_le.mp (Int32.not_lt.mp q4)
        rw [ea, eo]
        have hk := hg (wN V (k0 + i) (if s = true then 4 else 2)).toNatClampNeg
        have s1 := jsum_eq (x := (gs (wN V (k0 + i) (if s = true then 4 else 2)).toNatClampNeg).toInt64) (y := (wN V (k0 + i) (if s = true then 3 else 1)).toInt64) (z := gvS s (fL V bel k0 i) (wN V (k0 + i) (if s = true then 4 else 2)).toNatClampNeg + (wN V (k0 + i) (if s = true then 3 else 1)).toInt64) (by rw [hk.1])
        have eC : ckX s V (k0 + i) (gvS s (fL V bel k0 i)) = sz (gvS s (fL V bel k0 i) (wN V (k0 + i) (if s = true then 4 else 2)).toNatClampNeg + (wN V (k0 + i) (if s = true then 3 else 1)).toInt64) := by cases s <;> simp [ckX, ck2, ck3, k2]
        rw [s1]
        by_cases c1 : sz (gvS s (fL V bel k0 i) (wN V (k0 + i) (if s = true then 4 else 2)).toNatClampNeg + (wN V (k0 + i) (if s = true then 3 else 1)).toInt64) = true
        · rw [if_pos c1, Option.bind_some]
          refine step _ (by rw [eC]; exact c1) (fun o => ?_)
          rw [fL_sp n1, if_pos k2]
          by_cases ho : o = (wN V (k0 + i) (if s = true then 4 else 2)).toNatClampNeg
          · subst ho
            simp only [upd, vp_updL, if_true]
            have sb := sz_back c1
            refine ⟨sb, by rw [szI, sb]; exact c1, ?_⟩
            rw [← Int32.toInt_toInt64, sb, ← hk.1, Int64.toInt_add, Int32.toInt_toInt64, Int32.toInt_toInt64]
            have r1 := szI_iff.mp hk.2.1
            have r2 := hk.2.2
            have r3 := Int32.toInt_lt (wN V (k0 + i) (if s = true then 3 else 1))
            rw [Int.bmod_eq_of_le (by omega) (by omega)]
            omega
          · simp only [upd, vp_updL, if_neg ho]
            exact hg o
        · rw [if_neg c1, Option.bind_none]
          exact Or.inr ⟨rfl, i, by omega, by omega, by rw [eC]; simpa using c1⟩
      · have ea : gvA s a9 c9 = 0 := by cases s <;> simp [gvA, e1, e3]
        have eo : gvO s b9 e9 = 0 := by cases s <;> simp [gvO, e2, e4]
        rw [ea, eo]
        have hk := hg (0 : Int32).toNatClampNeg
        have s1 := jsum_eq (x := (gs (0 : Int32).toNatClampNeg).toInt64) (y := (0 : Int32).toInt64) (z := (gs (0 : Int32).toNatClampNeg).toInt64) (by rw [i0_64, Int64.add_zero])
        rw [s1, if_pos (show sz (gs (0 : Int32).toNatClampNeg).toInt64 = true from hk.2.1), Option.bind_some, i32_64]
        have eu : upd gs (0 : Int32).toNatClampNeg (gs (0 : Int32).toNatClampNeg) = gs := by
          funext o
          by_cases ho : o = (0 : Int32).toNatClampNeg
          · rw [ho]; simp only [upd, if_true]
          · simp only [upd, if_neg ho]
        rw [eu]
        exact step gs (by cases s <;> simp [ckX, ck2, ck3, k2]) (by rw [fL_sp n1, if_neg k2]; exact hg)
