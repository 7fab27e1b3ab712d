/-! ===== worlds that agree ===== -/
/-- the item k is the same -/
def itA (V V' : Wd) (k : Nat) : Prop := wK V' k = wK V k ∧ ∀ j, j < 5 → wN V' k j = wN V k j
def atA (V V' : Wd) (c : Nat) : Prop := ∀ b, b < c → ∀ j, wA V' j b = wA V j b
theorem itA_wI {V V' : Wd} {k : Nat} (h : itA V V' k) : wI V' k = wI V k := by rw [wI, wI, h.2 0 (by omega)]
theorem itV_congr {V V' : Wd} {c k : Nat} (h : itA V V' k) (hv : itV V c k) : itV V' c k := by
  rw [itV, h.1, h.2 0 (by omega), h.2 1 (by omega), h.2 2 (by omega), h.2 3 (by omega), h.2 4 (by omega), itA_wI h]
  exact hv
theorem itV_mono {V : Wd} {c c' k : Nat} (hc : c ≤ c') (hv : itV V c k) : itV V c' k := by
  rcases hv with q | q | q | q | ⟨q1, q2, q3, q4⟩
  · exact Or.inl q
  · exact Or.inr (Or.inl q)
  · exact Or.inr (Or.inr (Or.inl q))
  · exact Or.inr (Or.inr (Or.inr (Or.inl q)))
  · exact Or.inr (Or.inr (Or.inr (Or.inr ⟨q1, q2, by omega, q4⟩)))
theorem itV_in {V : Wd} {c k : Nat} (hv : itV V c k) (h : wK V k = 4) : wI V k < c := by
  rcases kd_box (ad := fun _ => 0) hv with q | q
  · exact q.2.1
  · exact absurd h q.1
theorem itO_congr {V V' : Wd} {ad ad' : Nat → Nat} {c k : Nat} (h : itA V V' k) (hA : atA V V' c) (had : ∀ b, b < c → ad' b = ad b) (hv : itV V c k) : itO V' ad' k = itO V ad k := by
  rw [itO, itO, h.1, h.2 0 (by omega), h.2 1 (by omega), h.2 2 (by omega), h.2 3 (by omega), h.2 4 (by omega), itA_wI h]
  by_cases q : wK V k = 4
  · have w := itV_in hv q
    rw [hA _ w, hA _ w, hA _ w, had _ w]
  · rw [if_neg q, if_neg q]
theorem isSo_congr {V V' : Wd} {k : Nat} (h : itA V V' k) : isSo V' k = isSo V k := by rw [isSo, isSo, h.1]
theorem szO_congr {V V' : Wd} {c k j : Nat} (h : itA V V' k) (hA : atA V V' c) (hv : itV V c k) (hs : isSo V k = true) (hj : j < 3) : szO V' k j = szO V k j := by
  rw [szO, szO, h.1, h.2 j (by omega), h.2 (j + 1) (by omega), itA_wI h]
  by_cases q0 : wK V k = 0
  · rw [if_pos q0, if_pos q0]
  · by_cases q1 : wK V k = 1
    · rw [if_neg q0, if_pos q1, if_neg q0, if_pos q1]
    · have q : wK V k = 4 := by simpa [isSo, q0, q1] using hs
      rw [hA _ (itV_in hv q)]
theorem ruO_congr {V V' : Wd} {k j : Nat} (h : itA V V' k) (hj : j < 3) : ruO V' k j = ruO V k j := by rw [ruO, ruO, h.1, h.2 j (by omega)]
theorem stV_congr {V V' : Wd} {bel : Bool} {c k : Nat} {v : Vl} (h : itA V V' k) (hA : atA V V' c) (hv : itV V c k) : stV V' bel k v = stV V bel k v := by
  rw [stV, stV, isSo_congr h]
  by_cases q : isSo V k = true
  · rw [if_pos q, if_pos q, stS, stS, szO_congr h hA hv q (by omega), szO_congr h hA hv q (by omega), szO_congr h hA hv q (by omega), ruO_congr h (by omega), ruO_congr h (by omega), ruO_congr h (by omega), shO, shO, h.1, h.2 1 (by omega)]
  · rw [if_neg q, if_neg q, stG, stG, h.1, h.2 0 (by omega), h.2 1 (by omega), h.2 2 (by omega), h.2 3 (by omega), h.2 4 (by omega)]
theorem fL_congr {V V' : Wd} {bel : Bool} {c k0 n : Nat} (h : ∀ i, i < n → itA V V' (k0 + i)) (hA : atA V V' c) (hv : ∀ i, i < n → itV V c (k0 + i)) : ∀ i, i ≤ n → fL V' bel k0 i = fL V bel k0 i
  | 0, _ => rfl
  | i + 1, hi => by rw [fL, fL, fL_congr h hA hv i (by omega), stV_congr (h i (by omega)) hA (hv i (by omega))]
theorem pX_congr {V V' : Wd} {s : Bool} {o : Int32} {k0 n : Nat} (h : ∀ i, i < n → itA V V' (k0 + i)) : ∀ i, i ≤ n → pX V' s o k0 i = pX V s o k0 i
  | 0, _ => rfl
  | i + 1, hi => by
    have hk := h i (by omega)
    rw [pX, pX, pX_congr h i (by omega), hk.1, hk.2 _ (by split <;> omega), hk.2 _ (by split <;> omega)]
theorem plX_congr {V V' : Wd} {bel : Bool} {ex od to ov : Int32} {c k0 n : Nat} (h : ∀ i, i < n → itA V V' (k0 + i)) (hA : atA V V' c) (hv : ∀ i, i < n → itV V c (k0 + i)) {i : Nat} (hi : i < n) : plX V' bel ex od to ov k0 i = plX V bel ex od to ov k0 i := by
  rw [plX, plX, plB, plB, fL_congr h hA hv i (by omega), isSo_congr (h i hi), pX_congr h i (by omega)]
/-- the boxes below c are the same -/
def bxA (V V' : Wd) (c : Nat) : Prop := (∀ b, b ≤ c → wF V' b = wF V b) ∧ (∀ b, b < c → wB V' b = wB V b) ∧ atA V V' c ∧ ∀ b, b < c → ∀ i, i < wF V (b + 1) - wF V b → itA V V' (wF V b + i)
theorem plF_congr {V V' : Wd} {c b i : Nat} (h : bxA V V' c) (hb : b < c) (hv : bxV V b) (hi : i < wF V (b + 1) - wF V b) : plF V' b i = plF V b i := by
  obtain ⟨h1, h2, h3, h4⟩ := h
  have hvi : ∀ i, i < wF V (b + 1) - wF V b → itV V c (wF V b + i) := fun i hi => itV_mono (Nat.le_of_lt hb) (hv.2.2.2.2.2.2.2.2.2.2.2 i hi).1
  rw [plF_plX, plF_plX, h1 b (Nat.le_of_lt hb), h2 b hb, h3 b hb, h3 b hb, h3 b hb, h3 b hb]
  exact plX_congr (h4 b hb) h3 hvi hi
theorem bxV_congr {V V' : Wd} {c b : Nat} (h : bxA V V' c) (hb : b < c) (hv : bxV V b) : bxV V' b := by
  obtain ⟨h1, h2, h3, h4⟩ := h
  rw [bxV, h1 b (Nat.le_of_lt hb), h1 (b + 1) hb, h3 b hb, h3 b hb, h3 b hb, h3 b hb, h3 b hb, h3 b hb, h3 b hb, h3 b hb, h3 b hb, h3 b hb]
  obtain ⟨v1, v2, v3, v4, v5, v6, v7, v8, v9, v10, v11, v12⟩ := hv
  refine ⟨v1, v2, v3, v4, v5, v6, v7, v8, v9, v10, v11, fun i hi => ?_⟩
  obtain ⟨w1, w2⟩ := v12 i hi
  have k := h4 b hb i hi
  refine ⟨itV_congr k w1, fun q => ?_⟩
  rw [k.1] at q
  rw [itA_wI k, h3 _ (Nat.lt_trans (itV_in w1 q) hb)]
  exact w2 q
/-! an item more -/
theorem adW_K {V : Wd} {e k : Nat} {kd x0 x1 x2 x3 x4 : Int32} : wK (adW V e kd x0 x1 x2 x3 x4) k = if k = e then kd else wK V k := rfl
theorem adW_ne {V : Wd} {e k : Nat} {kd x0 x1 x2 x3 x4 : Int32} (h : k ≠ e) : itA V (adW V e kd x0 x1 x2 x3 x4) k := by
  refine ⟨by rw [adW_K, if_neg h], fun j hj => ?_⟩
  rw [wN, wN]
  show upd (upd (upd (upd (upd V.2.1 (5 * e) x0) (5 * e + 1) x1) (5 * e + 2) x2) (5 * e + 3) x3) (5 * e + 4) x4 (5 * k + j) = _
  simp only [upd]
  rw [if_neg (by omega), if_neg (by omega), if_neg (by omega), if_neg (by omega), if_neg (by omega)]
theorem adW_N {V : Wd} {e : Nat} {kd x0 x1 x2 x3 x4 : Int32} : wK (adW V e kd x0 x1 x2 x3 x4) e = kd ∧ wN (adW V e kd x0 x1 x2 x3 x4) e 0 = x0 ∧ wN (adW V e kd x0 x1 x2 x3 x4) e 1 = x1 ∧ wN (adW V e kd x0 x1 x2 x3 x4) e 2 = x2 ∧ wN (adW V e kd x0 x1 x2 x3 x4) e 3 = x3 ∧ wN (adW V e kd x0 x1 x2 x3 x4) e 4 = x4 := by
  have w : ∀ j, wN (adW V e kd x0 x1 x2 x3 x4) e j = upd (upd (upd (upd (upd V.2.1 (5 * e) x0) (5 * e + 1) x1) (5 * e + 2) x2) (5 * e + 3) x3) (5 * e + 4) x4 (5 * e + j) := fun j => rfl
  refine ⟨by rw [adW_K, if_pos rfl], ?_, ?_, ?_, ?_, ?_⟩ <;> rw [w] <;> simp [upd]
/-! a box more -/
theorem pkW_it {V : Wd} {s9 e9 c9 : Nat} {bel : Bool} {at9 : Nat → Int32} (k : Nat) : itA V (pkW V s9 e9 c9 bel at9) k := ⟨rfl, fun _ _ => rfl⟩
theorem pkW_at {V : Wd} {s9 e9 c9 : Nat} {bel : Bool} {at9 : Nat → Int32} : atA V (pkW V s9 e9 c9 bel at9) c9 := fun b hb j => by
  show (if b = c9 then at9 j else wA V j b) = _
  rw [if_neg (by omega)]
theorem pkW_bx {V : Wd} {s9 e9 c9 : Nat} {bel : Bool} {at9 : Nat → Int32} (hs : wF V c9 = s9) : bxA V (pkW V s9 e9 c9 bel at9) c9 := by
  refine ⟨fun b hb => ?_, fun b hb => ?_, pkW_at, fun b hb i hi => pkW_it _⟩
  · show (if b = c9 + 1 then e9 else if b = c9 then s9 else wF V b) = _
    rw [if_neg (by omega)]
    by_cases q : b = c9
    · rw [if_pos q, q, hs]
    · rw [if_neg q]
  · show (if b = c9 then bel else wB V b) = _
    rw [if_neg (by omega)]
theorem pkW_F0 {V : Wd} {s9 e9 c9 : Nat} {bel : Bool} {at9 : Nat → Int32} : wF (pkW V s9 e9 c9 bel at9) c9 = s9 ∧ wF (pkW V s9 e9 c9 bel at9) (c9 + 1) = e9 ∧ wB (pkW V s9 e9 c9 bel at9) c9 = bel ∧ ∀ j, wA (pkW V s9 e9 c9 bel at9) j c9 = at9 j := by
  refine ⟨?_, ?_, ?_, fun j => ?_⟩
  · show (if c9 = c9 + 1 then e9 else if c9 = c9 then s9 else wF V c9) = _
    rw [if_neg (by omega), if_pos rfl]
  · show (if c9 + 1 = c9 + 1 then e9 else if c9 + 1 = c9 then s9 else wF V (c9 + 1)) = _
    rw [if_pos rfl]
  · show (if c9 = c9 then bel else wB V c9) = _
    rw [if_pos rfl]
  · show (if c9 = c9 then at9 j else wA V j c9) = _
    rw [if_pos rfl]
/-- the new box, its items being valid and its attributes those of the reference -/
theorem pkW_new {V : Wd} {s9 e9 c9 : Nat} {bel : Bool} {how size gr : Int32} {A : Nat → Int32} (hA : A = atM V bel how size gr s9 (e9 - s9) (fL V bel s9 (e9 - s9))) (hse : s9 ≤ e9) (hn : e9 - s9 ≤ 100) (hv : ∀ i, i < e9 - s9 → itV V c9 (s9 + i)) (hb8 : ∀ b, b < c9 → 1 ≤ (wA V 8 b).toInt ∧ (wA V 8 b).toInt ≤ 10) (hb9 : ∀ b, b < c9 → 0 ≤ (wA V 9 b).toInt ∧ (wA V 9 b).toInt ≤ 1000000) (hd : ¬ dL V s9 (e9 - s9) = 10)
    (z0 : szI (A 0)) (z1 : szI (A 1)) (z2 : szI (A 2)) (z3 : szI (A 3)) (z5 : szI (A 5)) (p5 : 0 ≤ (A 5).toInt) (b6 : A 6 = badF (A 3) (A 4) (A 5) (A 7)) : bxV (pkW V s9 e9 c9 bel A) c9 := by
  obtain ⟨f1, f2, f3, f4⟩ := pkW_F0 (V := V) (s9 := s9) (e9 := e9) (c9 := c9) (bel := bel) (at9 := A)
  rw [bxV, f1, f2, f4, f4, f4, f4, f4, f4, f4, f4, f4, f4]
  obtain ⟨⟨d1, d2⟩, d3⟩ := dL_le hv hb8 (e9 - s9) (Nat.le_refl _)
  obtain ⟨c1, c2⟩ := dL_10 hv hb8
  obtain ⟨a1, a2, a3⟩ := cA9_int hn hv hb9
  have e8 : A 8 = dL V s9 (e9 - s9) + 1 := by rw [hA]; rfl
  have e9' : A 9 = cA9 V s9 (e9 - s9) := by rw [hA]; rfl
  have hd2 : ¬ (dL V s9 (e9 - s9)).toInt = 10 := fun q => hd (Int32.toInt_inj.mp (by rw [q]; rfl))
  refine ⟨hse, hn, z0, z1, z2, z3, z5, p5, ?_, ?_, b6, fun i hi => ⟨hv i hi, fun q => ?_⟩⟩
  · rw [e8, c2]; omega
  · rw [e9']; exact ⟨a2, a3⟩
  · rw [e8, c2]
    have w := d3 i hi q
    show (wA (pkW V s9 e9 c9 bel A) 8 (wI V (s9 + i))).toInt < _
    rw [pkW_at _ (itV_in (hv i hi) q)]
    omega
