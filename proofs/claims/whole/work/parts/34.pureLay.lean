/-! ===== what holds of the world ===== -/
def szI (x : Int32) : Prop := sz x.toInt64 = true
/-- the item k is one that can be added when there are c boxes -/
def itV (V : Wd) (c k : Nat) : Prop :=
  (wK V k = 0 ∧ ¬ wN V k 0 < 0 ∧ szI (wN V k 1) ∧ szI (wN V k 2) ∧ szI (wN V k 3)) ∨
  (wK V k = 1 ∧ szr (wN V k 0) = true ∧ szr (wN V k 1) = true ∧ szr (wN V k 2) = true) ∨
  (wK V k = 2 ∧ okGlue (wN V k 0) (wN V k 1) (wN V k 2) (wN V k 3) (wN V k 4) = true) ∨
  (wK V k = 3 ∧ szI (wN V k 0) ∧ wN V k 1 = 0 ∧ wN V k 2 = 0 ∧ wN V k 3 = 0 ∧ wN V k 4 = 0) ∨
  (wK V k = 4 ∧ szI (wN V k 1) ∧ wI V k < c ∧ wN V k 0 = nI (wI V k))
def bxV (V : Wd) (b : Nat) : Prop :=
  wF V b ≤ wF V (b + 1) ∧ wF V (b + 1) - wF V b ≤ 100 ∧ szI (wA V 0 b) ∧ szI (wA V 1 b) ∧ szI (wA V 2 b) ∧ szI (wA V 3 b) ∧ szI (wA V 5 b) ∧ 0 ≤ (wA V 5 b).toInt ∧
  (1 ≤ (wA V 8 b).toInt ∧ (wA V 8 b).toInt ≤ 10) ∧ (0 ≤ (wA V 9 b).toInt ∧ (wA V 9 b).toInt ≤ 1000000) ∧ wA V 6 b = badF (wA V 3 b) (wA V 4 b) (wA V 5 b) (wA V 7 b) ∧
  ∀ i, i < wF V (b + 1) - wF V b → itV V b (wF V b + i) ∧ (wK V (wF V b + i) = 4 → (wA V 8 (wI V (wF V b + i))).toInt < (wA V 8 b).toInt)
theorem szI_iff {x : Int32} : szI x ↔ -1073741823 ≤ x.toInt ∧ x.toInt ≤ 1073741823 := by
  simp only [szI, sz, Bool.and_eq_true, decide_eq_true_eq, Int64.le_iff_toInt_le, Int32.toInt_toInt64]
  constructor <;> intro h <;> simpa using h
theorem sz_iff {x : Int64} : sz x = true ↔ -1073741823 ≤ x.toInt ∧ x.toInt ≤ 1073741823 := by
  simp only [sz, Bool.and_eq_true, decide_eq_true_eq, Int64.le_iff_toInt_le]
  constructor <;> intro h <;> simpa using h
theorem szI_run {x : Int32} (h : szI x) : ¬ x = -1073741824 := fun q => by
  subst q
  exact absurd (szI_iff.mp h).1 (by decide)
theorem szI_kn {x r : Int32} (h : szI x) : kn x r = x := if_neg (szI_run h)
theorem szr_or {x : Int32} (h : szr x = true) : x = -1073741824 ∨ szI x := by
  simp only [szr, Bool.or_eq_true, decide_eq_true_eq] at h
  exact h
theorem i0_64 : (0 : Int32).toInt64 = 0 := by decide
/-! ===== laying: an item is laid as the box's own cell says ===== -/
theorem noteF_le {t x y w h d : Int64} {r : Mk} (hr : r.2 ≤ 1000) : (noteF t x y w h d r).2.2 ≤ 1000 := by
  rw [noteF]
  by_cases q : r.2 = 1000
  · rw [if_pos q]; exact hr
  · rw [if_neg q]; show r.2 + 1 ≤ 1000; omega
theorem layI_le {V : Wd} {go : Nat → Int64 → Int64 → Mk → Bool × Mk} (hg : ∀ b x y r, r.2 ≤ 1000 → (go b x y r).2.2 ≤ 1000) {b : Nat} {x y : Int64} {i : Nat} {r : Mk} (hr : r.2 ≤ 1000) : (layI V go b x y i r).2.2 ≤ 1000 := by
  rw [layI]
  split
  · exact noteF_le hr
  · split
    · split
      · exact hr
      · exact noteF_le hr
    · split
      · split
        · exact hg _ _ _ _ hr
        · exact hg _ _ _ _ hr
      · exact hr
theorem layL_le {it : Nat → Mk → Bool × Mk} (hi : ∀ i r, r.2 ≤ 1000 → (it i r).2.2 ≤ 1000) : ∀ (k i : Nat) (r : Mk), r.2 ≤ 1000 → (layL it k i r).2.2 ≤ 1000
  | 0, _, r, hr => hr
  | k + 1, i, r, hr => by
    rw [layL]
    split
    · exact layL_le hi k (i + 1) _ (hi i r hr)
    · exact hi i r hr
theorem layF_le (V : Wd) : ∀ (n b : Nat) (x y : Int64) (r : Mk), r.2 ≤ 1000 → (layF V n b x y r).2.2 ≤ 1000
  | 0, _, _, _, _, hr => hr
  | n + 1, b, x, y, r, hr => layL_le (fun i r9 h9 => layI_le (fun b x y r h => layF_le V n b x y r h) h9) _ _ _ hr
theorem layI_space {V : Wd} {ad : Nat → Nat} {go : Nat → Int64 → Int64 → Mk → Bool × Mk} {b i : Nat} {x y : Int64} {r : Mk} {z : Int32 × Int32 × Int32 × Int32 × Int32} (h : itO V ad (wF V b + i) = .inr z) : layI V go b x y i r = (true, r) := by
  rw [itO] at h
  split at h
  · cases h
  · rename_i h0
    split at h
    · cases h
    · rename_i h1
      split at h
      · cases h
      · rename_i h4
        rw [layI, if_neg h0, if_neg h1, if_neg h4]
theorem layI_box {V : Wd} {ad : Nat → Nat} {go : Nat → Int64 → Int64 → Mk → Bool × Mk} {b i : Nat} {x y : Int64} {r : Mk} {t w h d z p : Int32} {q : Nat} (hp : p.toInt64 = plF V b i) (hsz : szI (wA V 1 (wI V (wF V b + i)))) (e : itO V ad (wF V b + i) = .inl (t, w, h, d, some q, z)) :
    wK V (wF V b + i) = 4 ∧ q = ad (wI V (wF V b + i)) ∧ layI V go b x y i r = go (wI V (wF V b + i)) (if wB V b = true then x + z.toInt64 else x + p.toInt64) (if wB V b = true then y - (wA V 1 b).toInt64 + p.toInt64 + (kn h 0).toInt64 else y + z.toInt64) r := by
  rw [itO] at e
  split at e
  · simp at e
  · rename_i h0
    split at e
    · simp at e
    · rename_i h1
      split at e
      · rename_i h4
        simp only [Sum.inl.injEq, Prod.mk.injEq, Option.some.injEq] at e
        obtain ⟨-, -, e3, -, e5, e6⟩ := e
        refine ⟨h4, e5.symm, ?_⟩
        subst e3 e6
        rw [layI, if_neg h0, if_neg h1, if_pos h4, szI_kn hsz, hp]
        by_cases hb : wB V b = true
        · simp only [hb, if_true, mxF, tpF]
        · simp only [hb, if_false, mxF, tpF, Bool.false_eq_true]
      · cases e
theorem i_add_pos {h d : Int32} (h1 : szI h) (h2 : szI d) : (0 < h + d) ↔ ¬ (h.toInt64 + d.toInt64 ≤ 0) := by
  have a1 := szI_iff.mp h1
  have a2 := szI_iff.mp h2
  rw [Int32.lt_iff_toInt_lt, Int64.le_iff_toInt_le, Int32.toInt_add, Int64.toInt_add, Int32.toInt_toInt64, Int32.toInt_toInt64, show (0 : Int32).toInt = 0 by decide, show (0 : Int64).toInt = 0 by decide, Int.bmod_eq_of_le (by omega) (by omega), Int.bmod_eq_of_le (by omega) (by omega)]
  omega
theorem i_pos {w : Int32} : (0 < w) ↔ ¬ (w.toInt64 ≤ 0) := by
  rw [Int32.lt_iff_toInt_lt, Int64.le_iff_toInt_le, Int32.toInt_toInt64, show (0 : Int32).toInt = 0 by decide, show (0 : Int64).toInt = 0 by decide]
  omega
theorem rdF_0 {V : Wd} {b k : Nat} : rdF V b k 0 = (kn (wN V k 0) (if wB V b = true then wA V 0 b else 0)).toInt64 := by
  rw [rdF, kn]
  by_cases h : wN V k 0 = -1073741824
  · by_cases hb : wB V b = true <;> simp [h, hb, i0_64]
  · simp [h]
theorem rdF_1 {V : Wd} {b k : Nat} : rdF V b k 1 = (kn (wN V k 1) (if wB V b = true then 0 else wA V 1 b)).toInt64 := by
  rw [rdF, kn]
  by_cases h : wN V k 1 = -1073741824
  · by_cases hb : wB V b = true <;> simp [h, hb, i0_64]
  · simp [h]
theorem rdF_2 {V : Wd} {b k : Nat} : rdF V b k 2 = (kn (wN V k 2) (if wB V b = true then 0 else wA V 2 b)).toInt64 := by
  rw [rdF, kn]
  by_cases h : wN V k 2 = -1073741824
  · by_cases hb : wB V b = true <;> simp [h, hb, i0_64]
  · simp [h]
theorem szI_0 : szI 0 := by show sz (0 : Int32).toInt64 = true; decide
theorem szr_kn {x r : Int32} (h : szr x = true) (hr : szI r) : szI (kn x r) := by
  rw [kn]
  split
  · exact hr
  · rcases szr_or h with q | q
    · rename_i n; exact absurd q n
    · exact q
theorem layI_none {V : Wd} {ad : Nat → Nat} {go : Nat → Int64 → Int64 → Mk → Bool × Mk} {b c i : Nat} {x y : Int64} {r : Mk} {t w h d z p : Int32} (hp : p.toInt64 = plF V b i) (hv : itV V c (wF V b + i)) (s1 : szI (wA V 1 b)) (s2 : szI (wA V 2 b)) (e : itO V ad (wF V b + i) = .inl (t, w, h, d, none, z)) :
    layI V go b x y i r = layC (wB V b) (wA V 0 b) (wA V 1 b) (wA V 2 b) t w h d z p x y r := by
  rcases hv with ⟨k0, g0, g1, g2, g3⟩ | ⟨k0, g0, g1, g2⟩ | ⟨k0, -⟩ | ⟨k0, -⟩ | ⟨k0, -⟩
  · rw [itO, if_pos k0] at e
    simp only [Sum.inl.injEq, Prod.mk.injEq] at e
    obtain ⟨e1, e2, e3, e4, -, e6⟩ := e
    subst e1 e2 e3 e4 e6
    have ht : ¬ wN V (wF V b + i) 0 = -1 := fun q => g0 (by rw [q]; decide)
    by_cases hb : wB V b = true
    · simp [layI, layC, k0, ht, hb, mxF, tpF, szI_kn g1, szI_kn g2, szI_kn g3, i0_64, hp]
    · simp [layI, layC, k0, ht, hb, mxF, tpF, szI_kn g1, szI_kn g2, szI_kn g3, i0_64, hp]
  · have n0 : ¬ wK V (wF V b + i) = 0 := by rw [k0]; decide
    rw [itO, if_neg n0, if_pos k0] at e
    simp only [Sum.inl.injEq, Prod.mk.injEq] at e
    obtain ⟨e1, e2, e3, e4, -, e6⟩ := e
    subst e1 e2 e3 e4 e6
    rw [layI, if_neg n0, if_pos k0, layC, rdF_0, rdF_1, rdF_2]
    have z1 : szI (kn (wN V (wF V b + i) 1) (if wB V b = true then 0 else wA V 1 b)) := szr_kn g1 (by by_cases hb : wB V b = true <;> simp [hb, szI_0, s1])
    have z2 : szI (kn (wN V (wF V b + i) 2) (if wB V b = true then 0 else wA V 2 b)) := szr_kn g2 (by by_cases hb : wB V b = true <;> simp [hb, szI_0, s2])
    have hc : ∀ (a c : Prop), (a ∨ c) ↔ ((-1 : Int32) = -1 ∧ ¬ (¬ a ∧ ¬ c)) := fun a c => ⟨fun q => ⟨rfl, fun n => q.elim n.1 n.2⟩, fun q => Classical.byContradiction fun n => q.2 ⟨fun a => n (Or.inl a), fun c => n (Or.inr c)⟩⟩
    have hd := hc ((kn (wN V (wF V b + i) 0) (if wB V b = true then wA V 0 b else 0)).toInt64 ≤ 0) ((kn (wN V (wF V b + i) 1) (if wB V b = true then 0 else wA V 1 b)).toInt64 + (kn (wN V (wF V b + i) 2) (if wB V b = true then 0 else wA V 2 b)).toInt64 ≤ 0)
    rw [← i_pos, ← i_add_pos z1 z2] at hd
    have e9 : (-1 : Int32).toInt64 = -1 := by decide
    by_cases q : (kn (wN V (wF V b + i) 0) (if wB V b = true then wA V 0 b else 0)).toInt64 ≤ 0 ∨ (kn (wN V (wF V b + i) 1) (if wB V b = true then 0 else wA V 1 b)).toInt64 + (kn (wN V (wF V b + i) 2) (if wB V b = true then 0 else wA V 2 b)).toInt64 ≤ 0
    · rw [if_pos q, if_pos (hd.mp q)]
    · rw [if_neg q, if_neg (fun n => q (hd.mpr n)), e9, i0_64, hp]
      by_cases hb : wB V b = true
      · simp [hb, mxF, tpF]
      · simp [hb, mxF, tpF]
  · rw [itO, if_neg (by rw [k0]; decide), if_neg (by rw [k0]; decide), if_neg (by rw [k0]; decide)] at e; cases e
  · rw [itO, if_neg (by rw [k0]; decide), if_neg (by rw [k0]; decide), if_neg (by rw [k0]; decide)] at e; cases e
  · rw [itO, if_neg (by rw [k0]; decide), if_neg (by rw [k0]; decide), if_pos k0] at e; simp at e
