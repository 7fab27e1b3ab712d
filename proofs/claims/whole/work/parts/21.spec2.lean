/-! ===== measureBelow, gives, fillUp, findTotal, addShares: what they reckon ===== -/
def belowF (iv : Nat → It) : Nat → Nat → Int32 → Int32 → Int32 → (Nat → Int32) → Option (Int32 × Int32 × Int32 × (Nat → Int32))
  | 0, _, w, h, d, gp => some (w, h, d, gp)
  | k + 1, i, w, h, d, gp => match iv i with
    | .inl (_, iw, ih, id9, _, z) => (jsum h.toInt64 d.toInt64).bind fun h0 => (jsum h0.toInt64 (kn ih 0).toInt64).bind fun h1 => (jsum (kn iw 0).toInt64 z.toInt64).bind fun w1 =>
        belowF iv k (i + 1) (mx w w1) h1 (kn id9 0) (upd gp i h0)
    | .inr (iw, _, _, _, _) => (jsum h.toInt64 d.toInt64).bind fun h0 => (jsum h0.toInt64 iw.toInt64).bind fun h1 => belowF iv k (i + 1) w h1 0 (upd gp i h)
def belowE (gr : Int32) (x : Int32 × Int32 × Int32 × (Nat → Int32)) : Option (Int32 × Int32 × Int32 × (Nat → Int32)) :=
  if x.2.2.1 ≤ gr then some x else (jsum x.2.1.toInt64 (x.2.2.1.toInt64 - gr.toInt64)).bind fun h1 => some (x.1, h1, gr, x.2.2.2)
def gvO (s : Bool) (b z : Int32) : Int32 := if s = true then z else b
def gvA (s : Bool) (a d : Int32) : Int32 := if s = true then d else a
def givesF (s : Bool) (iv : Nat → It) : Nat → Nat → (Nat → Int32) → Option (Nat → Int32)
  | 0, _, gs => some gs
  | k + 1, i, gs => match iv i with
    | .inl _ => givesF s iv k (i + 1) gs
    | .inr (_, a, b, d, z) => (jsum (gs (gvO s b z).toNatClampNeg).toInt64 (gvA s a d).toInt64).bind fun v => givesF s iv k (i + 1) (upd gs (gvO s b z).toNatClampNeg v)
/-- the orders of all glue are 0 .. 3 -/
def ordsIn (n : Nat) (iv : Nat → It) : Prop := ∀ i, i < n → ∀ w a b d z, iv i = .inr (w, a, b, d, z) → vp_in b 4 ∧ vp_in z 4
theorem gvO_in {n : Nat} {iv : Nat → It} (h : ordsIn n iv) {i : Nat} (hi : i < n) {w a b d z : Int32} (e : iv i = .inr (w, a, b, d, z)) (s : Bool) : vp_in (gvO s b z) 4 := by
  obtain ⟨h1, h2⟩ := h i hi w a b d z e
  cases s
  · exact h1
  · exact h2
def fillF (bel : Bool) (how size w h : Int32) : Option (Int32 × Int32) :=
  (if how = 1 then jsum size.toInt64 (-(if bel = true then h else w)).toInt64 else if how = 2 then some size else some 0).bind fun ex =>
    (jsum (if bel = true then h else w).toInt64 ex.toInt64).bind fun ln => some (ex, ln)
def findF (gs : Nat → Int32) : Nat → Nat → Int32 → Int32 → Int32 × Int32
  | 0, _, o, t => (o, t)
  | k + 1, i, o, t => if gs i = 0 then findF gs k (i + 1) o t else findF gs k (i + 1) (nI i) (gs i)
def lab (x : Int64) : Int64 := if x < 0 then -x else x
def dtn (x : Int64) (d : Int32) : Int32 := (if x < 0 then -((2 * lab x + d.toInt64) / (2 * d.toInt64)) else (2 * lab x + d.toInt64) / (2 * d.toInt64)).toInt32
/-- a share: the part that comes before, of what is given, over the total -/
def shr (pt ex : Int64) (t : Int32) : Int32 := if t = 0 then 0 else dtn (pt * ex) t
theorem labL_eq (x : Int64) : (if 0 < x then x else -x) = lab x := by
  rw [lab]
  by_cases p : 0 < x
  · rw [if_pos p, if_neg (Int64.not_lt.mpr (Int64.le_of_lt p))]
  · rw [if_neg p]
    by_cases q : x < 0
    · rw [if_pos q]
    · rw [if_neg q]
      have e : x = 0 := Int64.le_antisymm (Int64.not_lt.mp p) (Int64.not_lt.mp q)
      rw [e]; decide
def shareF (s : Bool) (o t : Int32) (gv : Int32) (iv : Nat → It) : Nat → Nat → Int32 → (Nat → Int32) → (Nat → Int32)
  | 0, _, _, gp => gp
  | k + 1, i, bf, gp => shareF s o t gv iv k (i + 1) (match iv i with
      | .inl _ => bf
      | .inr (_, a, b, d, z) => if gvO s b z = o then bf + gvA s a d else bf) (upd gp i (gp i + shr bf.toInt64 gv.toInt64 t))
def ab (x : Int32) : Int32 := if 0 ≤ x then x else 0 - x
def brat (m a : Int32) : Int32 := if m ≤ 7230584 then 297 * m / a else if a < 1663497 then m else m / (a / 297)
def badF (ex od to ov : Int32) : Int32 :=
  if 0 < ov then 1000000 else if ex = 0 ∨ 0 < od then 0 else if to = 0 then 10000 else if brat (ab ex) to ≤ 1290 then (brat (ab ex) to * brat (ab ex) to * brat (ab ex) to + 131072) / 262144 else 10000
def addS (ex od to ov : Int32) (iv : Nat → It) (n : Nat) (gp : Nat → Int32) : Nat → Int32 :=
  shareF (decide (ex < 0)) od to (if 0 < ov then -to else ex) iv n 0 0 gp
theorem two_ne {x : Int32} (h : ¬ x = 0) : ¬ (2 : Int64) * x.toInt64 = 0 := by
  intro q
  have h1 := congrArg Int64.toInt q
  have b1 := Int32.le_toInt x
  have b2 := Int32.toInt_lt x
  rw [Int64.toInt_mul, Int32.toInt_toInt64, show (2 : Int64).toInt = 2 by decide, show (0 : Int64).toInt = 0 by decide, Int.bmod_eq_of_le (by omega) (by omega)] at h1
  exact h (Int32.toInt_inj.mp (by rw [show (0 : Int32).toInt = 0 by decide]; omega))
theorem div297 {a : Int32} (h : ¬ a < 1663497) : ¬ a / 297 = 0 := by
  intro q
  have h1 := congrArg Int32.toInt q
  have b1 : (1663497 : Int) ≤ a.toInt := by
    have := Int32.le_iff_toInt_le.mp (Int32.not_lt.mp h)
    rw [show (1663497 : Int32).toInt = 1663497 by decide] at this
    exact this
  have b2 := Int32.toInt_lt a
  rw [Int32.toInt_div, show (297 : Int32).toInt = 297 by decide, show (0 : Int32).toInt = 0 by decide, Int.tdiv_eq_ediv_of_nonneg (by omega), Int.bmod_eq_of_le (by omega) (by omega)] at h1
  omega
