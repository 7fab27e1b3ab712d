/-! ===== the world: kinds, numbers, where a box begins, which way it goes, its attributes (0 width, 1 height, 2 depth, 3 excess, 4 order, 5 total, 6 badness, 7 overfull, 8 deep, 9 in all) ===== -/
abbrev Wd : Type := (Nat → Int32) × (Nat → Int32) × (Nat → Nat) × (Nat → Bool) × (Nat → Nat → Int32)
def wK (V : Wd) (k : Nat) : Int32 := V.1 k
def wN (V : Wd) (k j : Nat) : Int32 := V.2.1 (5 * k + j)
def wF (V : Wd) (b : Nat) : Nat := V.2.2.1 b
def wB (V : Wd) (b : Nat) : Bool := V.2.2.2.1 b
def wA (V : Wd) (j b : Nat) : Int32 := V.2.2.2.2 j b
def wI (V : Wd) (k : Nat) : Nat := (wN V k 0).toNatClampNeg
/-- the item k as the BoxPacker's cell shows it, its inner box at ad -/
def itO (V : Wd) (ad : Nat → Nat) (k : Nat) : It :=
  if wK V k = 0 then .inl (wN V k 0, wN V k 1, wN V k 2, wN V k 3, none, 0)
  else if wK V k = 1 then .inl (-1, wN V k 0, wN V k 1, wN V k 2, none, 0)
  else if wK V k = 4 then .inl (-1, wA V 0 (wI V k), wA V 1 (wI V k), wA V 2 (wI V k), some (ad (wI V k)), wN V k 1)
  else .inr (wN V k 0, wN V k 1, wN V k 2, wN V k 3, wN V k 4)
def isSo (V : Wd) (k : Nat) : Bool := decide (wK V k = 0) || decide (wK V k = 1) || decide (wK V k = 4)
def szO (V : Wd) (k j : Nat) : Int32 := if wK V k = 0 then wN V k (j + 1) else if wK V k = 1 then kn (wN V k j) 0 else wA V j (wI V k)
def shO (V : Wd) (k : Nat) : Int32 := if wK V k = 4 then wN V k 1 else 0
/-- the rule's size j runs -/
def ruO (V : Wd) (k j : Nat) : Bool := decide (wK V k = 1) && decide (wN V k j = -1073741824)
/-- length, before, across, under, stretches, shrinks -/
abbrev Vl : Type := Int64 × Int64 × Int64 × Int64 × (Nat → Int64) × (Nat → Int64)
def gtr (a v : Int64) : Int64 := if a < v then v else a
def stS (V : Wd) (bel : Bool) (k : Nat) (v : Vl) : Vl :=
  if bel = true then (v.1 + v.2.1 + (szO V k 1).toInt64, (szO V k 2).toInt64, if ruO V k 0 = true then v.2.2.1 else gtr v.2.2.1 ((szO V k 0).toInt64 + (shO V k).toInt64), v.2.2.2)
  else (v.1 + (szO V k 0).toInt64, v.2.1, if ruO V k 1 = true then v.2.2.1 else gtr v.2.2.1 ((szO V k 1).toInt64 - (shO V k).toInt64), if ruO V k 2 = true then v.2.2.2.1 else gtr v.2.2.2.1 ((szO V k 2).toInt64 + (shO V k).toInt64), v.2.2.2.2)
def ckS (V : Wd) (bel : Bool) (k : Nat) (v : Vl) : Bool :=
  if bel = true then sz (v.1 + v.2.1) && sz (v.1 + v.2.1 + (szO V k 1).toInt64) && (ruO V k 0 || sz ((szO V k 0).toInt64 + (shO V k).toInt64))
  else sz (v.1 + (szO V k 0).toInt64) && (ruO V k 1 || sz ((szO V k 1).toInt64 - (shO V k).toInt64)) && (ruO V k 2 || sz ((szO V k 2).toInt64 + (shO V k).toInt64))
def stG (V : Wd) (k : Nat) (s : (Nat → Int64) × (Nat → Int64)) : (Nat → Int64) × (Nat → Int64) :=
  if wK V k = 2 then (vp_updL s.1 (wN V k 2).toNatClampNeg (s.1 (wN V k 2).toNatClampNeg + (wN V k 1).toInt64), vp_updL s.2 (wN V k 4).toNatClampNeg (s.2 (wN V k 4).toNatClampNeg + (wN V k 3).toInt64)) else s
def ckG (V : Wd) (k : Nat) (s : (Nat → Int64) × (Nat → Int64)) : Bool :=
  !decide (wK V k = 2) || (sz (s.1 (wN V k 2).toNatClampNeg + (wN V k 1).toInt64) && sz (s.2 (wN V k 4).toNatClampNeg + (wN V k 3).toInt64))
def stV (V : Wd) (bel : Bool) (k : Nat) (v : Vl) : Vl :=
  if isSo V k = true then stS V bel k v
  else (v.1 + (if bel = true then v.2.1 else 0) + (wN V k 0).toInt64, if bel = true then 0 else v.2.1, v.2.2.1, v.2.2.2.1, stG V k v.2.2.2.2)
def ckV (V : Wd) (bel : Bool) (k : Nat) (v : Vl) : Bool :=
  if isSo V k = true then ckS V bel k v
  else (!bel || sz (v.1 + v.2.1)) && sz (v.1 + (if bel = true then v.2.1 else 0) + (wN V k 0).toInt64) && ckG V k v.2.2.2.2
def v0 : Vl := (0, 0, 0, 0, fun _ => 0, fun _ => 0)
def fL (V : Wd) (bel : Bool) (k0 : Nat) : Nat → Vl
  | 0 => v0
  | i + 1 => stV V bel (k0 + i) (fL V bel k0 i)
def gL (V : Wd) (bel : Bool) (k0 : Nat) : Nat → Bool
  | 0 => true
  | i + 1 => gL V bel k0 i && ckV V bel (k0 + i) (fL V bel k0 i)
/-- the glue of the box's order that lies ahead of its item i -/
def pL (V : Wd) (b : Nat) : Nat → Int64
  | 0 => 0
  | i + 1 => if wK V (wF V b + i) = 2 ∧ wN V (wF V b + i) (if wA V 3 b < 0 then 4 else 2) = wA V 4 b then pL V b i + (wN V (wF V b + i) (if wA V 3 b < 0 then 3 else 1)).toInt64 else pL V b i
def labs (x : Int64) : Int64 := if x < 0 then -x else x
def nearF (a by9 : Int64) : Int64 :=
  if a < 0 then -(if by9 - (labs a - labs a / by9 * by9) ≤ labs a - labs a / by9 * by9 then labs a / by9 + 1 else labs a / by9) else (if by9 - (labs a - labs a / by9 * by9) ≤ labs a - labs a / by9 * by9 then labs a / by9 + 1 else labs a / by9)
def usF (V : Wd) (b : Nat) : Int64 := if 0 < wA V 7 b then (-(wA V 5 b)).toInt64 else (wA V 3 b).toInt64
def plF (V : Wd) (b i : Nat) : Int64 :=
  (fL V (wB V b) (wF V b) i).1 + (if wB V b = true ∧ isSo V (wF V b + i) = true then (fL V (wB V b) (wF V b) i).2.1 else 0) + (if wA V 5 b = 0 then 0 else nearF (pL V b i * usF V b) (wA V 5 b).toInt64)
def dL (V : Wd) (k0 : Nat) : Nat → Int32
  | 0 => 0
  | i + 1 => if dL V k0 i < (if wK V (k0 + i) = 4 then wA V 8 (wI V (k0 + i)) else 0) then (if wK V (k0 + i) = 4 then wA V 8 (wI V (k0 + i)) else 0) else dL V k0 i
def cL (V : Wd) (k0 n : Nat) : Nat → Int64
  | 0 => (nI n).toInt64
  | i + 1 => if wK V (k0 + i) = 4 then cL V k0 n i + (wA V 9 (wI V (k0 + i))).toInt64 else cL V k0 n i
def cA9 (V : Wd) (k0 n : Nat) : Int32 := if 1000000 < cL V k0 n n then 1000000 else (cL V k0 n n).toInt32
def oL (s : Nat → Int64) : Nat → Int32 × Int32
  | 0 => (0, 0)
  | k + 1 => if s k = 0 then oL s k else (nI k, (s k).toInt32)
def otF (ex : Int64) (s : (Nat → Int64) × (Nat → Int64)) : Int32 × Int32 := if ex = 0 then (0, 0) else oL (if 0 < ex then s.1 else s.2) 4
def bnF (t s : Int64) : Int32 :=
  if t = 0 then 0 else if s = 0 then 10000 else
    if 1290 < (if t ≤ 7230584 then t * 297 / s else if 1663497 ≤ s then t / (s / 297) else t) then 10000
    else (((if t ≤ 7230584 then t * 297 / s else if 1663497 ≤ s then t / (s / 297) else t) * (if t ≤ 7230584 then t * 297 / s else if 1663497 ≤ s then t / (s / 297) else t) * (if t ≤ 7230584 then t * 297 / s else if 1663497 ≤ s then t / (s / 297) else t) + 131072) / 262144).toInt32
/-- what is missing -/
def msF (ex : Int64) : Int64 := if ex < 0 then -ex else 0
def ovB (ex : Int64) (ot : Int32 × Int32) : Bool := decide (0 < msF ex) && decide (ot.1 = 0) && decide (ot.2.toInt64 < msF ex)
def ovM (ex : Int64) (ot : Int32 × Int32) : Int32 := if ovB ex ot = true then (msF ex - ot.2.toInt64).toInt32 else 0
def baM (ex : Int64) (ot : Int32 × Int32) : Int32 := if ovB ex ot = true then 1000000 else if 0 < ot.1 then 0 else bnF (labs ex) ot.2.toInt64
/-- behind the items: length and depth of a box that goes below -/
def lnM (bel : Bool) (gr : Int32) (v : Vl) : Int64 := if bel = true ∧ gr.toInt64 < v.2.1 then v.1 + (v.2.1 - gr.toInt64) else v.1
def unM (bel : Bool) (gr : Int32) (v : Vl) : Int64 := if bel = true then (if gr.toInt64 < v.2.1 then gr.toInt64 else v.2.1) else v.2.2.2.1
def exM (how size : Int32) (ln : Int64) : Int64 := if how = 0 then 0 else if how = 1 then size.toInt64 - ln else size.toInt64
def gdM (bel : Bool) (how size gr : Int32) (v : Vl) : Bool :=
  (!(bel && decide (gr.toInt64 < v.2.1)) || sz (lnM bel gr v)) && sz (exM how size (lnM bel gr v)) && sz (lnM bel gr v + exM how size (lnM bel gr v))
/-- the attributes of the new box -/
def atM (V : Wd) (bel : Bool) (how size gr : Int32) (k0 n : Nat) (v : Vl) (j : Nat) : Int32 :=
  [(if bel = true then v.2.2.1 else lnM bel gr v + exM how size (lnM bel gr v)).toInt32,
   (if bel = true then lnM bel gr v + exM how size (lnM bel gr v) else v.2.2.1).toInt32,
   (unM bel gr v).toInt32, (exM how size (lnM bel gr v)).toInt32, (otF (exM how size (lnM bel gr v)) v.2.2.2.2).1, (otF (exM how size (lnM bel gr v)) v.2.2.2.2).2,
   baM (exM how size (lnM bel gr v)) (otF (exM how size (lnM bel gr v)) v.2.2.2.2), ovM (exM how size (lnM bel gr v)) (otF (exM how size (lnM bel gr v)) v.2.2.2.2),
   dL V k0 n + 1, cA9 V k0 n].getD j 0
/-! ===== marks ===== -/
abbrev Mk : Type := (Nat → Int64) × Nat
def noteF (t x y w h d : Int64) (r : Mk) : Bool × Mk :=
  if r.2 = 1000 then (false, r) else (true, (vp_updL (vp_updL (vp_updL (vp_updL (vp_updL (vp_updL r.1 (6 * r.2) t) (6 * r.2 + 1) x) (6 * r.2 + 2) y) (6 * r.2 + 3) w) (6 * r.2 + 4) h) (6 * r.2 + 5) d, r.2 + 1))
/-- a rule's size in the box b -/
def rdF (V : Wd) (b k j : Nat) : Int64 :=
  if wN V k j = -1073741824 then (if wB V b = true then (if j = 0 then (wA V 0 b).toInt64 else 0) else if j = 1 then (wA V 1 b).toInt64 else if j = 2 then (wA V 2 b).toInt64 else 0) else (wN V k j).toInt64
def mxF (V : Wd) (b i : Nat) (x : Int64) : Int64 := if wB V b = true then x else x + plF V b i
def tpF (V : Wd) (b i : Nat) (y : Int64) : Int64 := if wB V b = true then y - (wA V 1 b).toInt64 + plF V b i else y
def layI (V : Wd) (go : Nat → Int64 → Int64 → Mk → Bool × Mk) (b : Nat) (x y : Int64) (i : Nat) (r : Mk) : Bool × Mk :=
  if wK V (wF V b + i) = 0 then noteF (wN V (wF V b + i) 0).toInt64 (mxF V b i x) (if wB V b = true then tpF V b i y + (wN V (wF V b + i) 2).toInt64 else tpF V b i y) (wN V (wF V b + i) 1).toInt64 (wN V (wF V b + i) 2).toInt64 (wN V (wF V b + i) 3).toInt64 r
  else if wK V (wF V b + i) = 1 then
    (if rdF V b (wF V b + i) 0 ≤ 0 ∨ rdF V b (wF V b + i) 1 + rdF V b (wF V b + i) 2 ≤ 0 then (true, r) else noteF (-1) (mxF V b i x) (if wB V b = true then tpF V b i y + rdF V b (wF V b + i) 1 else tpF V b i y) (rdF V b (wF V b + i) 0) (rdF V b (wF V b + i) 1) (rdF V b (wF V b + i) 2) r)
  else if wK V (wF V b + i) = 4 then
    (if wB V b = true then go (wI V (wF V b + i)) (mxF V b i x + (wN V (wF V b + i) 1).toInt64) (tpF V b i y + (wA V 1 (wI V (wF V b + i))).toInt64) r else go (wI V (wF V b + i)) (mxF V b i x) (tpF V b i y + (wN V (wF V b + i) 1).toInt64) r)
  else (true, r)
def layL (it : Nat → Mk → Bool × Mk) : Nat → Nat → Mk → Bool × Mk
  | 0, _, r => (true, r)
  | k + 1, i, r => if (it i r).1 = true then layL it k (i + 1) (it i r).2 else (false, (it i r).2)
def layF (V : Wd) : Nat → Nat → Int64 → Int64 → Mk → Bool × Mk
  | 0, _, _, _, r => (true, r)
  | n + 1, b, x, y, r => layL (layI V (layF V n) b x y) (wF V (b + 1) - wF V b) 0 r
