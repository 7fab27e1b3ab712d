/-! ===== fit ===== -/
theorem itE_box (x : It) (fs : List Value) : itE x ≠ .inr (1, fs) := by
  rcases x with ⟨t, w, h, d, q, z⟩ | ⟨w, a, b, d, z⟩ <;> simp [itE]
theorem itE_arr (x : It) (y : ClassId × vp_A) : itE x ≠ .inl y := by
  rcases x with ⟨t, w, h, d, q, z⟩ | ⟨w, a, b, d, z⟩ <;> simp [itE]
theorem itsAt.keep {f g : hv_M} {n : Nat} {gc : Nat → Option Nat} {iv : Nat → It} (h : itsAt f n gc iv) (hk : ∀ (z : Nat) (x : It), f z = some (itE x) → g z = f z) : itsAt g n gc iv := fun i hi => by
  obtain ⟨q, h1, h2⟩ := h i hi
  exact ⟨q, h1, by rw [hk q _ h2]; exact h2⟩
def measF (bel : Bool) (gr : Int32) (iv : Nat → It) (n : Nat) : Option (Int32 × Int32 × Int32 × (Nat → Int32)) :=
  if bel = true then (belowF iv n 0 0 0 0 (fun _ => 0)).bind (belowE gr) else alongF iv n 0 0 0 0 (fun _ => 0)
def fndF (gs hs : Nat → Int32) (ex : Int32) : Int32 × Int32 := if 0 < ex then findF gs 4 0 0 0 else if ex < 0 then findF hs 4 0 0 0 else (0, 0)
def ovF (ex od to : Int32) : Int32 := if ex < 0 ∧ od = 0 ∧ to < -ex then -ex - to else 0
abbrev FR : Type := Int32 × Int32 × Int32 × Int32 × Int32 × Int32 × Int32 × (Nat → Int32)
/-- fit: width, height, depth, excess, order, total, overfull, places; none: it refuses -/
def fitF (bel : Bool) (how size gr : Int32) (iv : Nat → It) (n : Nat) : Option FR :=
  (measF bel gr iv n).bind fun m => (givesF false iv n 0 (fun _ => 0)).bind fun gs => (givesF true iv n 0 (fun _ => 0)).bind fun hs => (fillF bel how size m.1 m.2.1).bind fun q =>
    some (if bel = true then m.1 else q.2, if bel = true then q.2 else m.2.1, m.2.2.1, q.1, (fndF gs hs q.1).1, (fndF gs hs q.1).2, ovF q.1 (fndF gs hs q.1).1 (fndF gs hs q.1).2,
      addS q.1 (fndF gs hs q.1).1 (fndF gs hs q.1).2 (ovF q.1 (fndF gs hs q.1).1 (fndF gs hs q.1).2) iv n m.2.2.2)

set_option maxHeartbeats 4000000 in
set_option maxRecDepth 100000 in
theorem c_Box_fit (l : Launch) (hl0 : l.stackTraces = false) (b0 : Nat) (D : va_G) (cA : Nat → ClassId) (f : hv_M) (bx ca pa n : Nat) (bel : Bool) (dp al how size gr : Int32) (gc : Nat → Option Nat) (iv : Nat → It) (hbx : f bx = some (.inr (1, [.int (b2i bel), .ref ca, .ref pa, .int dp, .int al, .int 0, .int 0, .int 0, .int 0, .int 0, .int 0, .int 0]))) (hca : f ca = some (.inl (cA 3, n, .inr (.inr (.inr (.inr gc)))))) (hpa : f pa = some (.inl (cA 0, n, .inl (fun _ => 0)))) (hit : itsAt f n gc iv) (hor : ordsIn n iv) (hn : n ≤ 100) : hv_Met l y_Box_fit [Cond.code y_Box_fit b_Box_fit 6 none] (RM 4 7 40) b0 (Fa D cA) D CL [.ref bx, .int how, .int size, .int gr] f (fun v g => v = none ∧ ∃ (w h d ex od to ov : Int32) (gp : Nat → Int32), fitF bel how size gr iv n = some (w, h, d, ex, od, to, ov, gp) ∧ g bx = some (.inr (1, [.int (b2i bel), .ref ca, .ref pa, .int dp, .int al, .int w, .int h, .int d, .int ex, .int od, .int to, .int ov])) ∧ g pa = some (.inl (cA 0, n, .inl gp)) ∧ ∀ z x, z ≠ bx → z ≠ pa → f z = some x → g z = some x) (fun E g => E = "java/lang/IllegalStateException" ∧ fitF bel how size gr iv n = none ∧ ∀ z x, z ≠ bx → z ≠ pa → f z = some x → g z = some x) := by
  refine hv_Met.of (own := "BoxPacker$Box") (by decide) rfl (Nat.le_of_ble_eq_true rfl) ?_
  intro p e s m below meth c hE hml hout hr hlocks hname hK hI ls hl
  have hl : lv_has ls 6 [(0, .ref bx), (1, .int how), (2, .int size), (3, .int gr)] := hl
  obtain ⟨hx, hb, hown, hts, hVK⟩ := id hE
  have hkp : ∀ z x, z ≠ bx → z ≠ pa → f z = some x → f z = some x := fun z x _ _ hz => hz
  refine lv_aload_n hx hb d_Box_fit_0 rfl (lv_at hl 0 rfl) ?_
  refine hv_get hE k_Box hI 0 (by decide) w325 hbx rfl d_Box_fit_1 ?_
  refine lv_if_eq (tgt := 15) hx hb d_Box_fit_4 (by decide) (fun c4 => ?_) (fun c4 => ?_)
  · skip
    have hbl : ¬ bel = true := by rw [b2i_ne.mp c4]; decide
    refine lv_aload_n hx hb d_Box_fit_15 rfl (lv_at hl 0 rfl) ?_
    refine hv_V (As := []) (rest := []) hE hml hK hI (c_Box_measureAlong l hl0 b0 D cA f bx ca pa n (b2i bel) dp al 0 0 0 0 gc (fun _ => 0) iv hbx hca hpa hit hn) cd_Box_measureAlong w410 w412 ws5 hbx rfl rfl hl.1 (Nat.le_of_ble_eq_true rfl) d_Box_fit_16 ⟨by decide, by decide⟩ ⟨by decide, by decide⟩ (fun v9 g1 H locs hp hI => ?_) (fun q9 E9 ce9 g9 H locs hp hI hce hcv hcl => ?_)
    rotate_left
    · skip
      obtain ⟨hE9, em, hk9⟩ := hp
      rw [hE9] at hcl
      exact hv_out hout hlocks hI hK hce hcv hcl ⟨rfl, by simp only [fitF, measF, if_neg hbl, em, Option.bind_none], fun z x z1 z2 hz => by rw [hk9 z z1 z2]; exact hz⟩ (by decide) (by decide)
    obtain ⟨hv, w, h, d, gp, em, hb9, hp9, ho9⟩ := hp
    rw [hv]
    refine W.eq (g2 := F0 m 19 ls []) rfl ?_
    have em : measF bel gr iv n = some (w, h, d, gp) := by rw [measF, if_neg hbl]; exact em
    have hit : itsAt g1 n gc iv := hit.keep (fun z x hz => ho9 z (hv_ne hz hbx (itE_box _ _)) (hv_ne hz hpa (itE_arr _ _)))
    have hkp : ∀ z x, z ≠ bx → z ≠ pa → f z = some x → g1 z = some x := fun z x z1 z2 hz => by rw [ho9 z z1 z2]; exact hz
    have h2 : g1 ca = some (.inl (cA 3, n, .inr (.inr (.inr (.inr gc))))) := by rw [ho9 ca (hv_ne hca hbx (by simp)) (hv_ne hca hpa (by simp))]; exact hca
    refine lv_aload_n hx hb d_Box_fit_19 rfl (lv_at hl 0 rfl) ?_
    refine lv_iconst (v := 0) hx hb d_Box_fit_20 (by decide) ?_
    refine hv_V (As := [.int 0]) (rest := []) hE hml hK hI (c_Box_gives l hl0 b0 D cA g1 bx ca pa n (b2i bel) dp al w h d 0 0 0 0 false gc iv hb9 h2 hit hor hn) cd_Box_gives w414 w416 ws6 hb9 rfl rfl hl.1 (Nat.le_of_ble_eq_true rfl) d_Box_fit_21 ⟨by decide, by decide⟩ ⟨by decide, by decide⟩ (fun v9 g3 H locs hp hI => ?_) (fun q9 E9 ce9 g9 H locs hp hI hce hcv hcl => ?_)
    rotate_left
    · skip
      obtain ⟨hE9, e9, hk9⟩ := hp
      rw [hE9] at hcl
      exact hv_out hout hlocks hI hK hce hcv hcl ⟨rfl, by simp only [fitF, em, e9, Option.bind_none, Option.bind_some], fun z x z1 z2 hz => hk9 z x (hkp z x z1 z2 hz)⟩ (by decide) (by decide)
    obtain ⟨qs, gs, hv, hnqs, e1, egqs⟩ := hp
    rw [hv]
    refine W.eq (g2 := F0 m 24 ls [.ref qs]) rfl ?_
    have hit : itsAt g3 n gc iv := hit.keep (fun z x hz => by rw [egqs, hv_up_ne _ _ (hv_nn hz hnqs)])
    have hkp : ∀ z x, z ≠ bx → z ≠ pa → f z = some x → g3 z = some x := fun z x z1 z2 hz => by rw [egqs, hv_up_ne _ _ (hv_nn (hkp z x z1 z2 hz) hnqs)]; exact hkp z x z1 z2 hz
    have hxqs : pa ≠ qs := hv_nn hp9 hnqs
    have hgqs : g3 qs = some (.inl (cA 0, 4, .inl gs)) := by rw [egqs]; exact hv_up_self _ _ _
    have h4 : g3 bx = some (.inr (1, [.int (b2i bel), .ref ca, .ref pa, .int dp, .int al, .int w, .int h, .int d, .int 0, .int 0, .int 0, .int 0])) := by rw [egqs, hv_up_ne _ _ (hv_nn hb9 hnqs)]; exact hb9
    have h5 : g3 ca = some (.inl (cA 3, n, .inr (.inr (.inr (.inr gc))))) := by rw [egqs, hv_up_ne _ _ (hv_nn h2 hnqs)]; exact h2
    have h6 : g3 pa = some (.inl (cA 0, n, .inl gp)) := by rw [egqs, hv_up_ne _ _ (hv_nn hp9 hnqs)]; exact hp9
    refine lv_astore (lv' := [(4, .ref qs), (0, .ref bx), (1, .int how), (2, .int size), (3, .int gr)]) hx hb d_Box_fit_24 hl (by decide) rfl (fun ls hl => ?_)
    refine lv_aload_n hx hb d_Box_fit_26 rfl (lv_at hl 1 rfl) ?_
    refine lv_iconst (v := 1) hx hb d_Box_fit_27 (by decide) ?_
    refine hv_V (As := [.int 1]) (rest := []) hE hml hK hI (c_Box_gives l hl0 b0 D cA g3 bx ca pa n (b2i bel) dp al w h d 0 0 0 0 true gc iv h4 h5 hit hor hn) cd_Box_gives w414 w416 ws6 h4 rfl rfl hl.1 (Nat.le_of_ble_eq_true rfl) d_Box_fit_28 ⟨by decide, by decide⟩ ⟨by decide, by decide⟩ (fun v9 g7 H locs hp hI => ?_) (fun q9 E9 ce9 g9 H locs hp hI hce hcv hcl => ?_)
    rotate_left
    · skip
      obtain ⟨hE9, e9, hk9⟩ := hp
      rw [hE9] at hcl
      exact hv_out hout hlocks hI hK hce hcv hcl ⟨rfl, by simp only [fitF, em, e1, e9, Option.bind_none, Option.bind_some], fun z x z1 z2 hz => hk9 z x (hkp z x z1 z2 hz)⟩ (by decide) (by decide)
    obtain ⟨qt, hs, hv, hnqt, e2, egqt⟩ := hp
    rw [hv]
    refine W.eq (g2 := F0 m 31 ls [.ref qt]) rfl ?_
    have hit : itsAt g7 n gc iv := hit.keep (fun z x hz => by rw [egqt, hv_up_ne _ _ (hv_nn hz hnqt)])
    have hkp : ∀ z x, z ≠ bx → z ≠ pa → f z = some x → g7 z = some x := fun z x z1 z2 hz => by rw [egqt, hv_up_ne _ _ (hv_nn (hkp z x z1 z2 hz) hnqt)]; exact hkp z x z1 z2 hz
    have hxqt : pa ≠ qt := hv_nn h6 hnqt
    have hgqt : g7 qt = some (.inl (cA 0, 4, .inl hs)) := by rw [egqt]; exact hv_up_self _ _ _
    have hyq : qs ≠ qt := hv_nn hgqs hnqt
    have h8 : g7 bx = some (.inr (1, [.int (b2i bel), .ref ca, .ref pa, .int dp, .int al, .int w, .int h, .int d, .int 0, .int 0, .int 0, .int 0])) := by rw [egqt, hv_up_ne _ _ (hv_nn h4 hnqt)]; exact h4
    have h9 : g7 ca = some (.inl (cA 3, n, .inr (.inr (.inr (.inr gc))))) := by rw [egqt, hv_up_ne _ _ (hv_nn h5 hnqt)]; exact h5
    have h10 : g7 pa = some (.inl (cA 0, n, .inl gp)) := by rw [egqt, hv_up_ne _ _ (hv_nn h6 hnqt)]; exact h6
    have h11 : g7 qs = some (.inl (cA 0, 4, .inl gs)) := by rw [egqt, hv_up_ne _ _ (hv_nn hgqs hnqt)]; exact hgqs
    refine lv_astore (lv' := [(5, .ref qt), (4, .ref qs), (0, .ref bx), (1, .int how), (2, .int size), (3, .int gr)]) hx hb d_Box_fit_31 hl (by decide) rfl (fun ls hl => ?_)
    refine lv_aload_n hx hb d_Box_fit_33 rfl (lv_at hl 2 rfl) ?_
    refine lv_iload_n hx hb d_Box_fit_34 rfl (lv_at hl 3 rfl) ?_
    refine lv_iload_n hx hb d_Box_fit_35 rfl (lv_at hl 4 rfl) ?_
    refine hv_V (As := [.int how, .int size]) (rest := []) hE hml hK hI (c_Box_fillUp l hl0 b0 D cA g7 bx ca pa bel dp al w h d 0 0 0 how size h8) cd_Box_fillUp w426 w428 ws9 h8 rfl rfl hl.1 (Nat.le_of_ble_eq_true rfl) d_Box_fit_36 ⟨by decide, by decide⟩ ⟨by decide, by decide⟩ (fun v9 g12 H locs hp hI => ?_) (fun q9 E9 ce9 g9 H locs hp hI hce hcv hcl => ?_)
    rotate_left
    · skip
      obtain ⟨hE9, e9, hk9⟩ := hp
      rw [hE9] at hcl
      exact hv_out hout hlocks hI hK hce hcv hcl ⟨rfl, by simp only [fitF, em, e1, e2, e9, Option.bind_none, Option.bind_some], fun z x z1 z2 hz => by rw [hk9 z z1]; exact hkp z x z1 z2 hz⟩ (by decide) (by decide)
    obtain ⟨hv, ex, ln, e3, eg3⟩ := hp
    rw [hv]
    refine W.eq (g2 := F0 m 39 ls []) rfl ?_
    obtain ⟨w1, ew1⟩ : ∃ z : Int32, z = if bel = true then w else ln := ⟨_, rfl⟩
    obtain ⟨h1, eh1⟩ : ∃ z : Int32, z = if bel = true then ln else h := ⟨_, rfl⟩
    rw [← ew1, ← eh1] at eg3
    have hb3 : g12 bx = some (.inr (1, [.int (b2i bel), .ref ca, .ref pa, .int dp, .int al, .int w1, .int h1, .int d, .int ex, .int 0, .int 0, .int 0])) := by rw [eg3]; exact hv_up_self _ _ _
    have hit : itsAt g12 n gc iv := hit.keep (fun z x hz => by rw [eg3, hv_up_ne _ _ (hv_ne hz h8 (itE_box _ _))])
    have hkp : ∀ z x, z ≠ bx → z ≠ pa → f z = some x → g12 z = some x := fun z x z1 z2 hz => by rw [eg3, hv_up_ne _ _ z1]; exact hkp z x z1 z2 hz
    have h13 : g12 ca = some (.inl (cA 3, n, .inr (.inr (.inr (.inr gc))))) := by rw [eg3, hv_up_ne _ _ (hv_ne h9 h8 (by simp))]; exact h9
    have h14 : g12 pa = some (.inl (cA 0, n, .inl gp)) := by rw [eg3, hv_up_ne _ _ (hv_ne h10 h8 (by simp))]; exact h10
    have h15 : g12 qs = some (.inl (cA 0, 4, .inl gs)) := by rw [eg3, hv_up_ne _ _ (hv_ne h11 h8 (by simp))]; exact h11
    have h16 : g12 qt = some (.inl (cA 0, 4, .inl hs)) := by rw [eg3, hv_up_ne _ _ (hv_ne hgqt h8 (by simp))]; exact hgqt
    refine lv_aload_n hx hb d_Box_fit_39 rfl (lv_at hl 2 rfl) ?_
    refine hv_get hE k_Box hI 8 (by decide) w341 hb3 rfl d_Box_fit_40 ?_
    refine lv_if_le (tgt := 55) hx hb d_Box_fit_43 (by decide) (fun c43 => ?_) (fun c43 => ?_)
    · skip
      refine lv_aload_n hx hb d_Box_fit_55 rfl (lv_at hl 2 rfl) ?_
      refine hv_get hE k_Box hI 8 (by decide) w341 hb3 rfl d_Box_fit_56 ?_
      refine lv_if_ge (tgt := 68) hx hb d_Box_fit_59 (by decide) (fun c59 => ?_) (fun c59 => ?_)
      · skip
        obtain ⟨o, t, eo, et, hot⟩ : ∃ o t : Int32, o = 0 ∧ t = 0 ∧ fndF gs hs ex = (o, t) := ⟨0, 0, rfl, rfl, by rw [fndF, if_neg (Int32.not_lt.mpr c43), if_neg (Int32.not_lt.mpr c59)]⟩
        have hb4 : g12 bx = some (.inr (1, [.int (b2i bel), .ref ca, .ref pa, .int dp, .int al, .int w1, .int h1, .int d, .int ex, .int o, .int t, .int 0])) := by rw [eo, et]; exact hb3
        refine lv_aload_n hx hb d_Box_fit_68 rfl (lv_at hl 2 rfl) ?_
        refine hv_get hE k_Box hI 8 (by decide) w341 hb4 rfl d_Box_fit_69 ?_
        refine lv_if_ge (tgt := 108) hx hb d_Box_fit_72 (by decide) (fun c72 => ?_) (fun c72 => ?_)
        · skip
          have hov : ovF ex o t = 0 := if_neg (fun q => Int32.not_lt.mpr c72 q.1)
          refine lv_aload_n hx hb d_Box_fit_108 rfl (lv_at hl 2 rfl) ?_
          refine hv_V (As := []) (rest := []) hE hml hK hI (c_Box_addShares l hl0 b0 D cA g12 bx ca pa n (b2i bel) dp al w1 h1 d ex o t 0 gc gp iv hb4 h13 h14 hit hn) cd_Box_addShares w434 w436 ws11 hb4 rfl rfl hl.1 (Nat.le_of_ble_eq_true rfl) d_Box_fit_109 ⟨by decide, by decide⟩ ⟨by decide, by decide⟩ (fun v9 g17 H locs hp hI => ?_) (fun q9 E9 ce9 g9 H locs hp => hp.elim)
          obtain ⟨hv, eg5⟩ := hp
          rw [hv]
          refine W.eq (g2 := F0 m 112 ls []) rfl ?_
          have hp5 : g17 pa = some (.inl (cA 0, n, .inl (addS ex o t 0 iv n gp))) := by rw [eg5]; exact hv_up_self _ _ _
          have h18 : g17 bx = some (.inr (1, [.int (b2i bel), .ref ca, .ref pa, .int dp, .int al, .int w1, .int h1, .int d, .int ex, .int o, .int t, .int 0])) := by rw [eg5, hv_up_ne _ _ (hv_ne hb4 h14 (by simp))]; exact hb4
          have h19 : g17 ca = some (.inl (cA 3, n, .inr (.inr (.inr (.inr gc))))) := by rw [eg5, hv_up_ne _ _ (hv_ne h13 h14 (by simp))]; exact h13
          have h20 : g17 qs = some (.inl (cA 0, 4, .inl gs)) := by rw [eg5, hv_up_ne _ _ (Ne.symm hxqs)]; exact h15
          have h21 : g17 qt = some (.inl (cA 0, 4, .inl hs)) := by rw [eg5, hv_up_ne _ _ (Ne.symm hxqt)]; exact h16
          exact hv_vret hE hr hlocks hI hK (⟨rfl, w1, h1, d, ex, o, t, 0, addS ex o t 0 iv n gp, by simp only [fitF, em, e1, e2, e3, Option.bind_some, hot, hov, ← ew1, ← eh1], h18, hp5, fun z x z1 z2 hz => by rw [eg5, hv_up_ne _ _ z2]; exact hkp z x z1 z2 hz⟩) (by decide) (by decide) d_Box_fit_112
        · skip
          exact absurd c59 c72
      · skip
        refine lv_aload_n hx hb d_Box_fit_62 rfl (lv_at hl 2 rfl) ?_
        refine lv_aload hx hb d_Box_fit_63 (lv_at hl 0 rfl) ?_
        refine hv_V (As := [.ref qt]) (rest := []) hE hml hK hI (c_Box_findTotal l hl0 b0 D cA g12 bx ca pa qt (b2i bel) dp al w1 h1 d ex 0 0 0 hs hb3 h16) cd_Box_findTotal w430 w432 ws10 hb3 rfl rfl hl.1 (Nat.le_of_ble_eq_true rfl) d_Box_fit_65 ⟨by decide, by decide⟩ ⟨by decide, by decide⟩ (fun v9 g22 H locs hp hI => ?_) (fun q9 E9 ce9 g9 H locs hp => hp.elim)
        obtain ⟨hv, o, t, eo, eg4⟩ := hp
        rw [hv]
        refine W.eq (g2 := F0 m 68 ls []) rfl ?_
        have hb4 : g22 bx = some (.inr (1, [.int (b2i bel), .ref ca, .ref pa, .int dp, .int al, .int w1, .int h1, .int d, .int ex, .int o, .int t, .int 0])) := by rw [eg4]; exact hv_up_self _ _ _
        have hit : itsAt g22 n gc iv := hit.keep (fun z x hz => by rw [eg4, hv_up_ne _ _ (hv_ne hz hb3 (itE_box _ _))])
        have hkp : ∀ z x, z ≠ bx → z ≠ pa → f z = some x → g22 z = some x := fun z x z1 z2 hz => by rw [eg4, hv_up_ne _ _ z1]; exact hkp z x z1 z2 hz
        have h23 : g22 ca = some (.inl (cA 3, n, .inr (.inr (.inr (.inr gc))))) := by rw [eg4, hv_up_ne _ _ (hv_ne h13 hb3 (by simp))]; exact h13
        have h24 : g22 pa = some (.inl (cA 0, n, .inl gp)) := by rw [eg4, hv_up_ne _ _ (hv_ne h14 hb3 (by simp))]; exact h14
        have h25 : g22 qs = some (.inl (cA 0, 4, .inl gs)) := by rw [eg4, hv_up_ne _ _ (hv_ne h15 hb3 (by simp))]; exact h15
        have h26 : g22 qt = some (.inl (cA 0, 4, .inl hs)) := by rw [eg4, hv_up_ne _ _ (hv_ne h16 hb3 (by simp))]; exact h16
        have hot : fndF gs hs ex = (o, t) := by rw [fndF, if_neg (Int32.not_lt.mpr c43), if_pos (Int32.not_le.mp c59)]; exact eo
        refine lv_aload_n hx hb d_Box_fit_68 rfl (lv_at hl 2 rfl) ?_
        refine hv_get hE k_Box hI 8 (by decide) w341 hb4 rfl d_Box_fit_69 ?_
        refine lv_if_ge (tgt := 108) hx hb d_Box_fit_72 (by decide) (fun c72 => ?_) (fun c72 => ?_)
        · skip
          exact absurd c72 c59
        · skip
          refine lv_aload_n hx hb d_Box_fit_75 rfl (lv_at hl 2 rfl) ?_
          refine hv_get hE k_Box hI 9 (by decide) w343 hb4 rfl d_Box_fit_76 ?_
          refine lv_if_ne (tgt := 108) hx hb d_Box_fit_79 (by decide) (fun c79 => ?_) (fun c79 => ?_)
          · skip
            have hov : ovF ex o t = 0 := if_neg (fun q => c79 q.2.1)
            refine lv_aload_n hx hb d_Box_fit_108 rfl (lv_at hl 2 rfl) ?_
            refine hv_V (As := []) (rest := []) hE hml hK hI (c_Box_addShares l hl0 b0 D cA g22 bx ca pa n (b2i bel) dp al w1 h1 d ex o t 0 gc gp iv hb4 h23 h24 hit hn) cd_Box_addShares w434 w436 ws11 hb4 rfl rfl hl.1 (Nat.le_of_ble_eq_true rfl) d_Box_fit_109 ⟨by decide, by decide⟩ ⟨by decide, by decide⟩ (fun v9 g27 H locs hp hI => ?_) (fun q9 E9 ce9 g9 H locs hp => hp.elim)
            obtain ⟨hv, eg5⟩ := hp
            rw [hv]
            refine W.eq (g2 := F0 m 112 ls []) rfl ?_
            have hp5 : g27 pa = some (.inl (cA 0, n, .inl (addS ex o t 0 iv n gp))) := by rw [eg5]; exact hv_up_self _ _ _
            have h28 : g27 bx = some (.inr (1, [.int (b2i bel), .ref ca, .ref pa, .int dp, .int al, .int w1, .int h1, .int d, .int ex, .int o, .int t, .int 0])) := by rw [eg5, hv_up_ne _ _ (hv_ne hb4 h24 (by simp))]; exact hb4
            have h29 : g27 ca = some (.inl (cA 3, n, .inr (.inr (.inr (.inr gc))))) := by rw [eg5, hv_up_ne _ _ (hv_ne h23 h24 (by simp))]; exact h23
            have h30 : g27 qs = some (.inl (cA 0, 4, .inl gs)) := by rw [eg5, hv_up_ne _ _ (Ne.symm hxqs)]; exact h25
            have h31 : g27 qt = some (.inl (cA 0, 4, .inl hs)) := by rw [eg5, hv_up_ne _ _ (Ne.symm hxqt)]; exact h26
            exact hv_vret hE hr hlocks hI hK (⟨rfl, w1, h1, d, ex, o, t, 0, addS ex o t 0 iv n gp, by simp only [fitF, em, e1, e2, e3, Option.bind_some, hot, hov, ← ew1, ← eh1], h28, hp5, fun z x z1 z2 hz => by rw [eg5, hv_up_ne _ _ z2]; exact hkp z x z1 z2 hz⟩) (by decide) (by decide) d_Box_fit_112
          · skip
            refine lv_aload_n hx hb d_Box_fit_82 rfl (lv_at hl 2 rfl) ?_
            refine hv_get hE k_Box hI 10 (by decide) w345 hb4 rfl d_Box_fit_83 ?_
            refine lv_aload_n hx hb d_Box_fit_86 rfl (lv_at hl 2 rfl) ?_
            refine hv_get hE k_Box hI 8 (by decide) w341 hb4 rfl d_Box_fit_87 ?_
            refine lv_ineg hx hb d_Box_fit_90 ?_
            refine lv_icmp_ge (tgt := 108) hx hb d_Box_fit_91 (by decide) (fun c91 => ?_) (fun c91 => ?_)
            · skip
              have hov : ovF ex o t = 0 := if_neg (fun q => Int32.not_lt.mpr c91 q.2.2)
              refine lv_aload_n hx hb d_Box_fit_108 rfl (lv_at hl 2 rfl) ?_
              refine hv_V (As := []) (rest := []) hE hml hK hI (c_Box_addShares l hl0 b0 D cA g22 bx ca pa n (b2i bel) dp al w1 h1 d ex o t 0 gc gp iv hb4 h23 h24 hit hn) cd_Box_addShares w434 w436 ws11 hb4 rfl rfl hl.1 (Nat.le_of_ble_eq_true rfl) d_Box_fit_109 ⟨by decide, by decide⟩ ⟨by decide, by decide⟩ (fun v9 g32 H locs hp hI => ?_) (fun q9 E9 ce9 g9 H locs hp => hp.elim)
              obtain ⟨hv, eg5⟩ := hp
              rw [hv]
              refine W.eq (g2 := F0 m 112 ls []) rfl ?_
              have hp5 : g32 pa = some (.inl (cA 0, n, .inl (addS ex o t 0 iv n gp))) := by rw [eg5]; exact hv_up_self _ _ _
              have h33 : g32 bx = some (.inr (1, [.int (b2i bel), .ref ca, .ref pa, .int dp, .int al, .int w1, .int h1, .int d, .int ex, .int o, .int t, .int 0])) := by rw [eg5, hv_up_ne _ _ (hv_ne hb4 h24 (by simp))]; exact hb4
              have h34 : g32 ca = some (.inl (cA 3, n, .inr (.inr (.inr (.inr gc))))) := by rw [eg5, hv_up_ne _ _ (hv_ne h23 h24 (by simp))]; exact h23
              have h35 : g32 qs = some (.inl (cA 0, 4, .inl gs)) := by rw [eg5, hv_up_ne _ _ (Ne.symm hxqs)]; exact h25
              have h36 : g32 qt = some (.inl (cA 0, 4, .inl hs)) := by rw [eg5, hv_up_ne _ _ (Ne.symm hxqt)]; exact h26
              exact hv_vret hE hr hlocks hI hK (⟨rfl, w1, h1, d, ex, o, t, 0, addS ex o t 0 iv n gp, by simp only [fitF, em, e1, e2, e3, Option.bind_some, hot, hov, ← ew1, ← eh1], h33, hp5, fun z x z1 z2 hz => by rw [eg5, hv_up_ne _ _ z2]; exact hkp z x z1 z2 hz⟩) (by decide) (by decide) d_Box_fit_112
            · skip
              have hov : ovF ex o t = -ex - t := if_pos ⟨Int32.not_le.mp c72, c79, Int32.not_le.mp c91⟩
              refine lv_aload_n hx hb d_Box_fit_94 rfl (lv_at hl 2 rfl) ?_
              refine lv_aload_n hx hb d_Box_fit_95 rfl (lv_at hl 2 rfl) ?_
              refine hv_get hE k_Box hI 8 (by decide) w341 hb4 rfl d_Box_fit_96 ?_
              refine lv_ineg hx hb d_Box_fit_99 ?_
              refine lv_aload_n hx hb d_Box_fit_100 rfl (lv_at hl 2 rfl) ?_
              refine hv_get hE k_Box hI 10 (by decide) w345 hb4 rfl d_Box_fit_101 ?_
              refine lv_isub hx hb d_Box_fit_104 ?_
              refine hv_put hE k_Box hI 11 (by decide) w347 hb4 rfl rfl rfl (Nat.le_of_ble_eq_true rfl) d_Box_fit_105 (fun H locs hI => ?_)
              obtain ⟨g37, eg37⟩ : ∃ z : hv_M, z = hv_up g22 bx (.inr (1, [.int (b2i bel), .ref ca, .ref pa, .int dp, .int al, .int w1, .int h1, .int d, .int ex, .int o, .int t, .int ((-ex) - t)])) := ⟨_, rfl⟩
              have hI : hv_I D CL b0 g37 s.heap H locs := by rw [eg37]; exact hI
              have h38 : g37 bx = some (.inr (1, [.int (b2i bel), .ref ca, .ref pa, .int dp, .int al, .int w1, .int h1, .int d, .int ex, .int o, .int t, .int ((-ex) - t)])) := by rw [eg37]; exact hv_up_self _ _ _
              have h39 : g37 ca = some (.inl (cA 3, n, .inr (.inr (.inr (.inr gc))))) := by rw [eg37]; rw [hv_up_ne _ _ (hv_ne h23 hb4 (by simp))]; exact h23
              have h40 : g37 pa = some (.inl (cA 0, n, .inl gp)) := by rw [eg37]; rw [hv_up_ne _ _ (hv_ne h24 hb4 (by simp))]; exact h24
              have h41 : g37 qs = some (.inl (cA 0, 4, .inl gs)) := by rw [eg37]; rw [hv_up_ne _ _ (hv_ne h25 hb4 (by simp))]; exact h25
              have h42 : g37 qt = some (.inl (cA 0, 4, .inl hs)) := by rw [eg37]; rw [hv_up_ne _ _ (hv_ne h26 hb4 (by simp))]; exact h26
              refine lv_aload_n hx hb d_Box_fit_108 rfl (lv_at hl 2 rfl) ?_
              have hit : itsAt g37 n gc iv := hit.keep (fun z x hz => by rw [eg37, hv_up_ne _ _ (hv_ne hz hb4 (itE_box _ _))])
              have hkp : ∀ z x, z ≠ bx → z ≠ pa → f z = some x → g37 z = some x := fun z x z1 z2 hz => by rw [eg37, hv_up_ne _ _ z1]; exact hkp z x z1 z2 hz
              refine hv_V (As := []) (rest := []) hE hml hK hI (c_Box_addShares l hl0 b0 D cA g37 bx ca pa n (b2i bel) dp al w1 h1 d ex o t ((-ex) - t) gc gp iv h38 h39 h40 hit hn) cd_Box_addShares w434 w436 ws11 h38 rfl rfl hl.1 (Nat.le_of_ble_eq_true rfl) d_Box_fit_109 ⟨by decide, by decide⟩ ⟨by decide, by decide⟩ (fun v9 g43 H locs hp hI => ?_) (fun q9 E9 ce9 g9 H locs hp => hp.elim)
              obtain ⟨hv, eg5⟩ := hp
              rw [hv]
              refine W.eq (g2 := F0 m 112 ls []) rfl ?_
              have hp5 : g43 pa = some (.inl (cA 0, n, .inl (addS ex o t ((-ex) - t) iv n gp))) := by rw [eg5]; exact hv_up_self _ _ _
              have h44 : g43 bx = some (.inr (1, [.int (b2i bel), .ref ca, .ref pa, .int dp, .int al, .int w1, .int h1, .int d, .int ex, .int o, .int t, .int ((-ex) - t)])) := by rw [eg5, hv_up_ne _ _ (hv_ne h38 h40 (by simp))]; exact h38
              have h45 : g43 ca = some (.inl (cA 3, n, .inr (.inr (.inr (.inr gc))))) := by rw [eg5, hv_up_ne _ _ (hv_ne h39 h40 (by simp))]; exact h39
              have h46 : g43 qs = some (.inl (cA 0, 4, .inl gs)) := by rw [eg5, hv_up_ne _ _ (Ne.symm hxqs)]; exact h41
              have h47 : g43 qt = some (.inl (cA 0, 4, .inl hs)) := by rw [eg5, hv_up_ne _ _ (Ne.symm hxqt)]; exact h42
              exact hv_vret hE hr hlocks hI hK (⟨rfl, w1, h1, d, ex, o, t, (-ex) - t, addS ex o t ((-ex) - t) iv n gp, by simp only [fitF, em, e1, e2, e3, Option.bind_some, hot, hov, ← ew1, ← eh1], h44, hp5, fun z x z1 z2 hz => by rw [eg5, hv_up_ne _ _ z2]; exact hkp z x z1 z2 hz⟩) (by decide) (by decide) d_Box_fit_112
    · skip
      refine lv_aload_n hx hb d_Box_fit_46 rfl (lv_at hl 2 rfl) ?_
      refine lv_aload hx hb d_Box_fit_47 (lv_at hl 1 rfl) ?_
      refine hv_V (As := [.ref qs]) (rest := []) hE hml hK hI (c_Box_findTotal l hl0 b0 D cA g12 bx ca pa qs (b2i bel) dp al w1 h1 d ex 0 0 0 gs hb3 h15) cd_Box_findTotal w430 w432 ws10 hb3 rfl rfl hl.1 (Nat.le_of_ble_eq_true rfl) d_Box_fit_49 ⟨by decide, by decide⟩ ⟨by decide, by decide⟩ (fun v9 g48 H locs hp hI => ?_) (fun q9 E9 ce9 g9 H locs hp => hp.elim)
      obtain ⟨hv, o, t, eo, eg4⟩ := hp
      rw [hv]
      refine W.eq (g2 := F0 m 52 ls []) rfl ?_
      have hb4 : g48 bx = some (.inr (1, [.int (b2i bel), .ref ca, .ref pa, .int dp, .int al, .int w1, .int h1, .int d, .int ex, .int o, .int t, .int 0])) := by rw [eg4]; exact hv_up_self _ _ _
      have hit : itsAt g48 n gc iv := hit.keep (fun z x hz => by rw [eg4, hv_up_ne _ _ (hv_ne hz hb3 (itE_box _ _))])
      have hkp : ∀ z x, z ≠ bx → z ≠ pa → f z = some x → g48 z = some x := fun z x z1 z2 hz => by rw [eg4, hv_up_ne _ _ z1]; exact hkp z x z1 z2 hz
      have h49 : g48 ca = some (.inl (cA 3, n, .inr (.inr (.inr (.inr gc))))) := by rw [eg4, hv_up_ne _ _ (hv_ne h13 hb3 (by simp))]; exact h13
      have h50 : g48 pa = some (.inl (cA 0, n, .inl gp)) := by rw [eg4, hv_up_ne _ _ (hv_ne h14 hb3 (by simp))]; exact h14
      have h51 : g48 qs = some (.inl (cA 0, 4, .inl gs)) := by rw [eg4, hv_up_ne _ _ (hv_ne h15 hb3 (by simp))]; exact h15
      have h52 : g48 qt = some (.inl (cA 0, 4, .inl hs)) := by rw [eg4, hv_up_ne _ _ (hv_ne h16 hb3 (by simp))]; exact h16
      have hot : fndF gs hs ex = (o, t) := by rw [fndF, if_pos (Int32.not_le.mp c43)]; exact eo
      refine lv_goto (tgt := 68) hx hb d_Box_fit_52 (by decide) ?_
      refine lv_aload_n hx hb d_Box_fit_68 rfl (lv_at hl 2 rfl) ?_
      refine hv_get hE k_Box hI 8 (by decide) w341 hb4 rfl d_Box_fit_69 ?_
      refine lv_if_ge (tgt := 108) hx hb d_Box_fit_72 (by decide) (fun c72 => ?_) (fun c72 => ?_)
      · skip
        have hov : ovF ex o t = 0 := if_neg (fun q => Int32.not_lt.mpr c72 q.1)
        refine lv_aload_n hx hb d_Box_fit_108 rfl (lv_at hl 2 rfl) ?_
        refine hv_V (As := []) (rest := []) hE hml hK hI (c_Box_addShares l hl0 b0 D cA g48 bx ca pa n (b2i bel) dp al w1 h1 d ex o t 0 gc gp iv hb4 h49 h50 hit hn) cd_Box_addShares w434 w436 ws11 hb4 rfl rfl hl.1 (Nat.le_of_ble_eq_true rfl) d_Box_fit_109 ⟨by decide, by decide⟩ ⟨by decide, by decide⟩ (fun v9 g53 H locs hp hI => ?_) (fun q9 E9 ce9 g9 H locs hp => hp.elim)
        obtain ⟨hv, eg5⟩ := hp
        rw [hv]
        refine W.eq (g2 := F0 m 112 ls []) rfl ?_
        have hp5 : g53 pa = some (.inl (cA 0, n, .inl (addS ex o t 0 iv n gp))) := by rw [eg5]; exact hv_up_self _ _ _
        have h54 : g53 bx = some (.inr (1, [.int (b2i bel), .ref ca, .ref pa, .int dp, .int al, .int w1, .int h1, .int d, .int ex, .int o, .int t, .int 0])) := by rw [eg5, hv_up_ne _ _ (hv_ne hb4 h50 (by simp))]; exact hb4
        have h55 : g53 ca = some (.inl (cA 3, n, .inr (.inr (.inr (.inr gc))))) := by rw [eg5, hv_up_ne _ _ (hv_ne h49 h50 (by simp))]; exact h49
        have h56 : g53 qs = some (.inl (cA 0, 4, .inl gs)) := by rw [eg5, hv_up_ne _ _ (Ne.symm hxqs)]; exact h51
        have h57 : g53 qt = some (.inl (cA 0, 4, .inl hs)) := by rw [eg5, hv_up_ne _ _ (Ne.symm hxqt)]; exact h52
        exact hv_vret hE hr hlocks hI hK (⟨rfl, w1, h1, d, ex, o, t, 0, addS ex o t 0 iv n gp, by simp only [fitF, em, e1, e2, e3, Option.bind_some, hot, hov, ← ew1, ← eh1], h54, hp5, fun z x z1 z2 hz => by rw [eg5, hv_up_ne _ _ z2]; exact hkp z x z1 z2 hz⟩) (by decide) (by decide) d_Box_fit_112
      · skip
        exact absurd (Int32.le_of_lt (Int32.not_le.mp c43)) c72
  · skip
    have hbl : bel = true := by cases hb9 : bel with | true => rfl | false => exact absurd (by rw [hb9]; rfl) c4
    refine lv_aload_n hx hb d_Box_fit_7 rfl (lv_at hl 0 rfl) ?_
    refine lv_iload_n hx hb d_Box_fit_8 rfl (lv_at hl 3 rfl) ?_
    refine hv_V (As := [.int gr]) (rest := []) hE hml hK hI (c_Box_measureBelow l hl0 b0 D cA f bx ca pa n (b2i bel) dp al 0 0 0 0 gr gc (fun _ => 0) iv hbx hca hpa hit hn) cd_Box_measureBelow w380 w382 ws4 hbx rfl rfl hl.1 (Nat.le_of_ble_eq_true rfl) d_Box_fit_9 ⟨by decide, by decide⟩ ⟨by decide, by decide⟩ (fun v9 g58 H locs hp hI => ?_) (fun q9 E9 ce9 g9 H locs hp hI hce hcv hcl => ?_)
    rotate_left
    · skip
      obtain ⟨hE9, em, hk9⟩ := hp
      rw [hE9] at hcl
      exact hv_out hout hlocks hI hK hce hcv hcl ⟨rfl, by simp only [fitF, measF, if_pos hbl, em, Option.bind_none], fun z x z1 z2 hz => by rw [hk9 z z1 z2]; exact hz⟩ (by decide) (by decide)
    obtain ⟨hv, w, h, d, gp, em, hb9, hp9, ho9⟩ := hp
    rw [hv]
    refine W.eq (g2 := F0 m 12 ls []) rfl ?_
    have em : measF bel gr iv n = some (w, h, d, gp) := by rw [measF, if_pos hbl]; exact em
    have hit : itsAt g58 n gc iv := hit.keep (fun z x hz => ho9 z (hv_ne hz hbx (itE_box _ _)) (hv_ne hz hpa (itE_arr _ _)))
    have hkp : ∀ z x, z ≠ bx → z ≠ pa → f z = some x → g58 z = some x := fun z x z1 z2 hz => by rw [ho9 z z1 z2]; exact hz
    have h59 : g58 ca = some (.inl (cA 3, n, .inr (.inr (.inr (.inr gc))))) := by rw [ho9 ca (hv_ne hca hbx (by simp)) (hv_ne hca hpa (by simp))]; exact hca
    refine lv_goto (tgt := 19) hx hb d_Box_fit_12 (by decide) ?_
    refine lv_aload_n hx hb d_Box_fit_19 rfl (lv_at hl 0 rfl) ?_
    refine lv_iconst (v := 0) hx hb d_Box_fit_20 (by decide) ?_
    refine hv_V (As := [.int 0]) (rest := []) hE hml hK hI (c_Box_gives l hl0 b0 D cA g58 bx ca pa n (b2i bel) dp al w h d 0 0 0 0 false gc iv hb9 h59 hit hor hn) cd_Box_gives w414 w416 ws6 hb9 rfl rfl hl.1 (Nat.le_of_ble_eq_true rfl) d_Box_fit_21 ⟨by decide, by decide⟩ ⟨by decide, by decide⟩ (fun v9 g60 H locs hp hI => ?_) (fun q9 E9 ce9 g9 H locs hp hI hce hcv hcl => ?_)
    rotate_left
    · skip
      obtain ⟨hE9, e9, hk9⟩ := hp
      rw [hE9] at hcl
      exact hv_out hout hlocks hI hK hce hcv hcl ⟨rfl, by simp only [fitF, em, e9, Option.bind_none, Option.bind_some], fun z x z1 z2 hz => hk9 z x (hkp z x z1 z2 hz)⟩ (by decide) (by decide)
    obtain ⟨qs, gs, hv, hnqs, e1, egqs⟩ := hp
    rw [hv]
    refine W.eq (g2 := F0 m 24 ls [.ref qs]) rfl ?_
    have hit : itsAt g60 n gc iv := hit.keep (fun z x hz => by rw [egqs, hv_up_ne _ _ (hv_nn hz hnqs)])
    have hkp : ∀ z x, z ≠ bx → z ≠ pa → f z = some x → g60 z = some x := fun z x z1 z2 hz => by rw [egqs, hv_up_ne _ _ (hv_nn (hkp z x z1 z2 hz) hnqs)]; exact hkp z x z1 z2 hz
    have hxqs : pa ≠ qs := hv_nn hp9 hnqs
    have hgqs : g60 qs = some (.inl (cA 0, 4, .inl gs)) := by rw [egqs]; exact hv_up_self _ _ _
    have h61 : g60 bx = some (.inr (1, [.int (b2i bel), .ref ca, .ref pa, .int dp, .int al, .int w, .int h, .int d, .int 0, .int 0, .int 0, .int 0])) := by rw [egqs, hv_up_ne _ _ (hv_nn hb9 hnqs)]; exact hb9
    have h62 : g60 ca = some (.inl (cA 3, n, .inr (.inr (.inr (.inr gc))))) := by rw [egqs, hv_up_ne _ _ (hv_nn h59 hnqs)]; exact h59
    have h63 : g60 pa = some (.inl (cA 0, n, .inl gp)) := by rw [egqs, hv_up_ne _ _ (hv_nn hp9 hnqs)]; exact hp9
    refine lv_astore (lv' := [(4, .ref qs), (0, .ref bx), (1, .int how), (2, .int size), (3, .int gr)]) hx hb d_Box_fit_24 hl (by decide) rfl (fun ls hl => ?_)
    refine lv_aload_n hx hb d_Box_fit_26 rfl (lv_at hl 1 rfl) ?_
    refine lv_iconst (v := 1) hx hb d_Box_fit_27 (by decide) ?_
    refine hv_V (As := [.int 1]) (rest := []) hE hml hK hI (c_Box_gives l hl0 b0 D cA g60 bx ca pa n (b2i bel) dp al w h d 0 0 0 0 true gc iv h61 h62 hit hor hn) cd_Box_gives w414 w416 ws6 h61 rfl rfl hl.1 (Nat.le_of_ble_eq_true rfl) d_Box_fit_28 ⟨by decide, by decide⟩ ⟨by decide, by decide⟩ (fun v9 g64 H locs hp hI => ?_) (fun q9 E9 ce9 g9 H locs hp hI hce hcv hcl => ?_)
    rotate_left
    · skip
      obtain ⟨hE9, e9, hk9⟩ := hp
      rw [hE9] at hcl
      exact hv_out hout hlocks hI hK hce hcv hcl ⟨rfl, by simp only [fitF, em, e1, e9, Option.bind_none, Option.bind_some], fun z x z1 z2 hz => hk9 z x (hkp z x z1 z2 hz)⟩ (by decide) (by decide)
    obtain ⟨qt, hs, hv, hnqt, e2, egqt⟩ := hp
    rw [hv]
    refine W.eq (g2 := F0 m 31 ls [.ref qt]) rfl ?_
    have hit : itsAt g64 n gc iv := hit.keep (fun z x hz => by rw [egqt, hv_up_ne _ _ (hv_nn hz hnqt)])
    have hkp : ∀ z x, z ≠ bx → z ≠ pa → f z = some x → g64 z = some x := fun z x z1 z2 hz => by rw [egqt, hv_up_ne _ _ (hv_nn (hkp z x z1 z2 hz) hnqt)]; exact hkp z x z1 z2 hz
    have hxqt : pa ≠ qt := hv_nn h63 hnqt
    have hgqt : g64 qt = some (.inl (cA 0, 4, .inl hs)) := by rw [egqt]; exact hv_up_self _ _ _
    have hyq : qs ≠ qt := hv_nn hgqs hnqt
    have h65 : g64 bx = some (.inr (1, [.int (b2i bel), .ref ca, .ref pa, .int dp, .int al, .int w, .int h, .int d, .int 0, .int 0, .int 0, .int 0])) := by rw [egqt, hv_up_ne _ _ (hv_nn h61 hnqt)]; exact h61
    have h66 : g64 ca = some (.inl (cA 3, n, .inr (.inr (.inr (.inr gc))))) := by rw [egqt, hv_up_ne _ _ (hv_nn h62 hnqt)]; exact h62
    have h67 : g64 pa = some (.inl (cA 0, n, .inl gp)) := by rw [egqt, hv_up_ne _ _ (hv_nn h63 hnqt)]; exact h63
    have h68 : g64 qs = some (.inl (cA 0, 4, .inl gs)) := by rw [egqt, hv_up_ne _ _ (hv_nn hgqs hnqt)]; exact hgqs
    refine lv_astore (lv' := [(5, .ref qt), (4, .ref qs), (0, .ref bx), (1, .int how), (2, .int size), (3, .int gr)]) hx hb d_Box_fit_31 hl (by decide) rfl (fun ls hl => ?_)
    refine lv_aload_n hx hb d_Box_fit_33 rfl (lv_at hl 2 rfl) ?_
    refine lv_iload_n hx hb d_Box_fit_34 rfl (lv_at hl 3 rfl) ?_
    refine lv_iload_n hx hb d_Box_fit_35 rfl (lv_at hl 4 rfl) ?_
    refine hv_V (As := [.int how, .int size]) (rest := []) hE hml hK hI (c_Box_fillUp l hl0 b0 D cA g64 bx ca pa bel dp al w h d 0 0 0 how size h65) cd_Box_fillUp w426 w428 ws9 h65 rfl rfl hl.1 (Nat.le_of_ble_eq_true rfl) d_Box_fit_36 ⟨by decide, by decide⟩ ⟨by decide, by decide⟩ (fun v9 g69 H locs hp hI => ?_) (fun q9 E9 ce9 g9 H locs hp hI hce hcv hcl => ?_)
    rotate_left
    · skip
      obtain ⟨hE9, e9, hk9⟩ := hp
      rw [hE9] at hcl
      exact hv_out hout hlocks hI hK hce hcv hcl ⟨rfl, by simp only [fitF, em, e1, e2, e9, Option.bind_none, Option.bind_some], fun z x z1 z2 hz => by rw [hk9 z z1]; exact hkp z x z1 z2 hz⟩ (by decide) (by decide)
    obtain ⟨hv, ex, ln, e3, eg3⟩ := hp
    rw [hv]
    refine W.eq (g2 := F0 m 39 ls []) rfl ?_
    obtain ⟨w1, ew1⟩ : ∃ z : Int32, z = if bel = true then w else ln := ⟨_, rfl⟩
    obtain ⟨h1, eh1⟩ : ∃ z : Int32, z = if bel = true then ln else h := ⟨_, rfl⟩
    rw [← ew1, ← eh1] at eg3
    have hb3 : g69 bx = some (.inr (1, [.int (b2i bel), .ref ca, .ref pa, .int dp, .int al, .int w1, .int h1, .int d, .int ex, .int 0, .int 0, .int 0])) := by rw [eg3]; exact hv_up_self _ _ _
    have hit : itsAt g69 n gc iv := hit.keep (fun z x hz => by rw [eg3, hv_up_ne _ _ (hv_ne hz h65 (itE_box _ _))])
    have hkp : ∀ z x, z ≠ bx → z ≠ pa → f z = some x → g69 z = some x := fun z x z1 z2 hz => by rw [eg3, hv_up_ne _ _ z1]; exact hkp z x z1 z2 hz
    have h70 : g69 ca = some (.inl (cA 3, n, .inr (.inr (.inr (.inr gc))))) := by rw [eg3, hv_up_ne _ _ (hv_ne h66 h65 (by simp))]; exact h66
    have h71 : g69 pa = some (.inl (cA 0, n, .inl gp)) := by rw [eg3, hv_up_ne _ _ (hv_ne h67 h65 (by simp))]; exact h67
    have h72 : g69 qs = some (.inl (cA 0, 4, .inl gs)) := by rw [eg3, hv_up_ne _ _ (hv_ne h68 h65 (by simp))]; exact h68
    have h73 : g69 qt = some (.inl (cA 0, 4, .inl hs)) := by rw [eg3, hv_up_ne _ _ (hv_ne hgqt h65 (by simp))]; exact hgqt
    refine lv_aload_n hx hb d_Box_fit_39 rfl (lv_at hl 2 rfl) ?_
    refine hv_get hE k_Box hI 8 (by decide) w341 hb3 rfl d_Box_fit_40 ?_
    refine lv_if_le (tgt := 55) hx hb d_Box_fit_43 (by decide) (fun c43 => ?_) (fun c43 => ?_)
    · skip
      refine lv_aload_n hx hb d_Box_fit_55 rfl (lv_at hl 2 rfl) ?_
      refine hv_get hE k_Box hI 8 (by decide) w341 hb3 rfl d_Box_fit_56 ?_
      refine lv_if_ge (tgt := 68) hx hb d_Box_fit_59 (by decide) (fun c59 => ?_) (fun c59 => ?_)
      · skip
        obtain ⟨o, t, eo, et, hot⟩ : ∃ o t : Int32, o = 0 ∧ t = 0 ∧ fndF gs hs ex = (o, t) := ⟨0, 0, rfl, rfl, by rw [fndF, if_neg (Int32.not_lt.mpr c43), if_neg (Int32.not_lt.mpr c59)]⟩
        have hb4 : g69 bx = some (.inr (1, [.int (b2i bel), .ref ca, .ref pa, .int dp, .int al, .int w1, .int h1, .int d, .int ex, .int o, .int t, .int 0])) := by rw [eo, et]; exact hb3
        refine lv_aload_n hx hb d_Box_fit_68 rfl (lv_at hl 2 rfl) ?_
        refine hv_get hE k_Box hI 8 (by decide) w341 hb4 rfl d_Box_fit_69 ?_
        refine lv_if_ge (tgt := 108) hx hb d_Box_fit_72 (by decide) (fun c72 => ?_) (fun c72 => ?_)
        · skip
          have hov : ovF ex o t = 0 := if_neg (fun q => Int32.not_lt.mpr c72 q.1)
          refine lv_aload_n hx hb d_Box_fit_108 rfl (lv_at hl 2 rfl) ?_
          refine hv_V (As := []) (rest := []) hE hml hK hI (c_Box_addShares l hl0 b0 D cA g69 bx ca pa n (b2i bel) dp al w1 h1 d ex o t 0 gc gp iv hb4 h70 h71 hit hn) cd_Box_addShares w434 w436 ws11 hb4 rfl rfl hl.1 (Nat.le_of_ble_eq_true rfl) d_Box_fit_109 ⟨by decide, by decide⟩ ⟨by decide, by decide⟩ (fun v9 g74 H locs hp hI => ?_) (fun q9 E9 ce9 g9 H locs hp => hp.elim)
          obtain ⟨hv, eg5⟩ := hp
          rw [hv]
          refine W.eq (g2 := F0 m 112 ls []) rfl ?_
          have hp5 : g74 pa = some (.inl (cA 0, n, .inl (addS ex o t 0 iv n gp))) := by rw [eg5]; exact hv_up_self _ _ _
          have h75 : g74 bx = some (.inr (1, [.int (b2i bel), .ref ca, .ref pa, .int dp, .int al, .int w1, .int h1, .int d, .int ex, .int o, .int t, .int 0])) := by rw [eg5, hv_up_ne _ _ (hv_ne hb4 h71 (by simp))]; exact hb4
          have h76 : g74 ca = some (.inl (cA 3, n, .inr (.inr (.inr (.inr gc))))) := by rw [eg5, hv_up_ne _ _ (hv_ne h70 h71 (by simp))]; exact h70
          have h77 : g74 qs = some (.inl (cA 0, 4, .inl gs)) := by rw [eg5, hv_up_ne _ _ (Ne.symm hxqs)]; exact h72
          have h78 : g74 qt = some (.inl (cA 0, 4, .inl hs)) := by rw [eg5, hv_up_ne _ _ (Ne.symm hxqt)]; exact h73
          exact hv_vret hE hr hlocks hI hK (⟨rfl, w1, h1, d, ex, o, t, 0, addS ex o t 0 iv n gp, by simp only [fitF, em, e1, e2, e3, Option.bind_some, hot, hov, ← ew1, ← eh1], h75, hp5, fun z x z1 z2 hz => by rw [eg5, hv_up_ne _ _ z2]; exact hkp z x z1 z2 hz⟩) (by decide) (by decide) d_Box_fit_112
        · skip
          exact absurd c59 c72
      · skip
        refine lv_aload_n hx hb d_Box_fit_62 rfl (lv_at hl 2 rfl) ?_
        refine lv_aload hx hb d_Box_fit_63 (lv_at hl 0 rfl) ?_
        refine hv_V (As := [.ref qt]) (rest := []) hE hml hK hI (c_Box_findTotal l hl0 b0 D cA g69 bx ca pa qt (b2i bel) dp al w1 h1 d ex 0 0 0 hs hb3 h73) cd_Box_findTotal w430 w432 ws10 hb3 rfl rfl hl.1 (Nat.le_of_ble_eq_true rfl) d_Box_fit_65 ⟨by decide, by decide⟩ ⟨by decide, by decide⟩ (fun v9 g79 H locs hp hI => ?_) (fun q9 E9 ce9 g9 H locs hp => hp.elim)
        obtain ⟨hv, o, t, eo, eg4⟩ := hp
        rw [hv]
        refine W.eq (g2 := F0 m 68 ls []) rfl ?_
        have hb4 : g79 bx = some (.inr (1, [.int (b2i bel), .ref ca, .ref pa, .int dp, .int al, .int w1, .int h1, .int d, .int ex, .int o, .int t, .int 0])) := by rw [eg4]; exact hv_up_self _ _ _
        have hit : itsAt g79 n gc iv := hit.keep (fun z x hz => by rw [eg4, hv_up_ne _ _ (hv_ne hz hb3 (itE_box _ _))])
        have hkp : ∀ z x, z ≠ bx → z ≠ pa → f z = some x → g79 z = some x := fun z x z1 z2 hz => by rw [eg4, hv_up_ne _ _ z1]; exact hkp z x z1 z2 hz
        have h80 : g79 ca = some (.inl (cA 3, n, .inr (.inr (.inr (.inr gc))))) := by rw [eg4, hv_up_ne _ _ (hv_ne h70 hb3 (by simp))]; exact h70
        have h81 : g79 pa = some (.inl (cA 0, n, .inl gp)) := by rw [eg4, hv_up_ne _ _ (hv_ne h71 hb3 (by simp))]; exact h71
        have h82 : g79 qs = some (.inl (cA 0, 4, .inl gs)) := by rw [eg4, hv_up_ne _ _ (hv_ne h72 hb3 (by simp))]; exact h72
        have h83 : g79 qt = some (.inl (cA 0, 4, .inl hs)) := by rw [eg4, hv_up_ne _ _ (hv_ne h73 hb3 (by simp))]; exact h73
        have hot : fndF gs hs ex = (o, t) := by rw [fndF, if_neg (Int32.not_lt.mpr c43), if_pos (Int32.not_le.mp c59)]; exact eo
        refine lv_aload_n hx hb d_Box_fit_68 rfl (lv_at hl 2 rfl) ?_
        refine hv_get hE k_Box hI 8 (by decide) w341 hb4 rfl d_Box_fit_69 ?_
        refine lv_if_ge (tgt := 108) hx hb d_Box_fit_72 (by decide) (fun c72 => ?_) (fun c72 => ?_)
        · skip
          exact absurd c72 c59
        · skip
          refine lv_aload_n hx hb d_Box_fit_75 rfl (lv_at hl 2 rfl) ?_
          refine hv_get hE k_Box hI 9 (by decide) w343 hb4 rfl d_Box_fit_76 ?_
          refine lv_if_ne (tgt := 108) hx hb d_Box_fit_79 (by decide) (fun c79 => ?_) (fun c79 => ?_)
          · skip
            have hov : ovF ex o t = 0 := if_neg (fun q => c79 q.2.1)
            refine lv_aload_n hx hb d_Box_fit_108 rfl (lv_at hl 2 rfl) ?_
            refine hv_V (As := []) (rest := []) hE hml hK hI (c_Box_addShares l hl0 b0 D cA g79 bx ca pa n (b2i bel) dp al w1 h1 d ex o t 0 gc gp iv hb4 h80 h81 hit hn) cd_Box_addShares w434 w436 ws11 hb4 rfl rfl hl.1 (Nat.le_of_ble_eq_true rfl) d_Box_fit_109 ⟨by decide, by decide⟩ ⟨by decide, by decide⟩ (fun v9 g84 H locs hp hI => ?_) (fun q9 E9 ce9 g9 H locs hp => hp.elim)
            obtain ⟨hv, eg5⟩ := hp
            rw [hv]
            refine W.eq (g2 := F0 m 112 ls []) rfl ?_
            have hp5 : g84 pa = some (.inl (cA 0, n, .inl (addS ex o t 0 iv n gp))) := by rw [eg5]; exact hv_up_self _ _ _
            have h85 : g84 bx = some (.inr (1, [.int (b2i bel), .ref ca, .ref pa, .int dp, .int al, .int w1, .int h1, .int d, .int ex, .int o, .int t, .int 0])) := by rw [eg5, hv_up_ne _ _ (hv_ne hb4 h81 (by simp))]; exact hb4
            have h86 : g84 ca = some (.inl (cA 3, n, .inr (.inr (.inr (.inr gc))))) := by rw [eg5, hv_up_ne _ _ (hv_ne h80 h81 (by simp))]; exact h80
            have h87 : g84 qs = some (.inl (cA 0, 4, .inl gs)) := by rw [eg5, hv_up_ne _ _ (Ne.symm hxqs)]; exact h82
            have h88 : g84 qt = some (.inl (cA 0, 4, .inl hs)) := by rw [eg5, hv_up_ne _ _ (Ne.symm hxqt)]; exact h83
            exact hv_vret hE hr hlocks hI hK (⟨rfl, w1, h1, d, ex, o, t, 0, addS ex o t 0 iv n gp, by simp only [fitF, em, e1, e2, e3, Option.bind_some, hot, hov, ← ew1, ← eh1], h85, hp5, fun z x z1 z2 hz => by rw [eg5, hv_up_ne _ _ z2]; exact hkp z x z1 z2 hz⟩) (by decide) (by decide) d_Box_fit_112
          · skip
            refine lv_aload_n hx hb d_Box_fit_82 rfl (lv_at hl 2 rfl) ?_
            refine hv_get hE k_Box hI 10 (by decide) w345 hb4 rfl d_Box_fit_83 ?_
            refine lv_aload_n hx hb d_Box_fit_86 rfl (lv_at hl 2 rfl) ?_
            refine hv_get hE k_Box hI 8 (by decide) w341 hb4 rfl d_Box_fit_87 ?_
            refine lv_ineg hx hb d_Box_fit_90 ?_
            refine lv_icmp_ge (tgt := 108) hx hb d_Box_fit_91 (by decide) (fun c91 => ?_) (fun c91 => ?_)
            · skip
              have hov : ovF ex o t = 0 := if_neg (fun q => Int32.not_lt.mpr c91 q.2.2)
              refine lv_aload_n hx hb d_Box_fit_108 rfl (lv_at hl 2 rfl) ?_
              refine hv_V (As := []) (rest := []) hE hml hK hI (c_Box_addShares l hl0 b0 D cA g79 bx ca pa n (b2i bel) dp al w1 h1 d ex o t 0 gc gp iv hb4 h80 h81 hit hn) cd_Box_addShares w434 w436 ws11 hb4 rfl rfl hl.1 (Nat.le_of_ble_eq_true rfl) d_Box_fit_109 ⟨by decide, by decide⟩ ⟨by decide, by decide⟩ (fun v9 g89 H locs hp hI => ?_) (fun q9 E9 ce9 g9 H locs hp => hp.elim)
              obtain ⟨hv, eg5⟩ := hp
              rw [hv]
              refine W.eq (g2 := F0 m 112 ls []) rfl ?_
              have hp5 : g89 pa = some (.inl (cA 0, n, .inl (addS ex o t 0 iv n gp))) := by rw [eg5]; exact hv_up_self _ _ _
              have h90 : g89 bx = some (.inr (1, [.int (b2i bel), .ref ca, .ref pa, .int dp, .int al, .int w1, .int h1, .int d, .int ex, .int o, .int t, .int 0])) := by rw [eg5, hv_up_ne _ _ (hv_ne hb4 h81 (by simp))]; exact hb4
              have h91 : g89 ca = some (.inl (cA 3, n, .inr (.inr (.inr (.inr gc))))) := by rw [eg5, hv_up_ne _ _ (hv_ne h80 h81 (by simp))]; exact h80
              have h92 : g89 qs = some (.inl (cA 0, 4, .inl gs)) := by rw [eg5, hv_up_ne _ _ (Ne.symm hxqs)]; exact h82
              have h93 : g89 qt = some (.inl (cA 0, 4, .inl hs)) := by rw [eg5, hv_up_ne _ _ (Ne.symm hxqt)]; exact h83
              exact hv_vret hE hr hlocks hI hK (⟨rfl, w1, h1, d, ex, o, t, 0, addS ex o t 0 iv n gp, by simp only [fitF, em, e1, e2, e3, Option.bind_some, hot, hov, ← ew1, ← eh1], h90, hp5, fun z x z1 z2 hz => by rw [eg5, hv_up_ne _ _ z2]; exact hkp z x z1 z2 hz⟩) (by decide) (by decide) d_Box_fit_112
            · skip
              have hov : ovF ex o t = -ex - t := if_pos ⟨Int32.not_le.mp c72, c79, Int32.not_le.mp c91⟩
              refine lv_aload_n hx hb d_Box_fit_94 rfl (lv_at hl 2 rfl) ?_
              refine lv_aload_n hx hb d_Box_fit_95 rfl (lv_at hl 2 rfl) ?_
              refine hv_get hE k_Box hI 8 (by decide) w341 hb4 rfl d_Box_fit_96 ?_
              refine lv_ineg hx hb d_Box_fit_99 ?_
              refine lv_aload_n hx hb d_Box_fit_100 rfl (lv_at hl 2 rfl) ?_
              refine hv_get hE k_Box hI 10 (by decide) w345 hb4 rfl d_Box_fit_101 ?_
              refine lv_isub hx hb d_Box_fit_104 ?_
              refine hv_put hE k_Box hI 11 (by decide) w347 hb4 rfl rfl rfl (Nat.le_of_ble_eq_true rfl) d_Box_fit_105 (fun H locs hI => ?_)
              obtain ⟨g94, eg94⟩ : ∃ z : hv_M, z = hv_up g79 bx (.inr (1, [.int (b2i bel), .ref ca, .ref pa, .int dp, .int al, .int w1, .int h1, .int d, .int ex, .int o, .int t, .int ((-ex) - t)])) := ⟨_, rfl⟩
              have hI : hv_I D CL b0 g94 s.heap H locs := by rw [eg94]; exact hI
              have h95 : g94 bx = some (.inr (1, [.int (b2i bel), .ref ca, .ref pa, .int dp, .int al, .int w1, .int h1, .int d, .int ex, .int o, .int t, .int ((-ex) - t)])) := by rw [eg94]; exact hv_up_self _ _ _
              have h96 : g94 ca = some (.inl (cA 3, n, .inr (.inr (.inr (.inr gc))))) := by rw [eg94]; rw [hv_up_ne _ _ (hv_ne h80 hb4 (by simp))]; exact h80
              have h97 : g94 pa = some (.inl (cA 0, n, .inl gp)) := by rw [eg94]; rw [hv_up_ne _ _ (hv_ne h81 hb4 (by simp))]; exact h81
              have h98 : g94 qs = some (.inl (cA 0, 4, .inl gs)) := by rw [eg94]; rw [hv_up_ne _ _ (hv_ne h82 hb4 (by simp))]; exact h82
              have h99 : g94 qt = some (.inl (cA 0, 4, .inl hs)) := by rw [eg94]; rw [hv_up_ne _ _ (hv_ne h83 hb4 (by simp))]; exact h83
              refine lv_aload_n hx hb d_Box_fit_108 rfl (lv_at hl 2 rfl) ?_
              have hit : itsAt g94 n gc iv := hit.keep (fun z x hz => by rw [eg94, hv_up_ne _ _ (hv_ne hz hb4 (itE_box _ _))])
              have hkp : ∀ z x, z ≠ bx → z ≠ pa → f z = some x → g94 z = some x := fun z x z1 z2 hz => by rw [eg94, hv_up_ne _ _ z1]; exact hkp z x z1 z2 hz
              refine hv_V (As := []) (rest := []) hE hml hK hI (c_Box_addShares l hl0 b0 D cA g94 bx ca pa n (b2i bel) dp al w1 h1 d ex o t ((-ex) - t) gc gp iv h95 h96 h97 hit hn) cd_Box_addShares w434 w436 ws11 h95 rfl rfl hl.1 (Nat.le_of_ble_eq_true rfl) d_Box_fit_109 ⟨by decide, by decide⟩ ⟨by decide, by decide⟩ (fun v9 g100 H locs hp hI => ?_) (fun q9 E9 ce9 g9 H locs hp => hp.elim)
              obtain ⟨hv, eg5⟩ := hp
              rw [hv]
              refine W.eq (g2 := F0 m 112 ls []) rfl ?_
              have hp5 : g100 pa = some (.inl (cA 0, n, .inl (addS ex o t ((-ex) - t) iv n gp))) := by rw [eg5]; exact hv_up_self _ _ _
              have h101 : g100 bx = some (.inr (1, [.int (b2i bel), .ref ca, .ref pa, .int dp, .int al, .int w1, .int h1, .int d, .int ex, .int o, .int t, .int ((-ex) - t)])) := by rw [eg5, hv_up_ne _ _ (hv_ne h95 h97 (by simp))]; exact h95
              have h102 : g100 ca = some (.inl (cA 3, n, .inr (.inr (.inr (.inr gc))))) := by rw [eg5, hv_up_ne _ _ (hv_ne h96 h97 (by simp))]; exact h96
              have h103 : g100 qs = some (.inl (cA 0, 4, .inl gs)) := by rw [eg5, hv_up_ne _ _ (Ne.symm hxqs)]; exact h98
              have h104 : g100 qt = some (.inl (cA 0, 4, .inl hs)) := by rw [eg5, hv_up_ne _ _ (Ne.symm hxqt)]; exact h99
              exact hv_vret hE hr hlocks hI hK (⟨rfl, w1, h1, d, ex, o, t, (-ex) - t, addS ex o t ((-ex) - t) iv n gp, by simp only [fitF, em, e1, e2, e3, Option.bind_some, hot, hov, ← ew1, ← eh1], h101, hp5, fun z x z1 z2 hz => by rw [eg5, hv_up_ne _ _ z2]; exact hkp z x z1 z2 hz⟩) (by decide) (by decide) d_Box_fit_112
    · skip
      refine lv_aload_n hx hb d_Box_fit_46 rfl (lv_at hl 2 rfl) ?_
      refine lv_aload hx hb d_Box_fit_47 (lv_at hl 1 rfl) ?_
      refine hv_V (As := [.ref qs]) (rest := []) hE hml hK hI (c_Box_findTotal l hl0 b0 D cA g69 bx ca pa qs (b2i bel) dp al w1 h1 d ex 0 0 0 gs hb3 h72) cd_Box_findTotal w430 w432 ws10 hb3 rfl rfl hl.1 (Nat.le_of_ble_eq_true rfl) d_Box_fit_49 ⟨by decide, by decide⟩ ⟨by decide, by decide⟩ (fun v9 g105 H locs hp hI => ?_) (fun q9 E9 ce9 g9 H locs hp => hp.elim)
      obtain ⟨hv, o, t, eo, eg4⟩ := hp
      rw [hv]
      refine W.eq (g2 := F0 m 52 ls []) rfl ?_
      have hb4 : g105 bx = some (.inr (1, [.int (b2i bel), .ref ca, .ref pa, .int dp, .int al, .int w1, .int h1, .int d, .int ex, .int o, .int t, .int 0])) := by rw [eg4]; exact hv_up_self _ _ _
      have hit : itsAt g105 n gc iv := hit.keep (fun z x hz => by rw [eg4, hv_up_ne _ _ (hv_ne hz hb3 (itE_box _ _))])
      have hkp : ∀ z x, z ≠ bx → z ≠ pa → f z = some x → g105 z = some x := fun z x z1 z2 hz => by rw [eg4, hv_up_ne _ _ z1]; exact hkp z x z1 z2 hz
      have h106 : g105 ca = some (.inl (cA 3, n, .inr (.inr (.inr (.inr gc))))) := by rw [eg4, hv_up_ne _ _ (hv_ne h70 hb3 (by simp))]; exact h70
      have h107 : g105 pa = some (.inl (cA 0, n, .inl gp)) := by rw [eg4, hv_up_ne _ _ (hv_ne h71 hb3 (by simp))]; exact h71
      have h108 : g105 qs = some (.inl (cA 0, 4, .inl gs)) := by rw [eg4, hv_up_ne _ _ (hv_ne h72 hb3 (by simp))]; exact h72
      have h109 : g105 qt = some (.inl (cA 0, 4, .inl hs)) := by rw [eg4, hv_up_ne _ _ (hv_ne h73 hb3 (by simp))]; exact h73
      have hot : fndF gs hs ex = (o, t) := by rw [fndF, if_pos (Int32.not_le.mp c43)]; exact eo
      refine lv_goto (tgt := 68) hx hb d_Box_fit_52 (by decide) ?_
      refine lv_aload_n hx hb d_Box_fit_68 rfl (lv_at hl 2 rfl) ?_
      refine hv_get hE k_Box hI 8 (by decide) w341 hb4 rfl d_Box_fit_69 ?_
      refine lv_if_ge (tgt := 108) hx hb d_Box_fit_72 (by decide) (fun c72 => ?_) (fun c72 => ?_)
      · skip
        have hov : ovF ex o t = 0 := if_neg (fun q => Int32.not_lt.mpr c72 q.1)
        refine lv_aload_n hx hb d_Box_fit_108 rfl (lv_at hl 2 rfl) ?_
        refine hv_V (As := []) (rest := []) hE hml hK hI (c_Box_addShares l hl0 b0 D cA g105 bx ca pa n (b2i bel) dp al w1 h1 d ex o t 0 gc gp iv hb4 h106 h107 hit hn) cd_Box_addShares w434 w436 ws11 hb4 rfl rfl hl.1 (Nat.le_of_ble_eq_true rfl) d_Box_fit_109 ⟨by decide, by decide⟩ ⟨by decide, by decide⟩ (fun v9 g110 H locs hp hI => ?_) (fun q9 E9 ce9 g9 H locs hp => hp.elim)
        obtain ⟨hv, eg5⟩ := hp
        rw [hv]
        refine W.eq (g2 := F0 m 112 ls []) rfl ?_
        have hp5 : g110 pa = some (.inl (cA 0, n, .inl (addS ex o t 0 iv n gp))) := by rw [eg5]; exact hv_up_self _ _ _
        have h111 : g110 bx = some (.inr (1, [.int (b2i bel), .ref ca, .ref pa, .int dp, .int al, .int w1, .int h1, .int d, .int ex, .int o, .int t, .int 0])) := by rw [eg5, hv_up_ne _ _ (hv_ne hb4 h107 (by simp))]; exact hb4
        have h112 : g110 ca = some (.inl (cA 3, n, .inr (.inr (.inr (.inr gc))))) := by rw [eg5, hv_up_ne _ _ (hv_ne h106 h107 (by simp))]; exact h106
        have h113 : g110 qs = some (.inl (cA 0, 4, .inl gs)) := by rw [eg5, hv_up_ne _ _ (Ne.symm hxqs)]; exact h108
        have h114 : g110 qt = some (.inl (cA 0, 4, .inl hs)) := by rw [eg5, hv_up_ne _ _ (Ne.symm hxqt)]; exact h109
        exact hv_vret hE hr hlocks hI hK (⟨rfl, w1, h1, d, ex, o, t, 0, addS ex o t 0 iv n gp, by simp only [fitF, em, e1, e2, e3, Option.bind_some, hot, hov, ← ew1, ← eh1], h111, hp5, fun z x z1 z2 hz => by rw [eg5, hv_up_ne _ _ z2]; exact hkp z x z1 z2 hz⟩) (by decide) (by decide) d_Box_fit_112
      · skip
        exact absurd (Int32.le_of_lt (Int32.not_le.mp c43)) c72

