/-! ===== the reference: place, layBox, lay ===== -/
theorem ord_in {x : Int32} (h : ord4 x = true) : vp_in x 4 := by
  simp only [ord4, Bool.and_eq_true, decide_eq_true_eq] at h
  obtain ⟨j, hj, e⟩ := nI_of (Int32.not_lt.mpr h.1)
  have h4 := (nI_ltI (b := 4) hj (by decide)).mp (by rw [← e]; exact h.2)
  exact pk_in j 4 h4 e (by omega)
theorem okGlue_ord {w a b d z : Int32} (h : okGlue w a b d z = true) : ord4 b = true ∧ ord4 z = true := by
  simp only [okGlue, Bool.and_eq_true] at h
  exact ⟨h.1.2, h.2⟩
/-- what the reference needs of an item -/
def itN (V : Wd) (k : Nat) : Prop := (wK V k = 4 → wI V k < 100 ∧ wN V k 0 = nI (wI V k)) ∧ (wK V k = 2 → vp_in (wN V k 2) 4 ∧ vp_in (wN V k 4) 4)
theorem itV_N {V : Wd} {c k : Nat} (h : itV V c k) (hc : c ≤ 100) : itN V k := by
  rcases h with ⟨k0, -⟩ | ⟨k0, -⟩ | ⟨k0, h2⟩ | ⟨k0, -⟩ | ⟨k0, h1, h2, h3⟩
  · exact ⟨fun q => absurd (k0.symm.trans q) (by decide), fun q => absurd (k0.symm.trans q) (by decide)⟩
  · exact ⟨fun q => absurd (k0.symm.trans q) (by decide), fun q => absurd (k0.symm.trans q) (by decide)⟩
  · exact ⟨fun q => absurd (k0.symm.trans q) (by decide), fun _ => ⟨ord_in (okGlue_ord h2).1, ord_in (okGlue_ord h2).2⟩⟩
  · exact ⟨fun q => absurd (k0.symm.trans q) (by decide), fun q => absurd (k0.symm.trans q) (by decide)⟩
  · exact ⟨fun _ => ⟨Nat.lt_of_lt_of_le h2 hc, h3⟩, fun q => absurd (k0.symm.trans q) (by decide)⟩
/-- the reference's scratch fields and its marks -/
def msc (cA : Nat → ClassId) (f : hv_M) (mo : Nat) (a : Nat → Nat) (th st en ct : Int32) (r : Mk) : Prop :=
  (∃ (gd : Bool) (v : Vl), scr cA f mo a th st en ct (nI r.2) gd v) ∧ f (a 16) = some (.inl (cA 1, 6000, .inr (.inl r.1)))
theorem moA.keep3 {cA : Nat → ClassId} {f g : hv_M} {mo : Nat} {a : Nat → Nat} {V : Wd} (h : moA cA f a V) (hn : moN mo a) (ho : ∀ z, z ≠ mo → z ≠ a 14 → z ≠ a 15 → z ≠ a 16 → g z = f z) : moA cA g a V := by
  have k : ∀ i, i < 14 → g (a i) = f (a i) := fun i hi => ho _ (hn.2 i (by omega)) (hn.1 i 14 (by omega) (by decide) (by omega)) (hn.1 i 15 (by omega) (by decide) (by omega)) (hn.1 i 16 (by omega) (by decide) (by omega))
  exact ⟨by rw [k 0 (by decide)]; exact h.1, by rw [k 1 (by decide)]; exact h.2.1, by rw [k 2 (by decide)]; exact h.2.2.1, by rw [k 3 (by decide)]; exact h.2.2.2.1, fun j hj => by rw [k (4 + j) (by omega)]; exact h.2.2.2.2 j hj⟩
theorem lay_st {it : Nat → Mk → Bool × Mk} {k i : Nat} {rr rr' : Mk} {rb' : Bool} {WH : Bool × Mk} (h : layL it (k + 1) i rr = WH) (e : it i rr = (rb', rr')) : (rb' = true ∧ layL it k (i + 1) rr' = WH) ∨ (rb' = false ∧ WH = (false, rr')) := by
  rw [layL, e] at h
  cases rb' with
  | true => exact Or.inl ⟨rfl, by simpa using h⟩
  | false => exact Or.inr ⟨rfl, by simpa using h.symm⟩

set_option maxHeartbeats 4000000 in
set_option maxRecDepth 100000 in
theorem c_Mo_place (l : Launch) (hl0 : l.stackTraces = false) (b0 : Nat) (D : va_G) (cA : Nat → ClassId) (f : hv_M) (mo : Nat) (a : Nat → Nat) (th st en ct : Int32) (gd : Bool) (ln bf ac un : Int64) (md : Int32) (V : Wd) (s1 s2 : Nat → Int64) (k i : Int32) (c9 : Nat) (hmo : f mo = some (moE a th st en ct gd ln bf ac un md)) (hnj : moN mo a) (hA : moA cA f a V) (h14 : f (a 14) = some (.inl (cA 1, 4, .inr (.inl s1)))) (h15 : f (a 15) = some (.inl (cA 1, 4, .inr (.inl s2)))) (hct : ct = nI c9) (hc9 : c9 ≤ 100) (hF : ∀ b, b < c9 → wF V b ≤ wF V (b + 1) ∧ wF V (b + 1) - wF V b ≤ 100 ∧ wF V (b + 1) ≤ 10100 ∧ ∀ j, j < wF V (b + 1) - wF V b → itN V (wF V b + j)) : hv_Met l y_Mo_place [Cond.code y_Mo_place b_Mo_place 3 (some FieldType.int)] (RM 6 0 0) b0 (Fa D cA) D CL [.ref mo, .int k, .int i] f (fun v g => ((isBx k c9 && isBx i (wF V (k.toNatClampNeg + 1) - wF V k.toNatClampNeg)) = false ∧ v = some (.int 0) ∧ moRef f g mo (moE a 1 st en ct gd ln bf ac un md)) ∨ (isBx k c9 = true ∧ isBx i (wF V (k.toNatClampNeg + 1) - wF V k.toNatClampNeg) = true ∧ v = some (.int (plF V k.toNatClampNeg i.toNatClampNeg).toInt32) ∧ (∃ (gd9 : Bool) (v9 : Vl), scr cA g mo a 0 st en ct md gd9 v9) ∧ ∀ z, z ≠ mo → z ≠ a 14 → z ≠ a 15 → g z = f z)) (NX) := by
  refine hv_Met.of (own := "BoxPackerModel") (by decide) rfl (Nat.le_of_ble_eq_true rfl) ?_
  intro p e s m below meth c hE hml hout hr hlocks hname hK hI ls hl
  have hl : lv_has ls 3 [(0, .ref mo), (1, .int k), (2, .int i)] := hl
  obtain ⟨hx, hb, hown, hts, hVK⟩ := id hE
  refine lv_aload_n hx hb d_Mo_place_0 rfl (lv_at hl 0 rfl) ?_
  refine lv_aload_n hx hb d_Mo_place_1 rfl (lv_at hl 0 rfl) ?_
  refine lv_iload_n hx hb d_Mo_place_2 rfl (lv_at hl 1 rfl) ?_
  refine hv_Vp (As := [.int k]) (rest := [.ref mo]) hE hml hK hI (c_Mo_isBox l hl0 b0 D cA f mo a th st en ct gd ln bf ac un md k c9 hmo hnj hct) cd_Mo_isBox w644 w646 ws19 hmo rfl rfl rfl rfl hl.1 (Nat.le_of_ble_eq_true rfl) d_Mo_place_3 ⟨by decide, by decide⟩ ⟨by decide, by decide⟩ (fun H locs hI => ?_)
  refine W.eq (g2 := F0 m 6 ls [.int (b2i (isBx k c9)), .ref mo]) rfl ?_
  refine lv_if_eq (tgt := 32) hx hb d_Mo_place_6 (by decide) (fun c6 => ?_) (fun c6 => ?_)
  · skip
    have k6 := b2i_f c6
    refine lv_iconst (v := 1) hx hb d_Mo_place_32 (by decide) ?_
    refine lv_goto (tgt := 37) hx hb d_Mo_place_33 (by decide) ?_
    refine hv_put hE k_Mo hI 0 (by decide) w516 hmo rfl rfl rfl (Nat.le_of_ble_eq_true rfl) d_Mo_place_37 (fun H locs hI => ?_)
    obtain ⟨g1, eg1⟩ : ∃ z : hv_M, z = hv_up f mo (moE a 1 st en ct gd ln bf ac un md) := ⟨_, rfl⟩
    have hI : hv_I D CL b0 g1 s.heap H locs := by rw [eg1]; exact hI
    have hq2 : g1 mo = some (moE a 1 st en ct gd ln bf ac un md) := by rw [eg1]; exact hv_up_self _ _ _
    refine lv_aload_n hx hb d_Mo_place_40 rfl (lv_at hl 0 rfl) ?_
    refine hv_get hE k_Mo hI 0 (by decide) w516 hq2 rfl d_Mo_place_41 ?_
    refine lv_if_le (tgt := 51) hx hb d_Mo_place_44 (by decide) (fun c44 => ?_) (fun c44 => ?_)
    · skip
      exact absurd c44 (by decide)
    · skip
      have n44 := Int32.not_le.mp c44
      refine lv_iconst (v := 0) hx hb d_Mo_place_47 (by decide) ?_
      refine lv_goto (tgt := 58) hx hb d_Mo_place_48 (by decide) ?_
      exact hv_iret hE hr hlocks hI hK (v := 0) (Or.inl ⟨by simp [k6], rfl, hq2, fun z z1 => by rw [eg1, hv_up_ne _ _ z1]⟩) (by decide) (by decide) d_Mo_place_58
  · skip
    have k6 := b2i_t c6
    refine lv_iload_n hx hb d_Mo_place_9 rfl (lv_at hl 2 rfl) ?_
    refine lv_if_lt (tgt := 32) hx hb d_Mo_place_10 (by decide) (fun c10 => ?_) (fun c10 => ?_)
    · skip
      have n10 := Int32.not_le.mpr c10
      refine lv_iconst (v := 1) hx hb d_Mo_place_32 (by decide) ?_
      refine lv_goto (tgt := 37) hx hb d_Mo_place_33 (by decide) ?_
      refine hv_put hE k_Mo hI 0 (by decide) w516 hmo rfl rfl rfl (Nat.le_of_ble_eq_true rfl) d_Mo_place_37 (fun H locs hI => ?_)
      obtain ⟨g3, eg3⟩ : ∃ z : hv_M, z = hv_up f mo (moE a 1 st en ct gd ln bf ac un md) := ⟨_, rfl⟩
      have hI : hv_I D CL b0 g3 s.heap H locs := by rw [eg3]; exact hI
      have hq4 : g3 mo = some (moE a 1 st en ct gd ln bf ac un md) := by rw [eg3]; exact hv_up_self _ _ _
      refine lv_aload_n hx hb d_Mo_place_40 rfl (lv_at hl 0 rfl) ?_
      refine hv_get hE k_Mo hI 0 (by decide) w516 hq4 rfl d_Mo_place_41 ?_
      refine lv_if_le (tgt := 51) hx hb d_Mo_place_44 (by decide) (fun c44 => ?_) (fun c44 => ?_)
      · skip
        exact absurd c44 (by decide)
      · skip
        have n44 := Int32.not_le.mp c44
        refine lv_iconst (v := 0) hx hb d_Mo_place_47 (by decide) ?_
        refine lv_goto (tgt := 58) hx hb d_Mo_place_48 (by decide) ?_
        exact hv_iret hE hr hlocks hI hK (v := 0) (Or.inl ⟨by simp [isBx, c10], rfl, hq4, fun z z1 => by rw [eg3, hv_up_ne _ _ z1]⟩) (by decide) (by decide) d_Mo_place_58
    · skip
      have n10 := Int32.not_lt.mp c10
      refine lv_iload_n hx hb d_Mo_place_13 rfl (lv_at hl 2 rfl) ?_
      refine lv_aload_n hx hb d_Mo_place_14 rfl (lv_at hl 0 rfl) ?_
      refine hv_get hE k_Mo hI 6 (by decide) w522 hmo rfl d_Mo_place_15 ?_
      refine lv_iload_n hx hb d_Mo_place_18 rfl (lv_at hl 1 rfl) ?_
      refine lv_iconst (v := 1) hx hb d_Mo_place_19 (by decide) ?_
      refine lv_iadd hx hb d_Mo_place_20 ?_
      refine hv_iald hE hI 0 hA.2.2.1 rfl (pk_in (k.toNatClampNeg + 1) 101 (Nat.succ_lt_succ (Nat.lt_of_lt_of_le (isBx_nat k6 hc9).1 hc9)) (isBx_1 k6 hc9)) d_Mo_place_21 ?_
      rw [isBx_1 k6 hc9, nI_cl (by have := (isBx_nat k6 hc9).1; omega)]
      refine W.eq (g2 := F0 m 22 ls [.int (nI (wF V (k.toNatClampNeg + 1))), .int i, .ref mo]) rfl ?_
      refine lv_aload_n hx hb d_Mo_place_22 rfl (lv_at hl 0 rfl) ?_
      refine hv_get hE k_Mo hI 6 (by decide) w522 hmo rfl d_Mo_place_23 ?_
      refine lv_iload_n hx hb d_Mo_place_26 rfl (lv_at hl 1 rfl) ?_
      refine hv_iald hE hI 0 hA.2.2.1 rfl (pk_in k.toNatClampNeg 101 (Nat.lt_of_lt_of_le (isBx_nat k6 hc9).1 (Nat.le_succ_of_le hc9)) (isBx_nat k6 hc9).2) d_Mo_place_27 ?_
      rw [show k.toNatClampNeg = k.toNatClampNeg from rfl]
      refine W.eq (g2 := F0 m 28 ls [.int (nI (wF V k.toNatClampNeg)), .int (nI (wF V (k.toNatClampNeg + 1))), .int i, .ref mo]) rfl ?_
      refine lv_isub hx hb d_Mo_place_28 ?_
      refine lv_icmp_lt (tgt := 36) hx hb d_Mo_place_29 (by decide) (fun c29 => ?_) (fun c29 => ?_)
      · skip
        have n29 := Int32.not_le.mpr c29
        have hb9 := hF _ (isBx_nat k6 hc9).1
        have hi9 : isBx i (wF V (k.toNatClampNeg + 1) - wF V k.toNatClampNeg) = true := by rw [nI_sub hb9.1] at c29; simp [isBx, c10, c29]
        refine lv_iconst (v := 0) hx hb d_Mo_place_36 (by decide) ?_
        refine hv_put hE k_Mo hI 0 (by decide) w516 hmo rfl rfl rfl (Nat.le_of_ble_eq_true rfl) d_Mo_place_37 (fun H locs hI => ?_)
        obtain ⟨g5, eg5⟩ : ∃ z : hv_M, z = hv_up f mo (moE a 0 st en ct gd ln bf ac un md) := ⟨_, rfl⟩
        have hI : hv_I D CL b0 g5 s.heap H locs := by rw [eg5]; exact hI
        have hq6 : g5 mo = some (moE a 0 st en ct gd ln bf ac un md) := by rw [eg5]; exact hv_up_self _ _ _
        refine lv_aload_n hx hb d_Mo_place_40 rfl (lv_at hl 0 rfl) ?_
        refine hv_get hE k_Mo hI 0 (by decide) w516 hq6 rfl d_Mo_place_41 ?_
        refine lv_if_le (tgt := 51) hx hb d_Mo_place_44 (by decide) (fun c44 => ?_) (fun c44 => ?_)
        · skip
          have n44 := Int32.not_lt.mpr c44
          refine lv_aload_n hx hb d_Mo_place_51 rfl (lv_at hl 0 rfl) ?_
          refine lv_iload_n hx hb d_Mo_place_52 rfl (lv_at hl 1 rfl) ?_
          refine lv_iload_n hx hb d_Mo_place_53 rfl (lv_at hl 2 rfl) ?_
          refine W.eq (g2 := F0 m 54 ls [.int (nI i.toNatClampNeg), .int (nI k.toNatClampNeg), .ref mo]) (by rw [← (isBx_nat k6 hc9).2, ← (isBx_nat hi9 hb9.2.1).2]) ?_
          have hA7 : moA cA g5 a V := ⟨by rw [eg5, hv_up_ne _ _ (hnj.2 0 (by decide))]; exact hA.1, by rw [eg5, hv_up_ne _ _ (hnj.2 1 (by decide))]; exact hA.2.1, by rw [eg5, hv_up_ne _ _ (hnj.2 2 (by decide))]; exact hA.2.2.1, by rw [eg5, hv_up_ne _ _ (hnj.2 3 (by decide))]; exact hA.2.2.2.1, fun j9 hj9 => by rw [eg5, hv_up_ne _ _ (hnj.2 (4 + j9) (by omega))]; exact hA.2.2.2.2 j9 hj9⟩
          have hq8 : g5 (a 14) = some (.inl (cA 1, 4, .inr (.inl s1))) := by rw [eg5, hv_up_ne _ _ (hnj.2 14 (by decide))]; exact h14
          have hq9 : g5 (a 15) = some (.inl (cA 1, 4, .inr (.inl s2))) := by rw [eg5, hv_up_ne _ _ (hnj.2 15 (by decide))]; exact h15
          refine hv_V (As := [.int (nI k.toNatClampNeg), .int (nI i.toNatClampNeg)]) (rest := []) hE hml hK hI (c_Mo_placeOf l hl0 b0 D cA g5 mo a 0 st en ct gd ln bf ac un md V s1 s2 k.toNatClampNeg i.toNatClampNeg hq6 hnj hA7 hq8 hq9 (Nat.lt_of_lt_of_le (isBx_nat k6 hc9).1 hc9) (by have := (isBx_nat hi9 hb9.2.1).1; omega) (fun j hj => hb9.2.2.2 j (by have := (isBx_nat hi9 hb9.2.1).1; omega))) cd_Mo_placeOf w731 w733 ws32 hq6 rfl rfl hl.1 (Nat.le_of_ble_eq_true rfl) d_Mo_place_54 ⟨by decide, by decide⟩ ⟨by decide, by decide⟩ (fun v9 g11 H locs hp hI => ?_) (fun q9 E9 ce9 g9 H locs hp => hp.elim)
          obtain ⟨hv, hs10, ho910⟩ := hp
          rw [hv]
          refine W.eq (g2 := F0 m 57 ls [.long (plF V k.toNatClampNeg i.toNatClampNeg)]) rfl ?_
          refine lv_l2i (v := (plF V k.toNatClampNeg i.toNatClampNeg).toInt32) hx hb d_Mo_place_57 rfl ?_
          exact hv_iret hE hr hlocks hI hK (v := (plF V k.toNatClampNeg i.toNatClampNeg).toInt32) (Or.inr ⟨k6, hi9, rfl, hs10, fun z z1 z2 z3 => by rw [ho910 _ z1 z2 z3, eg5, hv_up_ne _ _ z1]⟩) (by decide) (by decide) d_Mo_place_58
        · skip
          exact absurd (by decide) c44
      · skip
        have n29 := Int32.not_lt.mp c29
        refine lv_iconst (v := 1) hx hb d_Mo_place_32 (by decide) ?_
        refine lv_goto (tgt := 37) hx hb d_Mo_place_33 (by decide) ?_
        refine hv_put hE k_Mo hI 0 (by decide) w516 hmo rfl rfl rfl (Nat.le_of_ble_eq_true rfl) d_Mo_place_37 (fun H locs hI => ?_)
        obtain ⟨g12, eg12⟩ : ∃ z : hv_M, z = hv_up f mo (moE a 1 st en ct gd ln bf ac un md) := ⟨_, rfl⟩
        have hI : hv_I D CL b0 g12 s.heap H locs := by rw [eg12]; exact hI
        have hq13 : g12 mo = some (moE a 1 st en ct gd ln bf ac un md) := by rw [eg12]; exact hv_up_self _ _ _
        refine lv_aload_n hx hb d_Mo_place_40 rfl (lv_at hl 0 rfl) ?_
        refine hv_get hE k_Mo hI 0 (by decide) w516 hq13 rfl d_Mo_place_41 ?_
        refine lv_if_le (tgt := 51) hx hb d_Mo_place_44 (by decide) (fun c44 => ?_) (fun c44 => ?_)
        · skip
          exact absurd c44 (by decide)
        · skip
          have n44 := Int32.not_le.mp c44
          refine lv_iconst (v := 0) hx hb d_Mo_place_47 (by decide) ?_
          refine lv_goto (tgt := 58) hx hb d_Mo_place_48 (by decide) ?_
          exact hv_iret hE hr hlocks hI hK (v := 0) (Or.inl ⟨by have h9 := c29; rw [nI_sub (hF _ (isBx_nat k6 hc9).1).1] at h9; simp [isBx, h9], rfl, hq13, fun z z1 => by rw [eg12, hv_up_ne _ _ z1]⟩) (by decide) (by decide) d_Mo_place_58

/-- layBox of boxes at most dd deep -/
def mayP (l : Launch) (b0 : Nat) (D : va_G) (cA : Nat → ClassId) (mo : Nat) (a : Nat → Nat) (th st en ct : Int32) (V : Wd) (c9 : Nat) (dd : Nat) : Prop :=
  ∀ (f : hv_M) (b : Nat) (X Y : Int64) (r : Mk), msc cA f mo a th st en ct r → moA cA f a V → r.2 ≤ 1000 → b < c9 → (wA V 8 b).toInt ≤ dd →
    hv_Met l y_Mo_layBox [Cond.code y_Mo_layBox b_Mo_layBox 20 (some FieldType.boolean)] (RM (6 + dd) 0 0) b0 (Fa D cA) D CL [.ref mo, .int (nI b), .long X, .long Y] f
      (fun v g => v = some (.int (b2i (layF V dd b X Y r).1)) ∧ msc cA g mo a th st en ct (layF V dd b X Y r).2 ∧ ∀ z, z ≠ mo → z ≠ a 14 → z ≠ a 15 → z ≠ a 16 → g z = f z) NX

set_option maxHeartbeats 4000000 in
set_option maxRecDepth 100000 in
theorem c_Mo_layBoxS (l : Launch) (hl0 : l.stackTraces = false) (b0 : Nat) (D : va_G) (cA : Nat → ClassId) (f : hv_M) (mo : Nat) (a : Nat → Nat) (th st en ct : Int32) (V : Wd) (c9 dd b : Nat) (X Y : Int64) (r : Mk) (hm9 : msc cA f mo a th st en ct r) (hnj : moN mo a) (hA : moA cA f a V) (hr9 : r.2 ≤ 1000) (hbc : b < c9) (hc9 : c9 ≤ 100) (hdp : (wA V 8 b).toInt ≤ dd + 1) (hbv : ∀ b, b < c9 → bxV V b) (hF9 : ∀ b, b < c9 → wF V (b + 1) ≤ 10100) (hrec : mayP l b0 D cA mo a th st en ct V c9 dd) : hv_Met l y_Mo_layBox [Cond.code y_Mo_layBox b_Mo_layBox 20 (some FieldType.boolean)] (RM (6 + (dd + 1)) 0 0) b0 (Fa D cA) D CL [.ref mo, .int (nI b), .long X, .long Y] f (fun v g => v = some (.int (b2i (layF V (dd + 1) b X Y r).1)) ∧ msc cA g mo a th st en ct (layF V (dd + 1) b X Y r).2 ∧ ∀ z, z ≠ mo → z ≠ a 14 → z ≠ a 15 → z ≠ a 16 → g z = f z) (NX) := by
  refine hv_Met.of (own := "BoxPackerModel") (by decide) rfl (Nat.le_of_ble_eq_true rfl) ?_
  intro p e s m below meth c hE hml hout hr hlocks hname hK hI ls hl
  have hl : lv_has ls 20 [(0, .ref mo), (1, .int (nI b)), (2, .long X), (4, .long Y)] := hl
  obtain ⟨hx, hb, hown, hts, hVK⟩ := id hE
  obtain ⟨⟨gd0, v00, hs0⟩, h16⟩ := id hm9
  refine lv_iconst (v := 1) hx hb d_Mo_layBox_0 (by decide) ?_
  refine lv_istore (lv' := [(6, .int 1), (0, .ref mo), (1, .int (nI b)), (2, .long X), (4, .long Y)]) hx hb d_Mo_layBox_1 hl (by decide) rfl (fun ls hl => ?_)
  refine lv_aload_n hx hb d_Mo_layBox_3 rfl (lv_at hl 1 rfl) ?_
  refine hv_get hE k_Mo hI 6 (by decide) w522 hs0.1 rfl d_Mo_layBox_4 ?_
  refine lv_iload_n hx hb d_Mo_layBox_7 rfl (lv_at hl 2 rfl) ?_
  refine hv_iald hE hI 0 hA.2.2.1 rfl (pk_in b 101 (by omega) rfl (by omega)) d_Mo_layBox_8 ?_
  rw [nI_cl (by omega)]
  refine W.eq (g2 := F0 m 9 ls [.int (nI (wF V b))]) rfl ?_
  refine lv_istore (lv' := [(7, .int (nI (wF V b))), (6, .int 1), (0, .ref mo), (1, .int (nI b)), (2, .long X), (4, .long Y)]) hx hb d_Mo_layBox_9 hl (by decide) rfl (fun ls hl => ?_)
  have hV9 := hbv b hbc
  obtain ⟨hF1, hF2, -, hs1, hs2, -, -, -, -, -, -, hiv⟩ := hV9
  have hF3 := hF9 b hbc
  have hb9 : b < 100 := by omega
  have hits : ∀ j, j < wF V (b + 1) - wF V b → itN V (wF V b + j) := fun j hj => itV_N (hiv j hj).1 (by omega)
  have loop : ∀ (k i : Nat) (rb : Bool) (rr : Mk) (g : hv_M) (H : Heap) (locs : List Loc) (ls : Array Slot), i + k = wF V (b + 1) - wF V b → msc cA g mo a th st en ct rr → rr.2 ≤ 1000 → (∀ z, z ≠ mo → z ≠ a 14 → z ≠ a 15 → z ≠ a 16 → g z = f z) → ((rb = true ∧ layL (layI V (layF V dd) b X Y) k i rr = layL (layI V (layF V dd) b X Y) (wF V (b + 1) - wF V b) 0 r) ∨ (rb = false ∧ layL (layI V (layF V dd) b X Y) (wF V (b + 1) - wF V b) 0 r = (false, rr))) → hv_I D CL b0 g s.heap H locs → lv_has ls 20 [(0, .ref mo), (1, .int (nI b)), (2, .long X), (4, .long Y), (6, .int (b2i rb)), (7, .int (nI (wF V b + i)))] → W p l e (RM (6 + (dd + 1)) 0 0) s m ([.ref mo, .int (nI b), .long X, .long Y] : List Value).toArray below meth c H locs (0) (0) (xh_MQ below (hv_Q b0 (Fa D cA) D CL (fun v g => v = some (.int (b2i (layF V (dd + 1) b X Y r).1)) ∧ msc cA g mo a th st en ct (layF V (dd + 1) b X Y r).2 ∧ ∀ z, z ≠ mo → z ≠ a 14 → z ≠ a 15 → z ≠ a 16 → g z = f z) (NX)) s 0 0 (fun q => b0 ≤ q)) (F0 m 11 ls []) := by
    intro k
    induction k with
    | zero =>
      intro i rb rr g H locs ls hik hgm hgr9 hfo hst hI hl
      have hAg := hA.keep3 hnj hfo
      obtain ⟨⟨gd9, v9, hs9⟩, hg16⟩ := id hgm
      refine lv_iload hx hb d_Mo_layBox_11 (lv_at hl 5 rfl) ?_
      refine lv_aload_n hx hb d_Mo_layBox_13 rfl (lv_at hl 0 rfl) ?_
      refine hv_get hE k_Mo hI 6 (by decide) w522 hs9.1 rfl d_Mo_layBox_14 ?_
      refine lv_iload_n hx hb d_Mo_layBox_17 rfl (lv_at hl 1 rfl) ?_
      refine lv_iconst (v := 1) hx hb d_Mo_layBox_18 (by decide) ?_
      refine lv_iadd hx hb d_Mo_layBox_19 ?_
      refine hv_iald hE hI 0 hAg.2.2.1 rfl (pk_in (b + 1) 101 (by omega) (nI_1 b) (by omega)) d_Mo_layBox_20 ?_
      rw [nI_1, nI_cl (by omega)]
      refine W.eq (g2 := F0 m 21 ls [.int (nI (wF V (b + 1))), .int (nI (wF V b + i))]) rfl ?_
      refine lv_icmp_ge (tgt := 359) hx hb d_Mo_layBox_21 (by decide) (fun c21 => ?_) (fun c21 => ?_)
      · skip
        have n21 := Int32.not_lt.mpr c21
        refine lv_iload hx hb d_Mo_layBox_359 (lv_at hl 4 rfl) ?_
        exact hv_zret hE hr hlocks hI hK (v := b2i rb) (by first | rfl | exact b2i_nar _) ((show _ ∧ _ ∧ _ by rw [show layF V (dd + 1) b X Y r = (rb, rr) from hst.elim (fun q => by rw [q.1]; exact q.2.symm) (fun q => by rw [q.1]; exact q.2)]; exact ⟨rfl, hgm, hfo⟩)) (by exact Nat.le_refl _) (by exact Nat.le_refl _) d_Mo_layBox_361
      · skip
        have n21 := Int32.not_le.mp c21
        exact absurd (nI_le (by omega) (by omega)) c21
    | succ k ih =>
      intro i rb rr g H locs ls hik hgm hgr9 hfo hst hI hl
      have hAg := hA.keep3 hnj hfo
      obtain ⟨⟨gd9, v9, hs9⟩, hg16⟩ := id hgm
      have hiN := hits i (by omega)
      have hii := hiv i (by omega)
      have hic : wK V (wF V b + i) = 4 → wI V (wF V b + i) < c9 := fun q => by rcases hii.1 with ⟨k0, -⟩ | ⟨k0, -⟩ | ⟨k0, -⟩ | ⟨k0, -⟩ | ⟨-, -, k0, -⟩ <;> first | exact absurd (k0.symm.trans q) (by decide) | omega
      have hdeep := hii.2
      refine lv_iload hx hb d_Mo_layBox_11 (lv_at hl 5 rfl) ?_
      refine lv_aload_n hx hb d_Mo_layBox_13 rfl (lv_at hl 0 rfl) ?_
      refine hv_get hE k_Mo hI 6 (by decide) w522 hs9.1 rfl d_Mo_layBox_14 ?_
      refine lv_iload_n hx hb d_Mo_layBox_17 rfl (lv_at hl 1 rfl) ?_
      refine lv_iconst (v := 1) hx hb d_Mo_layBox_18 (by decide) ?_
      refine lv_iadd hx hb d_Mo_layBox_19 ?_
      refine hv_iald hE hI 0 hAg.2.2.1 rfl (pk_in (b + 1) 101 (by omega) (nI_1 b) (by omega)) d_Mo_layBox_20 ?_
      rw [nI_1, nI_cl (by omega)]
      refine W.eq (g2 := F0 m 21 ls [.int (nI (wF V (b + 1))), .int (nI (wF V b + i))]) rfl ?_
      refine lv_icmp_ge (tgt := 359) hx hb d_Mo_layBox_21 (by decide) (fun c21 => ?_) (fun c21 => ?_)
      · skip
        have n21 := Int32.not_lt.mpr c21
        exact absurd c21 (nI_ge (by omega) (by omega))
      · skip
        have n21 := Int32.not_le.mp c21
        refine lv_iload hx hb d_Mo_layBox_24 (lv_at hl 4 rfl) ?_
        refine lv_if_eq (tgt := 359) hx hb d_Mo_layBox_26 (by decide) (fun c26 => ?_) (fun c26 => ?_)
        · skip
          have k26 := b2i_f c26
          refine lv_iload hx hb d_Mo_layBox_359 (lv_at hl 4 rfl) ?_
          exact hv_zret hE hr hlocks hI hK (v := b2i rb) (by first | rfl | exact b2i_nar _) ((show _ ∧ _ ∧ _ by rw [show layF V (dd + 1) b X Y r = (rb, rr) from hst.elim (fun q => by rw [q.1] at k26; cases k26) (fun q => by rw [q.1]; exact q.2)]; exact ⟨rfl, hgm, hfo⟩)) (by exact Nat.le_refl _) (by exact Nat.le_refl _) d_Mo_layBox_361
        · skip
          have k26 := b2i_t c26
          have hgo : layL (layI V (layF V dd) b X Y) (k + 1) i rr = layL (layI V (layF V dd) b X Y) (wF V (b + 1) - wF V b) 0 r := hst.elim (fun q => q.2) (fun q => by rw [q.1] at k26; cases k26)
          refine lv_aload_n hx hb d_Mo_layBox_29 rfl (lv_at hl 0 rfl) ?_
          refine lv_iload_n hx hb d_Mo_layBox_30 rfl (lv_at hl 1 rfl) ?_
          refine lv_iload hx hb d_Mo_layBox_31 (lv_at hl 5 rfl) ?_
          refine lv_aload_n hx hb d_Mo_layBox_33 rfl (lv_at hl 0 rfl) ?_
          refine hv_get hE k_Mo hI 6 (by decide) w522 hs9.1 rfl d_Mo_layBox_34 ?_
          refine lv_iload_n hx hb d_Mo_layBox_37 rfl (lv_at hl 1 rfl) ?_
          refine hv_iald hE hI 0 hAg.2.2.1 rfl (pk_in b 101 (by omega) rfl (by omega)) d_Mo_layBox_38 ?_
          rw [nI_cl (by omega)]
          refine W.eq (g2 := F0 m 39 ls [.int (nI (wF V b)), .int (nI (wF V b + i)), .int (nI b), .ref mo]) rfl ?_
          refine lv_isub hx hb d_Mo_layBox_39 ?_
          refine W.eq (g2 := F0 m 40 ls [.int (nI i), .int (nI b), .ref mo]) (by rw [nI_sub (by omega), show wF V b + i - wF V b = i by omega]) ?_
          refine hv_V (As := [.int (nI b), .int (nI i)]) (rest := []) hE hml hK hI (c_Mo_placeOf l hl0 b0 D cA g mo a th st en ct gd9 ((v9).1) ((v9).2.1) ((v9).2.2.1) ((v9).2.2.2.1) (nI rr.2) V ((v9).2.2.2.2.1) ((v9).2.2.2.2.2) b i hs9.1 hnj hAg hs9.2.1 hs9.2.2 (by omega) (by omega) (fun j hj => hits j (by omega))) cd_Mo_placeOf w731 w733 ws32 hs9.1 rfl rfl hl.1 (Nat.le_of_ble_eq_true rfl) d_Mo_layBox_40 ⟨by first | (show 10 + _ + 1 ≤ 10 + _; omega) | (show 8 + (_ + 11) + (200 + 40 * _) ≤ 200 + 40 * _; omega), by first | (show 10 + _ + 1 ≤ 10 + _; omega) | (show 8 + (_ + 11) + (200 + 40 * _) ≤ 200 + 40 * _; omega)⟩ ⟨by exact Nat.le_refl _, by exact Nat.le_refl _⟩ (fun v9 g2 H locs hp hI => ?_) (fun q9 E9 ce9 g9 H locs hp => hp.elim)
          obtain ⟨hv, ⟨gd1, v1, hs1⟩, ho91⟩ := hp
          rw [hv]
          refine W.eq (g2 := F0 m 43 ls [.long (plF V b i)]) rfl ?_
          refine lv_lstore (lv' := [(8, .long (plF V b i)), (0, .ref mo), (1, .int (nI b)), (2, .long X), (4, .long Y), (6, .int (b2i rb)), (7, .int (nI (wF V b + i)))]) hx hb d_Mo_layBox_43 hl (by decide) rfl (fun ls hl => ?_)
          refine lv_aload_n hx hb d_Mo_layBox_45 rfl (lv_at hl 1 rfl) ?_
          refine hv_get hE k_Mo hI 7 (by decide) w523 hs1.1 rfl d_Mo_layBox_46 ?_
          refine lv_iload_n hx hb d_Mo_layBox_49 rfl (lv_at hl 2 rfl) ?_
          have hq3 : g2 (a 3) = some (.inl (cA 2, 100, .inl (fun b => b2i (wB V b)))) := by rw [ho91 _ (hnj.2 3 (by decide)) (hnj.1 3 14 (by decide) (by decide) (by decide)) (hnj.1 3 15 (by decide) (by decide) (by decide))]; exact hAg.2.2.2.1
          refine hv_zald hE hI 2 hq3 rfl (pk_in b 100 hb9 rfl (by omega)) d_Mo_layBox_50 ?_
          rw [nI_cl (by omega)]
          refine W.eq (g2 := F0 m 51 ls [.int (b2i (wB V b))]) rfl ?_
          refine lv_if_eq (tgt := 58) hx hb d_Mo_layBox_51 (by decide) (fun c51 => ?_) (fun c51 => ?_)
          · skip
            have k51 := b2i_f c51
            refine lv_lload_n hx hb d_Mo_layBox_58 rfl (lv_at hl 3 rfl) ?_
            refine lv_lload hx hb d_Mo_layBox_59 (lv_at hl 0 rfl) ?_
            refine lv_ladd hx hb d_Mo_layBox_61 ?_
            refine lv_lstore (lv' := [(10, .long (X + (plF V b i))), (8, .long (plF V b i)), (0, .ref mo), (1, .int (nI b)), (2, .long X), (4, .long Y), (6, .int (b2i rb)), (7, .int (nI (wF V b + i)))]) hx hb d_Mo_layBox_62 hl (by decide) rfl (fun ls hl => ?_)
            refine lv_aload_n hx hb d_Mo_layBox_64 rfl (lv_at hl 2 rfl) ?_
            refine hv_get hE k_Mo hI 7 (by decide) w523 hs1.1 rfl d_Mo_layBox_65 ?_
            refine lv_iload_n hx hb d_Mo_layBox_68 rfl (lv_at hl 3 rfl) ?_
            refine hv_zald hE hI 2 hq3 rfl (pk_in b 100 hb9 rfl (by omega)) d_Mo_layBox_69 ?_
            rw [nI_cl (by omega)]
            refine W.eq (g2 := F0 m 70 ls [.int (b2i (wB V b))]) rfl ?_
            refine lv_if_eq (tgt := 89) hx hb d_Mo_layBox_70 (by decide) (fun c70 => ?_) (fun c70 => ?_)
            · skip
              have k70 := b2i_f c70
              refine lv_lload hx hb d_Mo_layBox_89 (lv_at hl 5 rfl) ?_
              refine lv_lstore (lv' := [(12, .long Y), (10, .long (X + (plF V b i))), (8, .long (plF V b i)), (0, .ref mo), (1, .int (nI b)), (2, .long X), (4, .long Y), (6, .int (b2i rb)), (7, .int (nI (wF V b + i)))]) hx hb d_Mo_layBox_91 hl (by decide) rfl (fun ls hl => ?_)
              refine lv_aload_n hx hb d_Mo_layBox_93 rfl (lv_at hl 3 rfl) ?_
              refine hv_get hE k_Mo hI 1 (by decide) w517 hs1.1 rfl d_Mo_layBox_94 ?_
              refine lv_iload hx hb d_Mo_layBox_97 (lv_at hl 8 rfl) ?_
              have hq4 : g2 (a 0) = some (.inl (cA 0, 10200, .inl (wK V))) := by rw [ho91 _ (hnj.2 0 (by decide)) (hnj.1 0 14 (by decide) (by decide) (by decide)) (hnj.1 0 15 (by decide) (by decide) (by decide))]; exact hAg.1
              refine hv_iald hE hI 0 hq4 rfl (pk_in (wF V b + i) 10200 (by omega) rfl (by omega)) d_Mo_layBox_99 ?_
              rw [nI_cl (by omega)]
              refine W.eq (g2 := F0 m 100 ls [.int (wK V (wF V b + i))]) rfl ?_
              refine lv_if_ne (tgt := 170) hx hb d_Mo_layBox_100 (by decide) (fun c100 => ?_) (fun c100 => ?_)
              · skip
                refine lv_aload_n hx hb d_Mo_layBox_170 rfl (lv_at hl 3 rfl) ?_
                refine hv_get hE k_Mo hI 1 (by decide) w517 hs1.1 rfl d_Mo_layBox_171 ?_
                refine lv_iload hx hb d_Mo_layBox_174 (lv_at hl 8 rfl) ?_
                refine hv_iald hE hI 0 hq4 rfl (pk_in (wF V b + i) 10200 (by omega) rfl (by omega)) d_Mo_layBox_176 ?_
                rw [nI_cl (by omega)]
                refine W.eq (g2 := F0 m 177 ls [.int (wK V (wF V b + i))]) rfl ?_
                refine lv_iconst (v := 1) hx hb d_Mo_layBox_177 (by decide) ?_
                refine lv_icmp_ne (tgt := 273) hx hb d_Mo_layBox_178 (by decide) (fun c178 => ?_) (fun c178 => ?_)
                · skip
                  refine lv_aload_n hx hb d_Mo_layBox_273 rfl (lv_at hl 3 rfl) ?_
                  refine hv_get hE k_Mo hI 1 (by decide) w517 hs1.1 rfl d_Mo_layBox_274 ?_
                  refine lv_iload hx hb d_Mo_layBox_277 (lv_at hl 8 rfl) ?_
                  refine hv_iald hE hI 0 hq4 rfl (pk_in (wF V b + i) 10200 (by omega) rfl (by omega)) d_Mo_layBox_279 ?_
                  rw [nI_cl (by omega)]
                  refine W.eq (g2 := F0 m 280 ls [.int (wK V (wF V b + i))]) rfl ?_
                  refine lv_iconst (v := 4) hx hb d_Mo_layBox_280 (by decide) ?_
                  refine lv_icmp_ne (tgt := 353) hx hb d_Mo_layBox_281 (by decide) (fun c281 => ?_) (fun c281 => ?_)
                  · skip
                    obtain ⟨v5, ev5⟩ : ∃ y : Int32, y = (nI (wF V b + i)) + 1 := ⟨_, rfl⟩
                    refine lv_iinc (v := v5) (lv' := [(7, .int v5), (12, .long Y), (10, .long (X + (plF V b i))), (8, .long (plF V b i)), (0, .ref mo), (1, .int (nI b)), (2, .long X), (4, .long Y), (6, .int (b2i rb))]) hx hb d_Mo_layBox_353 hl (k := 8) rfl (by rw [ev5]; rfl) (by decide) rfl (fun ls hl => ?_)
                    refine lv_goto (tgt := 11) hx hb d_Mo_layBox_356 (by decide) ?_
                    have hq6 : g2 (a 16) = some (.inl (cA 1, 6000, .inr (.inl (rr.1)))) := by rw [ho91 _ (hnj.2 16 (by decide)) (hnj.1 16 14 (by decide) (by decide) (by decide)) (hnj.1 16 15 (by decide) (by decide) (by decide))]; exact hg16
                    exact ih (i + 1) true rr _ _ _ ls (by omega) ⟨⟨_, _, hs1.1, hs1.2.1, hs1.2.2⟩, hq6⟩ hgr9 (fun z z1 z2 z3 z4 => by rw [ho91 _ z1 z2 z3]; exact hfo z z1 z2 z3 z4) (lay_st hgo (by simp only [layI, mxF, tpF, k51, c100, c178, c281, show ¬ (1 : Int32) = 0 from by decide, show ¬ (4 : Int32) = 0 from by decide, show ¬ (4 : Int32) = 1 from by decide, show (-1 : Int32).toInt64 = -1 from by decide, if_true, if_false, Bool.false_eq_true, or_true, true_or, or_self])) hI (by rw [show nI (wF V b + (i + 1)) = v5 from by rw [ev5, nI_1]; rfl]; rw [k26] at hl; exact lv_sub hl [4, 5, 6, 7, 8, 0] rfl)
                  · skip
                    refine lv_aload_n hx hb d_Mo_layBox_284 rfl (lv_at hl 3 rfl) ?_
                    refine lv_iload hx hb d_Mo_layBox_285 (lv_at hl 8 rfl) ?_
                    refine lv_iconst (v := 0) hx hb d_Mo_layBox_287 (by decide) ?_
                    have hq7 : g2 (a 1) = some (.inl (cA 0, 51000, .inl V.2.1)) := by rw [ho91 _ (hnj.2 1 (by decide)) (hnj.1 1 14 (by decide) (by decide) (by decide)) (hnj.1 1 15 (by decide) (by decide) (by decide))]; exact hAg.2.1
                    refine hv_Vp (As := [.int (nI (wF V b + i)), .int 0]) (rest := []) hE hml hK hI (c_Mo_number l hl0 b0 D cA g2 mo a th st en ct (gd1) ((v1).1) ((v1).2.1) ((v1).2.2.1) ((v1).2.2.2.1) (nI rr.2) V (wF V b + i) 0 hs1.1 hnj hq7 (by omega) (by omega)) cd_Mo_number w664 w666 ws21 hs1.1 rfl rfl rfl rfl hl.1 (Nat.le_of_ble_eq_true rfl) d_Mo_layBox_288 ⟨by first | (show 10 + _ + 1 ≤ 10 + _; omega) | (show 8 + (_ + 11) + (200 + 40 * _) ≤ 200 + 40 * _; omega), by first | (show 10 + _ + 1 ≤ 10 + _; omega) | (show 8 + (_ + 11) + (200 + 40 * _) ≤ 200 + 40 * _; omega)⟩ ⟨by exact Nat.le_refl _, by exact Nat.le_refl _⟩ (fun H locs hI => ?_)
                    refine W.eq (g2 := F0 m 291 ls [.int (wN V (wF V b + i) 0)]) rfl ?_
                    refine lv_istore (lv' := [(14, .int (wN V (wF V b + i) 0)), (12, .long Y), (10, .long (X + (plF V b i))), (8, .long (plF V b i)), (0, .ref mo), (1, .int (nI b)), (2, .long X), (4, .long Y), (6, .int (b2i rb)), (7, .int (nI (wF V b + i)))]) hx hb d_Mo_layBox_291 hl (by decide) rfl (fun ls hl => ?_)
                    refine lv_aload_n hx hb d_Mo_layBox_293 rfl (lv_at hl 4 rfl) ?_
                    refine lv_iload hx hb d_Mo_layBox_294 (lv_at hl 9 rfl) ?_
                    refine lv_iconst (v := 1) hx hb d_Mo_layBox_296 (by decide) ?_
                    refine hv_Vp (As := [.int (nI (wF V b + i)), .int 1]) (rest := []) hE hml hK hI (c_Mo_number l hl0 b0 D cA g2 mo a th st en ct (gd1) ((v1).1) ((v1).2.1) ((v1).2.2.1) ((v1).2.2.2.1) (nI rr.2) V (wF V b + i) 1 hs1.1 hnj hq7 (by omega) (by omega)) cd_Mo_number w664 w666 ws21 hs1.1 rfl rfl rfl rfl hl.1 (Nat.le_of_ble_eq_true rfl) d_Mo_layBox_297 ⟨by first | (show 10 + _ + 1 ≤ 10 + _; omega) | (show 8 + (_ + 11) + (200 + 40 * _) ≤ 200 + 40 * _; omega), by first | (show 10 + _ + 1 ≤ 10 + _; omega) | (show 8 + (_ + 11) + (200 + 40 * _) ≤ 200 + 40 * _; omega)⟩ ⟨by exact Nat.le_refl _, by exact Nat.le_refl _⟩ (fun H locs hI => ?_)
                    refine W.eq (g2 := F0 m 300 ls [.int (wN V (wF V b + i) 1)]) rfl ?_
                    refine lv_istore (lv' := [(15, .int (wN V (wF V b + i) 1)), (14, .int (wN V (wF V b + i) 0)), (12, .long Y), (10, .long (X + (plF V b i))), (8, .long (plF V b i)), (0, .ref mo), (1, .int (nI b)), (2, .long X), (4, .long Y), (6, .int (b2i rb)), (7, .int (nI (wF V b + i)))]) hx hb d_Mo_layBox_300 hl (by decide) rfl (fun ls hl => ?_)
                    refine lv_aload_n hx hb d_Mo_layBox_302 rfl (lv_at hl 5 rfl) ?_
                    refine hv_get hE k_Mo hI 7 (by decide) w523 hs1.1 rfl d_Mo_layBox_303 ?_
                    refine lv_iload_n hx hb d_Mo_layBox_306 rfl (lv_at hl 6 rfl) ?_
                    refine hv_zald hE hI 2 hq3 rfl (pk_in b 100 hb9 rfl (by omega)) d_Mo_layBox_307 ?_
                    rw [nI_cl (by omega)]
                    refine W.eq (g2 := F0 m 308 ls [.int (b2i (wB V b))]) rfl ?_
                    refine lv_if_eq (tgt := 337) hx hb d_Mo_layBox_308 (by decide) (fun c308 => ?_) (fun c308 => ?_)
                    · skip
                      have k308 := b2i_f c308
                      refine lv_aload_n hx hb d_Mo_layBox_337 rfl (lv_at hl 5 rfl) ?_
                      refine lv_iload hx hb d_Mo_layBox_338 (lv_at hl 1 rfl) ?_
                      refine lv_lload hx hb d_Mo_layBox_340 (lv_at hl 3 rfl) ?_
                      refine lv_lload hx hb d_Mo_layBox_342 (lv_at hl 2 rfl) ?_
                      refine lv_iload hx hb d_Mo_layBox_344 (lv_at hl 0 rfl) ?_
                      refine lv_i2l (v := (wN V (wF V b + i) 1).toInt64) hx hb d_Mo_layBox_346 rfl ?_
                      refine lv_ladd hx hb d_Mo_layBox_347 ?_
                      refine W.eq (g2 := F0 m 348 ls [.long (Y + ((wN V (wF V b + i) 1).toInt64)), .long (X + (plF V b i)), .int (nI (wI V (wF V b + i))), .ref mo]) (by rw [← (hiN.1 c281).2]) ?_
                      have hq8 : g2 (a 16) = some (.inl (cA 1, 6000, .inr (.inl (rr.1)))) := by rw [ho91 _ (hnj.2 16 (by decide)) (hnj.1 16 14 (by decide) (by decide) (by decide)) (hnj.1 16 15 (by decide) (by decide) (by decide))]; exact hg16
                      have hA9 : moA cA g2 a V := ⟨by rw [ho91 _ (hnj.2 0 (by decide)) (hnj.1 0 14 (by decide) (by decide) (by decide)) (hnj.1 0 15 (by decide) (by decide) (by decide))]; exact hAg.1, by rw [ho91 _ (hnj.2 1 (by decide)) (hnj.1 1 14 (by decide) (by decide) (by decide)) (hnj.1 1 15 (by decide) (by decide) (by decide))]; exact hAg.2.1, by rw [ho91 _ (hnj.2 2 (by decide)) (hnj.1 2 14 (by decide) (by decide) (by decide)) (hnj.1 2 15 (by decide) (by decide) (by decide))]; exact hAg.2.2.1, by rw [ho91 _ (hnj.2 3 (by decide)) (hnj.1 3 14 (by decide) (by decide) (by decide)) (hnj.1 3 15 (by decide) (by decide) (by decide))]; exact hAg.2.2.2.1, fun j9 hj9 => by rw [ho91 _ (hnj.2 (4 + j9) (by omega)) (hnj.1 (4 + j9) 14 (by omega) (by decide) (by omega)) (hnj.1 (4 + j9) 15 (by omega) (by decide) (by omega))]; exact hAg.2.2.2.2 j9 hj9⟩
                      refine hv_V (As := [.int (nI (wI V (wF V b + i))), .long (X + (plF V b i)), .long (Y + ((wN V (wF V b + i) 1).toInt64))]) (rest := []) hE hml hK hI (hrec g2 (wI V (wF V b + i)) (X + (plF V b i)) (Y + ((wN V (wF V b + i) 1).toInt64)) rr ⟨⟨_, _, hs1.1, hs1.2.1, hs1.2.2⟩, hq8⟩ hA9 hgr9 (hic c281) (by have := hdeep c281; omega)) cd_Mo_layBox w742 w744 ws33 hs1.1 rfl rfl hl.1 (Nat.le_of_ble_eq_true rfl) d_Mo_layBox_348 ⟨by first | (show 10 + _ + 1 ≤ 10 + _; omega) | (show 8 + (_ + 11) + (200 + 40 * _) ≤ 200 + 40 * _; omega), by first | (show 10 + _ + 1 ≤ 10 + _; omega) | (show 8 + (_ + 11) + (200 + 40 * _) ≤ 200 + 40 * _; omega)⟩ ⟨by exact Nat.le_refl _, by exact Nat.le_refl _⟩ (fun v9 g11 H locs hp hI => ?_) (fun q9 E9 ce9 g9 H locs hp => hp.elim)
                      obtain ⟨hv, hm10, ho910⟩ := hp
                      rw [hv]
                      refine W.eq (g2 := F0 m 351 ls [.int (b2i (layF V dd (wI V (wF V b + i)) (X + (plF V b i)) (Y + ((wN V (wF V b + i) 1).toInt64)) rr).1)]) rfl ?_
                      refine lv_istore (lv' := [(6, .int (b2i (layF V dd (wI V (wF V b + i)) (X + (plF V b i)) (Y + ((wN V (wF V b + i) 1).toInt64)) rr).1)), (15, .int (wN V (wF V b + i) 1)), (14, .int (wN V (wF V b + i) 0)), (12, .long Y), (10, .long (X + (plF V b i))), (8, .long (plF V b i)), (0, .ref mo), (1, .int (nI b)), (2, .long X), (4, .long Y), (7, .int (nI (wF V b + i)))]) hx hb d_Mo_layBox_351 hl (by decide) rfl (fun ls hl => ?_)
                      obtain ⟨v12, ev12⟩ : ∃ y : Int32, y = (nI (wF V b + i)) + 1 := ⟨_, rfl⟩
                      refine lv_iinc (v := v12) (lv' := [(7, .int v12), (6, .int (b2i (layF V dd (wI V (wF V b + i)) (X + (plF V b i)) (Y + ((wN V (wF V b + i) 1).toInt64)) rr).1)), (15, .int (wN V (wF V b + i) 1)), (14, .int (wN V (wF V b + i) 0)), (12, .long Y), (10, .long (X + (plF V b i))), (8, .long (plF V b i)), (0, .ref mo), (1, .int (nI b)), (2, .long X), (4, .long Y)]) hx hb d_Mo_layBox_353 hl (k := 10) rfl (by rw [ev12]; rfl) (by decide) rfl (fun ls hl => ?_)
                      refine lv_goto (tgt := 11) hx hb d_Mo_layBox_356 (by decide) ?_
                      exact ih (i + 1) ((layF V dd (wI V (wF V b + i)) (X + (plF V b i)) (Y + ((wN V (wF V b + i) 1).toInt64)) rr).1) ((layF V dd (wI V (wF V b + i)) (X + (plF V b i)) (Y + ((wN V (wF V b + i) 1).toInt64)) rr).2) _ _ _ ls (by omega) hm10 (layF_le V dd _ _ _ _ hgr9) (fun z z1 z2 z3 z4 => by rw [ho910 _ z1 z2 z3 z4, ho91 _ z1 z2 z3]; exact hfo z z1 z2 z3 z4) (lay_st hgo (by simp only [layI, mxF, tpF, k51, c100, c178, c281, show ¬ (1 : Int32) = 0 from by decide, show ¬ (4 : Int32) = 0 from by decide, show ¬ (4 : Int32) = 1 from by decide, show (-1 : Int32).toInt64 = -1 from by decide, if_true, if_false, Bool.false_eq_true, or_true, true_or, or_self])) hI (by rw [show nI (wF V b + (i + 1)) = v12 from by rw [ev12, nI_1]; rfl]; exact lv_sub hl [7, 8, 9, 10, 1, 0] rfl)
                    · skip
                      have k308 := b2i_t c308
                      exact absurd k308 (by rw [k51]; decide)
                · skip
                  refine lv_aload_n hx hb d_Mo_layBox_181 rfl (lv_at hl 3 rfl) ?_
                  refine lv_iload_n hx hb d_Mo_layBox_182 rfl (lv_at hl 4 rfl) ?_
                  refine lv_iload hx hb d_Mo_layBox_183 (lv_at hl 8 rfl) ?_
                  refine lv_iconst (v := 0) hx hb d_Mo_layBox_185 (by decide) ?_
                  have hA13 : moA cA g2 a V := ⟨by rw [ho91 _ (hnj.2 0 (by decide)) (hnj.1 0 14 (by decide) (by decide) (by decide)) (hnj.1 0 15 (by decide) (by decide) (by decide))]; exact hAg.1, by rw [ho91 _ (hnj.2 1 (by decide)) (hnj.1 1 14 (by decide) (by decide) (by decide)) (hnj.1 1 15 (by decide) (by decide) (by decide))]; exact hAg.2.1, by rw [ho91 _ (hnj.2 2 (by decide)) (hnj.1 2 14 (by decide) (by decide) (by decide)) (hnj.1 2 15 (by decide) (by decide) (by decide))]; exact hAg.2.2.1, by rw [ho91 _ (hnj.2 3 (by decide)) (hnj.1 3 14 (by decide) (by decide) (by decide)) (hnj.1 3 15 (by decide) (by decide) (by decide))]; exact hAg.2.2.2.1, fun j9 hj9 => by rw [ho91 _ (hnj.2 (4 + j9) (by omega)) (hnj.1 (4 + j9) 14 (by omega) (by decide) (by omega)) (hnj.1 (4 + j9) 15 (by omega) (by decide) (by omega))]; exact hAg.2.2.2.2 j9 hj9⟩
                  refine hv_Vp (As := [.int (nI b), .int (nI (wF V b + i)), .int 0]) (rest := []) hE hml hK hI (c_Mo_ruled0 l hl0 b0 D cA g2 mo a th st en ct (gd1) ((v1).1) ((v1).2.1) ((v1).2.2.1) ((v1).2.2.2.1) (nI rr.2) V b (wF V b + i) hs1.1 hnj hA13 (by omega) (by omega)) cd_Mo_ruled w750 w752 ws35 hs1.1 rfl rfl rfl rfl hl.1 (Nat.le_of_ble_eq_true rfl) d_Mo_layBox_186 ⟨by first | (show 10 + _ + 1 ≤ 10 + _; omega) | (show 8 + (_ + 11) + (200 + 40 * _) ≤ 200 + 40 * _; omega), by first | (show 10 + _ + 1 ≤ 10 + _; omega) | (show 8 + (_ + 11) + (200 + 40 * _) ≤ 200 + 40 * _; omega)⟩ ⟨by exact Nat.le_refl _, by exact Nat.le_refl _⟩ (fun H locs hI => ?_)
                  refine W.eq (g2 := F0 m 189 ls [.long (rdF V b (wF V b + i) 0)]) rfl ?_
                  refine lv_lstore (lv' := [(14, .long (rdF V b (wF V b + i) 0)), (12, .long Y), (10, .long (X + (plF V b i))), (8, .long (plF V b i)), (0, .ref mo), (1, .int (nI b)), (2, .long X), (4, .long Y), (6, .int (b2i rb)), (7, .int (nI (wF V b + i)))]) hx hb d_Mo_layBox_189 hl (by decide) rfl (fun ls hl => ?_)
                  refine lv_aload_n hx hb d_Mo_layBox_191 rfl (lv_at hl 4 rfl) ?_
                  refine lv_iload_n hx hb d_Mo_layBox_192 rfl (lv_at hl 5 rfl) ?_
                  refine lv_iload hx hb d_Mo_layBox_193 (lv_at hl 9 rfl) ?_
                  refine lv_iconst (v := 1) hx hb d_Mo_layBox_195 (by decide) ?_
                  refine hv_Vp (As := [.int (nI b), .int (nI (wF V b + i)), .int 1]) (rest := []) hE hml hK hI (c_Mo_ruled1 l hl0 b0 D cA g2 mo a th st en ct (gd1) ((v1).1) ((v1).2.1) ((v1).2.2.1) ((v1).2.2.2.1) (nI rr.2) V b (wF V b + i) hs1.1 hnj hA13 (by omega) (by omega)) cd_Mo_ruled w750 w752 ws35 hs1.1 rfl rfl rfl rfl hl.1 (Nat.le_of_ble_eq_true rfl) d_Mo_layBox_196 ⟨by first | (show 10 + _ + 1 ≤ 10 + _; omega) | (show 8 + (_ + 11) + (200 + 40 * _) ≤ 200 + 40 * _; omega), by first | (show 10 + _ + 1 ≤ 10 + _; omega) | (show 8 + (_ + 11) + (200 + 40 * _) ≤ 200 + 40 * _; omega)⟩ ⟨by exact Nat.le_refl _, by exact Nat.le_refl _⟩ (fun H locs hI => ?_)
                  refine W.eq (g2 := F0 m 199 ls [.long (rdF V b (wF V b + i) 1)]) rfl ?_
                  refine lv_lstore (lv' := [(16, .long (rdF V b (wF V b + i) 1)), (14, .long (rdF V b (wF V b + i) 0)), (12, .long Y), (10, .long (X + (plF V b i))), (8, .long (plF V b i)), (0, .ref mo), (1, .int (nI b)), (2, .long X), (4, .long Y), (6, .int (b2i rb)), (7, .int (nI (wF V b + i)))]) hx hb d_Mo_layBox_199 hl (by decide) rfl (fun ls hl => ?_)
                  refine lv_aload_n hx hb d_Mo_layBox_201 rfl (lv_at hl 5 rfl) ?_
                  refine lv_iload_n hx hb d_Mo_layBox_202 rfl (lv_at hl 6 rfl) ?_
                  refine lv_iload hx hb d_Mo_layBox_203 (lv_at hl 10 rfl) ?_
                  refine lv_iconst (v := 2) hx hb d_Mo_layBox_205 (by decide) ?_
                  refine hv_Vp (As := [.int (nI b), .int (nI (wF V b + i)), .int 2]) (rest := []) hE hml hK hI (c_Mo_ruled2 l hl0 b0 D cA g2 mo a th st en ct (gd1) ((v1).1) ((v1).2.1) ((v1).2.2.1) ((v1).2.2.2.1) (nI rr.2) V b (wF V b + i) hs1.1 hnj hA13 (by omega) (by omega)) cd_Mo_ruled w750 w752 ws35 hs1.1 rfl rfl rfl rfl hl.1 (Nat.le_of_ble_eq_true rfl) d_Mo_layBox_206 ⟨by first | (show 10 + _ + 1 ≤ 10 + _; omega) | (show 8 + (_ + 11) + (200 + 40 * _) ≤ 200 + 40 * _; omega), by first | (show 10 + _ + 1 ≤ 10 + _; omega) | (show 8 + (_ + 11) + (200 + 40 * _) ≤ 200 + 40 * _; omega)⟩ ⟨by exact Nat.le_refl _, by exact Nat.le_refl _⟩ (fun H locs hI => ?_)
                  refine W.eq (g2 := F0 m 209 ls [.long (rdF V b (wF V b + i) 2)]) rfl ?_
                  refine lv_lstore (lv' := [(18, .long (rdF V b (wF V b + i) 2)), (16, .long (rdF V b (wF V b + i) 1)), (14, .long (rdF V b (wF V b + i) 0)), (12, .long Y), (10, .long (X + (plF V b i))), (8, .long (plF V b i)), (0, .ref mo), (1, .int (nI b)), (2, .long X), (4, .long Y), (6, .int (b2i rb)), (7, .int (nI (wF V b + i)))]) hx hb d_Mo_layBox_209 hl (by decide) rfl (fun ls hl => ?_)
                  refine lv_lload hx hb d_Mo_layBox_211 (lv_at hl 2 rfl) ?_
                  refine lv_lconst (v := 0) hx hb d_Mo_layBox_213 (by decide) ?_
                  refine W.lcmp hx hb d_Mo_layBox_214 ?_
                  refine lv_if_le (tgt := 263) hx hb d_Mo_layBox_215 (by decide) (fun c215 => ?_) (fun c215 => ?_)
                  · skip
                    have m215 := (lg_cmp_le _ _).mp c215
                    have n215 := Int64.not_lt.mpr m215
                    refine lv_iconst (v := 1) hx hb d_Mo_layBox_263 (by decide) ?_
                    refine lv_goto (tgt := 268) hx hb d_Mo_layBox_264 (by decide) ?_
                    refine lv_istore (lv' := [(6, .int 1), (18, .long (rdF V b (wF V b + i) 2)), (16, .long (rdF V b (wF V b + i) 1)), (14, .long (rdF V b (wF V b + i) 0)), (12, .long Y), (10, .long (X + (plF V b i))), (8, .long (plF V b i)), (0, .ref mo), (1, .int (nI b)), (2, .long X), (4, .long Y), (7, .int (nI (wF V b + i)))]) hx hb d_Mo_layBox_268 hl (by decide) rfl (fun ls hl => ?_)
                    refine lv_goto (tgt := 353) hx hb d_Mo_layBox_270 (by decide) ?_
                    obtain ⟨v14, ev14⟩ : ∃ y : Int32, y = (nI (wF V b + i)) + 1 := ⟨_, rfl⟩
                    refine lv_iinc (v := v14) (lv' := [(7, .int v14), (6, .int 1), (18, .long (rdF V b (wF V b + i) 2)), (16, .long (rdF V b (wF V b + i) 1)), (14, .long (rdF V b (wF V b + i) 0)), (12, .long Y), (10, .long (X + (plF V b i))), (8, .long (plF V b i)), (0, .ref mo), (1, .int (nI b)), (2, .long X), (4, .long Y)]) hx hb d_Mo_layBox_353 hl (k := 11) rfl (by rw [ev14]; rfl) (by decide) rfl (fun ls hl => ?_)
                    refine lv_goto (tgt := 11) hx hb d_Mo_layBox_356 (by decide) ?_
                    have hq15 : g2 (a 16) = some (.inl (cA 1, 6000, .inr (.inl (rr.1)))) := by rw [ho91 _ (hnj.2 16 (by decide)) (hnj.1 16 14 (by decide) (by decide) (by decide)) (hnj.1 16 15 (by decide) (by decide) (by decide))]; exact hg16
                    exact ih (i + 1) true rr _ _ _ ls (by omega) ⟨⟨_, _, hs1.1, hs1.2.1, hs1.2.2⟩, hq15⟩ hgr9 (fun z z1 z2 z3 z4 => by rw [ho91 _ z1 z2 z3]; exact hfo z z1 z2 z3 z4) (lay_st hgo (by simp only [layI, mxF, tpF, k51, c100, c178, m215, show ¬ (1 : Int32) = 0 from by decide, show ¬ (4 : Int32) = 0 from by decide, show ¬ (4 : Int32) = 1 from by decide, show (-1 : Int32).toInt64 = -1 from by decide, if_true, if_false, Bool.false_eq_true, or_true, true_or, or_self])) hI (by rw [show nI (wF V b + (i + 1)) = v14 from by rw [ev14, nI_1]; rfl]; exact lv_sub hl [8, 9, 10, 11, 1, 0] rfl)
                  · skip
                    have m215 : ¬ _ := fun q => c215 ((lg_cmp_le _ _).mpr q)
                    have n215 := Int64.not_le.mp m215
                    refine lv_lload hx hb d_Mo_layBox_218 (lv_at hl 1 rfl) ?_
                    refine lv_lload hx hb d_Mo_layBox_220 (lv_at hl 0 rfl) ?_
                    refine lv_ladd hx hb d_Mo_layBox_222 ?_
                    refine lv_lconst (v := 0) hx hb d_Mo_layBox_223 (by decide) ?_
                    refine W.lcmp hx hb d_Mo_layBox_224 ?_
                    refine lv_if_le (tgt := 263) hx hb d_Mo_layBox_225 (by decide) (fun c225 => ?_) (fun c225 => ?_)
                    · skip
                      have m225 := (lg_cmp_le _ _).mp c225
                      have n225 := Int64.not_lt.mpr m225
                      refine lv_iconst (v := 1) hx hb d_Mo_layBox_263 (by decide) ?_
                      refine lv_goto (tgt := 268) hx hb d_Mo_layBox_264 (by decide) ?_
                      refine lv_istore (lv' := [(6, .int 1), (18, .long (rdF V b (wF V b + i) 2)), (16, .long (rdF V b (wF V b + i) 1)), (14, .long (rdF V b (wF V b + i) 0)), (12, .long Y), (10, .long (X + (plF V b i))), (8, .long (plF V b i)), (0, .ref mo), (1, .int (nI b)), (2, .long X), (4, .long Y), (7, .int (nI (wF V b + i)))]) hx hb d_Mo_layBox_268 hl (by decide) rfl (fun ls hl => ?_)
                      refine lv_goto (tgt := 353) hx hb d_Mo_layBox_270 (by decide) ?_
                      obtain ⟨v16, ev16⟩ : ∃ y : Int32, y = (nI (wF V b + i)) + 1 := ⟨_, rfl⟩
                      refine lv_iinc (v := v16) (lv' := [(7, .int v16), (6, .int 1), (18, .long (rdF V b (wF V b + i) 2)), (16, .long (rdF V b (wF V b + i) 1)), (14, .long (rdF V b (wF V b + i) 0)), (12, .long Y), (10, .long (X + (plF V b i))), (8, .long (plF V b i)), (0, .ref mo), (1, .int (nI b)), (2, .long X), (4, .long Y)]) hx hb d_Mo_layBox_353 hl (k := 11) rfl (by rw [ev16]; rfl) (by decide) rfl (fun ls hl => ?_)
                      refine lv_goto (tgt := 11) hx hb d_Mo_layBox_356 (by decide) ?_
                      have hq17 : g2 (a 16) = some (.inl (cA 1, 6000, .inr (.inl (rr.1)))) := by rw [ho91 _ (hnj.2 16 (by decide)) (hnj.1 16 14 (by decide) (by decide) (by decide)) (hnj.1 16 15 (by decide) (by decide) (by decide))]; exact hg16
                      exact ih (i + 1) true rr _ _ _ ls (by omega) ⟨⟨_, _, hs1.1, hs1.2.1, hs1.2.2⟩, hq17⟩ hgr9 (fun z z1 z2 z3 z4 => by rw [ho91 _ z1 z2 z3]; exact hfo z z1 z2 z3 z4) (lay_st hgo (by simp only [layI, mxF, tpF, k51, c100, c178, m215, m225, show ¬ (1 : Int32) = 0 from by decide, show ¬ (4 : Int32) = 0 from by decide, show ¬ (4 : Int32) = 1 from by decide, show (-1 : Int32).toInt64 = -1 from by decide, if_true, if_false, Bool.false_eq_true, or_true, true_or, or_self])) hI (by rw [show nI (wF V b + (i + 1)) = v16 from by rw [ev16, nI_1]; rfl]; exact lv_sub hl [8, 9, 10, 11, 1, 0] rfl)
                    · skip
                      have m225 : ¬ _ := fun q => c225 ((lg_cmp_le _ _).mpr q)
                      have n225 := Int64.not_le.mp m225
                      refine lv_aload_n hx hb d_Mo_layBox_228 rfl (lv_at hl 6 rfl) ?_
                      refine lv_iconst (v := (-1)) hx hb d_Mo_layBox_229 (by decide) ?_
                      refine lv_lload hx hb d_Mo_layBox_230 (lv_at hl 4 rfl) ?_
                      refine lv_aload_n hx hb d_Mo_layBox_232 rfl (lv_at hl 6 rfl) ?_
                      refine hv_get hE k_Mo hI 7 (by decide) w523 hs1.1 rfl d_Mo_layBox_233 ?_
                      refine lv_iload_n hx hb d_Mo_layBox_236 rfl (lv_at hl 7 rfl) ?_
                      refine hv_zald hE hI 2 hq3 rfl (pk_in b 100 hb9 rfl (by omega)) d_Mo_layBox_237 ?_
                      rw [nI_cl (by omega)]
                      refine W.eq (g2 := F0 m 238 ls [.int (b2i (wB V b)), .long (X + (plF V b i)), .int (-1), .ref mo]) rfl ?_
                      refine lv_if_eq (tgt := 249) hx hb d_Mo_layBox_238 (by decide) (fun c238 => ?_) (fun c238 => ?_)
                      · skip
                        have k238 := b2i_f c238
                        refine lv_lload hx hb d_Mo_layBox_249 (lv_at hl 3 rfl) ?_
                        refine lv_lload hx hb d_Mo_layBox_251 (lv_at hl 2 rfl) ?_
                        refine lv_lload hx hb d_Mo_layBox_253 (lv_at hl 1 rfl) ?_
                        refine lv_lload hx hb d_Mo_layBox_255 (lv_at hl 0 rfl) ?_
                        have hq18 : g2 (a 16) = some (.inl (cA 1, 6000, .inr (.inl (rr.1)))) := by rw [ho91 _ (hnj.2 16 (by decide)) (hnj.1 16 14 (by decide) (by decide) (by decide)) (hnj.1 16 15 (by decide) (by decide) (by decide))]; exact hg16
                        refine hv_V (As := [.int (-1), .long (X + (plF V b i)), .long Y, .long (rdF V b (wF V b + i) 0), .long (rdF V b (wF V b + i) 1), .long (rdF V b (wF V b + i) 2)]) (rest := []) hE hml hK hI (c_Mo_note l hl0 b0 D cA g2 mo a th st en ct (gd1) ((v1).1) ((v1).2.1) ((v1).2.2.1) ((v1).2.2.2.1) (-1) (X + (plF V b i)) Y (rdF V b (wF V b + i) 0) (rdF V b (wF V b + i) 1) (rdF V b (wF V b + i) 2) rr hs1.1 hnj hq18 hgr9) cd_Mo_note w746 w748 ws34 hs1.1 rfl rfl hl.1 (Nat.le_of_ble_eq_true rfl) d_Mo_layBox_257 ⟨by first | (show 10 + _ + 1 ≤ 10 + _; omega) | (show 8 + (_ + 11) + (200 + 40 * _) ≤ 200 + 40 * _; omega), by first | (show 10 + _ + 1 ≤ 10 + _; omega) | (show 8 + (_ + 11) + (200 + 40 * _) ≤ 200 + 40 * _; omega)⟩ ⟨by exact Nat.le_refl _, by exact Nat.le_refl _⟩ (fun v9 g20 H locs hp hI => ?_) (fun q9 E9 ce9 g9 H locs hp => hp.elim)
                        obtain ⟨hv, hg19, hh19, ho919⟩ := hp
                        rw [hv]
                        refine W.eq (g2 := F0 m 260 ls [.int (b2i (noteF (-1 : Int32).toInt64 (X + (plF V b i)) Y (rdF V b (wF V b + i) 0) (rdF V b (wF V b + i) 1) (rdF V b (wF V b + i) 2) rr).1)]) rfl ?_
                        refine lv_if_eq (tgt := 267) hx hb d_Mo_layBox_260 (by decide) (fun c260 => ?_) (fun c260 => ?_)
                        · skip
                          have k260 := b2i_f c260
                          refine lv_iconst (v := 0) hx hb d_Mo_layBox_267 (by decide) ?_
                          refine lv_istore (lv' := [(6, .int 0), (18, .long (rdF V b (wF V b + i) 2)), (16, .long (rdF V b (wF V b + i) 1)), (14, .long (rdF V b (wF V b + i) 0)), (12, .long Y), (10, .long (X + (plF V b i))), (8, .long (plF V b i)), (0, .ref mo), (1, .int (nI b)), (2, .long X), (4, .long Y), (7, .int (nI (wF V b + i)))]) hx hb d_Mo_layBox_268 hl (by decide) rfl (fun ls hl => ?_)
                          refine lv_goto (tgt := 353) hx hb d_Mo_layBox_270 (by decide) ?_
                          obtain ⟨v21, ev21⟩ : ∃ y : Int32, y = (nI (wF V b + i)) + 1 := ⟨_, rfl⟩
                          refine lv_iinc (v := v21) (lv' := [(7, .int v21), (6, .int 0), (18, .long (rdF V b (wF V b + i) 2)), (16, .long (rdF V b (wF V b + i) 1)), (14, .long (rdF V b (wF V b + i) 0)), (12, .long Y), (10, .long (X + (plF V b i))), (8, .long (plF V b i)), (0, .ref mo), (1, .int (nI b)), (2, .long X), (4, .long Y)]) hx hb d_Mo_layBox_353 hl (k := 11) rfl (by rw [ev21]; rfl) (by decide) rfl (fun ls hl => ?_)
                          refine lv_goto (tgt := 11) hx hb d_Mo_layBox_356 (by decide) ?_
                          have hq22 : g20 (a 14) = some (.inl (cA 1, 4, .inr (.inl (v1).2.2.2.2.1))) := by rw [ho919 _ (hnj.2 14 (by decide)) (hnj.1 14 16 (by decide) (by decide) (by decide))]; exact hs1.2.1
                          have hq23 : g20 (a 15) = some (.inl (cA 1, 4, .inr (.inl (v1).2.2.2.2.2))) := by rw [ho919 _ (hnj.2 15 (by decide)) (hnj.1 15 16 (by decide) (by decide) (by decide))]; exact hs1.2.2
                          exact ih (i + 1) ((noteF (-1 : Int32).toInt64 (X + (plF V b i)) Y (rdF V b (wF V b + i) 0) (rdF V b (wF V b + i) 1) (rdF V b (wF V b + i) 2) rr).1) ((noteF (-1 : Int32).toInt64 (X + (plF V b i)) Y (rdF V b (wF V b + i) 0) (rdF V b (wF V b + i) 1) (rdF V b (wF V b + i) 2) rr).2) _ _ _ ls (by omega) ⟨⟨_, _, hg19, hq22, hq23⟩, hh19⟩ (noteF_le hgr9) (fun z z1 z2 z3 z4 => by rw [ho919 _ z1 z4, ho91 _ z1 z2 z3]; exact hfo z z1 z2 z3 z4) (lay_st hgo (by simp only [layI, mxF, tpF, k51, c100, c178, m215, m225, show ¬ (1 : Int32) = 0 from by decide, show ¬ (4 : Int32) = 0 from by decide, show ¬ (4 : Int32) = 1 from by decide, show (-1 : Int32).toInt64 = -1 from by decide, if_true, if_false, Bool.false_eq_true, or_true, true_or, or_self])) hI (by rw [show nI (wF V b + (i + 1)) = v21 from by rw [ev21, nI_1]; rfl]; rw [k260]; exact lv_sub hl [8, 9, 10, 11, 1, 0] rfl)
                        · skip
                          have k260 := b2i_t c260
                          refine lv_iconst (v := 1) hx hb d_Mo_layBox_263 (by decide) ?_
                          refine lv_goto (tgt := 268) hx hb d_Mo_layBox_264 (by decide) ?_
                          refine lv_istore (lv' := [(6, .int 1), (18, .long (rdF V b (wF V b + i) 2)), (16, .long (rdF V b (wF V b + i) 1)), (14, .long (rdF V b (wF V b + i) 0)), (12, .long Y), (10, .long (X + (plF V b i))), (8, .long (plF V b i)), (0, .ref mo), (1, .int (nI b)), (2, .long X), (4, .long Y), (7, .int (nI (wF V b + i)))]) hx hb d_Mo_layBox_268 hl (by decide) rfl (fun ls hl => ?_)
                          refine lv_goto (tgt := 353) hx hb d_Mo_layBox_270 (by decide) ?_
                          obtain ⟨v24, ev24⟩ : ∃ y : Int32, y = (nI (wF V b + i)) + 1 := ⟨_, rfl⟩
                          refine lv_iinc (v := v24) (lv' := [(7, .int v24), (6, .int 1), (18, .long (rdF V b (wF V b + i) 2)), (16, .long (rdF V b (wF V b + i) 1)), (14, .long (rdF V b (wF V b + i) 0)), (12, .long Y), (10, .long (X + (plF V b i))), (8, .long (plF V b i)), (0, .ref mo), (1, .int (nI b)), (2, .long X), (4, .long Y)]) hx hb d_Mo_layBox_353 hl (k := 11) rfl (by rw [ev24]; rfl) (by decide) rfl (fun ls hl => ?_)
                          refine lv_goto (tgt := 11) hx hb d_Mo_layBox_356 (by decide) ?_
                          have hq25 : g20 (a 14) = some (.inl (cA 1, 4, .inr (.inl (v1).2.2.2.2.1))) := by rw [ho919 _ (hnj.2 14 (by decide)) (hnj.1 14 16 (by decide) (by decide) (by decide))]; exact hs1.2.1
                          have hq26 : g20 (a 15) = some (.inl (cA 1, 4, .inr (.inl (v1).2.2.2.2.2))) := by rw [ho919 _ (hnj.2 15 (by decide)) (hnj.1 15 16 (by decide) (by decide) (by decide))]; exact hs1.2.2
                          exact ih (i + 1) ((noteF (-1 : Int32).toInt64 (X + (plF V b i)) Y (rdF V b (wF V b + i) 0) (rdF V b (wF V b + i) 1) (rdF V b (wF V b + i) 2) rr).1) ((noteF (-1 : Int32).toInt64 (X + (plF V b i)) Y (rdF V b (wF V b + i) 0) (rdF V b (wF V b + i) 1) (rdF V b (wF V b + i) 2) rr).2) _ _ _ ls (by omega) ⟨⟨_, _, hg19, hq25, hq26⟩, hh19⟩ (noteF_le hgr9) (fun z z1 z2 z3 z4 => by rw [ho919 _ z1 z4, ho91 _ z1 z2 z3]; exact hfo z z1 z2 z3 z4) (lay_st hgo (by simp only [layI, mxF, tpF, k51, c100, c178, m215, m225, show ¬ (1 : Int32) = 0 from by decide, show ¬ (4 : Int32) = 0 from by decide, show ¬ (4 : Int32) = 1 from by decide, show (-1 : Int32).toInt64 = -1 from by decide, if_true, if_false, Bool.false_eq_true, or_true, true_or, or_self])) hI (by rw [show nI (wF V b + (i + 1)) = v24 from by rw [ev24, nI_1]; rfl]; rw [k260]; exact lv_sub hl [8, 9, 10, 11, 1, 0] rfl)
                      · skip
                        have k238 := b2i_t c238
                        exact absurd k238 (by rw [k51]; decide)
              · skip
                refine lv_aload_n hx hb d_Mo_layBox_103 rfl (lv_at hl 3 rfl) ?_
                refine lv_aload_n hx hb d_Mo_layBox_104 rfl (lv_at hl 3 rfl) ?_
                refine lv_iload hx hb d_Mo_layBox_105 (lv_at hl 8 rfl) ?_
                refine lv_iconst (v := 0) hx hb d_Mo_layBox_107 (by decide) ?_
                have hq27 : g2 (a 1) = some (.inl (cA 0, 51000, .inl V.2.1)) := by rw [ho91 _ (hnj.2 1 (by decide)) (hnj.1 1 14 (by decide) (by decide) (by decide)) (hnj.1 1 15 (by decide) (by decide) (by decide))]; exact hAg.2.1
                refine hv_Vp (As := [.int (nI (wF V b + i)), .int 0]) (rest := [.ref mo]) hE hml hK hI (c_Mo_number l hl0 b0 D cA g2 mo a th st en ct (gd1) ((v1).1) ((v1).2.1) ((v1).2.2.1) ((v1).2.2.2.1) (nI rr.2) V (wF V b + i) 0 hs1.1 hnj hq27 (by omega) (by omega)) cd_Mo_number w664 w666 ws21 hs1.1 rfl rfl rfl rfl hl.1 (Nat.le_of_ble_eq_true rfl) d_Mo_layBox_108 ⟨by first | (show 10 + _ + 1 ≤ 10 + _; omega) | (show 8 + (_ + 11) + (200 + 40 * _) ≤ 200 + 40 * _; omega), by first | (show 10 + _ + 1 ≤ 10 + _; omega) | (show 8 + (_ + 11) + (200 + 40 * _) ≤ 200 + 40 * _; omega)⟩ ⟨by exact Nat.le_refl _, by exact Nat.le_refl _⟩ (fun H locs hI => ?_)
                refine W.eq (g2 := F0 m 111 ls [.int (wN V (wF V b + i) 0), .ref mo]) rfl ?_
                refine lv_lload hx hb d_Mo_layBox_111 (lv_at hl 1 rfl) ?_
                refine lv_aload_n hx hb d_Mo_layBox_113 rfl (lv_at hl 3 rfl) ?_
                refine hv_get hE k_Mo hI 7 (by decide) w523 hs1.1 rfl d_Mo_layBox_114 ?_
                refine lv_iload_n hx hb d_Mo_layBox_117 rfl (lv_at hl 4 rfl) ?_
                refine hv_zald hE hI 2 hq3 rfl (pk_in b 100 hb9 rfl (by omega)) d_Mo_layBox_118 ?_
                rw [nI_cl (by omega)]
                refine W.eq (g2 := F0 m 119 ls [.int (b2i (wB V b)), .long (X + (plF V b i)), .int (wN V (wF V b + i) 0), .ref mo]) rfl ?_
                refine lv_if_eq (tgt := 136) hx hb d_Mo_layBox_119 (by decide) (fun c119 => ?_) (fun c119 => ?_)
                · skip
                  have k119 := b2i_f c119
                  refine lv_lload hx hb d_Mo_layBox_136 (lv_at hl 0 rfl) ?_
                  refine lv_aload_n hx hb d_Mo_layBox_138 rfl (lv_at hl 3 rfl) ?_
                  refine lv_iload hx hb d_Mo_layBox_139 (lv_at hl 8 rfl) ?_
                  refine lv_iconst (v := 1) hx hb d_Mo_layBox_141 (by decide) ?_
                  refine hv_Vp (As := [.int (nI (wF V b + i)), .int 1]) (rest := [.long Y, .long (X + (plF V b i)), .int (wN V (wF V b + i) 0), .ref mo]) hE hml hK hI (c_Mo_number l hl0 b0 D cA g2 mo a th st en ct (gd1) ((v1).1) ((v1).2.1) ((v1).2.2.1) ((v1).2.2.2.1) (nI rr.2) V (wF V b + i) 1 hs1.1 hnj hq27 (by omega) (by omega)) cd_Mo_number w664 w666 ws21 hs1.1 rfl rfl rfl rfl hl.1 (Nat.le_of_ble_eq_true rfl) d_Mo_layBox_142 ⟨by first | (show 10 + _ + 1 ≤ 10 + _; omega) | (show 8 + (_ + 11) + (200 + 40 * _) ≤ 200 + 40 * _; omega), by first | (show 10 + _ + 1 ≤ 10 + _; omega) | (show 8 + (_ + 11) + (200 + 40 * _) ≤ 200 + 40 * _; omega)⟩ ⟨by exact Nat.le_refl _, by exact Nat.le_refl _⟩ (fun H locs hI => ?_)
                  refine W.eq (g2 := F0 m 145 ls [.int (wN V (wF V b + i) 1), .long Y, .long (X + (plF V b i)), .int (wN V (wF V b + i) 0), .ref mo]) rfl ?_
                  refine lv_i2l (v := (wN V (wF V b + i) 1).toInt64) hx hb d_Mo_layBox_145 rfl ?_
                  refine lv_aload_n hx hb d_Mo_layBox_146 rfl (lv_at hl 3 rfl) ?_
                  refine lv_iload hx hb d_Mo_layBox_147 (lv_at hl 8 rfl) ?_
                  refine lv_iconst (v := 2) hx hb d_Mo_layBox_149 (by decide) ?_
                  refine hv_Vp (As := [.int (nI (wF V b + i)), .int 2]) (rest := [.long ((wN V (wF V b + i) 1).toInt64), .long Y, .long (X + (plF V b i)), .int (wN V (wF V b + i) 0), .ref mo]) hE hml hK hI (c_Mo_number l hl0 b0 D cA g2 mo a th st en ct (gd1) ((v1).1) ((v1).2.1) ((v1).2.2.1) ((v1).2.2.2.1) (nI rr.2) V (wF V b + i) 2 hs1.1 hnj hq27 (by omega) (by omega)) cd_Mo_number w664 w666 ws21 hs1.1 rfl rfl rfl rfl hl.1 (Nat.le_of_ble_eq_true rfl) d_Mo_layBox_150 ⟨by first | (show 10 + _ + 1 ≤ 10 + _; omega) | (show 8 + (_ + 11) + (200 + 40 * _) ≤ 200 + 40 * _; omega), by first | (show 10 + _ + 1 ≤ 10 + _; omega) | (show 8 + (_ + 11) + (200 + 40 * _) ≤ 200 + 40 * _; omega)⟩ ⟨by exact Nat.le_refl _, by exact Nat.le_refl _⟩ (fun H locs hI => ?_)
                  refine W.eq (g2 := F0 m 153 ls [.int (wN V (wF V b + i) 2), .long ((wN V (wF V b + i) 1).toInt64), .long Y, .long (X + (plF V b i)), .int (wN V (wF V b + i) 0), .ref mo]) rfl ?_
                  refine lv_i2l (v := (wN V (wF V b + i) 2).toInt64) hx hb d_Mo_layBox_153 rfl ?_
                  refine lv_aload_n hx hb d_Mo_layBox_154 rfl (lv_at hl 3 rfl) ?_
                  refine lv_iload hx hb d_Mo_layBox_155 (lv_at hl 8 rfl) ?_
                  refine lv_iconst (v := 3) hx hb d_Mo_layBox_157 (by decide) ?_
                  refine hv_Vp12 (As := [.int (nI (wF V b + i)), .int 3]) (rest := [.long ((wN V (wF V b + i) 2).toInt64), .long ((wN V (wF V b + i) 1).toInt64), .long Y, .long (X + (plF V b i)), .int (wN V (wF V b + i) 0), .ref mo]) hE hml hK hI (c_Mo_number l hl0 b0 D cA g2 mo a th st en ct (gd1) ((v1).1) ((v1).2.1) ((v1).2.2.1) ((v1).2.2.2.1) (nI rr.2) V (wF V b + i) 3 hs1.1 hnj hq27 (by omega) (by omega)) cd_Mo_number w664 w666 ws21 hs1.1 rfl rfl rfl rfl hl.1 (Nat.le_of_ble_eq_true rfl) d_Mo_layBox_158 ⟨by first | (show 10 + _ + 1 ≤ 10 + _; omega) | (show 12 + (_ + 11) + (200 + 40 * _) ≤ 200 + 40 * _; omega), by first | (show 10 + _ + 1 ≤ 10 + _; omega) | (show 12 + (_ + 11) + (200 + 40 * _) ≤ 200 + 40 * _; omega)⟩ ⟨by exact Nat.le_refl _, by exact Nat.le_refl _⟩ (fun H locs hI => ?_)
                  refine W.eq (g2 := F0 m 161 ls [.int (wN V (wF V b + i) 3), .long ((wN V (wF V b + i) 2).toInt64), .long ((wN V (wF V b + i) 1).toInt64), .long Y, .long (X + (plF V b i)), .int (wN V (wF V b + i) 0), .ref mo]) rfl ?_
                  refine lv_i2l (v := (wN V (wF V b + i) 3).toInt64) hx hb d_Mo_layBox_161 rfl ?_
                  have hq28 : g2 (a 16) = some (.inl (cA 1, 6000, .inr (.inl (rr.1)))) := by rw [ho91 _ (hnj.2 16 (by decide)) (hnj.1 16 14 (by decide) (by decide) (by decide)) (hnj.1 16 15 (by decide) (by decide) (by decide))]; exact hg16
                  refine hv_V (As := [.int (wN V (wF V b + i) 0), .long (X + (plF V b i)), .long Y, .long ((wN V (wF V b + i) 1).toInt64), .long ((wN V (wF V b + i) 2).toInt64), .long ((wN V (wF V b + i) 3).toInt64)]) (rest := []) hE hml hK hI (c_Mo_note l hl0 b0 D cA g2 mo a th st en ct (gd1) ((v1).1) ((v1).2.1) ((v1).2.2.1) ((v1).2.2.2.1) (wN V (wF V b + i) 0) (X + (plF V b i)) Y ((wN V (wF V b + i) 1).toInt64) ((wN V (wF V b + i) 2).toInt64) ((wN V (wF V b + i) 3).toInt64) rr hs1.1 hnj hq28 hgr9) cd_Mo_note w746 w748 ws34 hs1.1 rfl rfl hl.1 (Nat.le_of_ble_eq_true rfl) d_Mo_layBox_162 ⟨by first | (show 10 + _ + 1 ≤ 10 + _; omega) | (show 8 + (_ + 11) + (200 + 40 * _) ≤ 200 + 40 * _; omega), by first | (show 10 + _ + 1 ≤ 10 + _; omega) | (show 8 + (_ + 11) + (200 + 40 * _) ≤ 200 + 40 * _; omega)⟩ ⟨by exact Nat.le_refl _, by exact Nat.le_refl _⟩ (fun v9 g30 H locs hp hI => ?_) (fun q9 E9 ce9 g9 H locs hp => hp.elim)
                  obtain ⟨hv, hg29, hh29, ho929⟩ := hp
                  rw [hv]
                  refine W.eq (g2 := F0 m 165 ls [.int (b2i (noteF (wN V (wF V b + i) 0).toInt64 (X + (plF V b i)) Y ((wN V (wF V b + i) 1).toInt64) ((wN V (wF V b + i) 2).toInt64) ((wN V (wF V b + i) 3).toInt64) rr).1)]) rfl ?_
                  refine lv_istore (lv' := [(6, .int (b2i (noteF (wN V (wF V b + i) 0).toInt64 (X + (plF V b i)) Y ((wN V (wF V b + i) 1).toInt64) ((wN V (wF V b + i) 2).toInt64) ((wN V (wF V b + i) 3).toInt64) rr).1)), (12, .long Y), (10, .long (X + (plF V b i))), (8, .long (plF V b i)), (0, .ref mo), (1, .int (nI b)), (2, .long X), (4, .long Y), (7, .int (nI (wF V b + i)))]) hx hb d_Mo_layBox_165 hl (by decide) rfl (fun ls hl => ?_)
                  refine lv_goto (tgt := 353) hx hb d_Mo_layBox_167 (by decide) ?_
                  obtain ⟨v31, ev31⟩ : ∃ y : Int32, y = (nI (wF V b + i)) + 1 := ⟨_, rfl⟩
                  refine lv_iinc (v := v31) (lv' := [(7, .int v31), (6, .int (b2i (noteF (wN V (wF V b + i) 0).toInt64 (X + (plF V b i)) Y ((wN V (wF V b + i) 1).toInt64) ((wN V (wF V b + i) 2).toInt64) ((wN V (wF V b + i) 3).toInt64) rr).1)), (12, .long Y), (10, .long (X + (plF V b i))), (8, .long (plF V b i)), (0, .ref mo), (1, .int (nI b)), (2, .long X), (4, .long Y)]) hx hb d_Mo_layBox_353 hl (k := 8) rfl (by rw [ev31]; rfl) (by decide) rfl (fun ls hl => ?_)
                  refine lv_goto (tgt := 11) hx hb d_Mo_layBox_356 (by decide) ?_
                  have hq32 : g30 (a 14) = some (.inl (cA 1, 4, .inr (.inl (v1).2.2.2.2.1))) := by rw [ho929 _ (hnj.2 14 (by decide)) (hnj.1 14 16 (by decide) (by decide) (by decide))]; exact hs1.2.1
                  have hq33 : g30 (a 15) = some (.inl (cA 1, 4, .inr (.inl (v1).2.2.2.2.2))) := by rw [ho929 _ (hnj.2 15 (by decide)) (hnj.1 15 16 (by decide) (by decide) (by decide))]; exact hs1.2.2
                  exact ih (i + 1) ((noteF (wN V (wF V b + i) 0).toInt64 (X + (plF V b i)) Y ((wN V (wF V b + i) 1).toInt64) ((wN V (wF V b + i) 2).toInt64) ((wN V (wF V b + i) 3).toInt64) rr).1) ((noteF (wN V (wF V b + i) 0).toInt64 (X + (plF V b i)) Y ((wN V (wF V b + i) 1).toInt64) ((wN V (wF V b + i) 2).toInt64) ((wN V (wF V b + i) 3).toInt64) rr).2) _ _ _ ls (by omega) ⟨⟨_, _, hg29, hq32, hq33⟩, hh29⟩ (noteF_le hgr9) (fun z z1 z2 z3 z4 => by rw [ho929 _ z1 z4, ho91 _ z1 z2 z3]; exact hfo z z1 z2 z3 z4) (lay_st hgo (by simp only [layI, mxF, tpF, k51, c100, show ¬ (1 : Int32) = 0 from by decide, show ¬ (4 : Int32) = 0 from by decide, show ¬ (4 : Int32) = 1 from by decide, show (-1 : Int32).toInt64 = -1 from by decide, if_true, if_false, Bool.false_eq_true, or_true, true_or, or_self])) hI (by rw [show nI (wF V b + (i + 1)) = v31 from by rw [ev31, nI_1]; rfl]; exact lv_sub hl [5, 6, 7, 8, 1, 0] rfl)
                · skip
                  have k119 := b2i_t c119
                  exact absurd k119 (by rw [k51]; decide)
            · skip
              have k70 := b2i_t c70
              exact absurd k70 (by rw [k51]; decide)
          · skip
            have k51 := b2i_t c51
            refine lv_lload_n hx hb d_Mo_layBox_54 rfl (lv_at hl 3 rfl) ?_
            refine lv_goto (tgt := 62) hx hb d_Mo_layBox_55 (by decide) ?_
            refine lv_lstore (lv' := [(10, .long X), (8, .long (plF V b i)), (0, .ref mo), (1, .int (nI b)), (2, .long X), (4, .long Y), (6, .int (b2i rb)), (7, .int (nI (wF V b + i)))]) hx hb d_Mo_layBox_62 hl (by decide) rfl (fun ls hl => ?_)
            refine lv_aload_n hx hb d_Mo_layBox_64 rfl (lv_at hl 2 rfl) ?_
            refine hv_get hE k_Mo hI 7 (by decide) w523 hs1.1 rfl d_Mo_layBox_65 ?_
            refine lv_iload_n hx hb d_Mo_layBox_68 rfl (lv_at hl 3 rfl) ?_
            refine hv_zald hE hI 2 hq3 rfl (pk_in b 100 hb9 rfl (by omega)) d_Mo_layBox_69 ?_
            rw [nI_cl (by omega)]
            refine W.eq (g2 := F0 m 70 ls [.int (b2i (wB V b))]) rfl ?_
            refine lv_if_eq (tgt := 89) hx hb d_Mo_layBox_70 (by decide) (fun c70 => ?_) (fun c70 => ?_)
            · skip
              have k70 := b2i_f c70
              exact absurd k70 (by rw [k51]; decide)
            · skip
              have k70 := b2i_t c70
              refine lv_lload hx hb d_Mo_layBox_73 (lv_at hl 5 rfl) ?_
              refine lv_aload_n hx hb d_Mo_layBox_75 rfl (lv_at hl 2 rfl) ?_
              refine hv_get hE k_Mo hI 9 (by decide) w525 hs1.1 rfl d_Mo_layBox_76 ?_
              refine lv_iload_n hx hb d_Mo_layBox_79 rfl (lv_at hl 3 rfl) ?_
              have hq34 : g2 (a 5) = some (.inl (cA 0, 100, .inl (wA V 1))) := by rw [ho91 _ (hnj.2 5 (by decide)) (hnj.1 5 14 (by decide) (by decide) (by decide)) (hnj.1 5 15 (by decide) (by decide) (by decide))]; exact (hAg.2.2.2.2 1 (by decide))
              refine hv_iald hE hI 0 hq34 rfl (pk_in b 100 (by omega) rfl (by omega)) d_Mo_layBox_80 ?_
              rw [nI_cl (by omega)]
              refine W.eq (g2 := F0 m 81 ls [.int (wA V 1 b), .long Y]) rfl ?_
              refine lv_i2l (v := (wA V 1 b).toInt64) hx hb d_Mo_layBox_81 rfl ?_
              refine lv_lsub hx hb d_Mo_layBox_82 ?_
              refine lv_lload hx hb d_Mo_layBox_83 (lv_at hl 1 rfl) ?_
              refine lv_ladd hx hb d_Mo_layBox_85 ?_
              refine lv_goto (tgt := 91) hx hb d_Mo_layBox_86 (by decide) ?_
              refine lv_lstore (lv' := [(12, .long ((Y - ((wA V 1 b).toInt64)) + (plF V b i))), (10, .long X), (8, .long (plF V b i)), (0, .ref mo), (1, .int (nI b)), (2, .long X), (4, .long Y), (6, .int (b2i rb)), (7, .int (nI (wF V b + i)))]) hx hb d_Mo_layBox_91 hl (by decide) rfl (fun ls hl => ?_)
              refine lv_aload_n hx hb d_Mo_layBox_93 rfl (lv_at hl 3 rfl) ?_
              refine hv_get hE k_Mo hI 1 (by decide) w517 hs1.1 rfl d_Mo_layBox_94 ?_
              refine lv_iload hx hb d_Mo_layBox_97 (lv_at hl 8 rfl) ?_
              have hq35 : g2 (a 0) = some (.inl (cA 0, 10200, .inl (wK V))) := by rw [ho91 _ (hnj.2 0 (by decide)) (hnj.1 0 14 (by decide) (by decide) (by decide)) (hnj.1 0 15 (by decide) (by decide) (by decide))]; exact hAg.1
              refine hv_iald hE hI 0 hq35 rfl (pk_in (wF V b + i) 10200 (by omega) rfl (by omega)) d_Mo_layBox_99 ?_
              rw [nI_cl (by omega)]
              refine W.eq (g2 := F0 m 100 ls [.int (wK V (wF V b + i))]) rfl ?_
              refine lv_if_ne (tgt := 170) hx hb d_Mo_layBox_100 (by decide) (fun c100 => ?_) (fun c100 => ?_)
              · skip
                refine lv_aload_n hx hb d_Mo_layBox_170 rfl (lv_at hl 3 rfl) ?_
                refine hv_get hE k_Mo hI 1 (by decide) w517 hs1.1 rfl d_Mo_layBox_171 ?_
                refine lv_iload hx hb d_Mo_layBox_174 (lv_at hl 8 rfl) ?_
                refine hv_iald hE hI 0 hq35 rfl (pk_in (wF V b + i) 10200 (by omega) rfl (by omega)) d_Mo_layBox_176 ?_
                rw [nI_cl (by omega)]
                refine W.eq (g2 := F0 m 177 ls [.int (wK V (wF V b + i))]) rfl ?_
                refine lv_iconst (v := 1) hx hb d_Mo_layBox_177 (by decide) ?_
                refine lv_icmp_ne (tgt := 273) hx hb d_Mo_layBox_178 (by decide) (fun c178 => ?_) (fun c178 => ?_)
                · skip
                  refine lv_aload_n hx hb d_Mo_layBox_273 rfl (lv_at hl 3 rfl) ?_
                  refine hv_get hE k_Mo hI 1 (by decide) w517 hs1.1 rfl d_Mo_layBox_274 ?_
                  refine lv_iload hx hb d_Mo_layBox_277 (lv_at hl 8 rfl) ?_
                  refine hv_iald hE hI 0 hq35 rfl (pk_in (wF V b + i) 10200 (by omega) rfl (by omega)) d_Mo_layBox_279 ?_
                  rw [nI_cl (by omega)]
                  refine W.eq (g2 := F0 m 280 ls [.int (wK V (wF V b + i))]) rfl ?_
                  refine lv_iconst (v := 4) hx hb d_Mo_layBox_280 (by decide) ?_
                  refine lv_icmp_ne (tgt := 353) hx hb d_Mo_layBox_281 (by decide) (fun c281 => ?_) (fun c281 => ?_)
                  · skip
                    obtain ⟨v36, ev36⟩ : ∃ y : Int32, y = (nI (wF V b + i)) + 1 := ⟨_, rfl⟩
                    refine lv_iinc (v := v36) (lv' := [(7, .int v36), (12, .long ((Y - ((wA V 1 b).toInt64)) + (plF V b i))), (10, .long X), (8, .long (plF V b i)), (0, .ref mo), (1, .int (nI b)), (2, .long X), (4, .long Y), (6, .int (b2i rb))]) hx hb d_Mo_layBox_353 hl (k := 8) rfl (by rw [ev36]; rfl) (by decide) rfl (fun ls hl => ?_)
                    refine lv_goto (tgt := 11) hx hb d_Mo_layBox_356 (by decide) ?_
                    have hq37 : g2 (a 16) = some (.inl (cA 1, 6000, .inr (.inl (rr.1)))) := by rw [ho91 _ (hnj.2 16 (by decide)) (hnj.1 16 14 (by decide) (by decide) (by decide)) (hnj.1 16 15 (by decide) (by decide) (by decide))]; exact hg16
                    exact ih (i + 1) true rr _ _ _ ls (by omega) ⟨⟨_, _, hs1.1, hs1.2.1, hs1.2.2⟩, hq37⟩ hgr9 (fun z z1 z2 z3 z4 => by rw [ho91 _ z1 z2 z3]; exact hfo z z1 z2 z3 z4) (lay_st hgo (by simp only [layI, mxF, tpF, k51, c100, c178, c281, show ¬ (1 : Int32) = 0 from by decide, show ¬ (4 : Int32) = 0 from by decide, show ¬ (4 : Int32) = 1 from by decide, show (-1 : Int32).toInt64 = -1 from by decide, if_true, if_false, Bool.false_eq_true, or_true, true_or, or_self])) hI (by rw [show nI (wF V b + (i + 1)) = v36 from by rw [ev36, nI_1]; rfl]; rw [k26] at hl; exact lv_sub hl [4, 5, 6, 7, 8, 0] rfl)
                  · skip
                    refine lv_aload_n hx hb d_Mo_layBox_284 rfl (lv_at hl 3 rfl) ?_
                    refine lv_iload hx hb d_Mo_layBox_285 (lv_at hl 8 rfl) ?_
                    refine lv_iconst (v := 0) hx hb d_Mo_layBox_287 (by decide) ?_
                    have hq38 : g2 (a 1) = some (.inl (cA 0, 51000, .inl V.2.1)) := by rw [ho91 _ (hnj.2 1 (by decide)) (hnj.1 1 14 (by decide) (by decide) (by decide)) (hnj.1 1 15 (by decide) (by decide) (by decide))]; exact hAg.2.1
                    refine hv_Vp (As := [.int (nI (wF V b + i)), .int 0]) (rest := []) hE hml hK hI (c_Mo_number l hl0 b0 D cA g2 mo a th st en ct (gd1) ((v1).1) ((v1).2.1) ((v1).2.2.1) ((v1).2.2.2.1) (nI rr.2) V (wF V b + i) 0 hs1.1 hnj hq38 (by omega) (by omega)) cd_Mo_number w664 w666 ws21 hs1.1 rfl rfl rfl rfl hl.1 (Nat.le_of_ble_eq_true rfl) d_Mo_layBox_288 ⟨by first | (show 10 + _ + 1 ≤ 10 + _; omega) | (show 8 + (_ + 11) + (200 + 40 * _) ≤ 200 + 40 * _; omega), by first | (show 10 + _ + 1 ≤ 10 + _; omega) | (show 8 + (_ + 11) + (200 + 40 * _) ≤ 200 + 40 * _; omega)⟩ ⟨by exact Nat.le_refl _, by exact Nat.le_refl _⟩ (fun H locs hI => ?_)
                    refine W.eq (g2 := F0 m 291 ls [.int (wN V (wF V b + i) 0)]) rfl ?_
                    refine lv_istore (lv' := [(14, .int (wN V (wF V b + i) 0)), (12, .long ((Y - ((wA V 1 b).toInt64)) + (plF V b i))), (10, .long X), (8, .long (plF V b i)), (0, .ref mo), (1, .int (nI b)), (2, .long X), (4, .long Y), (6, .int (b2i rb)), (7, .int (nI (wF V b + i)))]) hx hb d_Mo_layBox_291 hl (by decide) rfl (fun ls hl => ?_)
                    refine lv_aload_n hx hb d_Mo_layBox_293 rfl (lv_at hl 4 rfl) ?_
                    refine lv_iload hx hb d_Mo_layBox_294 (lv_at hl 9 rfl) ?_
                    refine lv_iconst (v := 1) hx hb d_Mo_layBox_296 (by decide) ?_
                    refine hv_Vp (As := [.int (nI (wF V b + i)), .int 1]) (rest := []) hE hml hK hI (c_Mo_number l hl0 b0 D cA g2 mo a th st en ct (gd1) ((v1).1) ((v1).2.1) ((v1).2.2.1) ((v1).2.2.2.1) (nI rr.2) V (wF V b + i) 1 hs1.1 hnj hq38 (by omega) (by omega)) cd_Mo_number w664 w666 ws21 hs1.1 rfl rfl rfl rfl hl.1 (Nat.le_of_ble_eq_true rfl) d_Mo_layBox_297 ⟨by first | (show 10 + _ + 1 ≤ 10 + _; omega) | (show 8 + (_ + 11) + (200 + 40 * _) ≤ 200 + 40 * _; omega), by first | (show 10 + _ + 1 ≤ 10 + _; omega) | (show 8 + (_ + 11) + (200 + 40 * _) ≤ 200 + 40 * _; omega)⟩ ⟨by exact Nat.le_refl _, by exact Nat.le_refl _⟩ (fun H locs hI => ?_)
                    refine W.eq (g2 := F0 m 300 ls [.int (wN V (wF V b + i) 1)]) rfl ?_
                    refine lv_istore (lv' := [(15, .int (wN V (wF V b + i) 1)), (14, .int (wN V (wF V b + i) 0)), (12, .long ((Y - ((wA V 1 b).toInt64)) + (plF V b i))), (10, .long X), (8, .long (plF V b i)), (0, .ref mo), (1, .int (nI b)), (2, .long X), (4, .long Y), (6, .int (b2i rb)), (7, .int (nI (wF V b + i)))]) hx hb d_Mo_layBox_300 hl (by decide) rfl (fun ls hl => ?_)
                    refine lv_aload_n hx hb d_Mo_layBox_302 rfl (lv_at hl 5 rfl) ?_
                    refine hv_get hE k_Mo hI 7 (by decide) w523 hs1.1 rfl d_Mo_layBox_303 ?_
                    refine lv_iload_n hx hb d_Mo_layBox_306 rfl (lv_at hl 6 rfl) ?_
                    refine hv_zald hE hI 2 hq3 rfl (pk_in b 100 hb9 rfl (by omega)) d_Mo_layBox_307 ?_
                    rw [nI_cl (by omega)]
                    refine W.eq (g2 := F0 m 308 ls [.int (b2i (wB V b))]) rfl ?_
                    refine lv_if_eq (tgt := 337) hx hb d_Mo_layBox_308 (by decide) (fun c308 => ?_) (fun c308 => ?_)
                    · skip
                      have k308 := b2i_f c308
                      exact absurd k308 (by rw [k51]; decide)
                    · skip
                      have k308 := b2i_t c308
                      refine lv_aload_n hx hb d_Mo_layBox_311 rfl (lv_at hl 5 rfl) ?_
                      refine lv_iload hx hb d_Mo_layBox_312 (lv_at hl 1 rfl) ?_
                      refine lv_lload hx hb d_Mo_layBox_314 (lv_at hl 3 rfl) ?_
                      refine lv_iload hx hb d_Mo_layBox_316 (lv_at hl 0 rfl) ?_
                      refine lv_i2l (v := (wN V (wF V b + i) 1).toInt64) hx hb d_Mo_layBox_318 rfl ?_
                      refine lv_ladd hx hb d_Mo_layBox_319 ?_
                      refine lv_lload hx hb d_Mo_layBox_320 (lv_at hl 2 rfl) ?_
                      refine lv_aload_n hx hb d_Mo_layBox_322 rfl (lv_at hl 5 rfl) ?_
                      refine hv_get hE k_Mo hI 9 (by decide) w525 hs1.1 rfl d_Mo_layBox_323 ?_
                      refine lv_iload hx hb d_Mo_layBox_326 (lv_at hl 1 rfl) ?_
                      refine hv_iald hE hI 0 hq34 rfl (by rw [(hiN.1 c281).2]; exact pk_in _ 100 (hiN.1 c281).1 rfl (by omega)) d_Mo_layBox_328 ?_
                      rw [show (wN V (wF V b + i) 0).toNatClampNeg = wI V (wF V b + i) from rfl]
                      refine W.eq (g2 := F0 m 329 ls [.int (wA V 1 (wI V (wF V b + i))), .long ((Y - ((wA V 1 b).toInt64)) + (plF V b i)), .long (X + ((wN V (wF V b + i) 1).toInt64)), .int (wN V (wF V b + i) 0), .ref mo]) rfl ?_
                      refine lv_i2l (v := (wA V 1 (wI V (wF V b + i))).toInt64) hx hb d_Mo_layBox_329 rfl ?_
                      refine lv_ladd hx hb d_Mo_layBox_330 ?_
                      refine W.eq (g2 := F0 m 331 ls [.long (((Y - ((wA V 1 b).toInt64)) + (plF V b i)) + ((wA V 1 (wI V (wF V b + i))).toInt64)), .long (X + ((wN V (wF V b + i) 1).toInt64)), .int (nI (wI V (wF V b + i))), .ref mo]) (by rw [← (hiN.1 c281).2]) ?_
                      have hq39 : g2 (a 16) = some (.inl (cA 1, 6000, .inr (.inl (rr.1)))) := by rw [ho91 _ (hnj.2 16 (by decide)) (hnj.1 16 14 (by decide) (by decide) (by decide)) (hnj.1 16 15 (by decide) (by decide) (by decide))]; exact hg16
                      have hA40 : moA cA g2 a V := ⟨by rw [ho91 _ (hnj.2 0 (by decide)) (hnj.1 0 14 (by decide) (by decide) (by decide)) (hnj.1 0 15 (by decide) (by decide) (by decide))]; exact hAg.1, by rw [ho91 _ (hnj.2 1 (by decide)) (hnj.1 1 14 (by decide) (by decide) (by decide)) (hnj.1 1 15 (by decide) (by decide) (by decide))]; exact hAg.2.1, by rw [ho91 _ (hnj.2 2 (by decide)) (hnj.1 2 14 (by decide) (by decide) (by decide)) (hnj.1 2 15 (by decide) (by decide) (by decide))]; exact hAg.2.2.1, by rw [ho91 _ (hnj.2 3 (by decide)) (hnj.1 3 14 (by decide) (by decide) (by decide)) (hnj.1 3 15 (by decide) (by decide) (by decide))]; exact hAg.2.2.2.1, fun j9 hj9 => by rw [ho91 _ (hnj.2 (4 + j9) (by omega)) (hnj.1 (4 + j9) 14 (by omega) (by decide) (by omega)) (hnj.1 (4 + j9) 15 (by omega) (by decide) (by omega))]; exact hAg.2.2.2.2 j9 hj9⟩
                      refine hv_V (As := [.int (nI (wI V (wF V b + i))), .long (X + ((wN V (wF V b + i) 1).toInt64)), .long (((Y - ((wA V 1 b).toInt64)) + (plF V b i)) + ((wA V 1 (wI V (wF V b + i))).toInt64))]) (rest := []) hE hml hK hI (hrec g2 (wI V (wF V b + i)) (X + ((wN V (wF V b + i) 1).toInt64)) (((Y - ((wA V 1 b).toInt64)) + (plF V b i)) + ((wA V 1 (wI V (wF V b + i))).toInt64)) rr ⟨⟨_, _, hs1.1, hs1.2.1, hs1.2.2⟩, hq39⟩ hA40 hgr9 (hic c281) (by have := hdeep c281; omega)) cd_Mo_layBox w742 w744 ws33 hs1.1 rfl rfl hl.1 (Nat.le_of_ble_eq_true rfl) d_Mo_layBox_331 ⟨by first | (show 10 + _ + 1 ≤ 10 + _; omega) | (show 8 + (_ + 11) + (200 + 40 * _) ≤ 200 + 40 * _; omega), by first | (show 10 + _ + 1 ≤ 10 + _; omega) | (show 8 + (_ + 11) + (200 + 40 * _) ≤ 200 + 40 * _; omega)⟩ ⟨by exact Nat.le_refl _, by exact Nat.le_refl _⟩ (fun v9 g42 H locs hp hI => ?_) (fun q9 E9 ce9 g9 H locs hp => hp.elim)
                      obtain ⟨hv, hm41, ho941⟩ := hp
                      rw [hv]
                      refine W.eq (g2 := F0 m 334 ls [.int (b2i (layF V dd (wI V (wF V b + i)) (X + ((wN V (wF V b + i) 1).toInt64)) (((Y - ((wA V 1 b).toInt64)) + (plF V b i)) + ((wA V 1 (wI V (wF V b + i))).toInt64)) rr).1)]) rfl ?_
                      refine lv_goto (tgt := 351) hx hb d_Mo_layBox_334 (by decide) ?_
                      refine lv_istore (lv' := [(6, .int (b2i (layF V dd (wI V (wF V b + i)) (X + ((wN V (wF V b + i) 1).toInt64)) (((Y - ((wA V 1 b).toInt64)) + (plF V b i)) + ((wA V 1 (wI V (wF V b + i))).toInt64)) rr).1)), (15, .int (wN V (wF V b + i) 1)), (14, .int (wN V (wF V b + i) 0)), (12, .long ((Y - ((wA V 1 b).toInt64)) + (plF V b i))), (10, .long X), (8, .long (plF V b i)), (0, .ref mo), (1, .int (nI b)), (2, .long X), (4, .long Y), (7, .int (nI (wF V b + i)))]) hx hb d_Mo_layBox_351 hl (by decide) rfl (fun ls hl => ?_)
                      obtain ⟨v43, ev43⟩ : ∃ y : Int32, y = (nI (wF V b + i)) + 1 := ⟨_, rfl⟩
                      refine lv_iinc (v := v43) (lv' := [(7, .int v43), (6, .int (b2i (layF V dd (wI V (wF V b + i)) (X + ((wN V (wF V b + i) 1).toInt64)) (((Y - ((wA V 1 b).toInt64)) + (plF V b i)) + ((wA V 1 (wI V (wF V b + i))).toInt64)) rr).1)), (15, .int (wN V (wF V b + i) 1)), (14, .int (wN V (wF V b + i) 0)), (12, .long ((Y - ((wA V 1 b).toInt64)) + (plF V b i))), (10, .long X), (8, .long (plF V b i)), (0, .ref mo), (1, .int (nI b)), (2, .long X), (4, .long Y)]) hx hb d_Mo_layBox_353 hl (k := 10) rfl (by rw [ev43]; rfl) (by decide) rfl (fun ls hl => ?_)
                      refine lv_goto (tgt := 11) hx hb d_Mo_layBox_356 (by decide) ?_
                      exact ih (i + 1) ((layF V dd (wI V (wF V b + i)) (X + ((wN V (wF V b + i) 1).toInt64)) (((Y - ((wA V 1 b).toInt64)) + (plF V b i)) + ((wA V 1 (wI V (wF V b + i))).toInt64)) rr).1) ((layF V dd (wI V (wF V b + i)) (X + ((wN V (wF V b + i) 1).toInt64)) (((Y - ((wA V 1 b).toInt64)) + (plF V b i)) + ((wA V 1 (wI V (wF V b + i))).toInt64)) rr).2) _ _ _ ls (by omega) hm41 (layF_le V dd _ _ _ _ hgr9) (fun z z1 z2 z3 z4 => by rw [ho941 _ z1 z2 z3 z4, ho91 _ z1 z2 z3]; exact hfo z z1 z2 z3 z4) (lay_st hgo (by simp only [layI, mxF, tpF, k51, c100, c178, c281, show ¬ (1 : Int32) = 0 from by decide, show ¬ (4 : Int32) = 0 from by decide, show ¬ (4 : Int32) = 1 from by decide, show (-1 : Int32).toInt64 = -1 from by decide, if_true, if_false, Bool.false_eq_true, or_true, true_or, or_self])) hI (by rw [show nI (wF V b + (i + 1)) = v43 from by rw [ev43, nI_1]; rfl]; exact lv_sub hl [7, 8, 9, 10, 1, 0] rfl)
                · skip
                  refine lv_aload_n hx hb d_Mo_layBox_181 rfl (lv_at hl 3 rfl) ?_
                  refine lv_iload_n hx hb d_Mo_layBox_182 rfl (lv_at hl 4 rfl) ?_
                  refine lv_iload hx hb d_Mo_layBox_183 (lv_at hl 8 rfl) ?_
                  refine lv_iconst (v := 0) hx hb d_Mo_layBox_185 (by decide) ?_
                  have hA44 : moA cA g2 a V := ⟨by rw [ho91 _ (hnj.2 0 (by decide)) (hnj.1 0 14 (by decide) (by decide) (by decide)) (hnj.1 0 15 (by decide) (by decide) (by decide))]; exact hAg.1, by rw [ho91 _ (hnj.2 1 (by decide)) (hnj.1 1 14 (by decide) (by decide) (by decide)) (hnj.1 1 15 (by decide) (by decide) (by decide))]; exact hAg.2.1, by rw [ho91 _ (hnj.2 2 (by decide)) (hnj.1 2 14 (by decide) (by decide) (by decide)) (hnj.1 2 15 (by decide) (by decide) (by decide))]; exact hAg.2.2.1, by rw [ho91 _ (hnj.2 3 (by decide)) (hnj.1 3 14 (by decide) (by decide) (by decide)) (hnj.1 3 15 (by decide) (by decide) (by decide))]; exact hAg.2.2.2.1, fun j9 hj9 => by rw [ho91 _ (hnj.2 (4 + j9) (by omega)) (hnj.1 (4 + j9) 14 (by omega) (by decide) (by omega)) (hnj.1 (4 + j9) 15 (by omega) (by decide) (by omega))]; exact hAg.2.2.2.2 j9 hj9⟩
                  refine hv_Vp (As := [.int (nI b), .int (nI (wF V b + i)), .int 0]) (rest := []) hE hml hK hI (c_Mo_ruled0 l hl0 b0 D cA g2 mo a th st en ct (gd1) ((v1).1) ((v1).2.1) ((v1).2.2.1) ((v1).2.2.2.1) (nI rr.2) V b (wF V b + i) hs1.1 hnj hA44 (by omega) (by omega)) cd_Mo_ruled w750 w752 ws35 hs1.1 rfl rfl rfl rfl hl.1 (Nat.le_of_ble_eq_true rfl) d_Mo_layBox_186 ⟨by first | (show 10 + _ + 1 ≤ 10 + _; omega) | (show 8 + (_ + 11) + (200 + 40 * _) ≤ 200 + 40 * _; omega), by first | (show 10 + _ + 1 ≤ 10 + _; omega) | (show 8 + (_ + 11) + (200 + 40 * _) ≤ 200 + 40 * _; omega)⟩ ⟨by exact Nat.le_refl _, by exact Nat.le_refl _⟩ (fun H locs hI => ?_)
                  refine W.eq (g2 := F0 m 189 ls [.long (rdF V b (wF V b + i) 0)]) rfl ?_
                  refine lv_lstore (lv' := [(14, .long (rdF V b (wF V b + i) 0)), (12, .long ((Y - ((wA V 1 b).toInt64)) + (plF V b i))), (10, .long X), (8, .long (plF V b i)), (0, .ref mo), (1, .int (nI b)), (2, .long X), (4, .long Y), (6, .int (b2i rb)), (7, .int (nI (wF V b + i)))]) hx hb d_Mo_layBox_189 hl (by decide) rfl (fun ls hl => ?_)
                  refine lv_aload_n hx hb d_Mo_layBox_191 rfl (lv_at hl 4 rfl) ?_
                  refine lv_iload_n hx hb d_Mo_layBox_192 rfl (lv_at hl 5 rfl) ?_
                  refine lv_iload hx hb d_Mo_layBox_193 (lv_at hl 9 rfl) ?_
                  refine lv_iconst (v := 1) hx hb d_Mo_layBox_195 (by decide) ?_
                  refine hv_Vp (As := [.int (nI b), .int (nI (wF V b + i)), .int 1]) (rest := []) hE hml hK hI (c_Mo_ruled1 l hl0 b0 D cA g2 mo a th st en ct (gd1) ((v1).1) ((v1).2.1) ((v1).2.2.1) ((v1).2.2.2.1) (nI rr.2) V b (wF V b + i) hs1.1 hnj hA44 (by omega) (by omega)) cd_Mo_ruled w750 w752 ws35 hs1.1 rfl rfl rfl rfl hl.1 (Nat.le_of_ble_eq_true rfl) d_Mo_layBox_196 ⟨by first | (show 10 + _ + 1 ≤ 10 + _; omega) | (show 8 + (_ + 11) + (200 + 40 * _) ≤ 200 + 40 * _; omega), by first | (show 10 + _ + 1 ≤ 10 + _; omega) | (show 8 + (_ + 11) + (200 + 40 * _) ≤ 200 + 40 * _; omega)⟩ ⟨by exact Nat.le_refl _, by exact Nat.le_refl _⟩ (fun H locs hI => ?_)
                  refine W.eq (g2 := F0 m 199 ls [.long (rdF V b (wF V b + i) 1)]) rfl ?_
                  refine lv_lstore (lv' := [(16, .long (rdF V b (wF V b + i) 1)), (14, .long (rdF V b (wF V b + i) 0)), (12, .long ((Y - ((wA V 1 b).toInt64)) + (plF V b i))), (10, .long X), (8, .long (plF V b i)), (0, .ref mo), (1, .int (nI b)), (2, .long X), (4, .long Y), (6, .int (b2i rb)), (7, .int (nI (wF V b + i)))]) hx hb d_Mo_layBox_199 hl (by decide) rfl (fun ls hl => ?_)
                  refine lv_aload_n hx hb d_Mo_layBox_201 rfl (lv_at hl 5 rfl) ?_
                  refine lv_iload_n hx hb d_Mo_layBox_202 rfl (lv_at hl 6 rfl) ?_
                  refine lv_iload hx hb d_Mo_layBox_203 (lv_at hl 10 rfl) ?_
                  refine lv_iconst (v := 2) hx hb d_Mo_layBox_205 (by decide) ?_
                  refine hv_Vp (As := [.int (nI b), .int (nI (wF V b + i)), .int 2]) (rest := []) hE hml hK hI (c_Mo_ruled2 l hl0 b0 D cA g2 mo a th st en ct (gd1) ((v1).1) ((v1).2.1) ((v1).2.2.1) ((v1).2.2.2.1) (nI rr.2) V b (wF V b + i) hs1.1 hnj hA44 (by omega) (by omega)) cd_Mo_ruled w750 w752 ws35 hs1.1 rfl rfl rfl rfl hl.1 (Nat.le_of_ble_eq_true rfl) d_Mo_layBox_206 ⟨by first | (show 10 + _ + 1 ≤ 10 + _; omega) | (show 8 + (_ + 11) + (200 + 40 * _) ≤ 200 + 40 * _; omega), by first | (show 10 + _ + 1 ≤ 10 + _; omega) | (show 8 + (_ + 11) + (200 + 40 * _) ≤ 200 + 40 * _; omega)⟩ ⟨by exact Nat.le_refl _, by exact Nat.le_refl _⟩ (fun H locs hI => ?_)
                  refine W.eq (g2 := F0 m 209 ls [.long (rdF V b (wF V b + i) 2)]) rfl ?_
                  refine lv_lstore (lv' := [(18, .long (rdF V b (wF V b + i) 2)), (16, .long (rdF V b (wF V b + i) 1)), (14, .long (rdF V b (wF V b + i) 0)), (12, .long ((Y - ((wA V 1 b).toInt64)) + (plF V b i))), (10, .long X), (8, .long (plF V b i)), (0, .ref mo), (1, .int (nI b)), (2, .long X), (4, .long Y), (6, .int (b2i rb)), (7, .int (nI (wF V b + i)))]) hx hb d_Mo_layBox_209 hl (by decide) rfl (fun ls hl => ?_)
                  refine lv_lload hx hb d_Mo_layBox_211 (lv_at hl 2 rfl) ?_
                  refine lv_lconst (v := 0) hx hb d_Mo_layBox_213 (by decide) ?_
                  refine W.lcmp hx hb d_Mo_layBox_214 ?_
                  refine lv_if_le (tgt := 263) hx hb d_Mo_layBox_215 (by decide) (fun c215 => ?_) (fun c215 => ?_)
                  · skip
                    have m215 := (lg_cmp_le _ _).mp c215
                    have n215 := Int64.not_lt.mpr m215
                    refine lv_iconst (v := 1) hx hb d_Mo_layBox_263 (by decide) ?_
                    refine lv_goto (tgt := 268) hx hb d_Mo_layBox_264 (by decide) ?_
                    refine lv_istore (lv' := [(6, .int 1), (18, .long (rdF V b (wF V b + i) 2)), (16, .long (rdF V b (wF V b + i) 1)), (14, .long (rdF V b (wF V b + i) 0)), (12, .long ((Y - ((wA V 1 b).toInt64)) + (plF V b i))), (10, .long X), (8, .long (plF V b i)), (0, .ref mo), (1, .int (nI b)), (2, .long X), (4, .long Y), (7, .int (nI (wF V b + i)))]) hx hb d_Mo_layBox_268 hl (by decide) rfl (fun ls hl => ?_)
                    refine lv_goto (tgt := 353) hx hb d_Mo_layBox_270 (by decide) ?_
                    obtain ⟨v45, ev45⟩ : ∃ y : Int32, y = (nI (wF V b + i)) + 1 := ⟨_, rfl⟩
                    refine lv_iinc (v := v45) (lv' := [(7, .int v45), (6, .int 1), (18, .long (rdF V b (wF V b + i) 2)), (16, .long (rdF V b (wF V b + i) 1)), (14, .long (rdF V b (wF V b + i) 0)), (12, .long ((Y - ((wA V 1 b).toInt64)) + (plF V b i))), (10, .long X), (8, .long (plF V b i)), (0, .ref mo), (1, .int (nI b)), (2, .long X), (4, .long Y)]) hx hb d_Mo_layBox_353 hl (k := 11) rfl (by rw [ev45]; rfl) (by decide) rfl (fun ls hl => ?_)
                    refine lv_goto (tgt := 11) hx hb d_Mo_layBox_356 (by decide) ?_
                    have hq46 : g2 (a 16) = some (.inl (cA 1, 6000, .inr (.inl (rr.1)))) := by rw [ho91 _ (hnj.2 16 (by decide)) (hnj.1 16 14 (by decide) (by decide) (by decide)) (hnj.1 16 15 (by decide) (by decide) (by decide))]; exact hg16
                    exact ih (i + 1) true rr _ _ _ ls (by omega) ⟨⟨_, _, hs1.1, hs1.2.1, hs1.2.2⟩, hq46⟩ hgr9 (fun z z1 z2 z3 z4 => by rw [ho91 _ z1 z2 z3]; exact hfo z z1 z2 z3 z4) (lay_st hgo (by simp only [layI, mxF, tpF, k51, c100, c178, m215, show ¬ (1 : Int32) = 0 from by decide, show ¬ (4 : Int32) = 0 from by decide, show ¬ (4 : Int32) = 1 from by decide, show (-1 : Int32).toInt64 = -1 from by decide, if_true, if_false, Bool.false_eq_true, or_true, true_or, or_self])) hI (by rw [show nI (wF V b + (i + 1)) = v45 from by rw [ev45, nI_1]; rfl]; exact lv_sub hl [8, 9, 10, 11, 1, 0] rfl)
                  · skip
                    have m215 : ¬ _ := fun q => c215 ((lg_cmp_le _ _).mpr q)
                    have n215 := Int64.not_le.mp m215
                    refine lv_lload hx hb d_Mo_layBox_218 (lv_at hl 1 rfl) ?_
                    refine lv_lload hx hb d_Mo_layBox_220 (lv_at hl 0 rfl) ?_
                    refine lv_ladd hx hb d_Mo_layBox_222 ?_
                    refine lv_lconst (v := 0) hx hb d_Mo_layBox_223 (by decide) ?_
                    refine W.lcmp hx hb d_Mo_layBox_224 ?_
                    refine lv_if_le (tgt := 263) hx hb d_Mo_layBox_225 (by decide) (fun c225 => ?_) (fun c225 => ?_)
                    · skip
                      have m225 := (lg_cmp_le _ _).mp c225
                      have n225 := Int64.not_lt.mpr m225
                      refine lv_iconst (v := 1) hx hb d_Mo_layBox_263 (by decide) ?_
                      refine lv_goto (tgt := 268) hx hb d_Mo_layBox_264 (by decide) ?_
                      refine lv_istore (lv' := [(6, .int 1), (18, .long (rdF V b (wF V b + i) 2)), (16, .long (rdF V b (wF V b + i) 1)), (14, .long (rdF V b (wF V b + i) 0)), (12, .long ((Y - ((wA V 1 b).toInt64)) + (plF V b i))), (10, .long X), (8, .long (plF V b i)), (0, .ref mo), (1, .int (nI b)), (2, .long X), (4, .long Y), (7, .int (nI (wF V b + i)))]) hx hb d_Mo_layBox_268 hl (by decide) rfl (fun ls hl => ?_)
                      refine lv_goto (tgt := 353) hx hb d_Mo_layBox_270 (by decide) ?_
                      obtain ⟨v47, ev47⟩ : ∃ y : Int32, y = (nI (wF V b + i)) + 1 := ⟨_, rfl⟩
                      refine lv_iinc (v := v47) (lv' := [(7, .int v47), (6, .int 1), (18, .long (rdF V b (wF V b + i) 2)), (16, .long (rdF V b (wF V b + i) 1)), (14, .long (rdF V b (wF V b + i) 0)), (12, .long ((Y - ((wA V 1 b).toInt64)) + (plF V b i))), (10, .long X), (8, .long (plF V b i)), (0, .ref mo), (1, .int (nI b)), (2, .long X), (4, .long Y)]) hx hb d_Mo_layBox_353 hl (k := 11) rfl (by rw [ev47]; rfl) (by decide) rfl (fun ls hl => ?_)
                      refine lv_goto (tgt := 11) hx hb d_Mo_layBox_356 (by decide) ?_
                      have hq48 : g2 (a 16) = some (.inl (cA 1, 6000, .inr (.inl (rr.1)))) := by rw [ho91 _ (hnj.2 16 (by decide)) (hnj.1 16 14 (by decide) (by decide) (by decide)) (hnj.1 16 15 (by decide) (by decide) (by decide))]; exact hg16
                      exact ih (i + 1) true rr _ _ _ ls (by omega) ⟨⟨_, _, hs1.1, hs1.2.1, hs1.2.2⟩, hq48⟩ hgr9 (fun z z1 z2 z3 z4 => by rw [ho91 _ z1 z2 z3]; exact hfo z z1 z2 z3 z4) (lay_st hgo (by simp only [layI, mxF, tpF, k51, c100, c178, m215, m225, show ¬ (1 : Int32) = 0 from by decide, show ¬ (4 : Int32) = 0 from by decide, show ¬ (4 : Int32) = 1 from by decide, show (-1 : Int32).toInt64 = -1 from by decide, if_true, if_false, Bool.false_eq_true, or_true, true_or, or_self])) hI (by rw [show nI (wF V b + (i + 1)) = v47 from by rw [ev47, nI_1]; rfl]; exact lv_sub hl [8, 9, 10, 11, 1, 0] rfl)
                    · skip
                      have m225 : ¬ _ := fun q => c225 ((lg_cmp_le _ _).mpr q)
                      have n225 := Int64.not_le.mp m225
                      refine lv_aload_n hx hb d_Mo_layBox_228 rfl (lv_at hl 6 rfl) ?_
                      refine lv_iconst (v := (-1)) hx hb d_Mo_layBox_229 (by decide) ?_
                      refine lv_lload hx hb d_Mo_layBox_230 (lv_at hl 4 rfl) ?_
                      refine lv_aload_n hx hb d_Mo_layBox_232 rfl (lv_at hl 6 rfl) ?_
                      refine hv_get hE k_Mo hI 7 (by decide) w523 hs1.1 rfl d_Mo_layBox_233 ?_
                      refine lv_iload_n hx hb d_Mo_layBox_236 rfl (lv_at hl 7 rfl) ?_
                      refine hv_zald hE hI 2 hq3 rfl (pk_in b 100 hb9 rfl (by omega)) d_Mo_layBox_237 ?_
                      rw [nI_cl (by omega)]
                      refine W.eq (g2 := F0 m 238 ls [.int (b2i (wB V b)), .long X, .int (-1), .ref mo]) rfl ?_
                      refine lv_if_eq (tgt := 249) hx hb d_Mo_layBox_238 (by decide) (fun c238 => ?_) (fun c238 => ?_)
                      · skip
                        have k238 := b2i_f c238
                        exact absurd k238 (by rw [k51]; decide)
                      · skip
                        have k238 := b2i_t c238
                        refine lv_lload hx hb d_Mo_layBox_241 (lv_at hl 3 rfl) ?_
                        refine lv_lload hx hb d_Mo_layBox_243 (lv_at hl 1 rfl) ?_
                        refine lv_ladd hx hb d_Mo_layBox_245 ?_
                        refine lv_goto (tgt := 251) hx hb d_Mo_layBox_246 (by decide) ?_
                        refine lv_lload hx hb d_Mo_layBox_251 (lv_at hl 2 rfl) ?_
                        refine lv_lload hx hb d_Mo_layBox_253 (lv_at hl 1 rfl) ?_
                        refine lv_lload hx hb d_Mo_layBox_255 (lv_at hl 0 rfl) ?_
                        have hq49 : g2 (a 16) = some (.inl (cA 1, 6000, .inr (.inl (rr.1)))) := by rw [ho91 _ (hnj.2 16 (by decide)) (hnj.1 16 14 (by decide) (by decide) (by decide)) (hnj.1 16 15 (by decide) (by decide) (by decide))]; exact hg16
                        refine hv_V (As := [.int (-1), .long X, .long (((Y - ((wA V 1 b).toInt64)) + (plF V b i)) + (rdF V b (wF V b + i) 1)), .long (rdF V b (wF V b + i) 0), .long (rdF V b (wF V b + i) 1), .long (rdF V b (wF V b + i) 2)]) (rest := []) hE hml hK hI (c_Mo_note l hl0 b0 D cA g2 mo a th st en ct (gd1) ((v1).1) ((v1).2.1) ((v1).2.2.1) ((v1).2.2.2.1) (-1) X (((Y - ((wA V 1 b).toInt64)) + (plF V b i)) + (rdF V b (wF V b + i) 1)) (rdF V b (wF V b + i) 0) (rdF V b (wF V b + i) 1) (rdF V b (wF V b + i) 2) rr hs1.1 hnj hq49 hgr9) cd_Mo_note w746 w748 ws34 hs1.1 rfl rfl hl.1 (Nat.le_of_ble_eq_true rfl) d_Mo_layBox_257 ⟨by first | (show 10 + _ + 1 ≤ 10 + _; omega) | (show 8 + (_ + 11) + (200 + 40 * _) ≤ 200 + 40 * _; omega), by first | (show 10 + _ + 1 ≤ 10 + _; omega) | (show 8 + (_ + 11) + (200 + 40 * _) ≤ 200 + 40 * _; omega)⟩ ⟨by exact Nat.le_refl _, by exact Nat.le_refl _⟩ (fun v9 g51 H locs hp hI => ?_) (fun q9 E9 ce9 g9 H locs hp => hp.elim)
                        obtain ⟨hv, hg50, hh50, ho950⟩ := hp
                        rw [hv]
                        refine W.eq (g2 := F0 m 260 ls [.int (b2i (noteF (-1 : Int32).toInt64 X (((Y - ((wA V 1 b).toInt64)) + (plF V b i)) + (rdF V b (wF V b + i) 1)) (rdF V b (wF V b + i) 0) (rdF V b (wF V b + i) 1) (rdF V b (wF V b + i) 2) rr).1)]) rfl ?_
                        refine lv_if_eq (tgt := 267) hx hb d_Mo_layBox_260 (by decide) (fun c260 => ?_) (fun c260 => ?_)
                        · skip
                          have k260 := b2i_f c260
                          refine lv_iconst (v := 0) hx hb d_Mo_layBox_267 (by decide) ?_
                          refine lv_istore (lv' := [(6, .int 0), (18, .long (rdF V b (wF V b + i) 2)), (16, .long (rdF V b (wF V b + i) 1)), (14, .long (rdF V b (wF V b + i) 0)), (12, .long ((Y - ((wA V 1 b).toInt64)) + (plF V b i))), (10, .long X), (8, .long (plF V b i)), (0, .ref mo), (1, .int (nI b)), (2, .long X), (4, .long Y), (7, .int (nI (wF V b + i)))]) hx hb d_Mo_layBox_268 hl (by decide) rfl (fun ls hl => ?_)
                          refine lv_goto (tgt := 353) hx hb d_Mo_layBox_270 (by decide) ?_
                          obtain ⟨v52, ev52⟩ : ∃ y : Int32, y = (nI (wF V b + i)) + 1 := ⟨_, rfl⟩
                          refine lv_iinc (v := v52) (lv' := [(7, .int v52), (6, .int 0), (18, .long (rdF V b (wF V b + i) 2)), (16, .long (rdF V b (wF V b + i) 1)), (14, .long (rdF V b (wF V b + i) 0)), (12, .long ((Y - ((wA V 1 b).toInt64)) + (plF V b i))), (10, .long X), (8, .long (plF V b i)), (0, .ref mo), (1, .int (nI b)), (2, .long X), (4, .long Y)]) hx hb d_Mo_layBox_353 hl (k := 11) rfl (by rw [ev52]; rfl) (by decide) rfl (fun ls hl => ?_)
                          refine lv_goto (tgt := 11) hx hb d_Mo_layBox_356 (by decide) ?_
                          have hq53 : g51 (a 14) = some (.inl (cA 1, 4, .inr (.inl (v1).2.2.2.2.1))) := by rw [ho950 _ (hnj.2 14 (by decide)) (hnj.1 14 16 (by decide) (by decide) (by decide))]; exact hs1.2.1
                          have hq54 : g51 (a 15) = some (.inl (cA 1, 4, .inr (.inl (v1).2.2.2.2.2))) := by rw [ho950 _ (hnj.2 15 (by decide)) (hnj.1 15 16 (by decide) (by decide) (by decide))]; exact hs1.2.2
                          exact ih (i + 1) ((noteF (-1 : Int32).toInt64 X (((Y - ((wA V 1 b).toInt64)) + (plF V b i)) + (rdF V b (wF V b + i) 1)) (rdF V b (wF V b + i) 0) (rdF V b (wF V b + i) 1) (rdF V b (wF V b + i) 2) rr).1) ((noteF (-1 : Int32).toInt64 X (((Y - ((wA V 1 b).toInt64)) + (plF V b i)) + (rdF V b (wF V b + i) 1)) (rdF V b (wF V b + i) 0) (rdF V b (wF V b + i) 1) (rdF V b (wF V b + i) 2) rr).2) _ _ _ ls (by omega) ⟨⟨_, _, hg50, hq53, hq54⟩, hh50⟩ (noteF_le hgr9) (fun z z1 z2 z3 z4 => by rw [ho950 _ z1 z4, ho91 _ z1 z2 z3]; exact hfo z z1 z2 z3 z4) (lay_st hgo (by simp only [layI, mxF, tpF, k51, c100, c178, m215, m225, show ¬ (1 : Int32) = 0 from by decide, show ¬ (4 : Int32) = 0 from by decide, show ¬ (4 : Int32) = 1 from by decide, show (-1 : Int32).toInt64 = -1 from by decide, if_true, if_false, Bool.false_eq_true, or_true, true_or, or_self])) hI (by rw [show nI (wF V b + (i + 1)) = v52 from by rw [ev52, nI_1]; rfl]; rw [k260]; exact lv_sub hl [8, 9, 10, 11, 1, 0] rfl)
                        · skip
                          have k260 := b2i_t c260
                          refine lv_iconst (v := 1) hx hb d_Mo_layBox_263 (by decide) ?_
                          refine lv_goto (tgt := 268) hx hb d_Mo_layBox_264 (by decide) ?_
                          refine lv_istore (lv' := [(6, .int 1), (18, .long (rdF V b (wF V b + i) 2)), (16, .long (rdF V b (wF V b + i) 1)), (14, .long (rdF V b (wF V b + i) 0)), (12, .long ((Y - ((wA V 1 b).toInt64)) + (plF V b i))), (10, .long X), (8, .long (plF V b i)), (0, .ref mo), (1, .int (nI b)), (2, .long X), (4, .long Y), (7, .int (nI (wF V b + i)))]) hx hb d_Mo_layBox_268 hl (by decide) rfl (fun ls hl => ?_)
                          refine lv_goto (tgt := 353) hx hb d_Mo_layBox_270 (by decide) ?_
                          obtain ⟨v55, ev55⟩ : ∃ y : Int32, y = (nI (wF V b + i)) + 1 := ⟨_, rfl⟩
                          refine lv_iinc (v := v55) (lv' := [(7, .int v55), (6, .int 1), (18, .long (rdF V b (wF V b + i) 2)), (16, .long (rdF V b (wF V b + i) 1)), (14, .long (rdF V b (wF V b + i) 0)), (12, .long ((Y - ((wA V 1 b).toInt64)) + (plF V b i))), (10, .long X), (8, .long (plF V b i)), (0, .ref mo), (1, .int (nI b)), (2, .long X), (4, .long Y)]) hx hb d_Mo_layBox_353 hl (k := 11) rfl (by rw [ev55]; rfl) (by decide) rfl (fun ls hl => ?_)
                          refine lv_goto (tgt := 11) hx hb d_Mo_layBox_356 (by decide) ?_
                          have hq56 : g51 (a 14) = some (.inl (cA 1, 4, .inr (.inl (v1).2.2.2.2.1))) := by rw [ho950 _ (hnj.2 14 (by decide)) (hnj.1 14 16 (by decide) (by decide) (by decide))]; exact hs1.2.1
                          have hq57 : g51 (a 15) = some (.inl (cA 1, 4, .inr (.inl (v1).2.2.2.2.2))) := by rw [ho950 _ (hnj.2 15 (by decide)) (hnj.1 15 16 (by decide) (by decide) (by decide))]; exact hs1.2.2
                          exact ih (i + 1) ((noteF (-1 : Int32).toInt64 X (((Y - ((wA V 1 b).toInt64)) + (plF V b i)) + (rdF V b (wF V b + i) 1)) (rdF V b (wF V b + i) 0) (rdF V b (wF V b + i) 1) (rdF V b (wF V b + i) 2) rr).1) ((noteF (-1 : Int32).toInt64 X (((Y - ((wA V 1 b).toInt64)) + (plF V b i)) + (rdF V b (wF V b + i) 1)) (rdF V b (wF V b + i) 0) (rdF V b (wF V b + i) 1) (rdF V b (wF V b + i) 2) rr).2) _ _ _ ls (by omega) ⟨⟨_, _, hg50, hq56, hq57⟩, hh50⟩ (noteF_le hgr9) (fun z z1 z2 z3 z4 => by rw [ho950 _ z1 z4, ho91 _ z1 z2 z3]; exact hfo z z1 z2 z3 z4) (lay_st hgo (by simp only [layI, mxF, tpF, k51, c100, c178, m215, m225, show ¬ (1 : Int32) = 0 from by decide, show ¬ (4 : Int32) = 0 from by decide, show ¬ (4 : Int32) = 1 from by decide, show (-1 : Int32).toInt64 = -1 from by decide, if_true, if_false, Bool.false_eq_true, or_true, true_or, or_self])) hI (by rw [show nI (wF V b + (i + 1)) = v55 from by rw [ev55, nI_1]; rfl]; rw [k260]; exact lv_sub hl [8, 9, 10, 11, 1, 0] rfl)
              · skip
                refine lv_aload_n hx hb d_Mo_layBox_103 rfl (lv_at hl 3 rfl) ?_
                refine lv_aload_n hx hb d_Mo_layBox_104 rfl (lv_at hl 3 rfl) ?_
                refine lv_iload hx hb d_Mo_layBox_105 (lv_at hl 8 rfl) ?_
                refine lv_iconst (v := 0) hx hb d_Mo_layBox_107 (by decide) ?_
                have hq58 : g2 (a 1) = some (.inl (cA 0, 51000, .inl V.2.1)) := by rw [ho91 _ (hnj.2 1 (by decide)) (hnj.1 1 14 (by decide) (by decide) (by decide)) (hnj.1 1 15 (by decide) (by decide) (by decide))]; exact hAg.2.1
                refine hv_Vp (As := [.int (nI (wF V b + i)), .int 0]) (rest := [.ref mo]) hE hml hK hI (c_Mo_number l hl0 b0 D cA g2 mo a th st en ct (gd1) ((v1).1) ((v1).2.1) ((v1).2.2.1) ((v1).2.2.2.1) (nI rr.2) V (wF V b + i) 0 hs1.1 hnj hq58 (by omega) (by omega)) cd_Mo_number w664 w666 ws21 hs1.1 rfl rfl rfl rfl hl.1 (Nat.le_of_ble_eq_true rfl) d_Mo_layBox_108 ⟨by first | (show 10 + _ + 1 ≤ 10 + _; omega) | (show 8 + (_ + 11) + (200 + 40 * _) ≤ 200 + 40 * _; omega), by first | (show 10 + _ + 1 ≤ 10 + _; omega) | (show 8 + (_ + 11) + (200 + 40 * _) ≤ 200 + 40 * _; omega)⟩ ⟨by exact Nat.le_refl _, by exact Nat.le_refl _⟩ (fun H locs hI => ?_)
                refine W.eq (g2 := F0 m 111 ls [.int (wN V (wF V b + i) 0), .ref mo]) rfl ?_
                refine lv_lload hx hb d_Mo_layBox_111 (lv_at hl 1 rfl) ?_
                refine lv_aload_n hx hb d_Mo_layBox_113 rfl (lv_at hl 3 rfl) ?_
                refine hv_get hE k_Mo hI 7 (by decide) w523 hs1.1 rfl d_Mo_layBox_114 ?_
                refine lv_iload_n hx hb d_Mo_layBox_117 rfl (lv_at hl 4 rfl) ?_
                refine hv_zald hE hI 2 hq3 rfl (pk_in b 100 hb9 rfl (by omega)) d_Mo_layBox_118 ?_
                rw [nI_cl (by omega)]
                refine W.eq (g2 := F0 m 119 ls [.int (b2i (wB V b)), .long X, .int (wN V (wF V b + i) 0), .ref mo]) rfl ?_
                refine lv_if_eq (tgt := 136) hx hb d_Mo_layBox_119 (by decide) (fun c119 => ?_) (fun c119 => ?_)
                · skip
                  have k119 := b2i_f c119
                  exact absurd k119 (by rw [k51]; decide)
                · skip
                  have k119 := b2i_t c119
                  refine lv_lload hx hb d_Mo_layBox_122 (lv_at hl 0 rfl) ?_
                  refine lv_aload_n hx hb d_Mo_layBox_124 rfl (lv_at hl 3 rfl) ?_
                  refine lv_iload hx hb d_Mo_layBox_125 (lv_at hl 8 rfl) ?_
                  refine lv_iconst (v := 2) hx hb d_Mo_layBox_127 (by decide) ?_
                  refine hv_Vp (As := [.int (nI (wF V b + i)), .int 2]) (rest := [.long ((Y - ((wA V 1 b).toInt64)) + (plF V b i)), .long X, .int (wN V (wF V b + i) 0), .ref mo]) hE hml hK hI (c_Mo_number l hl0 b0 D cA g2 mo a th st en ct (gd1) ((v1).1) ((v1).2.1) ((v1).2.2.1) ((v1).2.2.2.1) (nI rr.2) V (wF V b + i) 2 hs1.1 hnj hq58 (by omega) (by omega)) cd_Mo_number w664 w666 ws21 hs1.1 rfl rfl rfl rfl hl.1 (Nat.le_of_ble_eq_true rfl) d_Mo_layBox_128 ⟨by first | (show 10 + _ + 1 ≤ 10 + _; omega) | (show 8 + (_ + 11) + (200 + 40 * _) ≤ 200 + 40 * _; omega), by first | (show 10 + _ + 1 ≤ 10 + _; omega) | (show 8 + (_ + 11) + (200 + 40 * _) ≤ 200 + 40 * _; omega)⟩ ⟨by exact Nat.le_refl _, by exact Nat.le_refl _⟩ (fun H locs hI => ?_)
                  refine W.eq (g2 := F0 m 131 ls [.int (wN V (wF V b + i) 2), .long ((Y - ((wA V 1 b).toInt64)) + (plF V b i)), .long X, .int (wN V (wF V b + i) 0), .ref mo]) rfl ?_
                  refine lv_i2l (v := (wN V (wF V b + i) 2).toInt64) hx hb d_Mo_layBox_131 rfl ?_
                  refine lv_ladd hx hb d_Mo_layBox_132 ?_
                  refine lv_goto (tgt := 138) hx hb d_Mo_layBox_133 (by decide) ?_
                  refine lv_aload_n hx hb d_Mo_layBox_138 rfl (lv_at hl 3 rfl) ?_
                  refine lv_iload hx hb d_Mo_layBox_139 (lv_at hl 8 rfl) ?_
                  refine lv_iconst (v := 1) hx hb d_Mo_layBox_141 (by decide) ?_
                  refine hv_Vp (As := [.int (nI (wF V b + i)), .int 1]) (rest := [.long (((Y - ((wA V 1 b).toInt64)) + (plF V b i)) + ((wN V (wF V b + i) 2).toInt64)), .long X, .int (wN V (wF V b + i) 0), .ref mo]) hE hml hK hI (c_Mo_number l hl0 b0 D cA g2 mo a th st en ct (gd1) ((v1).1) ((v1).2.1) ((v1).2.2.1) ((v1).2.2.2.1) (nI rr.2) V (wF V b + i) 1 hs1.1 hnj hq58 (by omega) (by omega)) cd_Mo_number w664 w666 ws21 hs1.1 rfl rfl rfl rfl hl.1 (Nat.le_of_ble_eq_true rfl) d_Mo_layBox_142 ⟨by first | (show 10 + _ + 1 ≤ 10 + _; omega) | (show 8 + (_ + 11) + (200 + 40 * _) ≤ 200 + 40 * _; omega), by first | (show 10 + _ + 1 ≤ 10 + _; omega) | (show 8 + (_ + 11) + (200 + 40 * _) ≤ 200 + 40 * _; omega)⟩ ⟨by exact Nat.le_refl _, by exact Nat.le_refl _⟩ (fun H locs hI => ?_)
                  refine W.eq (g2 := F0 m 145 ls [.int (wN V (wF V b + i) 1), .long (((Y - ((wA V 1 b).toInt64)) + (plF V b i)) + ((wN V (wF V b + i) 2).toInt64)), .long X, .int (wN V (wF V b + i) 0), .ref mo]) rfl ?_
                  refine lv_i2l (v := (wN V (wF V b + i) 1).toInt64) hx hb d_Mo_layBox_145 rfl ?_
                  refine lv_aload_n hx hb d_Mo_layBox_146 rfl (lv_at hl 3 rfl) ?_
                  refine lv_iload hx hb d_Mo_layBox_147 (lv_at hl 8 rfl) ?_
                  refine lv_iconst (v := 2) hx hb d_Mo_layBox_149 (by decide) ?_
                  refine hv_Vp (As := [.int (nI (wF V b + i)), .int 2]) (rest := [.long ((wN V (wF V b + i) 1).toInt64), .long (((Y - ((wA V 1 b).toInt64)) + (plF V b i)) + ((wN V (wF V b + i) 2).toInt64)), .long X, .int (wN V (wF V b + i) 0), .ref mo]) hE hml hK hI (c_Mo_number l hl0 b0 D cA g2 mo a th st en ct (gd1) ((v1).1) ((v1).2.1) ((v1).2.2.1) ((v1).2.2.2.1) (nI rr.2) V (wF V b + i) 2 hs1.1 hnj hq58 (by omega) (by omega)) cd_Mo_number w664 w666 ws21 hs1.1 rfl rfl rfl rfl hl.1 (Nat.le_of_ble_eq_true rfl) d_Mo_layBox_150 ⟨by first | (show 10 + _ + 1 ≤ 10 + _; omega) | (show 8 + (_ + 11) + (200 + 40 * _) ≤ 200 + 40 * _; omega), by first | (show 10 + _ + 1 ≤ 10 + _; omega) | (show 8 + (_ + 11) + (200 + 40 * _) ≤ 200 + 40 * _; omega)⟩ ⟨by exact Nat.le_refl _, by exact Nat.le_refl _⟩ (fun H locs hI => ?_)
                  refine W.eq (g2 := F0 m 153 ls [.int (wN V (wF V b + i) 2), .long ((wN V (wF V b + i) 1).toInt64), .long (((Y - ((wA V 1 b).toInt64)) + (plF V b i)) + ((wN V (wF V b + i) 2).toInt64)), .long X, .int (wN V (wF V b + i) 0), .ref mo]) rfl ?_
                  refine lv_i2l (v := (wN V (wF V b + i) 2).toInt64) hx hb d_Mo_layBox_153 rfl ?_
                  refine lv_aload_n hx hb d_Mo_layBox_154 rfl (lv_at hl 3 rfl) ?_
                  refine lv_iload hx hb d_Mo_layBox_155 (lv_at hl 8 rfl) ?_
                  refine lv_iconst (v := 3) hx hb d_Mo_layBox_157 (by decide) ?_
                  refine hv_Vp12 (As := [.int (nI (wF V b + i)), .int 3]) (rest := [.long ((wN V (wF V b + i) 2).toInt64), .long ((wN V (wF V b + i) 1).toInt64), .long (((Y - ((wA V 1 b).toInt64)) + (plF V b i)) + ((wN V (wF V b + i) 2).toInt64)), .long X, .int (wN V (wF V b + i) 0), .ref mo]) hE hml hK hI (c_Mo_number l hl0 b0 D cA g2 mo a th st en ct (gd1) ((v1).1) ((v1).2.1) ((v1).2.2.1) ((v1).2.2.2.1) (nI rr.2) V (wF V b + i) 3 hs1.1 hnj hq58 (by omega) (by omega)) cd_Mo_number w664 w666 ws21 hs1.1 rfl rfl rfl rfl hl.1 (Nat.le_of_ble_eq_true rfl) d_Mo_layBox_158 ⟨by first | (show 10 + _ + 1 ≤ 10 + _; omega) | (show 12 + (_ + 11) + (200 + 40 * _) ≤ 200 + 40 * _; omega), by first | (show 10 + _ + 1 ≤ 10 + _; omega) | (show 12 + (_ + 11) + (200 + 40 * _) ≤ 200 + 40 * _; omega)⟩ ⟨by exact Nat.le_refl _, by exact Nat.le_refl _⟩ (fun H locs hI => ?_)
                  refine W.eq (g2 := F0 m 161 ls [.int (wN V (wF V b + i) 3), .long ((wN V (wF V b + i) 2).toInt64), .long ((wN V (wF V b + i) 1).toInt64), .long (((Y - ((wA V 1 b).toInt64)) + (plF V b i)) + ((wN V (wF V b + i) 2).toInt64)), .long X, .int (wN V (wF V b + i) 0), .ref mo]) rfl ?_
                  refine lv_i2l (v := (wN V (wF V b + i) 3).toInt64) hx hb d_Mo_layBox_161 rfl ?_
                  have hq59 : g2 (a 16) = some (.inl (cA 1, 6000, .inr (.inl (rr.1)))) := by rw [ho91 _ (hnj.2 16 (by decide)) (hnj.1 16 14 (by decide) (by decide) (by decide)) (hnj.1 16 15 (by decide) (by decide) (by decide))]; exact hg16
                  refine hv_V (As := [.int (wN V (wF V b + i) 0), .long X, .long (((Y - ((wA V 1 b).toInt64)) + (plF V b i)) + ((wN V (wF V b + i) 2).toInt64)), .long ((wN V (wF V b + i) 1).toInt64), .long ((wN V (wF V b + i) 2).toInt64), .long ((wN V (wF V b + i) 3).toInt64)]) (rest := []) hE hml hK hI (c_Mo_note l hl0 b0 D cA g2 mo a th st en ct (gd1) ((v1).1) ((v1).2.1) ((v1).2.2.1) ((v1).2.2.2.1) (wN V (wF V b + i) 0) X (((Y - ((wA V 1 b).toInt64)) + (plF V b i)) + ((wN V (wF V b + i) 2).toInt64)) ((wN V (wF V b + i) 1).toInt64) ((wN V (wF V b + i) 2).toInt64) ((wN V (wF V b + i) 3).toInt64) rr hs1.1 hnj hq59 hgr9) cd_Mo_note w746 w748 ws34 hs1.1 rfl rfl hl.1 (Nat.le_of_ble_eq_true rfl) d_Mo_layBox_162 ⟨by first | (show 10 + _ + 1 ≤ 10 + _; omega) | (show 8 + (_ + 11) + (200 + 40 * _) ≤ 200 + 40 * _; omega), by first | (show 10 + _ + 1 ≤ 10 + _; omega) | (show 8 + (_ + 11) + (200 + 40 * _) ≤ 200 + 40 * _; omega)⟩ ⟨by exact Nat.le_refl _, by exact Nat.le_refl _⟩ (fun v9 g61 H locs hp hI => ?_) (fun q9 E9 ce9 g9 H locs hp => hp.elim)
                  obtain ⟨hv, hg60, hh60, ho960⟩ := hp
                  rw [hv]
                  refine W.eq (g2 := F0 m 165 ls [.int (b2i (noteF (wN V (wF V b + i) 0).toInt64 X (((Y - ((wA V 1 b).toInt64)) + (plF V b i)) + ((wN V (wF V b + i) 2).toInt64)) ((wN V (wF V b + i) 1).toInt64) ((wN V (wF V b + i) 2).toInt64) ((wN V (wF V b + i) 3).toInt64) rr).1)]) rfl ?_
                  refine lv_istore (lv' := [(6, .int (b2i (noteF (wN V (wF V b + i) 0).toInt64 X (((Y - ((wA V 1 b).toInt64)) + (plF V b i)) + ((wN V (wF V b + i) 2).toInt64)) ((wN V (wF V b + i) 1).toInt64) ((wN V (wF V b + i) 2).toInt64) ((wN V (wF V b + i) 3).toInt64) rr).1)), (12, .long ((Y - ((wA V 1 b).toInt64)) + (plF V b i))), (10, .long X), (8, .long (plF V b i)), (0, .ref mo), (1, .int (nI b)), (2, .long X), (4, .long Y), (7, .int (nI (wF V b + i)))]) hx hb d_Mo_layBox_165 hl (by decide) rfl (fun ls hl => ?_)
                  refine lv_goto (tgt := 353) hx hb d_Mo_layBox_167 (by decide) ?_
                  obtain ⟨v62, ev62⟩ : ∃ y : Int32, y = (nI (wF V b + i)) + 1 := ⟨_, rfl⟩
                  refine lv_iinc (v := v62) (lv' := [(7, .int v62), (6, .int (b2i (noteF (wN V (wF V b + i) 0).toInt64 X (((Y - ((wA V 1 b).toInt64)) + (plF V b i)) + ((wN V (wF V b + i) 2).toInt64)) ((wN V (wF V b + i) 1).toInt64) ((wN V (wF V b + i) 2).toInt64) ((wN V (wF V b + i) 3).toInt64) rr).1)), (12, .long ((Y - ((wA V 1 b).toInt64)) + (plF V b i))), (10, .long X), (8, .long (plF V b i)), (0, .ref mo), (1, .int (nI b)), (2, .long X), (4, .long Y)]) hx hb d_Mo_layBox_353 hl (k := 8) rfl (by rw [ev62]; rfl) (by decide) rfl (fun ls hl => ?_)
                  refine lv_goto (tgt := 11) hx hb d_Mo_layBox_356 (by decide) ?_
                  have hq63 : g61 (a 14) = some (.inl (cA 1, 4, .inr (.inl (v1).2.2.2.2.1))) := by rw [ho960 _ (hnj.2 14 (by decide)) (hnj.1 14 16 (by decide) (by decide) (by decide))]; exact hs1.2.1
                  have hq64 : g61 (a 15) = some (.inl (cA 1, 4, .inr (.inl (v1).2.2.2.2.2))) := by rw [ho960 _ (hnj.2 15 (by decide)) (hnj.1 15 16 (by decide) (by decide) (by decide))]; exact hs1.2.2
                  exact ih (i + 1) ((noteF (wN V (wF V b + i) 0).toInt64 X (((Y - ((wA V 1 b).toInt64)) + (plF V b i)) + ((wN V (wF V b + i) 2).toInt64)) ((wN V (wF V b + i) 1).toInt64) ((wN V (wF V b + i) 2).toInt64) ((wN V (wF V b + i) 3).toInt64) rr).1) ((noteF (wN V (wF V b + i) 0).toInt64 X (((Y - ((wA V 1 b).toInt64)) + (plF V b i)) + ((wN V (wF V b + i) 2).toInt64)) ((wN V (wF V b + i) 1).toInt64) ((wN V (wF V b + i) 2).toInt64) ((wN V (wF V b + i) 3).toInt64) rr).2) _ _ _ ls (by omega) ⟨⟨_, _, hg60, hq63, hq64⟩, hh60⟩ (noteF_le hgr9) (fun z z1 z2 z3 z4 => by rw [ho960 _ z1 z4, ho91 _ z1 z2 z3]; exact hfo z z1 z2 z3 z4) (lay_st hgo (by simp only [layI, mxF, tpF, k51, c100, show ¬ (1 : Int32) = 0 from by decide, show ¬ (4 : Int32) = 0 from by decide, show ¬ (4 : Int32) = 1 from by decide, show (-1 : Int32).toInt64 = -1 from by decide, if_true, if_false, Bool.false_eq_true, or_true, true_or, or_self])) hI (by rw [show nI (wF V b + (i + 1)) = v62 from by rw [ev62, nI_1]; rfl]; exact lv_sub hl [5, 6, 7, 8, 1, 0] rfl)
  exact loop (wF V (b + 1) - wF V b) 0 true r f _ _ ls (by omega) hm9 hr9 (fun z _ _ _ _ => rfl) (Or.inl ⟨rfl, rfl⟩) hI (lv_sub hl [2, 3, 4, 5, 1, 0] rfl)

theorem mayP_all (l : Launch) (hl0 : l.stackTraces = false) (b0 : Nat) (D : va_G) (cA : Nat → ClassId) (mo : Nat) (a : Nat → Nat) (th st en ct : Int32) (V : Wd) (c9 : Nat) (hnj : moN mo a) (hc9 : c9 ≤ 100) (hbv : ∀ b, b < c9 → bxV V b) (hF9 : ∀ b, b < c9 → wF V (b + 1) ≤ 10100) : ∀ dd, mayP l b0 D cA mo a th st en ct V c9 dd
  | 0 => fun f b X Y r _ _ _ hb hd => by
    have := (hbv b hb).2.2.2.2.2.2.2.2.1.1
    omega
  | dd + 1 => fun f b X Y r hm hA hr hb hd => c_Mo_layBoxS l hl0 b0 D cA f mo a th st en ct V c9 dd b X Y r hm hnj hA hr hb hc9 (by omega) hbv hF9 (mayP_all l hl0 b0 D cA mo a th st en ct V c9 hnj hc9 hbv hF9 dd)

