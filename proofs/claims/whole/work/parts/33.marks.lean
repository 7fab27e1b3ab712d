/-! ===== laying out ===== -/
/-- the marks r lie at mk and rw9 -/
def mkAt (cA : Nat → ClassId) (f : hv_M) (mk rw9 : Nat) (r : Mk) : Prop := f mk = some (.inr (4, [.ref rw9, .int (nI r.2)])) ∧ f rw9 = some (.inl (cA 1, 6000, .inr (.inl (r.1))))
theorem mk6 (md j : Nat) : nI md * 6 = nI (6 * md) := by
  rw [show (6 : Int32) = nI 6 from rfl]; simp only [nI]; rw [← Int32.ofNat_mul, Nat.mul_comm]
/-- an item without an inner box, at its place p in a box -/
def layC (bel : Bool) (bw bh bd t w h d z p : Int32) (x y : Int64) (r : Mk) : Bool × Mk :=
  if t = -1 ∧ ¬ (0 < kn w (if bel = true then bw else 0) ∧ 0 < kn h (if bel = true then 0 else bh) + kn d (if bel = true then 0 else bd)) then (true, r)
  else noteF t.toInt64 (if bel = true then x + z.toInt64 else x + p.toInt64) (if bel = true then y - bh.toInt64 + p.toInt64 + (kn h 0).toInt64 else y + z.toInt64) (kn w (if bel = true then bw else 0)).toInt64 (kn h (if bel = true then 0 else bh)).toInt64 (kn d (if bel = true then 0 else bd)).toInt64 r

set_option maxHeartbeats 4000000 in
set_option maxRecDepth 100000 in
theorem c_Marks_add (l : Launch) (hl0 : l.stackTraces = false) (b0 : Nat) (D : va_G) (cA : Nat → ClassId) (f : hv_M) (mk rw9 : Nat) (t w h d : Int32) (X Y : Int64) (r : Mk) (hm : mkAt cA f mk rw9 r) (hr9 : r.2 ≤ 1000) : hv_Met l y_Marks_add [Cond.code y_Marks_add b_Marks_add 10 (some FieldType.boolean)] (RM 0 0 0) b0 (Fa D cA) D CL [.ref mk, .int t, .long X, .long Y, .int w, .int h, .int d] f (fun v g => v = some (.int (b2i (noteF t.toInt64 X Y w.toInt64 h.toInt64 d.toInt64 r).1)) ∧ mkAt cA g mk rw9 (noteF t.toInt64 X Y w.toInt64 h.toInt64 d.toInt64 r).2 ∧ ∀ z, z ≠ mk → z ≠ rw9 → g z = f z) (NX) := by
  refine hv_Met.of (own := "BoxPacker$Marks") (by decide) rfl (Nat.le_of_ble_eq_true rfl) ?_
  intro p e s m below meth c hE hml hout hr hlocks hname hK hI ls hl
  have hl : lv_has ls 10 [(0, .ref mk), (1, .int t), (2, .long X), (4, .long Y), (6, .int w), (7, .int h), (8, .int d)] := hl
  obtain ⟨hx, hb, hown, hts, hVK⟩ := id hE
  have hne : mk ≠ rw9 := hv_ne hm.1 hm.2 (by simp)
  refine lv_aload_n hx hb d_Marks_add_0 rfl (lv_at hl 0 rfl) ?_
  refine hv_get hE k_Marks hI 1 (by decide) w36 hm.1 rfl d_Marks_add_1 ?_
  refine lv_sipush (v := 1000) hx hb d_Marks_add_4 (by decide) ?_
  refine lv_icmp_lt (tgt := 12) hx hb d_Marks_add_7 (by decide) (fun c7 => ?_) (fun c7 => ?_)
  · skip
    have hlt : r.2 < 1000 := (nI_ltI (b := 1000) (by omega) (by decide)).mp c7
    have hnt : ∀ t x y w h d, noteF t x y w h d r = (true, (vp_updL (vp_updL (vp_updL (vp_updL (vp_updL (vp_updL r.1 (6 * r.2) t) (6 * r.2 + 1) x) (6 * r.2 + 2) y) (6 * r.2 + 3) w) (6 * r.2 + 4) h) (6 * r.2 + 5) d, r.2 + 1)) := fun t x y w h d => if_neg (by omega)
    refine lv_aload_n hx hb d_Marks_add_12 rfl (lv_at hl 0 rfl) ?_
    refine hv_get hE k_Marks hI 1 (by decide) w36 hm.1 rfl d_Marks_add_13 ?_
    refine lv_bipush (v := 6) hx hb d_Marks_add_16 (by decide) ?_
    refine lv_imul hx hb d_Marks_add_18 ?_
    refine lv_istore (lv' := [(9, .int ((nI r.2) * 6)), (0, .ref mk), (1, .int t), (2, .long X), (4, .long Y), (6, .int w), (7, .int h), (8, .int d)]) hx hb d_Marks_add_19 hl (by decide) rfl (fun ls hl => ?_)
    refine lv_aload_n hx hb d_Marks_add_21 rfl (lv_at hl 1 rfl) ?_
    refine hv_get hE k_Marks hI 0 (by decide) w34 hm.1 rfl d_Marks_add_22 ?_
    refine lv_iload hx hb d_Marks_add_25 (lv_at hl 0 rfl) ?_
    refine lv_iload_n hx hb d_Marks_add_27 rfl (lv_at hl 2 rfl) ?_
    refine lv_i2l (v := t.toInt64) hx hb d_Marks_add_28 rfl ?_
    refine hv_last hE hI 1 hm.2 rfl (by rw [mk6 r.2 0, show nI (6 * r.2) = nI (6 * r.2) from rfl]; exact pk_in _ 6000 (by omega) rfl (by omega)) d_Marks_add_29 (fun H locs hI => ?_)
    rw [mk6 r.2 0, nI_cl (by omega)] at hI
    obtain ⟨g1, eg1⟩ : ∃ z : hv_M, z = hv_up f rw9 (.inl (cA 1, 6000, .inr (.inl (vp_updL r.1 (6 * r.2) t.toInt64)))) := ⟨_, rfl⟩
    have hI : hv_I D CL b0 g1 s.heap H locs := by rw [eg1]; exact hI
    have h2 : g1 mk = some (.inr (4, [.ref rw9, .int (nI r.2)])) := by rw [eg1]; rw [hv_up_ne _ _ (hv_ne hm.1 hm.2 (by simp))]; exact hm.1
    have h3 : g1 rw9 = some (.inl (cA 1, 6000, .inr (.inl (vp_updL r.1 (6 * r.2) t.toInt64)))) := by rw [eg1]; exact hv_up_self _ _ _
    refine lv_aload_n hx hb d_Marks_add_30 rfl (lv_at hl 1 rfl) ?_
    refine hv_get hE k_Marks hI 0 (by decide) w34 h2 rfl d_Marks_add_31 ?_
    refine lv_iload hx hb d_Marks_add_34 (lv_at hl 0 rfl) ?_
    refine lv_iconst (v := 1) hx hb d_Marks_add_36 (by decide) ?_
    refine lv_iadd hx hb d_Marks_add_37 ?_
    refine lv_lload_n hx hb d_Marks_add_38 rfl (lv_at hl 3 rfl) ?_
    refine hv_last hE hI 1 h3 rfl (by rw [mk6 r.2 0, show (1 : Int32) = nI 1 from rfl, nI_add]; exact pk_in _ 6000 (by omega) rfl (by omega)) d_Marks_add_39 (fun H locs hI => ?_)
    rw [mk6 r.2 0, show (1 : Int32) = nI 1 from rfl, nI_add, nI_cl (by omega)] at hI
    obtain ⟨g4, eg4⟩ : ∃ z : hv_M, z = hv_up g1 rw9 (.inl (cA 1, 6000, .inr (.inl (vp_updL (vp_updL r.1 (6 * r.2) t.toInt64) (6 * r.2 + 1) X)))) := ⟨_, rfl⟩
    have hI : hv_I D CL b0 g4 s.heap H locs := by rw [eg4]; exact hI
    have h5 : g4 mk = some (.inr (4, [.ref rw9, .int (nI r.2)])) := by rw [eg4]; rw [hv_up_ne _ _ (hv_ne h2 h3 (by simp))]; exact h2
    have h6 : g4 rw9 = some (.inl (cA 1, 6000, .inr (.inl (vp_updL (vp_updL r.1 (6 * r.2) t.toInt64) (6 * r.2 + 1) X)))) := by rw [eg4]; exact hv_up_self _ _ _
    refine lv_aload_n hx hb d_Marks_add_40 rfl (lv_at hl 1 rfl) ?_
    refine hv_get hE k_Marks hI 0 (by decide) w34 h5 rfl d_Marks_add_41 ?_
    refine lv_iload hx hb d_Marks_add_44 (lv_at hl 0 rfl) ?_
    refine lv_iconst (v := 2) hx hb d_Marks_add_46 (by decide) ?_
    refine lv_iadd hx hb d_Marks_add_47 ?_
    refine lv_lload hx hb d_Marks_add_48 (lv_at hl 4 rfl) ?_
    refine hv_last hE hI 1 h6 rfl (by rw [mk6 r.2 0, show (2 : Int32) = nI 2 from rfl, nI_add]; exact pk_in _ 6000 (by omega) rfl (by omega)) d_Marks_add_50 (fun H locs hI => ?_)
    rw [mk6 r.2 0, show (2 : Int32) = nI 2 from rfl, nI_add, nI_cl (by omega)] at hI
    obtain ⟨g7, eg7⟩ : ∃ z : hv_M, z = hv_up g4 rw9 (.inl (cA 1, 6000, .inr (.inl (vp_updL (vp_updL (vp_updL r.1 (6 * r.2) t.toInt64) (6 * r.2 + 1) X) (6 * r.2 + 2) Y)))) := ⟨_, rfl⟩
    have hI : hv_I D CL b0 g7 s.heap H locs := by rw [eg7]; exact hI
    have h8 : g7 mk = some (.inr (4, [.ref rw9, .int (nI r.2)])) := by rw [eg7]; rw [hv_up_ne _ _ (hv_ne h5 h6 (by simp))]; exact h5
    have h9 : g7 rw9 = some (.inl (cA 1, 6000, .inr (.inl (vp_updL (vp_updL (vp_updL r.1 (6 * r.2) t.toInt64) (6 * r.2 + 1) X) (6 * r.2 + 2) Y)))) := by rw [eg7]; exact hv_up_self _ _ _
    refine lv_aload_n hx hb d_Marks_add_51 rfl (lv_at hl 1 rfl) ?_
    refine hv_get hE k_Marks hI 0 (by decide) w34 h8 rfl d_Marks_add_52 ?_
    refine lv_iload hx hb d_Marks_add_55 (lv_at hl 0 rfl) ?_
    refine lv_iconst (v := 3) hx hb d_Marks_add_57 (by decide) ?_
    refine lv_iadd hx hb d_Marks_add_58 ?_
    refine lv_iload hx hb d_Marks_add_59 (lv_at hl 5 rfl) ?_
    refine lv_i2l (v := w.toInt64) hx hb d_Marks_add_61 rfl ?_
    refine hv_last hE hI 1 h9 rfl (by rw [mk6 r.2 0, show (3 : Int32) = nI 3 from rfl, nI_add]; exact pk_in _ 6000 (by omega) rfl (by omega)) d_Marks_add_62 (fun H locs hI => ?_)
    rw [mk6 r.2 0, show (3 : Int32) = nI 3 from rfl, nI_add, nI_cl (by omega)] at hI
    obtain ⟨g10, eg10⟩ : ∃ z : hv_M, z = hv_up g7 rw9 (.inl (cA 1, 6000, .inr (.inl (vp_updL (vp_updL (vp_updL (vp_updL r.1 (6 * r.2) t.toInt64) (6 * r.2 + 1) X) (6 * r.2 + 2) Y) (6 * r.2 + 3) w.toInt64)))) := ⟨_, rfl⟩
    have hI : hv_I D CL b0 g10 s.heap H locs := by rw [eg10]; exact hI
    have h11 : g10 mk = some (.inr (4, [.ref rw9, .int (nI r.2)])) := by rw [eg10]; rw [hv_up_ne _ _ (hv_ne h8 h9 (by simp))]; exact h8
    have h12 : g10 rw9 = some (.inl (cA 1, 6000, .inr (.inl (vp_updL (vp_updL (vp_updL (vp_updL r.1 (6 * r.2) t.toInt64) (6 * r.2 + 1) X) (6 * r.2 + 2) Y) (6 * r.2 + 3) w.toInt64)))) := by rw [eg10]; exact hv_up_self _ _ _
    refine lv_aload_n hx hb d_Marks_add_63 rfl (lv_at hl 1 rfl) ?_
    refine hv_get hE k_Marks hI 0 (by decide) w34 h11 rfl d_Marks_add_64 ?_
    refine lv_iload hx hb d_Marks_add_67 (lv_at hl 0 rfl) ?_
    refine lv_iconst (v := 4) hx hb d_Marks_add_69 (by decide) ?_
    refine lv_iadd hx hb d_Marks_add_70 ?_
    refine lv_iload hx hb d_Marks_add_71 (lv_at hl 6 rfl) ?_
    refine lv_i2l (v := h.toInt64) hx hb d_Marks_add_73 rfl ?_
    refine hv_last hE hI 1 h12 rfl (by rw [mk6 r.2 0, show (4 : Int32) = nI 4 from rfl, nI_add]; exact pk_in _ 6000 (by omega) rfl (by omega)) d_Marks_add_74 (fun H locs hI => ?_)
    rw [mk6 r.2 0, show (4 : Int32) = nI 4 from rfl, nI_add, nI_cl (by omega)] at hI
    obtain ⟨g13, eg13⟩ : ∃ z : hv_M, z = hv_up g10 rw9 (.inl (cA 1, 6000, .inr (.inl (vp_updL (vp_updL (vp_updL (vp_updL (vp_updL r.1 (6 * r.2) t.toInt64) (6 * r.2 + 1) X) (6 * r.2 + 2) Y) (6 * r.2 + 3) w.toInt64) (6 * r.2 + 4) h.toInt64)))) := ⟨_, rfl⟩
    have hI : hv_I D CL b0 g13 s.heap H locs := by rw [eg13]; exact hI
    have h14 : g13 mk = some (.inr (4, [.ref rw9, .int (nI r.2)])) := by rw [eg13]; rw [hv_up_ne _ _ (hv_ne h11 h12 (by simp))]; exact h11
    have h15 : g13 rw9 = some (.inl (cA 1, 6000, .inr (.inl (vp_updL (vp_updL (vp_updL (vp_updL (vp_updL r.1 (6 * r.2) t.toInt64) (6 * r.2 + 1) X) (6 * r.2 + 2) Y) (6 * r.2 + 3) w.toInt64) (6 * r.2 + 4) h.toInt64)))) := by rw [eg13]; exact hv_up_self _ _ _
    refine lv_aload_n hx hb d_Marks_add_75 rfl (lv_at hl 1 rfl) ?_
    refine hv_get hE k_Marks hI 0 (by decide) w34 h14 rfl d_Marks_add_76 ?_
    refine lv_iload hx hb d_Marks_add_79 (lv_at hl 0 rfl) ?_
    refine lv_iconst (v := 5) hx hb d_Marks_add_81 (by decide) ?_
    refine lv_iadd hx hb d_Marks_add_82 ?_
    refine lv_iload hx hb d_Marks_add_83 (lv_at hl 7 rfl) ?_
    refine lv_i2l (v := d.toInt64) hx hb d_Marks_add_85 rfl ?_
    refine hv_last hE hI 1 h15 rfl (by rw [mk6 r.2 0, show (5 : Int32) = nI 5 from rfl, nI_add]; exact pk_in _ 6000 (by omega) rfl (by omega)) d_Marks_add_86 (fun H locs hI => ?_)
    rw [mk6 r.2 0, show (5 : Int32) = nI 5 from rfl, nI_add, nI_cl (by omega)] at hI
    obtain ⟨g16, eg16⟩ : ∃ z : hv_M, z = hv_up g13 rw9 (.inl (cA 1, 6000, .inr (.inl (vp_updL (vp_updL (vp_updL (vp_updL (vp_updL (vp_updL r.1 (6 * r.2) t.toInt64) (6 * r.2 + 1) X) (6 * r.2 + 2) Y) (6 * r.2 + 3) w.toInt64) (6 * r.2 + 4) h.toInt64) (6 * r.2 + 5) d.toInt64)))) := ⟨_, rfl⟩
    have hI : hv_I D CL b0 g16 s.heap H locs := by rw [eg16]; exact hI
    have h17 : g16 mk = some (.inr (4, [.ref rw9, .int (nI r.2)])) := by rw [eg16]; rw [hv_up_ne _ _ (hv_ne h14 h15 (by simp))]; exact h14
    have h18 : g16 rw9 = some (.inl (cA 1, 6000, .inr (.inl (vp_updL (vp_updL (vp_updL (vp_updL (vp_updL (vp_updL r.1 (6 * r.2) t.toInt64) (6 * r.2 + 1) X) (6 * r.2 + 2) Y) (6 * r.2 + 3) w.toInt64) (6 * r.2 + 4) h.toInt64) (6 * r.2 + 5) d.toInt64)))) := by rw [eg16]; exact hv_up_self _ _ _
    refine lv_aload_n hx hb d_Marks_add_87 rfl (lv_at hl 1 rfl) ?_
    refine lv_dup hx hb d_Marks_add_88 rfl ?_
    refine hv_get hE k_Marks hI 1 (by decide) w36 h17 rfl d_Marks_add_89 ?_
    refine lv_iconst (v := 1) hx hb d_Marks_add_92 (by decide) ?_
    refine lv_iadd hx hb d_Marks_add_93 ?_
    refine hv_put hE k_Marks hI 1 (by decide) w36 h17 rfl rfl rfl (Nat.le_of_ble_eq_true rfl) d_Marks_add_94 (fun H locs hI => ?_)
    obtain ⟨g19, eg19⟩ : ∃ z : hv_M, z = hv_up g16 mk (.inr (4, [.ref rw9, .int ((nI r.2) + 1)])) := ⟨_, rfl⟩
    have hI : hv_I D CL b0 g19 s.heap H locs := by rw [eg19]; exact hI
    have h20 : g19 mk = some (.inr (4, [.ref rw9, .int ((nI r.2) + 1)])) := by rw [eg19]; exact hv_up_self _ _ _
    have h21 : g19 rw9 = some (.inl (cA 1, 6000, .inr (.inl (vp_updL (vp_updL (vp_updL (vp_updL (vp_updL (vp_updL r.1 (6 * r.2) t.toInt64) (6 * r.2 + 1) X) (6 * r.2 + 2) Y) (6 * r.2 + 3) w.toInt64) (6 * r.2 + 4) h.toInt64) (6 * r.2 + 5) d.toInt64)))) := by rw [eg19]; rw [hv_up_ne _ _ (hv_ne h18 h17 (by simp))]; exact h18
    refine lv_iconst (v := 1) hx hb d_Marks_add_97 (by decide) ?_
    exact hv_zret hE hr hlocks hI hK (v := 1) (by first | rfl | exact b2i_nar _) (⟨by rw [hnt]; rfl, by rw [hnt]; exact ⟨by rw [← nI_1]; exact h20, h21⟩, fun z z1 z2 => by rw [eg19, hv_up_ne _ _ z1, eg16, hv_up_ne _ _ z2, eg13, hv_up_ne _ _ z2, eg10, hv_up_ne _ _ z2, eg7, hv_up_ne _ _ z2, eg4, hv_up_ne _ _ z2, eg1, hv_up_ne _ _ z2]⟩) (by decide) (by decide) d_Marks_add_98
  · skip
    have hge : r.2 = 1000 := by have h9 : ¬ r.2 < 1000 := fun q => c7 ((nI_ltI (b := 1000) (by omega) (by decide)).mpr q); omega
    have hnt : ∀ t x y w h d, noteF t x y w h d r = (false, r) := fun t x y w h d => if_pos hge
    refine lv_iconst (v := 0) hx hb d_Marks_add_10 (by decide) ?_
    exact hv_zret hE hr hlocks hI hK (v := 0) (by first | rfl | exact b2i_nar _) (⟨by rw [hnt]; rfl, by rw [hnt]; exact hm, fun _ _ _ => rfl⟩) (by decide) (by decide) d_Marks_add_11

set_option maxHeartbeats 4000000 in
set_option maxRecDepth 100000 in
theorem c_BP_layOutItemN (l : Launch) (hl0 : l.stackTraces = false) (b0 : Nat) (D : va_G) (cA : Nat → ClassId) (f : hv_M) (x la ma mk n bn rw9 bx ca pa q : Nat) (bel : Bool) (dp al bw bh bd ex od to ov t w h d z pl : Int32) (X Y : Int64) (r : Mk) (hx0 : f x = some (.inr (0, [.ref la, .int (nI n), .ref ma, .int (nI bn), .ref mk]))) (hbx : f bx = some (.inr (1, [.int (b2i bel), .ref ca, .ref pa, .int dp, .int al, .int bw, .int bh, .int bd, .int ex, .int od, .int to, .int ov]))) (hm : mkAt cA f mk rw9 r) (hr9 : r.2 ≤ 1000) (hq : f q = some (.inr (2, [.int t, .int w, .int h, .int d, .null, .int z]))) : hv_Met l y_BP_layOutItem [Cond.code y_BP_layOutItem b_BP_layOutItem 16 (some FieldType.boolean)] (RM 2 0 0) b0 (Fa D cA) D CL [.ref x, .ref bx, .ref q, .int pl, .long X, .long Y] f (fun v g => v = some (.int (b2i (layC bel bw bh bd t w h d z pl X Y r).1)) ∧ mkAt cA g mk rw9 (layC bel bw bh bd t w h d z pl X Y r).2 ∧ ∀ z, z ≠ mk → z ≠ rw9 → g z = f z) (NX) := by
  refine hv_Met.of (own := "BoxPacker") (by decide) rfl (Nat.le_of_ble_eq_true rfl) ?_
  intro p e s m below meth c hE hml hout hr hlocks hname hK hI ls hl
  have hl : lv_has ls 16 [(0, .ref x), (1, .ref bx), (2, .ref q), (3, .int pl), (4, .long X), (6, .long Y)] := hl
  obtain ⟨hx, hb, hown, hts, hVK⟩ := id hE
  refine lv_aload_n hx hb d_BP_layOutItem_0 rfl (lv_at hl 1 rfl) ?_
  refine hv_getN hE k_Box hI 0 (by decide) w326 hbx rfl d_BP_layOutItem_1 ?_
  refine lv_if_eq (tgt := 18) hx hb d_BP_layOutItem_4 (by decide) (fun c4 => ?_) (fun c4 => ?_)
  · skip
    have hbl : bel = false := b2i_f c4
    refine lv_lload hx hb d_BP_layOutItem_18 (lv_at hl 4 rfl) ?_
    refine lv_iload_n hx hb d_BP_layOutItem_20 rfl (lv_at hl 3 rfl) ?_
    refine lv_i2l (v := pl.toInt64) hx hb d_BP_layOutItem_21 rfl ?_
    refine lv_ladd hx hb d_BP_layOutItem_22 ?_
    refine lv_lstore (lv' := [(8, .long (X + pl.toInt64)), (0, .ref x), (1, .ref bx), (2, .ref q), (3, .int pl), (4, .long X), (6, .long Y)]) hx hb d_BP_layOutItem_23 hl (by decide) rfl (fun ls hl => ?_)
    refine lv_aload_n hx hb d_BP_layOutItem_25 rfl (lv_at hl 2 rfl) ?_
    refine hv_getN hE k_Box hI 0 (by decide) w326 hbx rfl d_BP_layOutItem_26 ?_
    refine lv_if_eq (tgt := 55) hx hb d_BP_layOutItem_29 (by decide) (fun c29 => ?_) (fun c29 => ?_)
    · skip
      refine lv_lload hx hb d_BP_layOutItem_55 (lv_at hl 6 rfl) ?_
      refine lv_aload_n hx hb d_BP_layOutItem_57 rfl (lv_at hl 3 rfl) ?_
      refine hv_getN hE k_Solid hI 5 (by decide) w182 hq rfl d_BP_layOutItem_58 ?_
      refine lv_i2l (v := z.toInt64) hx hb d_BP_layOutItem_61 rfl ?_
      refine lv_ladd hx hb d_BP_layOutItem_62 ?_
      refine lv_lstore (lv' := [(10, .long (Y + z.toInt64)), (8, .long (X + pl.toInt64)), (0, .ref x), (1, .ref bx), (2, .ref q), (3, .int pl), (4, .long X), (6, .long Y)]) hx hb d_BP_layOutItem_63 hl (by decide) rfl (fun ls hl => ?_)
      refine lv_aload_n hx hb d_BP_layOutItem_65 rfl (lv_at hl 4 rfl) ?_
      refine hv_getN hE k_Solid hI 4 (by decide) w179 hq rfl d_BP_layOutItem_66 ?_
      refine lv_ifnullN (tgt := 85) hx hb d_BP_layOutItem_69 (by decide) ?_
      refine lv_aload_n hx hb d_BP_layOutItem_85 rfl (lv_at hl 4 rfl) ?_
      refine hv_getN hE k_Solid hI 1 (by decide) w170 hq rfl d_BP_layOutItem_86 ?_
      refine lv_aload_n hx hb d_BP_layOutItem_89 rfl (lv_at hl 3 rfl) ?_
      refine hv_getN hE k_Box hI 0 (by decide) w326 hbx rfl d_BP_layOutItem_90 ?_
      refine lv_if_eq (tgt := 103) hx hb d_BP_layOutItem_93 (by decide) (fun c93 => ?_) (fun c93 => ?_)
      · skip
        refine lv_iconst (v := 0) hx hb d_BP_layOutItem_103 (by decide) ?_
        refine hv_Sp (As := [.int w, .int 0]) (rest := []) hE hml hK hI (c_BP_known2 l hl0 b0 D cA f w 0) cd_BP_known2 w406 w407 rfl rfl rfl hl.1 (Nat.le_of_ble_eq_true rfl) d_BP_layOutItem_104 ⟨by decide, by decide⟩ ⟨by decide, by decide⟩ (fun H locs hI => ?_)
        refine W.eq (g2 := F0 m 107 ls [.int (kn w 0)]) rfl ?_
        refine lv_istore (lv' := [(12, .int (kn w 0)), (10, .long (Y + z.toInt64)), (8, .long (X + pl.toInt64)), (0, .ref x), (1, .ref bx), (2, .ref q), (3, .int pl), (4, .long X), (6, .long Y)]) hx hb d_BP_layOutItem_107 hl (by decide) rfl (fun ls hl => ?_)
        refine lv_aload_n hx hb d_BP_layOutItem_109 rfl (lv_at hl 5 rfl) ?_
        refine hv_getN hE k_Solid hI 2 (by decide) w173 hq rfl d_BP_layOutItem_110 ?_
        refine lv_aload_n hx hb d_BP_layOutItem_113 rfl (lv_at hl 4 rfl) ?_
        refine hv_getN hE k_Box hI 0 (by decide) w326 hbx rfl d_BP_layOutItem_114 ?_
        refine lv_if_eq (tgt := 124) hx hb d_BP_layOutItem_117 (by decide) (fun c117 => ?_) (fun c117 => ?_)
        · skip
          refine lv_aload_n hx hb d_BP_layOutItem_124 rfl (lv_at hl 4 rfl) ?_
          refine hv_getN hE k_Box hI 6 (by decide) w338 hbx rfl d_BP_layOutItem_125 ?_
          refine hv_Sp (As := [.int h, .int bh]) (rest := []) hE hml hK hI (c_BP_known2 l hl0 b0 D cA f h bh) cd_BP_known2 w406 w407 rfl rfl rfl hl.1 (Nat.le_of_ble_eq_true rfl) d_BP_layOutItem_128 ⟨by decide, by decide⟩ ⟨by decide, by decide⟩ (fun H locs hI => ?_)
          refine W.eq (g2 := F0 m 131 ls [.int (kn h bh)]) rfl ?_
          refine lv_istore (lv' := [(13, .int (kn h bh)), (12, .int (kn w 0)), (10, .long (Y + z.toInt64)), (8, .long (X + pl.toInt64)), (0, .ref x), (1, .ref bx), (2, .ref q), (3, .int pl), (4, .long X), (6, .long Y)]) hx hb d_BP_layOutItem_131 hl (by decide) rfl (fun ls hl => ?_)
          refine lv_aload_n hx hb d_BP_layOutItem_133 rfl (lv_at hl 6 rfl) ?_
          refine hv_getN hE k_Solid hI 3 (by decide) w176 hq rfl d_BP_layOutItem_134 ?_
          refine lv_aload_n hx hb d_BP_layOutItem_137 rfl (lv_at hl 5 rfl) ?_
          refine hv_getN hE k_Box hI 0 (by decide) w326 hbx rfl d_BP_layOutItem_138 ?_
          refine lv_if_eq (tgt := 148) hx hb d_BP_layOutItem_141 (by decide) (fun c141 => ?_) (fun c141 => ?_)
          · skip
            refine lv_aload_n hx hb d_BP_layOutItem_148 rfl (lv_at hl 5 rfl) ?_
            refine hv_getN hE k_Box hI 7 (by decide) w340 hbx rfl d_BP_layOutItem_149 ?_
            refine hv_Sp (As := [.int d, .int bd]) (rest := []) hE hml hK hI (c_BP_known2 l hl0 b0 D cA f d bd) cd_BP_known2 w406 w407 rfl rfl rfl hl.1 (Nat.le_of_ble_eq_true rfl) d_BP_layOutItem_152 ⟨by decide, by decide⟩ ⟨by decide, by decide⟩ (fun H locs hI => ?_)
            refine W.eq (g2 := F0 m 155 ls [.int (kn d bd)]) rfl ?_
            refine lv_istore (lv' := [(14, .int (kn d bd)), (13, .int (kn h bh)), (12, .int (kn w 0)), (10, .long (Y + z.toInt64)), (8, .long (X + pl.toInt64)), (0, .ref x), (1, .ref bx), (2, .ref q), (3, .int pl), (4, .long X), (6, .long Y)]) hx hb d_BP_layOutItem_155 hl (by decide) rfl (fun ls hl => ?_)
            refine lv_aload_n hx hb d_BP_layOutItem_157 rfl (lv_at hl 7 rfl) ?_
            refine hv_getN hE k_Solid hI 0 (by decide) w167 hq rfl d_BP_layOutItem_158 ?_
            refine lv_iconst (v := (-1)) hx hb d_BP_layOutItem_161 (by decide) ?_
            refine lv_icmp_eq (tgt := 169) hx hb d_BP_layOutItem_162 (by decide) (fun c162 => ?_) (fun c162 => ?_)
            · skip
              refine lv_iconst (v := 0) hx hb d_BP_layOutItem_169 (by decide) ?_
              refine lv_istore (lv' := [(15, .int 0), (14, .int (kn d bd)), (13, .int (kn h bh)), (12, .int (kn w 0)), (10, .long (Y + z.toInt64)), (8, .long (X + pl.toInt64)), (0, .ref x), (1, .ref bx), (2, .ref q), (3, .int pl), (4, .long X), (6, .long Y)]) hx hb d_BP_layOutItem_170 hl (by decide) rfl (fun ls hl => ?_)
              refine lv_iload hx hb d_BP_layOutItem_172 (lv_at hl 0 rfl) ?_
              refine lv_if_ne (tgt := 190) hx hb d_BP_layOutItem_174 (by decide) (fun c174 => ?_) (fun c174 => ?_)
              · skip
                exact absurd rfl c174
              · skip
                refine lv_iload hx hb d_BP_layOutItem_177 (lv_at hl 3 rfl) ?_
                refine lv_if_le (tgt := 212) hx hb d_BP_layOutItem_179 (by decide) (fun c179 => ?_) (fun c179 => ?_)
                · skip
                  refine lv_iconst (v := 1) hx hb d_BP_layOutItem_212 (by decide) ?_
                  exact hv_zret hE hr hlocks hI hK (v := 1) (by first | rfl | exact b2i_nar _) ((show _ ∧ _ ∧ _ by rw [show layC bel bw bh bd t w h d z pl X Y r = (true, r) from if_pos ⟨c162, fun q9 => Int32.not_lt.mpr c179 (by simpa [hbl] using q9.1)⟩]; exact ⟨rfl, hm, fun _ _ _ => rfl⟩)) (by decide) (by decide) d_BP_layOutItem_213
                · skip
                  refine lv_iload hx hb d_BP_layOutItem_182 (lv_at hl 2 rfl) ?_
                  refine lv_iload hx hb d_BP_layOutItem_184 (lv_at hl 1 rfl) ?_
                  refine lv_iadd hx hb d_BP_layOutItem_186 ?_
                  refine lv_if_le (tgt := 212) hx hb d_BP_layOutItem_187 (by decide) (fun c187 => ?_) (fun c187 => ?_)
                  · skip
                    refine lv_iconst (v := 1) hx hb d_BP_layOutItem_212 (by decide) ?_
                    exact hv_zret hE hr hlocks hI hK (v := 1) (by first | rfl | exact b2i_nar _) ((show _ ∧ _ ∧ _ by rw [show layC bel bw bh bd t w h d z pl X Y r = (true, r) from if_pos ⟨c162, fun q9 => Int32.not_lt.mpr c187 (by simpa [hbl] using q9.2)⟩]; exact ⟨rfl, hm, fun _ _ _ => rfl⟩)) (by decide) (by decide) d_BP_layOutItem_213
                  · skip
                    refine lv_aload_n hx hb d_BP_layOutItem_190 rfl (lv_at hl 6 rfl) ?_
                    refine hv_get hE k_BP hI 4 (by decide) w48 hx0 rfl d_BP_layOutItem_191 ?_
                    refine lv_aload_n hx hb d_BP_layOutItem_194 rfl (lv_at hl 8 rfl) ?_
                    refine hv_getN hE k_Solid hI 0 (by decide) w167 hq rfl d_BP_layOutItem_195 ?_
                    refine lv_lload hx hb d_BP_layOutItem_198 (lv_at hl 5 rfl) ?_
                    refine lv_lload hx hb d_BP_layOutItem_200 (lv_at hl 4 rfl) ?_
                    refine lv_iload hx hb d_BP_layOutItem_202 (lv_at hl 3 rfl) ?_
                    refine lv_iload hx hb d_BP_layOutItem_204 (lv_at hl 2 rfl) ?_
                    refine lv_iload hx hb d_BP_layOutItem_206 (lv_at hl 1 rfl) ?_
                    refine hv_VN (As := [.int t, .long (X + pl.toInt64), .long (Y + z.toInt64), .int (kn w 0), .int (kn h bh), .int (kn d bd)]) (rest := []) hE hml hK hI (c_Marks_add l hl0 b0 D cA f mk rw9 t (kn w 0) (kn h bh) (kn d bd) (X + pl.toInt64) (Y + z.toInt64) r hm hr9) cd_Marks_add w496 w498 ws16 hm.1 rfl rfl hl.1 (Nat.le_of_ble_eq_true rfl) d_BP_layOutItem_208 ⟨by decide, by decide⟩ ⟨by decide, by decide⟩ (fun v9 g1 H locs hp hI => ?_) (fun q9 E9 ce9 g9 H locs hp => hp.elim)
                    obtain ⟨hv, hm9, ho9⟩ := hp
                    rw [hv]
                    refine W.eq (g2 := F0 m 211 ls [.int (b2i (noteF (t).toInt64 (X + pl.toInt64) (Y + z.toInt64) (kn w 0).toInt64 (kn h bh).toInt64 (kn d bd).toInt64 r).1)]) rfl ?_
                    exact hv_zret hE hr hlocks hI hK (v := b2i (noteF (t).toInt64 (X + pl.toInt64) (Y + z.toInt64) (kn w 0).toInt64 (kn h bh).toInt64 (kn d bd).toInt64 r).1) (by first | rfl | exact b2i_nar _) ((show _ ∧ _ ∧ _ by have e9 : layC bel bw bh bd t w h d z pl X Y r = _ := if_neg (fun q9 => q9.2 ⟨by simpa [hbl] using Int32.not_le.mp c179, by simpa [hbl] using Int32.not_le.mp c187⟩); simp only [hbl, Bool.false_eq_true, if_false] at e9; rw [hbl, e9]; exact ⟨rfl, hm9, ho9⟩)) (by decide) (by decide) d_BP_layOutItem_211
            · skip
              refine lv_iconst (v := 1) hx hb d_BP_layOutItem_165 (by decide) ?_
              refine lv_goto (tgt := 170) hx hb d_BP_layOutItem_166 (by decide) ?_
              refine lv_istore (lv' := [(15, .int 1), (14, .int (kn d bd)), (13, .int (kn h bh)), (12, .int (kn w 0)), (10, .long (Y + z.toInt64)), (8, .long (X + pl.toInt64)), (0, .ref x), (1, .ref bx), (2, .ref q), (3, .int pl), (4, .long X), (6, .long Y)]) hx hb d_BP_layOutItem_170 hl (by decide) rfl (fun ls hl => ?_)
              refine lv_iload hx hb d_BP_layOutItem_172 (lv_at hl 0 rfl) ?_
              refine lv_if_ne (tgt := 190) hx hb d_BP_layOutItem_174 (by decide) (fun c174 => ?_) (fun c174 => ?_)
              · skip
                refine lv_aload_n hx hb d_BP_layOutItem_190 rfl (lv_at hl 6 rfl) ?_
                refine hv_get hE k_BP hI 4 (by decide) w48 hx0 rfl d_BP_layOutItem_191 ?_
                refine lv_aload_n hx hb d_BP_layOutItem_194 rfl (lv_at hl 8 rfl) ?_
                refine hv_getN hE k_Solid hI 0 (by decide) w167 hq rfl d_BP_layOutItem_195 ?_
                refine lv_lload hx hb d_BP_layOutItem_198 (lv_at hl 5 rfl) ?_
                refine lv_lload hx hb d_BP_layOutItem_200 (lv_at hl 4 rfl) ?_
                refine lv_iload hx hb d_BP_layOutItem_202 (lv_at hl 3 rfl) ?_
                refine lv_iload hx hb d_BP_layOutItem_204 (lv_at hl 2 rfl) ?_
                refine lv_iload hx hb d_BP_layOutItem_206 (lv_at hl 1 rfl) ?_
                refine hv_VN (As := [.int t, .long (X + pl.toInt64), .long (Y + z.toInt64), .int (kn w 0), .int (kn h bh), .int (kn d bd)]) (rest := []) hE hml hK hI (c_Marks_add l hl0 b0 D cA f mk rw9 t (kn w 0) (kn h bh) (kn d bd) (X + pl.toInt64) (Y + z.toInt64) r hm hr9) cd_Marks_add w496 w498 ws16 hm.1 rfl rfl hl.1 (Nat.le_of_ble_eq_true rfl) d_BP_layOutItem_208 ⟨by decide, by decide⟩ ⟨by decide, by decide⟩ (fun v9 g2 H locs hp hI => ?_) (fun q9 E9 ce9 g9 H locs hp => hp.elim)
                obtain ⟨hv, hm9, ho9⟩ := hp
                rw [hv]
                refine W.eq (g2 := F0 m 211 ls [.int (b2i (noteF (t).toInt64 (X + pl.toInt64) (Y + z.toInt64) (kn w 0).toInt64 (kn h bh).toInt64 (kn d bd).toInt64 r).1)]) rfl ?_
                exact hv_zret hE hr hlocks hI hK (v := b2i (noteF (t).toInt64 (X + pl.toInt64) (Y + z.toInt64) (kn w 0).toInt64 (kn h bh).toInt64 (kn d bd).toInt64 r).1) (by first | rfl | exact b2i_nar _) ((show _ ∧ _ ∧ _ by have e9 : layC bel bw bh bd t w h d z pl X Y r = _ := if_neg (fun q9 => c162 q9.1); simp only [hbl, Bool.false_eq_true, if_false] at e9; rw [hbl, e9]; exact ⟨rfl, hm9, ho9⟩)) (by decide) (by decide) d_BP_layOutItem_211
              · skip
                exact absurd c174 (by decide)
          · skip
            exact absurd (b2i_t c141) (by rw [hbl]; decide)
        · skip
          exact absurd (b2i_t c117) (by rw [hbl]; decide)
      · skip
        exact absurd (b2i_t c93) (by rw [hbl]; decide)
    · skip
      exact absurd (b2i_t c29) (by rw [hbl]; decide)
  · skip
    have hbl : bel = true := b2i_t c4
    refine lv_lload hx hb d_BP_layOutItem_7 (lv_at hl 4 rfl) ?_
    refine lv_aload_n hx hb d_BP_layOutItem_9 rfl (lv_at hl 2 rfl) ?_
    refine hv_getN hE k_Solid hI 5 (by decide) w182 hq rfl d_BP_layOutItem_10 ?_
    refine lv_i2l (v := z.toInt64) hx hb d_BP_layOutItem_13 rfl ?_
    refine lv_ladd hx hb d_BP_layOutItem_14 ?_
    refine lv_goto (tgt := 23) hx hb d_BP_layOutItem_15 (by decide) ?_
    refine lv_lstore (lv' := [(8, .long (X + z.toInt64)), (0, .ref x), (1, .ref bx), (2, .ref q), (3, .int pl), (4, .long X), (6, .long Y)]) hx hb d_BP_layOutItem_23 hl (by decide) rfl (fun ls hl => ?_)
    refine lv_aload_n hx hb d_BP_layOutItem_25 rfl (lv_at hl 2 rfl) ?_
    refine hv_getN hE k_Box hI 0 (by decide) w326 hbx rfl d_BP_layOutItem_26 ?_
    refine lv_if_eq (tgt := 55) hx hb d_BP_layOutItem_29 (by decide) (fun c29 => ?_) (fun c29 => ?_)
    · skip
      exact absurd (b2i_f c29) (by rw [hbl]; decide)
    · skip
      refine lv_lload hx hb d_BP_layOutItem_32 (lv_at hl 6 rfl) ?_
      refine lv_aload_n hx hb d_BP_layOutItem_34 rfl (lv_at hl 2 rfl) ?_
      refine hv_getN hE k_Box hI 6 (by decide) w338 hbx rfl d_BP_layOutItem_35 ?_
      refine lv_i2l (v := bh.toInt64) hx hb d_BP_layOutItem_38 rfl ?_
      refine lv_lsub hx hb d_BP_layOutItem_39 ?_
      refine lv_iload_n hx hb d_BP_layOutItem_40 rfl (lv_at hl 4 rfl) ?_
      refine lv_i2l (v := pl.toInt64) hx hb d_BP_layOutItem_41 rfl ?_
      refine lv_ladd hx hb d_BP_layOutItem_42 ?_
      refine lv_aload_n hx hb d_BP_layOutItem_43 rfl (lv_at hl 3 rfl) ?_
      refine hv_getN hE k_Solid hI 2 (by decide) w173 hq rfl d_BP_layOutItem_44 ?_
      refine hv_Sp (As := [.int h]) (rest := [.long ((Y - bh.toInt64) + pl.toInt64)]) hE hml hK hI (c_BP_known1 l hl0 b0 D cA f h) cd_BP_known1 w495 w404 rfl rfl rfl hl.1 (Nat.le_of_ble_eq_true rfl) d_BP_layOutItem_47 ⟨by decide, by decide⟩ ⟨by decide, by decide⟩ (fun H locs hI => ?_)
      refine W.eq (g2 := F0 m 50 ls [.int (kn h 0), .long ((Y - bh.toInt64) + pl.toInt64)]) rfl ?_
      refine lv_i2l (v := (kn h 0).toInt64) hx hb d_BP_layOutItem_50 rfl ?_
      refine lv_ladd hx hb d_BP_layOutItem_51 ?_
      refine lv_goto (tgt := 63) hx hb d_BP_layOutItem_52 (by decide) ?_
      refine lv_lstore (lv' := [(10, .long (((Y - bh.toInt64) + pl.toInt64) + ((kn h 0).toInt64))), (8, .long (X + z.toInt64)), (0, .ref x), (1, .ref bx), (2, .ref q), (3, .int pl), (4, .long X), (6, .long Y)]) hx hb d_BP_layOutItem_63 hl (by decide) rfl (fun ls hl => ?_)
      refine lv_aload_n hx hb d_BP_layOutItem_65 rfl (lv_at hl 4 rfl) ?_
      refine hv_getN hE k_Solid hI 4 (by decide) w179 hq rfl d_BP_layOutItem_66 ?_
      refine lv_ifnullN (tgt := 85) hx hb d_BP_layOutItem_69 (by decide) ?_
      refine lv_aload_n hx hb d_BP_layOutItem_85 rfl (lv_at hl 4 rfl) ?_
      refine hv_getN hE k_Solid hI 1 (by decide) w170 hq rfl d_BP_layOutItem_86 ?_
      refine lv_aload_n hx hb d_BP_layOutItem_89 rfl (lv_at hl 3 rfl) ?_
      refine hv_getN hE k_Box hI 0 (by decide) w326 hbx rfl d_BP_layOutItem_90 ?_
      refine lv_if_eq (tgt := 103) hx hb d_BP_layOutItem_93 (by decide) (fun c93 => ?_) (fun c93 => ?_)
      · skip
        exact absurd (b2i_f c93) (by rw [hbl]; decide)
      · skip
        refine lv_aload_n hx hb d_BP_layOutItem_96 rfl (lv_at hl 3 rfl) ?_
        refine hv_getN hE k_Box hI 5 (by decide) w336 hbx rfl d_BP_layOutItem_97 ?_
        refine lv_goto (tgt := 104) hx hb d_BP_layOutItem_100 (by decide) ?_
        refine hv_Sp (As := [.int w, .int bw]) (rest := []) hE hml hK hI (c_BP_known2 l hl0 b0 D cA f w bw) cd_BP_known2 w406 w407 rfl rfl rfl hl.1 (Nat.le_of_ble_eq_true rfl) d_BP_layOutItem_104 ⟨by decide, by decide⟩ ⟨by decide, by decide⟩ (fun H locs hI => ?_)
        refine W.eq (g2 := F0 m 107 ls [.int (kn w bw)]) rfl ?_
        refine lv_istore (lv' := [(12, .int (kn w bw)), (10, .long (((Y - bh.toInt64) + pl.toInt64) + ((kn h 0).toInt64))), (8, .long (X + z.toInt64)), (0, .ref x), (1, .ref bx), (2, .ref q), (3, .int pl), (4, .long X), (6, .long Y)]) hx hb d_BP_layOutItem_107 hl (by decide) rfl (fun ls hl => ?_)
        refine lv_aload_n hx hb d_BP_layOutItem_109 rfl (lv_at hl 5 rfl) ?_
        refine hv_getN hE k_Solid hI 2 (by decide) w173 hq rfl d_BP_layOutItem_110 ?_
        refine lv_aload_n hx hb d_BP_layOutItem_113 rfl (lv_at hl 4 rfl) ?_
        refine hv_getN hE k_Box hI 0 (by decide) w326 hbx rfl d_BP_layOutItem_114 ?_
        refine lv_if_eq (tgt := 124) hx hb d_BP_layOutItem_117 (by decide) (fun c117 => ?_) (fun c117 => ?_)
        · skip
          exact absurd (b2i_f c117) (by rw [hbl]; decide)
        · skip
          refine lv_iconst (v := 0) hx hb d_BP_layOutItem_120 (by decide) ?_
          refine lv_goto (tgt := 128) hx hb d_BP_layOutItem_121 (by decide) ?_
          refine hv_Sp (As := [.int h, .int 0]) (rest := []) hE hml hK hI (c_BP_known2 l hl0 b0 D cA f h 0) cd_BP_known2 w406 w407 rfl rfl rfl hl.1 (Nat.le_of_ble_eq_true rfl) d_BP_layOutItem_128 ⟨by decide, by decide⟩ ⟨by decide, by decide⟩ (fun H locs hI => ?_)
          refine W.eq (g2 := F0 m 131 ls [.int (kn h 0)]) rfl ?_
          refine lv_istore (lv' := [(13, .int (kn h 0)), (12, .int (kn w bw)), (10, .long (((Y - bh.toInt64) + pl.toInt64) + ((kn h 0).toInt64))), (8, .long (X + z.toInt64)), (0, .ref x), (1, .ref bx), (2, .ref q), (3, .int pl), (4, .long X), (6, .long Y)]) hx hb d_BP_layOutItem_131 hl (by decide) rfl (fun ls hl => ?_)
          refine lv_aload_n hx hb d_BP_layOutItem_133 rfl (lv_at hl 6 rfl) ?_
          refine hv_getN hE k_Solid hI 3 (by decide) w176 hq rfl d_BP_layOutItem_134 ?_
          refine lv_aload_n hx hb d_BP_layOutItem_137 rfl (lv_at hl 5 rfl) ?_
          refine hv_getN hE k_Box hI 0 (by decide) w326 hbx rfl d_BP_layOutItem_138 ?_
          refine lv_if_eq (tgt := 148) hx hb d_BP_layOutItem_141 (by decide) (fun c141 => ?_) (fun c141 => ?_)
          · skip
            exact absurd (b2i_f c141) (by rw [hbl]; decide)
          · skip
            refine lv_iconst (v := 0) hx hb d_BP_layOutItem_144 (by decide) ?_
            refine lv_goto (tgt := 152) hx hb d_BP_layOutItem_145 (by decide) ?_
            refine hv_Sp (As := [.int d, .int 0]) (rest := []) hE hml hK hI (c_BP_known2 l hl0 b0 D cA f d 0) cd_BP_known2 w406 w407 rfl rfl rfl hl.1 (Nat.le_of_ble_eq_true rfl) d_BP_layOutItem_152 ⟨by decide, by decide⟩ ⟨by decide, by decide⟩ (fun H locs hI => ?_)
            refine W.eq (g2 := F0 m 155 ls [.int (kn d 0)]) rfl ?_
            refine lv_istore (lv' := [(14, .int (kn d 0)), (13, .int (kn h 0)), (12, .int (kn w bw)), (10, .long (((Y - bh.toInt64) + pl.toInt64) + ((kn h 0).toInt64))), (8, .long (X + z.toInt64)), (0, .ref x), (1, .ref bx), (2, .ref q), (3, .int pl), (4, .long X), (6, .long Y)]) hx hb d_BP_layOutItem_155 hl (by decide) rfl (fun ls hl => ?_)
            refine lv_aload_n hx hb d_BP_layOutItem_157 rfl (lv_at hl 7 rfl) ?_
            refine hv_getN hE k_Solid hI 0 (by decide) w167 hq rfl d_BP_layOutItem_158 ?_
            refine lv_iconst (v := (-1)) hx hb d_BP_layOutItem_161 (by decide) ?_
            refine lv_icmp_eq (tgt := 169) hx hb d_BP_layOutItem_162 (by decide) (fun c162 => ?_) (fun c162 => ?_)
            · skip
              refine lv_iconst (v := 0) hx hb d_BP_layOutItem_169 (by decide) ?_
              refine lv_istore (lv' := [(15, .int 0), (14, .int (kn d 0)), (13, .int (kn h 0)), (12, .int (kn w bw)), (10, .long (((Y - bh.toInt64) + pl.toInt64) + ((kn h 0).toInt64))), (8, .long (X + z.toInt64)), (0, .ref x), (1, .ref bx), (2, .ref q), (3, .int pl), (4, .long X), (6, .long Y)]) hx hb d_BP_layOutItem_170 hl (by decide) rfl (fun ls hl => ?_)
              refine lv_iload hx hb d_BP_layOutItem_172 (lv_at hl 0 rfl) ?_
              refine lv_if_ne (tgt := 190) hx hb d_BP_layOutItem_174 (by decide) (fun c174 => ?_) (fun c174 => ?_)
              · skip
                exact absurd rfl c174
              · skip
                refine lv_iload hx hb d_BP_layOutItem_177 (lv_at hl 3 rfl) ?_
                refine lv_if_le (tgt := 212) hx hb d_BP_layOutItem_179 (by decide) (fun c179 => ?_) (fun c179 => ?_)
                · skip
                  refine lv_iconst (v := 1) hx hb d_BP_layOutItem_212 (by decide) ?_
                  exact hv_zret hE hr hlocks hI hK (v := 1) (by first | rfl | exact b2i_nar _) ((show _ ∧ _ ∧ _ by rw [show layC bel bw bh bd t w h d z pl X Y r = (true, r) from if_pos ⟨c162, fun q9 => Int32.not_lt.mpr c179 (by simpa [hbl] using q9.1)⟩]; exact ⟨rfl, hm, fun _ _ _ => rfl⟩)) (by decide) (by decide) d_BP_layOutItem_213
                · skip
                  refine lv_iload hx hb d_BP_layOutItem_182 (lv_at hl 2 rfl) ?_
                  refine lv_iload hx hb d_BP_layOutItem_184 (lv_at hl 1 rfl) ?_
                  refine lv_iadd hx hb d_BP_layOutItem_186 ?_
                  refine lv_if_le (tgt := 212) hx hb d_BP_layOutItem_187 (by decide) (fun c187 => ?_) (fun c187 => ?_)
                  · skip
                    refine lv_iconst (v := 1) hx hb d_BP_layOutItem_212 (by decide) ?_
                    exact hv_zret hE hr hlocks hI hK (v := 1) (by first | rfl | exact b2i_nar _) ((show _ ∧ _ ∧ _ by rw [show layC bel bw bh bd t w h d z pl X Y r = (true, r) from if_pos ⟨c162, fun q9 => Int32.not_lt.mpr c187 (by simpa [hbl] using q9.2)⟩]; exact ⟨rfl, hm, fun _ _ _ => rfl⟩)) (by decide) (by decide) d_BP_layOutItem_213
                  · skip
                    refine lv_aload_n hx hb d_BP_layOutItem_190 rfl (lv_at hl 6 rfl) ?_
                    refine hv_get hE k_BP hI 4 (by decide) w48 hx0 rfl d_BP_layOutItem_191 ?_
                    refine lv_aload_n hx hb d_BP_layOutItem_194 rfl (lv_at hl 8 rfl) ?_
                    refine hv_getN hE k_Solid hI 0 (by decide) w167 hq rfl d_BP_layOutItem_195 ?_
                    refine lv_lload hx hb d_BP_layOutItem_198 (lv_at hl 5 rfl) ?_
                    refine lv_lload hx hb d_BP_layOutItem_200 (lv_at hl 4 rfl) ?_
                    refine lv_iload hx hb d_BP_layOutItem_202 (lv_at hl 3 rfl) ?_
                    refine lv_iload hx hb d_BP_layOutItem_204 (lv_at hl 2 rfl) ?_
                    refine lv_iload hx hb d_BP_layOutItem_206 (lv_at hl 1 rfl) ?_
                    refine hv_VN (As := [.int t, .long (X + z.toInt64), .long (((Y - bh.toInt64) + pl.toInt64) + ((kn h 0).toInt64)), .int (kn w bw), .int (kn h 0), .int (kn d 0)]) (rest := []) hE hml hK hI (c_Marks_add l hl0 b0 D cA f mk rw9 t (kn w bw) (kn h 0) (kn d 0) (X + z.toInt64) (((Y - bh.toInt64) + pl.toInt64) + ((kn h 0).toInt64)) r hm hr9) cd_Marks_add w496 w498 ws16 hm.1 rfl rfl hl.1 (Nat.le_of_ble_eq_true rfl) d_BP_layOutItem_208 ⟨by decide, by decide⟩ ⟨by decide, by decide⟩ (fun v9 g3 H locs hp hI => ?_) (fun q9 E9 ce9 g9 H locs hp => hp.elim)
                    obtain ⟨hv, hm9, ho9⟩ := hp
                    rw [hv]
                    refine W.eq (g2 := F0 m 211 ls [.int (b2i (noteF (t).toInt64 (X + z.toInt64) (((Y - bh.toInt64) + pl.toInt64) + ((kn h 0).toInt64)) (kn w bw).toInt64 (kn h 0).toInt64 (kn d 0).toInt64 r).1)]) rfl ?_
                    exact hv_zret hE hr hlocks hI hK (v := b2i (noteF (t).toInt64 (X + z.toInt64) (((Y - bh.toInt64) + pl.toInt64) + ((kn h 0).toInt64)) (kn w bw).toInt64 (kn h 0).toInt64 (kn d 0).toInt64 r).1) (by first | rfl | exact b2i_nar _) ((show _ ∧ _ ∧ _ by have e9 : layC bel bw bh bd t w h d z pl X Y r = _ := if_neg (fun q9 => q9.2 ⟨by simpa [hbl] using Int32.not_le.mp c179, by simpa [hbl] using Int32.not_le.mp c187⟩); simp only [hbl, if_true] at e9; rw [hbl, e9]; exact ⟨rfl, hm9, ho9⟩)) (by decide) (by decide) d_BP_layOutItem_211
            · skip
              refine lv_iconst (v := 1) hx hb d_BP_layOutItem_165 (by decide) ?_
              refine lv_goto (tgt := 170) hx hb d_BP_layOutItem_166 (by decide) ?_
              refine lv_istore (lv' := [(15, .int 1), (14, .int (kn d 0)), (13, .int (kn h 0)), (12, .int (kn w bw)), (10, .long (((Y - bh.toInt64) + pl.toInt64) + ((kn h 0).toInt64))), (8, .long (X + z.toInt64)), (0, .ref x), (1, .ref bx), (2, .ref q), (3, .int pl), (4, .long X), (6, .long Y)]) hx hb d_BP_layOutItem_170 hl (by decide) rfl (fun ls hl => ?_)
              refine lv_iload hx hb d_BP_layOutItem_172 (lv_at hl 0 rfl) ?_
              refine lv_if_ne (tgt := 190) hx hb d_BP_layOutItem_174 (by decide) (fun c174 => ?_) (fun c174 => ?_)
              · skip
                refine lv_aload_n hx hb d_BP_layOutItem_190 rfl (lv_at hl 6 rfl) ?_
                refine hv_get hE k_BP hI 4 (by decide) w48 hx0 rfl d_BP_layOutItem_191 ?_
                refine lv_aload_n hx hb d_BP_layOutItem_194 rfl (lv_at hl 8 rfl) ?_
                refine hv_getN hE k_Solid hI 0 (by decide) w167 hq rfl d_BP_layOutItem_195 ?_
                refine lv_lload hx hb d_BP_layOutItem_198 (lv_at hl 5 rfl) ?_
                refine lv_lload hx hb d_BP_layOutItem_200 (lv_at hl 4 rfl) ?_
                refine lv_iload hx hb d_BP_layOutItem_202 (lv_at hl 3 rfl) ?_
                refine lv_iload hx hb d_BP_layOutItem_204 (lv_at hl 2 rfl) ?_
                refine lv_iload hx hb d_BP_layOutItem_206 (lv_at hl 1 rfl) ?_
                refine hv_VN (As := [.int t, .long (X + z.toInt64), .long (((Y - bh.toInt64) + pl.toInt64) + ((kn h 0).toInt64)), .int (kn w bw), .int (kn h 0), .int (kn d 0)]) (rest := []) hE hml hK hI (c_Marks_add l hl0 b0 D cA f mk rw9 t (kn w bw) (kn h 0) (kn d 0) (X + z.toInt64) (((Y - bh.toInt64) + pl.toInt64) + ((kn h 0).toInt64)) r hm hr9) cd_Marks_add w496 w498 ws16 hm.1 rfl rfl hl.1 (Nat.le_of_ble_eq_true rfl) d_BP_layOutItem_208 ⟨by decide, by decide⟩ ⟨by decide, by decide⟩ (fun v9 g4 H locs hp hI => ?_) (fun q9 E9 ce9 g9 H locs hp => hp.elim)
                obtain ⟨hv, hm9, ho9⟩ := hp
                rw [hv]
                refine W.eq (g2 := F0 m 211 ls [.int (b2i (noteF (t).toInt64 (X + z.toInt64) (((Y - bh.toInt64) + pl.toInt64) + ((kn h 0).toInt64)) (kn w bw).toInt64 (kn h 0).toInt64 (kn d 0).toInt64 r).1)]) rfl ?_
                exact hv_zret hE hr hlocks hI hK (v := b2i (noteF (t).toInt64 (X + z.toInt64) (((Y - bh.toInt64) + pl.toInt64) + ((kn h 0).toInt64)) (kn w bw).toInt64 (kn h 0).toInt64 (kn d 0).toInt64 r).1) (by first | rfl | exact b2i_nar _) ((show _ ∧ _ ∧ _ by have e9 : layC bel bw bh bd t w h d z pl X Y r = _ := if_neg (fun q9 => c162 q9.1); simp only [hbl, if_true] at e9; rw [hbl, e9]; exact ⟨rfl, hm9, ho9⟩)) (by decide) (by decide) d_BP_layOutItem_211
              · skip
                exact absurd c174 (by decide)

set_option maxHeartbeats 4000000 in
set_option maxRecDepth 100000 in
theorem c_BP_layOutItemB (l : Launch) (hl0 : l.stackTraces = false) (b0 : Nat) (D : va_G) (cA : Nat → ClassId) (f : hv_M) (x la ma mk n bn rw9 bx ca pa q qi lv9 : Nat) (bel : Bool) (dp al bw bh bd ex od to ov t w h d z pl : Int32) (X Y : Int64) (r : Mk) (rb : Bool) (Pg : hv_M → Prop) (hx0 : f x = some (.inr (0, [.ref la, .int (nI n), .ref ma, .int (nI bn), .ref mk]))) (hbx : f bx = some (.inr (1, [.int (b2i bel), .ref ca, .ref pa, .int dp, .int al, .int bw, .int bh, .int bd, .int ex, .int od, .int to, .int ov]))) (hm : mkAt cA f mk rw9 r) (hr9 : r.2 ≤ 1000) (hq : f q = some (.inr (2, [.int t, .int w, .int h, .int d, .ref qi, .int z]))) (hlv : 2 ≤ lv9) (hrec : hv_Met l y_BP_layOut [Cond.code y_BP_layOut b_BP_layOut 9 (some FieldType.boolean)] (RM lv9 0 0) b0 (Fa D cA) D CL [.ref x, .ref qi, .long (if bel = true then X + z.toInt64 else X + pl.toInt64), .long (if bel = true then Y - bh.toInt64 + pl.toInt64 + (kn h 0).toInt64 else Y + z.toInt64)] f (fun v g => v = some (.int (b2i rb)) ∧ Pg g) NX) : hv_Met l y_BP_layOutItem [Cond.code y_BP_layOutItem b_BP_layOutItem 16 (some FieldType.boolean)] (RM (lv9 + 1) 0 0) b0 (Fa D cA) D CL [.ref x, .ref bx, .ref q, .int pl, .long X, .long Y] f (fun v g => v = some (.int (b2i rb)) ∧ Pg g) (NX) := by
  refine hv_Met.of (own := "BoxPacker") (by decide) rfl (Nat.le_of_ble_eq_true rfl) ?_
  intro p e s m below meth c hE hml hout hr hlocks hname hK hI ls hl
  have hl : lv_has ls 16 [(0, .ref x), (1, .ref bx), (2, .ref q), (3, .int pl), (4, .long X), (6, .long Y)] := hl
  obtain ⟨hx, hb, hown, hts, hVK⟩ := id hE
  refine lv_aload_n hx hb d_BP_layOutItem_0 rfl (lv_at hl 1 rfl) ?_
  refine hv_getN hE k_Box hI 0 (by decide) w326 hbx rfl d_BP_layOutItem_1 ?_
  refine lv_if_eq (tgt := 18) hx hb d_BP_layOutItem_4 (by decide) (fun c4 => ?_) (fun c4 => ?_)
  · skip
    have hbl : bel = false := b2i_f c4
    refine lv_lload hx hb d_BP_layOutItem_18 (lv_at hl 4 rfl) ?_
    refine lv_iload_n hx hb d_BP_layOutItem_20 rfl (lv_at hl 3 rfl) ?_
    refine lv_i2l (v := pl.toInt64) hx hb d_BP_layOutItem_21 rfl ?_
    refine lv_ladd hx hb d_BP_layOutItem_22 ?_
    refine lv_lstore (lv' := [(8, .long (X + pl.toInt64)), (0, .ref x), (1, .ref bx), (2, .ref q), (3, .int pl), (4, .long X), (6, .long Y)]) hx hb d_BP_layOutItem_23 hl (by decide) rfl (fun ls hl => ?_)
    refine lv_aload_n hx hb d_BP_layOutItem_25 rfl (lv_at hl 2 rfl) ?_
    refine hv_getN hE k_Box hI 0 (by decide) w326 hbx rfl d_BP_layOutItem_26 ?_
    refine lv_if_eq (tgt := 55) hx hb d_BP_layOutItem_29 (by decide) (fun c29 => ?_) (fun c29 => ?_)
    · skip
      refine lv_lload hx hb d_BP_layOutItem_55 (lv_at hl 6 rfl) ?_
      refine lv_aload_n hx hb d_BP_layOutItem_57 rfl (lv_at hl 3 rfl) ?_
      refine hv_getN hE k_Solid hI 5 (by decide) w182 hq rfl d_BP_layOutItem_58 ?_
      refine lv_i2l (v := z.toInt64) hx hb d_BP_layOutItem_61 rfl ?_
      refine lv_ladd hx hb d_BP_layOutItem_62 ?_
      refine lv_lstore (lv' := [(10, .long (Y + z.toInt64)), (8, .long (X + pl.toInt64)), (0, .ref x), (1, .ref bx), (2, .ref q), (3, .int pl), (4, .long X), (6, .long Y)]) hx hb d_BP_layOutItem_63 hl (by decide) rfl (fun ls hl => ?_)
      refine lv_aload_n hx hb d_BP_layOutItem_65 rfl (lv_at hl 4 rfl) ?_
      refine hv_getN hE k_Solid hI 4 (by decide) w179 hq rfl d_BP_layOutItem_66 ?_
      refine lv_ifnull hx hb d_BP_layOutItem_69 ?_
      refine lv_aload_n hx hb d_BP_layOutItem_72 rfl (lv_at hl 2 rfl) ?_
      refine lv_aload_n hx hb d_BP_layOutItem_73 rfl (lv_at hl 4 rfl) ?_
      refine hv_getN hE k_Solid hI 4 (by decide) w179 hq rfl d_BP_layOutItem_74 ?_
      refine lv_lload hx hb d_BP_layOutItem_77 (lv_at hl 1 rfl) ?_
      refine lv_lload hx hb d_BP_layOutItem_79 (lv_at hl 0 rfl) ?_
      have hrec9 := hrec
      simp only [hbl, Bool.false_eq_true, if_false] at hrec9
      refine hv_V (As := [.ref qi, .long (X + pl.toInt64), .long (Y + z.toInt64)]) (rest := []) hE hml hK hI hrec9 cd_BP_layOut w487 w489 ws14 hx0 rfl rfl hl.1 (Nat.le_of_ble_eq_true rfl) d_BP_layOutItem_81 ⟨by first | (show 10 + _ + 1 ≤ 10 + _; omega) | (show 8 + (_ + 11) + (200 + 40 * _) ≤ 200 + 40 * _; omega), by first | (show 10 + _ + 1 ≤ 10 + _; omega) | (show 8 + (_ + 11) + (200 + 40 * _) ≤ 200 + 40 * _; omega)⟩ ⟨by exact Nat.le_refl _, by exact Nat.le_refl _⟩ (fun v9 g1 H locs hp hI => ?_) (fun q9 E9 ce9 g9 H locs hp => hp.elim)
      obtain ⟨hv, hp9⟩ := hp
      rw [hv]
      refine W.eq (g2 := F0 m 84 ls [.int (b2i rb)]) rfl ?_
      exact hv_zret hE hr hlocks hI hK (v := b2i rb) (by first | rfl | exact b2i_nar _) (⟨rfl, hp9⟩) (by exact Nat.le_refl _) (by exact Nat.le_refl _) d_BP_layOutItem_84
    · skip
      exact absurd (b2i_t c29) (by rw [hbl]; decide)
  · skip
    have hbl : bel = true := b2i_t c4
    refine lv_lload hx hb d_BP_layOutItem_7 (lv_at hl 4 rfl) ?_
    refine lv_aload_n hx hb d_BP_layOutItem_9 rfl (lv_at hl 2 rfl) ?_
    refine hv_getN hE k_Solid hI 5 (by decide) w182 hq rfl d_BP_layOutItem_10 ?_
    refine lv_i2l (v := z.toInt64) hx hb d_BP_layOutItem_13 rfl ?_
    refine lv_ladd hx hb d_BP_layOutItem_14 ?_
    refine lv_goto (tgt := 23) hx hb d_BP_layOutItem_15 (by decide) ?_
    refine lv_lstore (lv' := [(8, .long (X + z.toInt64)), (0, .ref x), (1, .ref bx), (2, .ref q), (3, .int pl), (4, .long X), (6, .long Y)]) hx hb d_BP_layOutItem_23 hl (by decide) rfl (fun ls hl => ?_)
    refine lv_aload_n hx hb d_BP_layOutItem_25 rfl (lv_at hl 2 rfl) ?_
    refine hv_getN hE k_Box hI 0 (by decide) w326 hbx rfl d_BP_layOutItem_26 ?_
    refine lv_if_eq (tgt := 55) hx hb d_BP_layOutItem_29 (by decide) (fun c29 => ?_) (fun c29 => ?_)
    · skip
      exact absurd (b2i_f c29) (by rw [hbl]; decide)
    · skip
      refine lv_lload hx hb d_BP_layOutItem_32 (lv_at hl 6 rfl) ?_
      refine lv_aload_n hx hb d_BP_layOutItem_34 rfl (lv_at hl 2 rfl) ?_
      refine hv_getN hE k_Box hI 6 (by decide) w338 hbx rfl d_BP_layOutItem_35 ?_
      refine lv_i2l (v := bh.toInt64) hx hb d_BP_layOutItem_38 rfl ?_
      refine lv_lsub hx hb d_BP_layOutItem_39 ?_
      refine lv_iload_n hx hb d_BP_layOutItem_40 rfl (lv_at hl 4 rfl) ?_
      refine lv_i2l (v := pl.toInt64) hx hb d_BP_layOutItem_41 rfl ?_
      refine lv_ladd hx hb d_BP_layOutItem_42 ?_
      refine lv_aload_n hx hb d_BP_layOutItem_43 rfl (lv_at hl 3 rfl) ?_
      refine hv_getN hE k_Solid hI 2 (by decide) w173 hq rfl d_BP_layOutItem_44 ?_
      refine hv_Sp (As := [.int h]) (rest := [.long ((Y - bh.toInt64) + pl.toInt64)]) hE hml hK hI (c_BP_known1 l hl0 b0 D cA f h) cd_BP_known1 w495 w404 rfl rfl rfl hl.1 (Nat.le_of_ble_eq_true rfl) d_BP_layOutItem_47 ⟨by first | (show 10 + _ + 1 ≤ 10 + _; omega) | (show 8 + (_ + 11) + (200 + 40 * _) ≤ 200 + 40 * _; omega), by first | (show 10 + _ + 1 ≤ 10 + _; omega) | (show 8 + (_ + 11) + (200 + 40 * _) ≤ 200 + 40 * _; omega)⟩ ⟨by exact Nat.le_refl _, by exact Nat.le_refl _⟩ (fun H locs hI => ?_)
      refine W.eq (g2 := F0 m 50 ls [.int (kn h 0), .long ((Y - bh.toInt64) + pl.toInt64)]) rfl ?_
      refine lv_i2l (v := (kn h 0).toInt64) hx hb d_BP_layOutItem_50 rfl ?_
      refine lv_ladd hx hb d_BP_layOutItem_51 ?_
      refine lv_goto (tgt := 63) hx hb d_BP_layOutItem_52 (by decide) ?_
      refine lv_lstore (lv' := [(10, .long (((Y - bh.toInt64) + pl.toInt64) + ((kn h 0).toInt64))), (8, .long (X + z.toInt64)), (0, .ref x), (1, .ref bx), (2, .ref q), (3, .int pl), (4, .long X), (6, .long Y)]) hx hb d_BP_layOutItem_63 hl (by decide) rfl (fun ls hl => ?_)
      refine lv_aload_n hx hb d_BP_layOutItem_65 rfl (lv_at hl 4 rfl) ?_
      refine hv_getN hE k_Solid hI 4 (by decide) w179 hq rfl d_BP_layOutItem_66 ?_
      refine lv_ifnull hx hb d_BP_layOutItem_69 ?_
      refine lv_aload_n hx hb d_BP_layOutItem_72 rfl (lv_at hl 2 rfl) ?_
      refine lv_aload_n hx hb d_BP_layOutItem_73 rfl (lv_at hl 4 rfl) ?_
      refine hv_getN hE k_Solid hI 4 (by decide) w179 hq rfl d_BP_layOutItem_74 ?_
      refine lv_lload hx hb d_BP_layOutItem_77 (lv_at hl 1 rfl) ?_
      refine lv_lload hx hb d_BP_layOutItem_79 (lv_at hl 0 rfl) ?_
      have hrec9 := hrec
      simp only [hbl, if_true] at hrec9
      refine hv_V (As := [.ref qi, .long (X + z.toInt64), .long (((Y - bh.toInt64) + pl.toInt64) + ((kn h 0).toInt64))]) (rest := []) hE hml hK hI hrec9 cd_BP_layOut w487 w489 ws14 hx0 rfl rfl hl.1 (Nat.le_of_ble_eq_true rfl) d_BP_layOutItem_81 ⟨by first | (show 10 + _ + 1 ≤ 10 + _; omega) | (show 8 + (_ + 11) + (200 + 40 * _) ≤ 200 + 40 * _; omega), by first | (show 10 + _ + 1 ≤ 10 + _; omega) | (show 8 + (_ + 11) + (200 + 40 * _) ≤ 200 + 40 * _; omega)⟩ ⟨by exact Nat.le_refl _, by exact Nat.le_refl _⟩ (fun v9 g2 H locs hp hI => ?_) (fun q9 E9 ce9 g9 H locs hp => hp.elim)
      obtain ⟨hv, hp9⟩ := hp
      rw [hv]
      refine W.eq (g2 := F0 m 84 ls [.int (b2i rb)]) rfl ?_
      exact hv_zret hE hr hlocks hI hK (v := b2i rb) (by first | rfl | exact b2i_nar _) (⟨rfl, hp9⟩) (by exact Nat.le_refl _) (by exact Nat.le_refl _) d_BP_layOutItem_84

