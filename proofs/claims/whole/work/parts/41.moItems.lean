/-! ===== the reference: items are added ===== -/
/-- the world with the item e -/
def adW (V : Wd) (e : Nat) (kd x0 x1 x2 x3 x4 : Int32) : Wd := (upd V.1 e kd, upd (upd (upd (upd (upd V.2.1 (5 * e) x0) (5 * e + 1) x1) (5 * e + 2) x2) (5 * e + 3) x3) (5 * e + 4) x4, V.2.2)
/-- only the reference's own cell has changed -/
def moRef (f g : hv_M) (mo : Nat) (x : va_E) : Prop := g mo = some x ∧ ∀ z, z ≠ mo → g z = f z
def moAdd (cA : Nat → ClassId) (f g : hv_M) (mo : Nat) (a : Nat → Nat) (V : Wd) (x : va_E) : Prop := g mo = some x ∧ moA cA g a V ∧ ∀ z, z ≠ mo → z ≠ a 0 → z ≠ a 1 → g z = f z

set_option maxHeartbeats 4000000 in
set_option maxRecDepth 100000 in
theorem c_Mo_append (l : Launch) (hl0 : l.stackTraces = false) (b0 : Nat) (D : va_G) (cA : Nat → ClassId) (f : hv_M) (mo : Nat) (a : Nat → Nat) (th : Int32) (s9 e9 : Nat) (ct : Int32) (gd : Bool) (ln bf ac un : Int64) (md : Int32) (V : Wd) (kd x0 x1 x2 x3 x4 : Int32) (hmo : f mo = some (moE a th (nI s9) (nI e9) ct gd ln bf ac un md)) (hnj : moN mo a) (hA : moA cA f a V) (hse : s9 ≤ e9) (he9 : e9 < 10200) : hv_Met l y_Mo_append [Cond.code y_Mo_append b_Mo_append 7 (some FieldType.int)] (RM 0 0 0) b0 (Fa D cA) D CL [.ref mo, .int kd, .int x0, .int x1, .int x2, .int x3, .int x4] f (fun v g => v = some (.int (nI (e9 - s9))) ∧ moAdd cA f g mo a (adW V e9 kd x0 x1 x2 x3 x4) (moE a th (nI s9) (nI (e9 + 1)) ct gd ln bf ac un md)) (NX) := by
  refine hv_Met.of (own := "BoxPackerModel") (by decide) rfl (Nat.le_of_ble_eq_true rfl) ?_
  intro p e s m below meth c hE hml hout hr hlocks hname hK hI ls hl
  have hl : lv_has ls 7 [(0, .ref mo), (1, .int kd), (2, .int x0), (3, .int x1), (4, .int x2), (5, .int x3), (6, .int x4)] := hl
  obtain ⟨hx, hb, hown, hts, hVK⟩ := id hE
  refine lv_aload_n hx hb d_Mo_append_0 rfl (lv_at hl 0 rfl) ?_
  refine hv_get hE k_Mo hI 1 (by decide) w517 hmo rfl d_Mo_append_1 ?_
  refine lv_aload_n hx hb d_Mo_append_4 rfl (lv_at hl 0 rfl) ?_
  refine hv_get hE k_Mo hI 4 (by decide) w520 hmo rfl d_Mo_append_5 ?_
  refine lv_iload_n hx hb d_Mo_append_8 rfl (lv_at hl 1 rfl) ?_
  refine hv_iast hE hI 0 hA.1 rfl (pk_in e9 10200 he9 rfl (by omega)) d_Mo_append_9 (fun H locs hI => ?_)
  rw [nI_cl (by omega)] at hI
  obtain ⟨g1, eg1⟩ : ∃ z : hv_M, z = hv_up f (a 0) (.inl (cA 0, 10200, .inl (upd (wK V) e9 kd))) := ⟨_, rfl⟩
  have hI : hv_I D CL b0 g1 s.heap H locs := by rw [eg1]; exact hI
  have hq2 : g1 (a 0) = some (.inl (cA 0, 10200, .inl (upd (wK V) e9 kd))) := by rw [eg1]; exact hv_up_self _ _ _
  refine lv_aload_n hx hb d_Mo_append_10 rfl (lv_at hl 0 rfl) ?_
  have hq3 : g1 mo = some (moE a th (nI s9) (nI e9) ct gd ln bf ac un md) := by rw [eg1, hv_up_ne _ _ (Ne.symm (hnj.2 0 (by decide)))]; exact hmo
  refine hv_get hE k_Mo hI 2 (by decide) w518 hq3 rfl d_Mo_append_11 ?_
  refine lv_iconst (v := 5) hx hb d_Mo_append_14 (by decide) ?_
  refine lv_aload_n hx hb d_Mo_append_15 rfl (lv_at hl 0 rfl) ?_
  refine hv_get hE k_Mo hI 4 (by decide) w520 hq3 rfl d_Mo_append_16 ?_
  refine lv_imul hx hb d_Mo_append_19 ?_
  refine lv_iload_n hx hb d_Mo_append_20 rfl (lv_at hl 2 rfl) ?_
  have hq4 : g1 (a 1) = some (.inl (cA 0, 51000, .inl V.2.1)) := by rw [eg1, hv_up_ne _ _ (hnj.1 1 0 (by decide) (by decide) (by decide))]; exact hA.2.1
  refine hv_iast hE hI 0 hq4 rfl (by rw [ix5']; exact pk_in _ 51000 (by omega) rfl (by omega)) d_Mo_append_21 (fun H locs hI => ?_)
  rw [ix5', nI_cl (by omega)] at hI
  obtain ⟨g5, eg5⟩ : ∃ z : hv_M, z = hv_up g1 (a 1) (.inl (cA 0, 51000, .inl (upd V.2.1 (5 * e9) x0))) := ⟨_, rfl⟩
  have hI : hv_I D CL b0 g5 s.heap H locs := by rw [eg5]; exact hI
  have hq6 : g5 (a 1) = some (.inl (cA 0, 51000, .inl (upd V.2.1 (5 * e9) x0))) := by rw [eg5]; exact hv_up_self _ _ _
  refine lv_aload_n hx hb d_Mo_append_22 rfl (lv_at hl 0 rfl) ?_
  have hq7 : g5 mo = some (moE a th (nI s9) (nI e9) ct gd ln bf ac un md) := by rw [eg5, hv_up_ne _ _ (Ne.symm (hnj.2 1 (by decide)))]; exact hq3
  refine hv_get hE k_Mo hI 2 (by decide) w518 hq7 rfl d_Mo_append_23 ?_
  refine lv_iconst (v := 5) hx hb d_Mo_append_26 (by decide) ?_
  refine lv_aload_n hx hb d_Mo_append_27 rfl (lv_at hl 0 rfl) ?_
  refine hv_get hE k_Mo hI 4 (by decide) w520 hq7 rfl d_Mo_append_28 ?_
  refine lv_imul hx hb d_Mo_append_31 ?_
  refine lv_iconst (v := 1) hx hb d_Mo_append_32 (by decide) ?_
  refine lv_iadd hx hb d_Mo_append_33 ?_
  refine lv_iload_n hx hb d_Mo_append_34 rfl (lv_at hl 3 rfl) ?_
  refine hv_iast hE hI 0 hq6 rfl (by rw [show (1 : Int32) = nI 1 from rfl, ix5]; exact pk_in _ 51000 (by omega) rfl (by omega)) d_Mo_append_35 (fun H locs hI => ?_)
  rw [show (1 : Int32) = nI 1 from rfl, ix5, nI_cl (by omega)] at hI
  obtain ⟨g8, eg8⟩ : ∃ z : hv_M, z = hv_up g5 (a 1) (.inl (cA 0, 51000, .inl (upd (upd V.2.1 (5 * e9) x0) (5 * e9 + 1) x1))) := ⟨_, rfl⟩
  have hI : hv_I D CL b0 g8 s.heap H locs := by rw [eg8]; exact hI
  have hq9 : g8 (a 1) = some (.inl (cA 0, 51000, .inl (upd (upd V.2.1 (5 * e9) x0) (5 * e9 + 1) x1))) := by rw [eg8]; exact hv_up_self _ _ _
  refine lv_aload_n hx hb d_Mo_append_36 rfl (lv_at hl 0 rfl) ?_
  have hq10 : g8 mo = some (moE a th (nI s9) (nI e9) ct gd ln bf ac un md) := by rw [eg8, hv_up_ne _ _ (Ne.symm (hnj.2 1 (by decide)))]; exact hq7
  refine hv_get hE k_Mo hI 2 (by decide) w518 hq10 rfl d_Mo_append_37 ?_
  refine lv_iconst (v := 5) hx hb d_Mo_append_40 (by decide) ?_
  refine lv_aload_n hx hb d_Mo_append_41 rfl (lv_at hl 0 rfl) ?_
  refine hv_get hE k_Mo hI 4 (by decide) w520 hq10 rfl d_Mo_append_42 ?_
  refine lv_imul hx hb d_Mo_append_45 ?_
  refine lv_iconst (v := 2) hx hb d_Mo_append_46 (by decide) ?_
  refine lv_iadd hx hb d_Mo_append_47 ?_
  refine lv_iload hx hb d_Mo_append_48 (lv_at hl 4 rfl) ?_
  refine hv_iast hE hI 0 hq9 rfl (by rw [show (2 : Int32) = nI 2 from rfl, ix5]; exact pk_in _ 51000 (by omega) rfl (by omega)) d_Mo_append_50 (fun H locs hI => ?_)
  rw [show (2 : Int32) = nI 2 from rfl, ix5, nI_cl (by omega)] at hI
  obtain ⟨g11, eg11⟩ : ∃ z : hv_M, z = hv_up g8 (a 1) (.inl (cA 0, 51000, .inl (upd (upd (upd V.2.1 (5 * e9) x0) (5 * e9 + 1) x1) (5 * e9 + 2) x2))) := ⟨_, rfl⟩
  have hI : hv_I D CL b0 g11 s.heap H locs := by rw [eg11]; exact hI
  have hq12 : g11 (a 1) = some (.inl (cA 0, 51000, .inl (upd (upd (upd V.2.1 (5 * e9) x0) (5 * e9 + 1) x1) (5 * e9 + 2) x2))) := by rw [eg11]; exact hv_up_self _ _ _
  refine lv_aload_n hx hb d_Mo_append_51 rfl (lv_at hl 0 rfl) ?_
  have hq13 : g11 mo = some (moE a th (nI s9) (nI e9) ct gd ln bf ac un md) := by rw [eg11, hv_up_ne _ _ (Ne.symm (hnj.2 1 (by decide)))]; exact hq10
  refine hv_get hE k_Mo hI 2 (by decide) w518 hq13 rfl d_Mo_append_52 ?_
  refine lv_iconst (v := 5) hx hb d_Mo_append_55 (by decide) ?_
  refine lv_aload_n hx hb d_Mo_append_56 rfl (lv_at hl 0 rfl) ?_
  refine hv_get hE k_Mo hI 4 (by decide) w520 hq13 rfl d_Mo_append_57 ?_
  refine lv_imul hx hb d_Mo_append_60 ?_
  refine lv_iconst (v := 3) hx hb d_Mo_append_61 (by decide) ?_
  refine lv_iadd hx hb d_Mo_append_62 ?_
  refine lv_iload hx hb d_Mo_append_63 (lv_at hl 5 rfl) ?_
  refine hv_iast hE hI 0 hq12 rfl (by rw [show (3 : Int32) = nI 3 from rfl, ix5]; exact pk_in _ 51000 (by omega) rfl (by omega)) d_Mo_append_65 (fun H locs hI => ?_)
  rw [show (3 : Int32) = nI 3 from rfl, ix5, nI_cl (by omega)] at hI
  obtain ⟨g14, eg14⟩ : ∃ z : hv_M, z = hv_up g11 (a 1) (.inl (cA 0, 51000, .inl (upd (upd (upd (upd V.2.1 (5 * e9) x0) (5 * e9 + 1) x1) (5 * e9 + 2) x2) (5 * e9 + 3) x3))) := ⟨_, rfl⟩
  have hI : hv_I D CL b0 g14 s.heap H locs := by rw [eg14]; exact hI
  have hq15 : g14 (a 1) = some (.inl (cA 0, 51000, .inl (upd (upd (upd (upd V.2.1 (5 * e9) x0) (5 * e9 + 1) x1) (5 * e9 + 2) x2) (5 * e9 + 3) x3))) := by rw [eg14]; exact hv_up_self _ _ _
  refine lv_aload_n hx hb d_Mo_append_66 rfl (lv_at hl 0 rfl) ?_
  have hq16 : g14 mo = some (moE a th (nI s9) (nI e9) ct gd ln bf ac un md) := by rw [eg14, hv_up_ne _ _ (Ne.symm (hnj.2 1 (by decide)))]; exact hq13
  refine hv_get hE k_Mo hI 2 (by decide) w518 hq16 rfl d_Mo_append_67 ?_
  refine lv_iconst (v := 5) hx hb d_Mo_append_70 (by decide) ?_
  refine lv_aload_n hx hb d_Mo_append_71 rfl (lv_at hl 0 rfl) ?_
  refine hv_get hE k_Mo hI 4 (by decide) w520 hq16 rfl d_Mo_append_72 ?_
  refine lv_imul hx hb d_Mo_append_75 ?_
  refine lv_iconst (v := 4) hx hb d_Mo_append_76 (by decide) ?_
  refine lv_iadd hx hb d_Mo_append_77 ?_
  refine lv_iload hx hb d_Mo_append_78 (lv_at hl 6 rfl) ?_
  refine hv_iast hE hI 0 hq15 rfl (by rw [show (4 : Int32) = nI 4 from rfl, ix5]; exact pk_in _ 51000 (by omega) rfl (by omega)) d_Mo_append_80 (fun H locs hI => ?_)
  rw [show (4 : Int32) = nI 4 from rfl, ix5, nI_cl (by omega)] at hI
  obtain ⟨g17, eg17⟩ : ∃ z : hv_M, z = hv_up g14 (a 1) (.inl (cA 0, 51000, .inl (upd (upd (upd (upd (upd V.2.1 (5 * e9) x0) (5 * e9 + 1) x1) (5 * e9 + 2) x2) (5 * e9 + 3) x3) (5 * e9 + 4) x4))) := ⟨_, rfl⟩
  have hI : hv_I D CL b0 g17 s.heap H locs := by rw [eg17]; exact hI
  have hq18 : g17 (a 1) = some (.inl (cA 0, 51000, .inl (upd (upd (upd (upd (upd V.2.1 (5 * e9) x0) (5 * e9 + 1) x1) (5 * e9 + 2) x2) (5 * e9 + 3) x3) (5 * e9 + 4) x4))) := by rw [eg17]; exact hv_up_self _ _ _
  refine lv_aload_n hx hb d_Mo_append_81 rfl (lv_at hl 0 rfl) ?_
  refine lv_dup hx hb d_Mo_append_82 rfl ?_
  have hq19 : g17 mo = some (moE a th (nI s9) (nI e9) ct gd ln bf ac un md) := by rw [eg17, hv_up_ne _ _ (Ne.symm (hnj.2 1 (by decide)))]; exact hq16
  refine hv_get hE k_Mo hI 4 (by decide) w520 hq19 rfl d_Mo_append_83 ?_
  refine lv_iconst (v := 1) hx hb d_Mo_append_86 (by decide) ?_
  refine lv_iadd hx hb d_Mo_append_87 ?_
  refine hv_put hE k_Mo hI 4 (by decide) w520 hq19 rfl rfl rfl (Nat.le_of_ble_eq_true rfl) d_Mo_append_88 (fun H locs hI => ?_)
  obtain ⟨g20, eg20⟩ : ∃ z : hv_M, z = hv_up g17 mo (moE a th (nI s9) ((nI e9) + 1) ct gd ln bf ac un md) := ⟨_, rfl⟩
  have hI : hv_I D CL b0 g20 s.heap H locs := by rw [eg20]; exact hI
  have hq21 : g20 mo = some (moE a th (nI s9) ((nI e9) + 1) ct gd ln bf ac un md) := by rw [eg20]; exact hv_up_self _ _ _
  refine lv_aload_n hx hb d_Mo_append_91 rfl (lv_at hl 0 rfl) ?_
  refine hv_get hE k_Mo hI 4 (by decide) w520 hq21 rfl d_Mo_append_92 ?_
  refine lv_aload_n hx hb d_Mo_append_95 rfl (lv_at hl 0 rfl) ?_
  refine hv_get hE k_Mo hI 3 (by decide) w519 hq21 rfl d_Mo_append_96 ?_
  refine lv_isub hx hb d_Mo_append_99 ?_
  refine lv_iconst (v := 1) hx hb d_Mo_append_100 (by decide) ?_
  refine lv_isub hx hb d_Mo_append_101 ?_
  have hq22 : g20 (a 0) = some (.inl (cA 0, 10200, .inl (upd (wK V) e9 kd))) := by rw [eg20, hv_up_ne _ _ (hnj.2 0 (by decide)), eg17, hv_up_ne _ _ (hnj.1 0 1 (by decide) (by decide) (by decide)), eg14, hv_up_ne _ _ (hnj.1 0 1 (by decide) (by decide) (by decide)), eg11, hv_up_ne _ _ (hnj.1 0 1 (by decide) (by decide) (by decide)), eg8, hv_up_ne _ _ (hnj.1 0 1 (by decide) (by decide) (by decide)), eg5, hv_up_ne _ _ (hnj.1 0 1 (by decide) (by decide) (by decide))]; exact hq2
  have hq23 : g20 (a 1) = some (.inl (cA 0, 51000, .inl (upd (upd (upd (upd (upd V.2.1 (5 * e9) x0) (5 * e9 + 1) x1) (5 * e9 + 2) x2) (5 * e9 + 3) x3) (5 * e9 + 4) x4))) := by rw [eg20, hv_up_ne _ _ (hnj.2 1 (by decide))]; exact hq18
  have hq24 : g20 (a 2) = some (.inl (cA 0, 101, .inl (fun b => nI (wF V b)))) := by rw [eg20, hv_up_ne _ _ (hnj.2 2 (by decide)), eg17, hv_up_ne _ _ (hnj.1 2 1 (by decide) (by decide) (by decide)), eg14, hv_up_ne _ _ (hnj.1 2 1 (by decide) (by decide) (by decide)), eg11, hv_up_ne _ _ (hnj.1 2 1 (by decide) (by decide) (by decide)), eg8, hv_up_ne _ _ (hnj.1 2 1 (by decide) (by decide) (by decide)), eg5, hv_up_ne _ _ (hnj.1 2 1 (by decide) (by decide) (by decide)), eg1, hv_up_ne _ _ (hnj.1 2 0 (by decide) (by decide) (by decide))]; exact hA.2.2.1
  have hq25 : g20 (a 3) = some (.inl (cA 2, 100, .inl (fun b => b2i (wB V b)))) := by rw [eg20, hv_up_ne _ _ (hnj.2 3 (by decide)), eg17, hv_up_ne _ _ (hnj.1 3 1 (by decide) (by decide) (by decide)), eg14, hv_up_ne _ _ (hnj.1 3 1 (by decide) (by decide) (by decide)), eg11, hv_up_ne _ _ (hnj.1 3 1 (by decide) (by decide) (by decide)), eg8, hv_up_ne _ _ (hnj.1 3 1 (by decide) (by decide) (by decide)), eg5, hv_up_ne _ _ (hnj.1 3 1 (by decide) (by decide) (by decide)), eg1, hv_up_ne _ _ (hnj.1 3 0 (by decide) (by decide) (by decide))]; exact hA.2.2.2.1
  have hq26 : g20 (a 4) = some (.inl (cA 0, 100, .inl (wA V 0))) := by rw [eg20, hv_up_ne _ _ (hnj.2 4 (by decide)), eg17, hv_up_ne _ _ (hnj.1 4 1 (by decide) (by decide) (by decide)), eg14, hv_up_ne _ _ (hnj.1 4 1 (by decide) (by decide) (by decide)), eg11, hv_up_ne _ _ (hnj.1 4 1 (by decide) (by decide) (by decide)), eg8, hv_up_ne _ _ (hnj.1 4 1 (by decide) (by decide) (by decide)), eg5, hv_up_ne _ _ (hnj.1 4 1 (by decide) (by decide) (by decide)), eg1, hv_up_ne _ _ (hnj.1 4 0 (by decide) (by decide) (by decide))]; exact (hA.2.2.2.2 0 (by decide))
  have hq27 : g20 (a 5) = some (.inl (cA 0, 100, .inl (wA V 1))) := by rw [eg20, hv_up_ne _ _ (hnj.2 5 (by decide)), eg17, hv_up_ne _ _ (hnj.1 5 1 (by decide) (by decide) (by decide)), eg14, hv_up_ne _ _ (hnj.1 5 1 (by decide) (by decide) (by decide)), eg11, hv_up_ne _ _ (hnj.1 5 1 (by decide) (by decide) (by decide)), eg8, hv_up_ne _ _ (hnj.1 5 1 (by decide) (by decide) (by decide)), eg5, hv_up_ne _ _ (hnj.1 5 1 (by decide) (by decide) (by decide)), eg1, hv_up_ne _ _ (hnj.1 5 0 (by decide) (by decide) (by decide))]; exact (hA.2.2.2.2 1 (by decide))
  have hq28 : g20 (a 6) = some (.inl (cA 0, 100, .inl (wA V 2))) := by rw [eg20, hv_up_ne _ _ (hnj.2 6 (by decide)), eg17, hv_up_ne _ _ (hnj.1 6 1 (by decide) (by decide) (by decide)), eg14, hv_up_ne _ _ (hnj.1 6 1 (by decide) (by decide) (by decide)), eg11, hv_up_ne _ _ (hnj.1 6 1 (by decide) (by decide) (by decide)), eg8, hv_up_ne _ _ (hnj.1 6 1 (by decide) (by decide) (by decide)), eg5, hv_up_ne _ _ (hnj.1 6 1 (by decide) (by decide) (by decide)), eg1, hv_up_ne _ _ (hnj.1 6 0 (by decide) (by decide) (by decide))]; exact (hA.2.2.2.2 2 (by decide))
  have hq29 : g20 (a 7) = some (.inl (cA 0, 100, .inl (wA V 3))) := by rw [eg20, hv_up_ne _ _ (hnj.2 7 (by decide)), eg17, hv_up_ne _ _ (hnj.1 7 1 (by decide) (by decide) (by decide)), eg14, hv_up_ne _ _ (hnj.1 7 1 (by decide) (by decide) (by decide)), eg11, hv_up_ne _ _ (hnj.1 7 1 (by decide) (by decide) (by decide)), eg8, hv_up_ne _ _ (hnj.1 7 1 (by decide) (by decide) (by decide)), eg5, hv_up_ne _ _ (hnj.1 7 1 (by decide) (by decide) (by decide)), eg1, hv_up_ne _ _ (hnj.1 7 0 (by decide) (by decide) (by decide))]; exact (hA.2.2.2.2 3 (by decide))
  have hq30 : g20 (a 8) = some (.inl (cA 0, 100, .inl (wA V 4))) := by rw [eg20, hv_up_ne _ _ (hnj.2 8 (by decide)), eg17, hv_up_ne _ _ (hnj.1 8 1 (by decide) (by decide) (by decide)), eg14, hv_up_ne _ _ (hnj.1 8 1 (by decide) (by decide) (by decide)), eg11, hv_up_ne _ _ (hnj.1 8 1 (by decide) (by decide) (by decide)), eg8, hv_up_ne _ _ (hnj.1 8 1 (by decide) (by decide) (by decide)), eg5, hv_up_ne _ _ (hnj.1 8 1 (by decide) (by decide) (by decide)), eg1, hv_up_ne _ _ (hnj.1 8 0 (by decide) (by decide) (by decide))]; exact (hA.2.2.2.2 4 (by decide))
  have hq31 : g20 (a 9) = some (.inl (cA 0, 100, .inl (wA V 5))) := by rw [eg20, hv_up_ne _ _ (hnj.2 9 (by decide)), eg17, hv_up_ne _ _ (hnj.1 9 1 (by decide) (by decide) (by decide)), eg14, hv_up_ne _ _ (hnj.1 9 1 (by decide) (by decide) (by decide)), eg11, hv_up_ne _ _ (hnj.1 9 1 (by decide) (by decide) (by decide)), eg8, hv_up_ne _ _ (hnj.1 9 1 (by decide) (by decide) (by decide)), eg5, hv_up_ne _ _ (hnj.1 9 1 (by decide) (by decide) (by decide)), eg1, hv_up_ne _ _ (hnj.1 9 0 (by decide) (by decide) (by decide))]; exact (hA.2.2.2.2 5 (by decide))
  have hq32 : g20 (a 10) = some (.inl (cA 0, 100, .inl (wA V 6))) := by rw [eg20, hv_up_ne _ _ (hnj.2 10 (by decide)), eg17, hv_up_ne _ _ (hnj.1 10 1 (by decide) (by decide) (by decide)), eg14, hv_up_ne _ _ (hnj.1 10 1 (by decide) (by decide) (by decide)), eg11, hv_up_ne _ _ (hnj.1 10 1 (by decide) (by decide) (by decide)), eg8, hv_up_ne _ _ (hnj.1 10 1 (by decide) (by decide) (by decide)), eg5, hv_up_ne _ _ (hnj.1 10 1 (by decide) (by decide) (by decide)), eg1, hv_up_ne _ _ (hnj.1 10 0 (by decide) (by decide) (by decide))]; exact (hA.2.2.2.2 6 (by decide))
  have hq33 : g20 (a 11) = some (.inl (cA 0, 100, .inl (wA V 7))) := by rw [eg20, hv_up_ne _ _ (hnj.2 11 (by decide)), eg17, hv_up_ne _ _ (hnj.1 11 1 (by decide) (by decide) (by decide)), eg14, hv_up_ne _ _ (hnj.1 11 1 (by decide) (by decide) (by decide)), eg11, hv_up_ne _ _ (hnj.1 11 1 (by decide) (by decide) (by decide)), eg8, hv_up_ne _ _ (hnj.1 11 1 (by decide) (by decide) (by decide)), eg5, hv_up_ne _ _ (hnj.1 11 1 (by decide) (by decide) (by decide)), eg1, hv_up_ne _ _ (hnj.1 11 0 (by decide) (by decide) (by decide))]; exact (hA.2.2.2.2 7 (by decide))
  have hq34 : g20 (a 12) = some (.inl (cA 0, 100, .inl (wA V 8))) := by rw [eg20, hv_up_ne _ _ (hnj.2 12 (by decide)), eg17, hv_up_ne _ _ (hnj.1 12 1 (by decide) (by decide) (by decide)), eg14, hv_up_ne _ _ (hnj.1 12 1 (by decide) (by decide) (by decide)), eg11, hv_up_ne _ _ (hnj.1 12 1 (by decide) (by decide) (by decide)), eg8, hv_up_ne _ _ (hnj.1 12 1 (by decide) (by decide) (by decide)), eg5, hv_up_ne _ _ (hnj.1 12 1 (by decide) (by decide) (by decide)), eg1, hv_up_ne _ _ (hnj.1 12 0 (by decide) (by decide) (by decide))]; exact (hA.2.2.2.2 8 (by decide))
  have hq35 : g20 (a 13) = some (.inl (cA 0, 100, .inl (wA V 9))) := by rw [eg20, hv_up_ne _ _ (hnj.2 13 (by decide)), eg17, hv_up_ne _ _ (hnj.1 13 1 (by decide) (by decide) (by decide)), eg14, hv_up_ne _ _ (hnj.1 13 1 (by decide) (by decide) (by decide)), eg11, hv_up_ne _ _ (hnj.1 13 1 (by decide) (by decide) (by decide)), eg8, hv_up_ne _ _ (hnj.1 13 1 (by decide) (by decide) (by decide)), eg5, hv_up_ne _ _ (hnj.1 13 1 (by decide) (by decide) (by decide)), eg1, hv_up_ne _ _ (hnj.1 13 0 (by decide) (by decide) (by decide))]; exact (hA.2.2.2.2 9 (by decide))
  exact hv_iret hE hr hlocks hI hK (v := (((nI e9) + 1) - (nI s9)) - 1) (⟨by rw [nI_1, nI_sub (by omega), show (1 : Int32) = nI 1 from rfl, nI_sub (by omega), show e9 + 1 - s9 - 1 = e9 - s9 by omega], by rw [← nI_1]; exact hq21, ⟨hq22, hq23, hq24, hq25, fun j9 hj9 => by rw [eg20, hv_up_ne _ _ (hnj.2 (4 + j9) (by omega)), eg17, hv_up_ne _ _ (hnj.1 (4 + j9) 1 (by omega) (by decide) (by omega)), eg14, hv_up_ne _ _ (hnj.1 (4 + j9) 1 (by omega) (by decide) (by omega)), eg11, hv_up_ne _ _ (hnj.1 (4 + j9) 1 (by omega) (by decide) (by omega)), eg8, hv_up_ne _ _ (hnj.1 (4 + j9) 1 (by omega) (by decide) (by omega)), eg5, hv_up_ne _ _ (hnj.1 (4 + j9) 1 (by omega) (by decide) (by omega)), eg1, hv_up_ne _ _ (hnj.1 (4 + j9) 0 (by omega) (by decide) (by omega))]; exact hA.2.2.2.2 j9 hj9⟩, fun z z1 z2 z3 => by rw [eg20, hv_up_ne _ _ z1, eg17, hv_up_ne _ _ z3, eg14, hv_up_ne _ _ z3, eg11, hv_up_ne _ _ z3, eg8, hv_up_ne _ _ z3, eg5, hv_up_ne _ _ z3, eg1, hv_up_ne _ _ z2]⟩) (by decide) (by decide) d_Mo_append_102

theorem fu_t {s e : Nat} (h : s ≤ e) (h1 : e - s ≤ 100) (h2 : e < 10200) (k : decide (nI e - nI s = 100) = true) : e - s = 100 := by
  rw [nI_sub h, decide_eq_true_eq] at k
  exact (nI_eqI (b := 100) (by omega) (by decide)).mp k
theorem fu_f {s e : Nat} (h : s ≤ e) (h1 : e - s ≤ 100) (h2 : e < 10200) (k : decide (nI e - nI s = 100) = false) : e - s < 100 := by
  rw [nI_sub h, decide_eq_false_iff_not] at k
  have h9 : ¬ e - s = 100 := fun q => k ((nI_eqI (b := 100) (by omega) (by decide)).mpr q)
  omega

set_option maxHeartbeats 4000000 in
set_option maxRecDepth 100000 in
theorem c_Mo_leaf (l : Launch) (hl0 : l.stackTraces = false) (b0 : Nat) (D : va_G) (cA : Nat → ClassId) (f : hv_M) (mo : Nat) (a : Nat → Nat) (th : Int32) (s9 e9 : Nat) (ct : Int32) (gd : Bool) (ln bf ac un : Int64) (md : Int32) (V : Wd) (t w h d : Int32) (hmo : f mo = some (moE a th (nI s9) (nI e9) ct gd ln bf ac un md)) (hnj : moN mo a) (hA : moA cA f a V) (hse : s9 ≤ e9) (he9 : e9 < 10200) (hfl : e9 - s9 ≤ 100) : hv_Met l y_Mo_leaf [Cond.code y_Mo_leaf b_Mo_leaf 6 (some FieldType.int)] (RM 2 0 0) b0 (Fa D cA) D CL [.ref mo, .int t, .int w, .int h, .int d] f (fun v g => (okLeaf t w h d = false ∧ v = some (.int 0) ∧ moRef f g mo (moE a 1 (nI s9) (nI e9) ct gd ln bf ac un md)) ∨ ((okLeaf t w h d = true ∧ e9 - s9 = 100) ∧ v = some (.int 0) ∧ moRef f g mo (moE a 2 (nI s9) (nI e9) ct gd ln bf ac un md)) ∨ ((okLeaf t w h d = true ∧ e9 - s9 < 100) ∧ v = some (.int (nI (e9 - s9))) ∧ moAdd cA f g mo a (adW V e9 0 t w h d 0) (moE a 0 (nI s9) (nI (e9 + 1)) ct gd ln bf ac un md))) (NX) := by
  refine hv_Met.of (own := "BoxPackerModel") (by decide) rfl (Nat.le_of_ble_eq_true rfl) ?_
  intro p e s m below meth c hE hml hout hr hlocks hname hK hI ls hl
  have hl : lv_has ls 6 [(0, .ref mo), (1, .int t), (2, .int w), (3, .int h), (4, .int d)] := hl
  obtain ⟨hx, hb, hown, hts, hVK⟩ := id hE
  refine lv_iload_n hx hb d_Mo_leaf_0 rfl (lv_at hl 1 rfl) ?_
  refine lv_if_lt (tgt := 39) hx hb d_Mo_leaf_1 (by decide) (fun c1 => ?_) (fun c1 => ?_)
  · skip
    have n1 := Int32.not_le.mpr c1
    refine lv_iconst (v := 0) hx hb d_Mo_leaf_39 (by decide) ?_
    refine lv_istore (lv' := [(5, .int 0), (0, .ref mo), (1, .int t), (2, .int w), (3, .int h), (4, .int d)]) hx hb d_Mo_leaf_40 hl (by decide) rfl (fun ls hl => ?_)
    refine lv_aload_n hx hb d_Mo_leaf_42 rfl (lv_at hl 1 rfl) ?_
    refine lv_iload hx hb d_Mo_leaf_43 (lv_at hl 0 rfl) ?_
    refine lv_if_ne (tgt := 52) hx hb d_Mo_leaf_45 (by decide) (fun c45 => ?_) (fun c45 => ?_)
    · skip
      exact absurd rfl c45
    · skip
      refine lv_iconst (v := 1) hx hb d_Mo_leaf_48 (by decide) ?_
      refine lv_goto (tgt := 64) hx hb d_Mo_leaf_49 (by decide) ?_
      refine hv_put hE k_Mo hI 0 (by decide) w516 hmo rfl rfl rfl (Nat.le_of_ble_eq_true rfl) d_Mo_leaf_64 (fun H locs hI => ?_)
      obtain ⟨g1, eg1⟩ : ∃ z : hv_M, z = hv_up f mo (moE a 1 (nI s9) (nI e9) ct gd ln bf ac un md) := ⟨_, rfl⟩
      have hI : hv_I D CL b0 g1 s.heap H locs := by rw [eg1]; exact hI
      have hq2 : g1 mo = some (moE a 1 (nI s9) (nI e9) ct gd ln bf ac un md) := by rw [eg1]; exact hv_up_self _ _ _
      refine lv_aload_n hx hb d_Mo_leaf_67 rfl (lv_at hl 1 rfl) ?_
      refine hv_get hE k_Mo hI 0 (by decide) w516 hq2 rfl d_Mo_leaf_68 ?_
      refine lv_if_le (tgt := 78) hx hb d_Mo_leaf_71 (by decide) (fun c71 => ?_) (fun c71 => ?_)
      · skip
        exact absurd c71 (by decide)
      · skip
        have n71 := Int32.not_le.mp c71
        refine lv_iconst (v := 0) hx hb d_Mo_leaf_74 (by decide) ?_
        refine lv_goto (tgt := 89) hx hb d_Mo_leaf_75 (by decide) ?_
        exact hv_iret hE hr hlocks hI hK (v := 0) (Or.inl ⟨by simp [okLeaf, c1, n1, c45, c71, n71], rfl, hq2, fun z z1 => by rw [eg1, hv_up_ne _ _ z1]⟩) (by decide) (by decide) d_Mo_leaf_89
  · skip
    have n1 := Int32.not_lt.mp c1
    refine lv_iload_n hx hb d_Mo_leaf_4 rfl (lv_at hl 1 rfl) ?_
    refine lv_ldc (v := 65535) hx hb hown (hts _ w607) d_Mo_leaf_5 ?_
    refine lv_icmp_gt (tgt := 39) hx hb d_Mo_leaf_7 (by decide) (fun c7 => ?_) (fun c7 => ?_)
    · skip
      have n7 := Int32.not_le.mpr c7
      refine lv_iconst (v := 0) hx hb d_Mo_leaf_39 (by decide) ?_
      refine lv_istore (lv' := [(5, .int 0), (0, .ref mo), (1, .int t), (2, .int w), (3, .int h), (4, .int d)]) hx hb d_Mo_leaf_40 hl (by decide) rfl (fun ls hl => ?_)
      refine lv_aload_n hx hb d_Mo_leaf_42 rfl (lv_at hl 1 rfl) ?_
      refine lv_iload hx hb d_Mo_leaf_43 (lv_at hl 0 rfl) ?_
      refine lv_if_ne (tgt := 52) hx hb d_Mo_leaf_45 (by decide) (fun c45 => ?_) (fun c45 => ?_)
      · skip
        exact absurd rfl c45
      · skip
        refine lv_iconst (v := 1) hx hb d_Mo_leaf_48 (by decide) ?_
        refine lv_goto (tgt := 64) hx hb d_Mo_leaf_49 (by decide) ?_
        refine hv_put hE k_Mo hI 0 (by decide) w516 hmo rfl rfl rfl (Nat.le_of_ble_eq_true rfl) d_Mo_leaf_64 (fun H locs hI => ?_)
        obtain ⟨g3, eg3⟩ : ∃ z : hv_M, z = hv_up f mo (moE a 1 (nI s9) (nI e9) ct gd ln bf ac un md) := ⟨_, rfl⟩
        have hI : hv_I D CL b0 g3 s.heap H locs := by rw [eg3]; exact hI
        have hq4 : g3 mo = some (moE a 1 (nI s9) (nI e9) ct gd ln bf ac un md) := by rw [eg3]; exact hv_up_self _ _ _
        refine lv_aload_n hx hb d_Mo_leaf_67 rfl (lv_at hl 1 rfl) ?_
        refine hv_get hE k_Mo hI 0 (by decide) w516 hq4 rfl d_Mo_leaf_68 ?_
        refine lv_if_le (tgt := 78) hx hb d_Mo_leaf_71 (by decide) (fun c71 => ?_) (fun c71 => ?_)
        · skip
          exact absurd c71 (by decide)
        · skip
          have n71 := Int32.not_le.mp c71
          refine lv_iconst (v := 0) hx hb d_Mo_leaf_74 (by decide) ?_
          refine lv_goto (tgt := 89) hx hb d_Mo_leaf_75 (by decide) ?_
          exact hv_iret hE hr hlocks hI hK (v := 0) (Or.inl ⟨by simp [okLeaf, c1, n1, c7, n7, c45, c71, n71], rfl, hq4, fun z z1 => by rw [eg3, hv_up_ne _ _ z1]⟩) (by decide) (by decide) d_Mo_leaf_89
    · skip
      have n7 := Int32.not_lt.mp c7
      refine lv_iload_n hx hb d_Mo_leaf_10 rfl (lv_at hl 2 rfl) ?_
      refine lv_i2l (v := w.toInt64) hx hb d_Mo_leaf_11 rfl ?_
      refine hv_Sp (As := [.long w.toInt64]) (rest := []) hE hml hK hI (c_Mo_isSize l hl0 b0 D cA f w.toInt64) cd_Mo_isSize w608 w609 rfl rfl rfl hl.1 (Nat.le_of_ble_eq_true rfl) d_Mo_leaf_12 ⟨by decide, by decide⟩ ⟨by decide, by decide⟩ (fun H locs hI => ?_)
      refine W.eq (g2 := F0 m 15 ls [.int (b2i (sz w.toInt64))]) rfl ?_
      refine lv_if_eq (tgt := 39) hx hb d_Mo_leaf_15 (by decide) (fun c15 => ?_) (fun c15 => ?_)
      · skip
        have k15 := b2i_f c15
        refine lv_iconst (v := 0) hx hb d_Mo_leaf_39 (by decide) ?_
        refine lv_istore (lv' := [(5, .int 0), (0, .ref mo), (1, .int t), (2, .int w), (3, .int h), (4, .int d)]) hx hb d_Mo_leaf_40 hl (by decide) rfl (fun ls hl => ?_)
        refine lv_aload_n hx hb d_Mo_leaf_42 rfl (lv_at hl 1 rfl) ?_
        refine lv_iload hx hb d_Mo_leaf_43 (lv_at hl 0 rfl) ?_
        refine lv_if_ne (tgt := 52) hx hb d_Mo_leaf_45 (by decide) (fun c45 => ?_) (fun c45 => ?_)
        · skip
          exact absurd rfl c45
        · skip
          refine lv_iconst (v := 1) hx hb d_Mo_leaf_48 (by decide) ?_
          refine lv_goto (tgt := 64) hx hb d_Mo_leaf_49 (by decide) ?_
          refine hv_put hE k_Mo hI 0 (by decide) w516 hmo rfl rfl rfl (Nat.le_of_ble_eq_true rfl) d_Mo_leaf_64 (fun H locs hI => ?_)
          obtain ⟨g5, eg5⟩ : ∃ z : hv_M, z = hv_up f mo (moE a 1 (nI s9) (nI e9) ct gd ln bf ac un md) := ⟨_, rfl⟩
          have hI : hv_I D CL b0 g5 s.heap H locs := by rw [eg5]; exact hI
          have hq6 : g5 mo = some (moE a 1 (nI s9) (nI e9) ct gd ln bf ac un md) := by rw [eg5]; exact hv_up_self _ _ _
          refine lv_aload_n hx hb d_Mo_leaf_67 rfl (lv_at hl 1 rfl) ?_
          refine hv_get hE k_Mo hI 0 (by decide) w516 hq6 rfl d_Mo_leaf_68 ?_
          refine lv_if_le (tgt := 78) hx hb d_Mo_leaf_71 (by decide) (fun c71 => ?_) (fun c71 => ?_)
          · skip
            exact absurd c71 (by decide)
          · skip
            have n71 := Int32.not_le.mp c71
            refine lv_iconst (v := 0) hx hb d_Mo_leaf_74 (by decide) ?_
            refine lv_goto (tgt := 89) hx hb d_Mo_leaf_75 (by decide) ?_
            exact hv_iret hE hr hlocks hI hK (v := 0) (Or.inl ⟨by simp [okLeaf, c1, n1, c7, n7, k15, c45, c71, n71], rfl, hq6, fun z z1 => by rw [eg5, hv_up_ne _ _ z1]⟩) (by decide) (by decide) d_Mo_leaf_89
      · skip
        have k15 := b2i_t c15
        refine lv_iload_n hx hb d_Mo_leaf_18 rfl (lv_at hl 3 rfl) ?_
        refine lv_i2l (v := h.toInt64) hx hb d_Mo_leaf_19 rfl ?_
        refine hv_Sp (As := [.long h.toInt64]) (rest := []) hE hml hK hI (c_Mo_isSize l hl0 b0 D cA f h.toInt64) cd_Mo_isSize w608 w609 rfl rfl rfl hl.1 (Nat.le_of_ble_eq_true rfl) d_Mo_leaf_20 ⟨by decide, by decide⟩ ⟨by decide, by decide⟩ (fun H locs hI => ?_)
        refine W.eq (g2 := F0 m 23 ls [.int (b2i (sz h.toInt64))]) rfl ?_
        refine lv_if_eq (tgt := 39) hx hb d_Mo_leaf_23 (by decide) (fun c23 => ?_) (fun c23 => ?_)
        · skip
          have k23 := b2i_f c23
          refine lv_iconst (v := 0) hx hb d_Mo_leaf_39 (by decide) ?_
          refine lv_istore (lv' := [(5, .int 0), (0, .ref mo), (1, .int t), (2, .int w), (3, .int h), (4, .int d)]) hx hb d_Mo_leaf_40 hl (by decide) rfl (fun ls hl => ?_)
          refine lv_aload_n hx hb d_Mo_leaf_42 rfl (lv_at hl 1 rfl) ?_
          refine lv_iload hx hb d_Mo_leaf_43 (lv_at hl 0 rfl) ?_
          refine lv_if_ne (tgt := 52) hx hb d_Mo_leaf_45 (by decide) (fun c45 => ?_) (fun c45 => ?_)
          · skip
            exact absurd rfl c45
          · skip
            refine lv_iconst (v := 1) hx hb d_Mo_leaf_48 (by decide) ?_
            refine lv_goto (tgt := 64) hx hb d_Mo_leaf_49 (by decide) ?_
            refine hv_put hE k_Mo hI 0 (by decide) w516 hmo rfl rfl rfl (Nat.le_of_ble_eq_true rfl) d_Mo_leaf_64 (fun H locs hI => ?_)
            obtain ⟨g7, eg7⟩ : ∃ z : hv_M, z = hv_up f mo (moE a 1 (nI s9) (nI e9) ct gd ln bf ac un md) := ⟨_, rfl⟩
            have hI : hv_I D CL b0 g7 s.heap H locs := by rw [eg7]; exact hI
            have hq8 : g7 mo = some (moE a 1 (nI s9) (nI e9) ct gd ln bf ac un md) := by rw [eg7]; exact hv_up_self _ _ _
            refine lv_aload_n hx hb d_Mo_leaf_67 rfl (lv_at hl 1 rfl) ?_
            refine hv_get hE k_Mo hI 0 (by decide) w516 hq8 rfl d_Mo_leaf_68 ?_
            refine lv_if_le (tgt := 78) hx hb d_Mo_leaf_71 (by decide) (fun c71 => ?_) (fun c71 => ?_)
            · skip
              exact absurd c71 (by decide)
            · skip
              have n71 := Int32.not_le.mp c71
              refine lv_iconst (v := 0) hx hb d_Mo_leaf_74 (by decide) ?_
              refine lv_goto (tgt := 89) hx hb d_Mo_leaf_75 (by decide) ?_
              exact hv_iret hE hr hlocks hI hK (v := 0) (Or.inl ⟨by simp [okLeaf, c1, n1, c7, n7, k15, k23, c45, c71, n71], rfl, hq8, fun z z1 => by rw [eg7, hv_up_ne _ _ z1]⟩) (by decide) (by decide) d_Mo_leaf_89
        · skip
          have k23 := b2i_t c23
          refine lv_iload hx hb d_Mo_leaf_26 (lv_at hl 4 rfl) ?_
          refine lv_i2l (v := d.toInt64) hx hb d_Mo_leaf_28 rfl ?_
          refine hv_Sp (As := [.long d.toInt64]) (rest := []) hE hml hK hI (c_Mo_isSize l hl0 b0 D cA f d.toInt64) cd_Mo_isSize w608 w609 rfl rfl rfl hl.1 (Nat.le_of_ble_eq_true rfl) d_Mo_leaf_29 ⟨by decide, by decide⟩ ⟨by decide, by decide⟩ (fun H locs hI => ?_)
          refine W.eq (g2 := F0 m 32 ls [.int (b2i (sz d.toInt64))]) rfl ?_
          refine lv_if_eq (tgt := 39) hx hb d_Mo_leaf_32 (by decide) (fun c32 => ?_) (fun c32 => ?_)
          · skip
            have k32 := b2i_f c32
            refine lv_iconst (v := 0) hx hb d_Mo_leaf_39 (by decide) ?_
            refine lv_istore (lv' := [(5, .int 0), (0, .ref mo), (1, .int t), (2, .int w), (3, .int h), (4, .int d)]) hx hb d_Mo_leaf_40 hl (by decide) rfl (fun ls hl => ?_)
            refine lv_aload_n hx hb d_Mo_leaf_42 rfl (lv_at hl 1 rfl) ?_
            refine lv_iload hx hb d_Mo_leaf_43 (lv_at hl 0 rfl) ?_
            refine lv_if_ne (tgt := 52) hx hb d_Mo_leaf_45 (by decide) (fun c45 => ?_) (fun c45 => ?_)
            · skip
              exact absurd rfl c45
            · skip
              refine lv_iconst (v := 1) hx hb d_Mo_leaf_48 (by decide) ?_
              refine lv_goto (tgt := 64) hx hb d_Mo_leaf_49 (by decide) ?_
              refine hv_put hE k_Mo hI 0 (by decide) w516 hmo rfl rfl rfl (Nat.le_of_ble_eq_true rfl) d_Mo_leaf_64 (fun H locs hI => ?_)
              obtain ⟨g9, eg9⟩ : ∃ z : hv_M, z = hv_up f mo (moE a 1 (nI s9) (nI e9) ct gd ln bf ac un md) := ⟨_, rfl⟩
              have hI : hv_I D CL b0 g9 s.heap H locs := by rw [eg9]; exact hI
              have hq10 : g9 mo = some (moE a 1 (nI s9) (nI e9) ct gd ln bf ac un md) := by rw [eg9]; exact hv_up_self _ _ _
              refine lv_aload_n hx hb d_Mo_leaf_67 rfl (lv_at hl 1 rfl) ?_
              refine hv_get hE k_Mo hI 0 (by decide) w516 hq10 rfl d_Mo_leaf_68 ?_
              refine lv_if_le (tgt := 78) hx hb d_Mo_leaf_71 (by decide) (fun c71 => ?_) (fun c71 => ?_)
              · skip
                exact absurd c71 (by decide)
              · skip
                have n71 := Int32.not_le.mp c71
                refine lv_iconst (v := 0) hx hb d_Mo_leaf_74 (by decide) ?_
                refine lv_goto (tgt := 89) hx hb d_Mo_leaf_75 (by decide) ?_
                exact hv_iret hE hr hlocks hI hK (v := 0) (Or.inl ⟨by simp [okLeaf, c1, n1, c7, n7, k15, k23, k32, c45, c71, n71], rfl, hq10, fun z z1 => by rw [eg9, hv_up_ne _ _ z1]⟩) (by decide) (by decide) d_Mo_leaf_89
          · skip
            have k32 := b2i_t c32
            refine lv_iconst (v := 1) hx hb d_Mo_leaf_35 (by decide) ?_
            refine lv_goto (tgt := 40) hx hb d_Mo_leaf_36 (by decide) ?_
            refine lv_istore (lv' := [(5, .int 1), (0, .ref mo), (1, .int t), (2, .int w), (3, .int h), (4, .int d)]) hx hb d_Mo_leaf_40 hl (by decide) rfl (fun ls hl => ?_)
            refine lv_aload_n hx hb d_Mo_leaf_42 rfl (lv_at hl 1 rfl) ?_
            refine lv_iload hx hb d_Mo_leaf_43 (lv_at hl 0 rfl) ?_
            refine lv_if_ne (tgt := 52) hx hb d_Mo_leaf_45 (by decide) (fun c45 => ?_) (fun c45 => ?_)
            · skip
              refine lv_aload_n hx hb d_Mo_leaf_52 rfl (lv_at hl 1 rfl) ?_
              refine hv_Vp (As := []) (rest := [.ref mo]) hE hml hK hI (c_Mo_isFull l hl0 b0 D cA f mo a th (nI s9) (nI e9) ct gd ln bf ac un md hmo hnj) cd_Mo_isFull w613 w615 ws17 hmo rfl rfl rfl rfl hl.1 (Nat.le_of_ble_eq_true rfl) d_Mo_leaf_53 ⟨by decide, by decide⟩ ⟨by decide, by decide⟩ (fun H locs hI => ?_)
              refine W.eq (g2 := F0 m 56 ls [.int (b2i (decide ((nI e9) - (nI s9) = 100))), .ref mo]) rfl ?_
              refine lv_if_eq (tgt := 63) hx hb d_Mo_leaf_56 (by decide) (fun c56 => ?_) (fun c56 => ?_)
              · skip
                have k56 := b2i_f c56
                refine lv_iconst (v := 0) hx hb d_Mo_leaf_63 (by decide) ?_
                refine hv_put hE k_Mo hI 0 (by decide) w516 hmo rfl rfl rfl (Nat.le_of_ble_eq_true rfl) d_Mo_leaf_64 (fun H locs hI => ?_)
                obtain ⟨g11, eg11⟩ : ∃ z : hv_M, z = hv_up f mo (moE a 0 (nI s9) (nI e9) ct gd ln bf ac un md) := ⟨_, rfl⟩
                have hI : hv_I D CL b0 g11 s.heap H locs := by rw [eg11]; exact hI
                have hq12 : g11 mo = some (moE a 0 (nI s9) (nI e9) ct gd ln bf ac un md) := by rw [eg11]; exact hv_up_self _ _ _
                refine lv_aload_n hx hb d_Mo_leaf_67 rfl (lv_at hl 1 rfl) ?_
                refine hv_get hE k_Mo hI 0 (by decide) w516 hq12 rfl d_Mo_leaf_68 ?_
                refine lv_if_le (tgt := 78) hx hb d_Mo_leaf_71 (by decide) (fun c71 => ?_) (fun c71 => ?_)
                · skip
                  have n71 := Int32.not_lt.mpr c71
                  refine lv_aload_n hx hb d_Mo_leaf_78 rfl (lv_at hl 1 rfl) ?_
                  refine lv_iconst (v := 0) hx hb d_Mo_leaf_79 (by decide) ?_
                  refine lv_iload_n hx hb d_Mo_leaf_80 rfl (lv_at hl 2 rfl) ?_
                  refine lv_iload_n hx hb d_Mo_leaf_81 rfl (lv_at hl 3 rfl) ?_
                  refine lv_iload_n hx hb d_Mo_leaf_82 rfl (lv_at hl 4 rfl) ?_
                  refine lv_iload hx hb d_Mo_leaf_83 (lv_at hl 5 rfl) ?_
                  refine lv_iconst (v := 0) hx hb d_Mo_leaf_85 (by decide) ?_
                  have hA13 : moA cA g11 a V := ⟨by rw [eg11, hv_up_ne _ _ (hnj.2 0 (by decide))]; exact hA.1, by rw [eg11, hv_up_ne _ _ (hnj.2 1 (by decide))]; exact hA.2.1, by rw [eg11, hv_up_ne _ _ (hnj.2 2 (by decide))]; exact hA.2.2.1, by rw [eg11, hv_up_ne _ _ (hnj.2 3 (by decide))]; exact hA.2.2.2.1, fun j9 hj9 => by rw [eg11, hv_up_ne _ _ (hnj.2 (4 + j9) (by omega))]; exact hA.2.2.2.2 j9 hj9⟩
                  refine hv_V (As := [.int 0, .int t, .int w, .int h, .int d, .int 0]) (rest := []) hE hml hK hI (c_Mo_append l hl0 b0 D cA g11 mo a 0 s9 e9 ct gd ln bf ac un md V 0 t w h d 0 hq12 hnj hA13 hse he9) cd_Mo_append w617 w619 ws18 hq12 rfl rfl hl.1 (Nat.le_of_ble_eq_true rfl) d_Mo_leaf_86 ⟨by decide, by decide⟩ ⟨by decide, by decide⟩ (fun v9 g15 H locs hp hI => ?_) (fun q9 E9 ce9 g9 H locs hp => hp.elim)
                  obtain ⟨hv, hg14, hA14, ho914⟩ := hp
                  rw [hv]
                  refine W.eq (g2 := F0 m 89 ls [.int (nI (e9 - s9))]) rfl ?_
                  exact hv_iret hE hr hlocks hI hK (v := nI (e9 - s9)) (Or.inr (Or.inr (⟨⟨by simp [okLeaf, c1, n1, c7, n7, k15, k23, k32, c45, c71, n71], fu_f hse hfl he9 k56⟩, rfl, hg14, hA14, fun z z1 z2 z3 => by rw [ho914 _ z1 z2 z3, eg11, hv_up_ne _ _ z1]⟩))) (by decide) (by decide) d_Mo_leaf_89
                · skip
                  exact absurd (by decide) c71
              · skip
                have k56 := b2i_t c56
                refine lv_iconst (v := 2) hx hb d_Mo_leaf_59 (by decide) ?_
                refine lv_goto (tgt := 64) hx hb d_Mo_leaf_60 (by decide) ?_
                refine hv_put hE k_Mo hI 0 (by decide) w516 hmo rfl rfl rfl (Nat.le_of_ble_eq_true rfl) d_Mo_leaf_64 (fun H locs hI => ?_)
                obtain ⟨g16, eg16⟩ : ∃ z : hv_M, z = hv_up f mo (moE a 2 (nI s9) (nI e9) ct gd ln bf ac un md) := ⟨_, rfl⟩
                have hI : hv_I D CL b0 g16 s.heap H locs := by rw [eg16]; exact hI
                have hq17 : g16 mo = some (moE a 2 (nI s9) (nI e9) ct gd ln bf ac un md) := by rw [eg16]; exact hv_up_self _ _ _
                refine lv_aload_n hx hb d_Mo_leaf_67 rfl (lv_at hl 1 rfl) ?_
                refine hv_get hE k_Mo hI 0 (by decide) w516 hq17 rfl d_Mo_leaf_68 ?_
                refine lv_if_le (tgt := 78) hx hb d_Mo_leaf_71 (by decide) (fun c71 => ?_) (fun c71 => ?_)
                · skip
                  exact absurd c71 (by decide)
                · skip
                  have n71 := Int32.not_le.mp c71
                  refine lv_iconst (v := 0) hx hb d_Mo_leaf_74 (by decide) ?_
                  refine lv_goto (tgt := 89) hx hb d_Mo_leaf_75 (by decide) ?_
                  exact hv_iret hE hr hlocks hI hK (v := 0) (Or.inr (Or.inl ⟨⟨by simp [okLeaf, c1, n1, c7, n7, k15, k23, k32, c45, c71, n71], fu_t hse hfl he9 k56⟩, rfl, hq17, fun z z1 => by rw [eg16, hv_up_ne _ _ z1]⟩)) (by decide) (by decide) d_Mo_leaf_89
            · skip
              exact absurd c45 (by decide)

set_option maxHeartbeats 4000000 in
set_option maxRecDepth 100000 in
theorem c_Mo_rule (l : Launch) (hl0 : l.stackTraces = false) (b0 : Nat) (D : va_G) (cA : Nat → ClassId) (f : hv_M) (mo : Nat) (a : Nat → Nat) (th : Int32) (s9 e9 : Nat) (ct : Int32) (gd : Bool) (ln bf ac un : Int64) (md : Int32) (V : Wd) (w h d : Int32) (hmo : f mo = some (moE a th (nI s9) (nI e9) ct gd ln bf ac un md)) (hnj : moN mo a) (hA : moA cA f a V) (hse : s9 ≤ e9) (he9 : e9 < 10200) (hfl : e9 - s9 ≤ 100) : hv_Met l y_Mo_rule [Cond.code y_Mo_rule b_Mo_rule 4 (some FieldType.int)] (RM 2 0 0) b0 (Fa D cA) D CL [.ref mo, .int w, .int h, .int d] f (fun v g => (okRule w h d = false ∧ v = some (.int 0) ∧ moRef f g mo (moE a 1 (nI s9) (nI e9) ct gd ln bf ac un md)) ∨ ((okRule w h d = true ∧ e9 - s9 = 100) ∧ v = some (.int 0) ∧ moRef f g mo (moE a 2 (nI s9) (nI e9) ct gd ln bf ac un md)) ∨ ((okRule w h d = true ∧ e9 - s9 < 100) ∧ v = some (.int (nI (e9 - s9))) ∧ moAdd cA f g mo a (adW V e9 1 w h d 0 0) (moE a 0 (nI s9) (nI (e9 + 1)) ct gd ln bf ac un md))) (NX) := by
  refine hv_Met.of (own := "BoxPackerModel") (by decide) rfl (Nat.le_of_ble_eq_true rfl) ?_
  intro p e s m below meth c hE hml hout hr hlocks hname hK hI ls hl
  have hl : lv_has ls 4 [(0, .ref mo), (1, .int w), (2, .int h), (3, .int d)] := hl
  obtain ⟨hx, hb, hown, hts, hVK⟩ := id hE
  refine lv_aload_n hx hb d_Mo_rule_0 rfl (lv_at hl 0 rfl) ?_
  refine lv_iload_n hx hb d_Mo_rule_1 rfl (lv_at hl 1 rfl) ?_
  refine hv_Sp (As := [.int w]) (rest := [.ref mo]) hE hml hK hI (c_Mo_isRuleSize l hl0 b0 D cA f w) cd_Mo_isRuleSize w625 w626 rfl rfl rfl hl.1 (Nat.le_of_ble_eq_true rfl) d_Mo_rule_2 ⟨by decide, by decide⟩ ⟨by decide, by decide⟩ (fun H locs hI => ?_)
  refine W.eq (g2 := F0 m 5 ls [.int (b2i (szr w)), .ref mo]) rfl ?_
  refine lv_if_eq (tgt := 22) hx hb d_Mo_rule_5 (by decide) (fun c5 => ?_) (fun c5 => ?_)
  · skip
    have k5 := b2i_f c5
    refine lv_iconst (v := 1) hx hb d_Mo_rule_22 (by decide) ?_
    refine lv_goto (tgt := 38) hx hb d_Mo_rule_23 (by decide) ?_
    refine hv_put hE k_Mo hI 0 (by decide) w516 hmo rfl rfl rfl (Nat.le_of_ble_eq_true rfl) d_Mo_rule_38 (fun H locs hI => ?_)
    obtain ⟨g1, eg1⟩ : ∃ z : hv_M, z = hv_up f mo (moE a 1 (nI s9) (nI e9) ct gd ln bf ac un md) := ⟨_, rfl⟩
    have hI : hv_I D CL b0 g1 s.heap H locs := by rw [eg1]; exact hI
    have hq2 : g1 mo = some (moE a 1 (nI s9) (nI e9) ct gd ln bf ac un md) := by rw [eg1]; exact hv_up_self _ _ _
    refine lv_aload_n hx hb d_Mo_rule_41 rfl (lv_at hl 0 rfl) ?_
    refine hv_get hE k_Mo hI 0 (by decide) w516 hq2 rfl d_Mo_rule_42 ?_
    refine lv_if_le (tgt := 52) hx hb d_Mo_rule_45 (by decide) (fun c45 => ?_) (fun c45 => ?_)
    · skip
      exact absurd c45 (by decide)
    · skip
      have n45 := Int32.not_le.mp c45
      refine lv_iconst (v := 0) hx hb d_Mo_rule_48 (by decide) ?_
      refine lv_goto (tgt := 62) hx hb d_Mo_rule_49 (by decide) ?_
      exact hv_iret hE hr hlocks hI hK (v := 0) (Or.inl ⟨by simp [okRule, k5, c45, n45], rfl, hq2, fun z z1 => by rw [eg1, hv_up_ne _ _ z1]⟩) (by decide) (by decide) d_Mo_rule_62
  · skip
    have k5 := b2i_t c5
    refine lv_iload_n hx hb d_Mo_rule_8 rfl (lv_at hl 2 rfl) ?_
    refine hv_Sp (As := [.int h]) (rest := [.ref mo]) hE hml hK hI (c_Mo_isRuleSize l hl0 b0 D cA f h) cd_Mo_isRuleSize w625 w626 rfl rfl rfl hl.1 (Nat.le_of_ble_eq_true rfl) d_Mo_rule_9 ⟨by decide, by decide⟩ ⟨by decide, by decide⟩ (fun H locs hI => ?_)
    refine W.eq (g2 := F0 m 12 ls [.int (b2i (szr h)), .ref mo]) rfl ?_
    refine lv_if_eq (tgt := 22) hx hb d_Mo_rule_12 (by decide) (fun c12 => ?_) (fun c12 => ?_)
    · skip
      have k12 := b2i_f c12
      refine lv_iconst (v := 1) hx hb d_Mo_rule_22 (by decide) ?_
      refine lv_goto (tgt := 38) hx hb d_Mo_rule_23 (by decide) ?_
      refine hv_put hE k_Mo hI 0 (by decide) w516 hmo rfl rfl rfl (Nat.le_of_ble_eq_true rfl) d_Mo_rule_38 (fun H locs hI => ?_)
      obtain ⟨g3, eg3⟩ : ∃ z : hv_M, z = hv_up f mo (moE a 1 (nI s9) (nI e9) ct gd ln bf ac un md) := ⟨_, rfl⟩
      have hI : hv_I D CL b0 g3 s.heap H locs := by rw [eg3]; exact hI
      have hq4 : g3 mo = some (moE a 1 (nI s9) (nI e9) ct gd ln bf ac un md) := by rw [eg3]; exact hv_up_self _ _ _
      refine lv_aload_n hx hb d_Mo_rule_41 rfl (lv_at hl 0 rfl) ?_
      refine hv_get hE k_Mo hI 0 (by decide) w516 hq4 rfl d_Mo_rule_42 ?_
      refine lv_if_le (tgt := 52) hx hb d_Mo_rule_45 (by decide) (fun c45 => ?_) (fun c45 => ?_)
      · skip
        exact absurd c45 (by decide)
      · skip
        have n45 := Int32.not_le.mp c45
        refine lv_iconst (v := 0) hx hb d_Mo_rule_48 (by decide) ?_
        refine lv_goto (tgt := 62) hx hb d_Mo_rule_49 (by decide) ?_
        exact hv_iret hE hr hlocks hI hK (v := 0) (Or.inl ⟨by simp [okRule, k5, k12, c45, n45], rfl, hq4, fun z z1 => by rw [eg3, hv_up_ne _ _ z1]⟩) (by decide) (by decide) d_Mo_rule_62
    · skip
      have k12 := b2i_t c12
      refine lv_iload_n hx hb d_Mo_rule_15 rfl (lv_at hl 3 rfl) ?_
      refine hv_Sp (As := [.int d]) (rest := [.ref mo]) hE hml hK hI (c_Mo_isRuleSize l hl0 b0 D cA f d) cd_Mo_isRuleSize w625 w626 rfl rfl rfl hl.1 (Nat.le_of_ble_eq_true rfl) d_Mo_rule_16 ⟨by decide, by decide⟩ ⟨by decide, by decide⟩ (fun H locs hI => ?_)
      refine W.eq (g2 := F0 m 19 ls [.int (b2i (szr d)), .ref mo]) rfl ?_
      refine lv_if_ne (tgt := 26) hx hb d_Mo_rule_19 (by decide) (fun c19 => ?_) (fun c19 => ?_)
      · skip
        have k19 := b2i_t c19
        refine lv_aload_n hx hb d_Mo_rule_26 rfl (lv_at hl 0 rfl) ?_
        refine hv_Vp (As := []) (rest := [.ref mo]) hE hml hK hI (c_Mo_isFull l hl0 b0 D cA f mo a th (nI s9) (nI e9) ct gd ln bf ac un md hmo hnj) cd_Mo_isFull w613 w615 ws17 hmo rfl rfl rfl rfl hl.1 (Nat.le_of_ble_eq_true rfl) d_Mo_rule_27 ⟨by decide, by decide⟩ ⟨by decide, by decide⟩ (fun H locs hI => ?_)
        refine W.eq (g2 := F0 m 30 ls [.int (b2i (decide ((nI e9) - (nI s9) = 100))), .ref mo]) rfl ?_
        refine lv_if_eq (tgt := 37) hx hb d_Mo_rule_30 (by decide) (fun c30 => ?_) (fun c30 => ?_)
        · skip
          have k30 := b2i_f c30
          refine lv_iconst (v := 0) hx hb d_Mo_rule_37 (by decide) ?_
          refine hv_put hE k_Mo hI 0 (by decide) w516 hmo rfl rfl rfl (Nat.le_of_ble_eq_true rfl) d_Mo_rule_38 (fun H locs hI => ?_)
          obtain ⟨g5, eg5⟩ : ∃ z : hv_M, z = hv_up f mo (moE a 0 (nI s9) (nI e9) ct gd ln bf ac un md) := ⟨_, rfl⟩
          have hI : hv_I D CL b0 g5 s.heap H locs := by rw [eg5]; exact hI
          have hq6 : g5 mo = some (moE a 0 (nI s9) (nI e9) ct gd ln bf ac un md) := by rw [eg5]; exact hv_up_self _ _ _
          refine lv_aload_n hx hb d_Mo_rule_41 rfl (lv_at hl 0 rfl) ?_
          refine hv_get hE k_Mo hI 0 (by decide) w516 hq6 rfl d_Mo_rule_42 ?_
          refine lv_if_le (tgt := 52) hx hb d_Mo_rule_45 (by decide) (fun c45 => ?_) (fun c45 => ?_)
          · skip
            have n45 := Int32.not_lt.mpr c45
            refine lv_aload_n hx hb d_Mo_rule_52 rfl (lv_at hl 0 rfl) ?_
            refine lv_iconst (v := 1) hx hb d_Mo_rule_53 (by decide) ?_
            refine lv_iload_n hx hb d_Mo_rule_54 rfl (lv_at hl 1 rfl) ?_
            refine lv_iload_n hx hb d_Mo_rule_55 rfl (lv_at hl 2 rfl) ?_
            refine lv_iload_n hx hb d_Mo_rule_56 rfl (lv_at hl 3 rfl) ?_
            refine lv_iconst (v := 0) hx hb d_Mo_rule_57 (by decide) ?_
            refine lv_iconst (v := 0) hx hb d_Mo_rule_58 (by decide) ?_
            have hA7 : moA cA g5 a V := ⟨by rw [eg5, hv_up_ne _ _ (hnj.2 0 (by decide))]; exact hA.1, by rw [eg5, hv_up_ne _ _ (hnj.2 1 (by decide))]; exact hA.2.1, by rw [eg5, hv_up_ne _ _ (hnj.2 2 (by decide))]; exact hA.2.2.1, by rw [eg5, hv_up_ne _ _ (hnj.2 3 (by decide))]; exact hA.2.2.2.1, fun j9 hj9 => by rw [eg5, hv_up_ne _ _ (hnj.2 (4 + j9) (by omega))]; exact hA.2.2.2.2 j9 hj9⟩
            refine hv_V (As := [.int 1, .int w, .int h, .int d, .int 0, .int 0]) (rest := []) hE hml hK hI (c_Mo_append l hl0 b0 D cA g5 mo a 0 s9 e9 ct gd ln bf ac un md V 1 w h d 0 0 hq6 hnj hA7 hse he9) cd_Mo_append w617 w619 ws18 hq6 rfl rfl hl.1 (Nat.le_of_ble_eq_true rfl) d_Mo_rule_59 ⟨by decide, by decide⟩ ⟨by decide, by decide⟩ (fun v9 g9 H locs hp hI => ?_) (fun q9 E9 ce9 g9 H locs hp => hp.elim)
            obtain ⟨hv, hg8, hA8, ho98⟩ := hp
            rw [hv]
            refine W.eq (g2 := F0 m 62 ls [.int (nI (e9 - s9))]) rfl ?_
            exact hv_iret hE hr hlocks hI hK (v := nI (e9 - s9)) (Or.inr (Or.inr (⟨⟨by simp [okRule, k5, k12, k19, c45, n45], fu_f hse hfl he9 k30⟩, rfl, hg8, hA8, fun z z1 z2 z3 => by rw [ho98 _ z1 z2 z3, eg5, hv_up_ne _ _ z1]⟩))) (by decide) (by decide) d_Mo_rule_62
          · skip
            exact absurd (by decide) c45
        · skip
          have k30 := b2i_t c30
          refine lv_iconst (v := 2) hx hb d_Mo_rule_33 (by decide) ?_
          refine lv_goto (tgt := 38) hx hb d_Mo_rule_34 (by decide) ?_
          refine hv_put hE k_Mo hI 0 (by decide) w516 hmo rfl rfl rfl (Nat.le_of_ble_eq_true rfl) d_Mo_rule_38 (fun H locs hI => ?_)
          obtain ⟨g10, eg10⟩ : ∃ z : hv_M, z = hv_up f mo (moE a 2 (nI s9) (nI e9) ct gd ln bf ac un md) := ⟨_, rfl⟩
          have hI : hv_I D CL b0 g10 s.heap H locs := by rw [eg10]; exact hI
          have hq11 : g10 mo = some (moE a 2 (nI s9) (nI e9) ct gd ln bf ac un md) := by rw [eg10]; exact hv_up_self _ _ _
          refine lv_aload_n hx hb d_Mo_rule_41 rfl (lv_at hl 0 rfl) ?_
          refine hv_get hE k_Mo hI 0 (by decide) w516 hq11 rfl d_Mo_rule_42 ?_
          refine lv_if_le (tgt := 52) hx hb d_Mo_rule_45 (by decide) (fun c45 => ?_) (fun c45 => ?_)
          · skip
            exact absurd c45 (by decide)
          · skip
            have n45 := Int32.not_le.mp c45
            refine lv_iconst (v := 0) hx hb d_Mo_rule_48 (by decide) ?_
            refine lv_goto (tgt := 62) hx hb d_Mo_rule_49 (by decide) ?_
            exact hv_iret hE hr hlocks hI hK (v := 0) (Or.inr (Or.inl ⟨⟨by simp [okRule, k5, k12, k19, c45, n45], fu_t hse hfl he9 k30⟩, rfl, hq11, fun z z1 => by rw [eg10, hv_up_ne _ _ z1]⟩)) (by decide) (by decide) d_Mo_rule_62
      · skip
        have k19 := b2i_f c19
        refine lv_iconst (v := 1) hx hb d_Mo_rule_22 (by decide) ?_
        refine lv_goto (tgt := 38) hx hb d_Mo_rule_23 (by decide) ?_
        refine hv_put hE k_Mo hI 0 (by decide) w516 hmo rfl rfl rfl (Nat.le_of_ble_eq_true rfl) d_Mo_rule_38 (fun H locs hI => ?_)
        obtain ⟨g12, eg12⟩ : ∃ z : hv_M, z = hv_up f mo (moE a 1 (nI s9) (nI e9) ct gd ln bf ac un md) := ⟨_, rfl⟩
        have hI : hv_I D CL b0 g12 s.heap H locs := by rw [eg12]; exact hI
        have hq13 : g12 mo = some (moE a 1 (nI s9) (nI e9) ct gd ln bf ac un md) := by rw [eg12]; exact hv_up_self _ _ _
        refine lv_aload_n hx hb d_Mo_rule_41 rfl (lv_at hl 0 rfl) ?_
        refine hv_get hE k_Mo hI 0 (by decide) w516 hq13 rfl d_Mo_rule_42 ?_
        refine lv_if_le (tgt := 52) hx hb d_Mo_rule_45 (by decide) (fun c45 => ?_) (fun c45 => ?_)
        · skip
          exact absurd c45 (by decide)
        · skip
          have n45 := Int32.not_le.mp c45
          refine lv_iconst (v := 0) hx hb d_Mo_rule_48 (by decide) ?_
          refine lv_goto (tgt := 62) hx hb d_Mo_rule_49 (by decide) ?_
          exact hv_iret hE hr hlocks hI hK (v := 0) (Or.inl ⟨by simp [okRule, k5, k12, k19, c45, n45], rfl, hq13, fun z z1 => by rw [eg12, hv_up_ne _ _ z1]⟩) (by decide) (by decide) d_Mo_rule_62

set_option maxHeartbeats 4000000 in
set_option maxRecDepth 100000 in
theorem c_Mo_glue (l : Launch) (hl0 : l.stackTraces = false) (b0 : Nat) (D : va_G) (cA : Nat → ClassId) (f : hv_M) (mo : Nat) (a : Nat → Nat) (th : Int32) (s9 e9 : Nat) (ct : Int32) (gd : Bool) (ln bf ac un : Int64) (md : Int32) (V : Wd) (w x b d z : Int32) (hmo : f mo = some (moE a th (nI s9) (nI e9) ct gd ln bf ac un md)) (hnj : moN mo a) (hA : moA cA f a V) (hse : s9 ≤ e9) (he9 : e9 < 10200) (hfl : e9 - s9 ≤ 100) : hv_Met l y_Mo_glue [Cond.code y_Mo_glue b_Mo_glue 7 (some FieldType.int)] (RM 2 0 0) b0 (Fa D cA) D CL [.ref mo, .int w, .int x, .int b, .int d, .int z] f (fun v g => (okGlue w x b d z = false ∧ v = some (.int 0) ∧ moRef f g mo (moE a 1 (nI s9) (nI e9) ct gd ln bf ac un md)) ∨ ((okGlue w x b d z = true ∧ e9 - s9 = 100) ∧ v = some (.int 0) ∧ moRef f g mo (moE a 2 (nI s9) (nI e9) ct gd ln bf ac un md)) ∨ ((okGlue w x b d z = true ∧ e9 - s9 < 100) ∧ v = some (.int (nI (e9 - s9))) ∧ moAdd cA f g mo a (adW V e9 2 w x b d z) (moE a 0 (nI s9) (nI (e9 + 1)) ct gd ln bf ac un md))) (NX) := by
  refine hv_Met.of (own := "BoxPackerModel") (by decide) rfl (Nat.le_of_ble_eq_true rfl) ?_
  intro p e s m below meth c hE hml hout hr hlocks hname hK hI ls hl
  have hl : lv_has ls 7 [(0, .ref mo), (1, .int w), (2, .int x), (3, .int b), (4, .int d), (5, .int z)] := hl
  obtain ⟨hx, hb, hown, hts, hVK⟩ := id hE
  refine lv_iload_n hx hb d_Mo_glue_0 rfl (lv_at hl 1 rfl) ?_
  refine lv_i2l (v := w.toInt64) hx hb d_Mo_glue_1 rfl ?_
  refine hv_Sp (As := [.long w.toInt64]) (rest := []) hE hml hK hI (c_Mo_isSize l hl0 b0 D cA f w.toInt64) cd_Mo_isSize w608 w609 rfl rfl rfl hl.1 (Nat.le_of_ble_eq_true rfl) d_Mo_glue_2 ⟨by decide, by decide⟩ ⟨by decide, by decide⟩ (fun H locs hI => ?_)
  refine W.eq (g2 := F0 m 5 ls [.int (b2i (sz w.toInt64))]) rfl ?_
  refine lv_if_eq (tgt := 53) hx hb d_Mo_glue_5 (by decide) (fun c5 => ?_) (fun c5 => ?_)
  · skip
    have k5 := b2i_f c5
    refine lv_iconst (v := 0) hx hb d_Mo_glue_53 (by decide) ?_
    refine lv_istore (lv' := [(6, .int 0), (0, .ref mo), (1, .int w), (2, .int x), (3, .int b), (4, .int d), (5, .int z)]) hx hb d_Mo_glue_54 hl (by decide) rfl (fun ls hl => ?_)
    refine lv_aload_n hx hb d_Mo_glue_56 rfl (lv_at hl 1 rfl) ?_
    refine lv_iload hx hb d_Mo_glue_57 (lv_at hl 0 rfl) ?_
    refine lv_if_ne (tgt := 66) hx hb d_Mo_glue_59 (by decide) (fun c59 => ?_) (fun c59 => ?_)
    · skip
      exact absurd rfl c59
    · skip
      refine lv_iconst (v := 1) hx hb d_Mo_glue_62 (by decide) ?_
      refine lv_goto (tgt := 78) hx hb d_Mo_glue_63 (by decide) ?_
      refine hv_put hE k_Mo hI 0 (by decide) w516 hmo rfl rfl rfl (Nat.le_of_ble_eq_true rfl) d_Mo_glue_78 (fun H locs hI => ?_)
      obtain ⟨g1, eg1⟩ : ∃ z : hv_M, z = hv_up f mo (moE a 1 (nI s9) (nI e9) ct gd ln bf ac un md) := ⟨_, rfl⟩
      have hI : hv_I D CL b0 g1 s.heap H locs := by rw [eg1]; exact hI
      have hq2 : g1 mo = some (moE a 1 (nI s9) (nI e9) ct gd ln bf ac un md) := by rw [eg1]; exact hv_up_self _ _ _
      refine lv_aload_n hx hb d_Mo_glue_81 rfl (lv_at hl 1 rfl) ?_
      refine hv_get hE k_Mo hI 0 (by decide) w516 hq2 rfl d_Mo_glue_82 ?_
      refine lv_if_le (tgt := 92) hx hb d_Mo_glue_85 (by decide) (fun c85 => ?_) (fun c85 => ?_)
      · skip
        exact absurd c85 (by decide)
      · skip
        have n85 := Int32.not_le.mp c85
        refine lv_iconst (v := 0) hx hb d_Mo_glue_88 (by decide) ?_
        refine lv_goto (tgt := 104) hx hb d_Mo_glue_89 (by decide) ?_
        exact hv_iret hE hr hlocks hI hK (v := 0) (Or.inl ⟨by simp [okGlue, k5, c59, c85, n85], rfl, hq2, fun z z1 => by rw [eg1, hv_up_ne _ _ z1]⟩) (by decide) (by decide) d_Mo_glue_104
  · skip
    have k5 := b2i_t c5
    refine lv_iload_n hx hb d_Mo_glue_8 rfl (lv_at hl 2 rfl) ?_
    refine lv_i2l (v := x.toInt64) hx hb d_Mo_glue_9 rfl ?_
    refine hv_Sp (As := [.long x.toInt64]) (rest := []) hE hml hK hI (c_Mo_isSize l hl0 b0 D cA f x.toInt64) cd_Mo_isSize w608 w609 rfl rfl rfl hl.1 (Nat.le_of_ble_eq_true rfl) d_Mo_glue_10 ⟨by decide, by decide⟩ ⟨by decide, by decide⟩ (fun H locs hI => ?_)
    refine W.eq (g2 := F0 m 13 ls [.int (b2i (sz x.toInt64))]) rfl ?_
    refine lv_if_eq (tgt := 53) hx hb d_Mo_glue_13 (by decide) (fun c13 => ?_) (fun c13 => ?_)
    · skip
      have k13 := b2i_f c13
      refine lv_iconst (v := 0) hx hb d_Mo_glue_53 (by decide) ?_
      refine lv_istore (lv' := [(6, .int 0), (0, .ref mo), (1, .int w), (2, .int x), (3, .int b), (4, .int d), (5, .int z)]) hx hb d_Mo_glue_54 hl (by decide) rfl (fun ls hl => ?_)
      refine lv_aload_n hx hb d_Mo_glue_56 rfl (lv_at hl 1 rfl) ?_
      refine lv_iload hx hb d_Mo_glue_57 (lv_at hl 0 rfl) ?_
      refine lv_if_ne (tgt := 66) hx hb d_Mo_glue_59 (by decide) (fun c59 => ?_) (fun c59 => ?_)
      · skip
        exact absurd rfl c59
      · skip
        refine lv_iconst (v := 1) hx hb d_Mo_glue_62 (by decide) ?_
        refine lv_goto (tgt := 78) hx hb d_Mo_glue_63 (by decide) ?_
        refine hv_put hE k_Mo hI 0 (by decide) w516 hmo rfl rfl rfl (Nat.le_of_ble_eq_true rfl) d_Mo_glue_78 (fun H locs hI => ?_)
        obtain ⟨g3, eg3⟩ : ∃ z : hv_M, z = hv_up f mo (moE a 1 (nI s9) (nI e9) ct gd ln bf ac un md) := ⟨_, rfl⟩
        have hI : hv_I D CL b0 g3 s.heap H locs := by rw [eg3]; exact hI
        have hq4 : g3 mo = some (moE a 1 (nI s9) (nI e9) ct gd ln bf ac un md) := by rw [eg3]; exact hv_up_self _ _ _
        refine lv_aload_n hx hb d_Mo_glue_81 rfl (lv_at hl 1 rfl) ?_
        refine hv_get hE k_Mo hI 0 (by decide) w516 hq4 rfl d_Mo_glue_82 ?_
        refine lv_if_le (tgt := 92) hx hb d_Mo_glue_85 (by decide) (fun c85 => ?_) (fun c85 => ?_)
        · skip
          exact absurd c85 (by decide)
        · skip
          have n85 := Int32.not_le.mp c85
          refine lv_iconst (v := 0) hx hb d_Mo_glue_88 (by decide) ?_
          refine lv_goto (tgt := 104) hx hb d_Mo_glue_89 (by decide) ?_
          exact hv_iret hE hr hlocks hI hK (v := 0) (Or.inl ⟨by simp [okGlue, k5, k13, c59, c85, n85], rfl, hq4, fun z z1 => by rw [eg3, hv_up_ne _ _ z1]⟩) (by decide) (by decide) d_Mo_glue_104
    · skip
      have k13 := b2i_t c13
      refine lv_iload hx hb d_Mo_glue_16 (lv_at hl 4 rfl) ?_
      refine lv_i2l (v := d.toInt64) hx hb d_Mo_glue_18 rfl ?_
      refine hv_Sp (As := [.long d.toInt64]) (rest := []) hE hml hK hI (c_Mo_isSize l hl0 b0 D cA f d.toInt64) cd_Mo_isSize w608 w609 rfl rfl rfl hl.1 (Nat.le_of_ble_eq_true rfl) d_Mo_glue_19 ⟨by decide, by decide⟩ ⟨by decide, by decide⟩ (fun H locs hI => ?_)
      refine W.eq (g2 := F0 m 22 ls [.int (b2i (sz d.toInt64))]) rfl ?_
      refine lv_if_eq (tgt := 53) hx hb d_Mo_glue_22 (by decide) (fun c22 => ?_) (fun c22 => ?_)
      · skip
        have k22 := b2i_f c22
        refine lv_iconst (v := 0) hx hb d_Mo_glue_53 (by decide) ?_
        refine lv_istore (lv' := [(6, .int 0), (0, .ref mo), (1, .int w), (2, .int x), (3, .int b), (4, .int d), (5, .int z)]) hx hb d_Mo_glue_54 hl (by decide) rfl (fun ls hl => ?_)
        refine lv_aload_n hx hb d_Mo_glue_56 rfl (lv_at hl 1 rfl) ?_
        refine lv_iload hx hb d_Mo_glue_57 (lv_at hl 0 rfl) ?_
        refine lv_if_ne (tgt := 66) hx hb d_Mo_glue_59 (by decide) (fun c59 => ?_) (fun c59 => ?_)
        · skip
          exact absurd rfl c59
        · skip
          refine lv_iconst (v := 1) hx hb d_Mo_glue_62 (by decide) ?_
          refine lv_goto (tgt := 78) hx hb d_Mo_glue_63 (by decide) ?_
          refine hv_put hE k_Mo hI 0 (by decide) w516 hmo rfl rfl rfl (Nat.le_of_ble_eq_true rfl) d_Mo_glue_78 (fun H locs hI => ?_)
          obtain ⟨g5, eg5⟩ : ∃ z : hv_M, z = hv_up f mo (moE a 1 (nI s9) (nI e9) ct gd ln bf ac un md) := ⟨_, rfl⟩
          have hI : hv_I D CL b0 g5 s.heap H locs := by rw [eg5]; exact hI
          have hq6 : g5 mo = some (moE a 1 (nI s9) (nI e9) ct gd ln bf ac un md) := by rw [eg5]; exact hv_up_self _ _ _
          refine lv_aload_n hx hb d_Mo_glue_81 rfl (lv_at hl 1 rfl) ?_
          refine hv_get hE k_Mo hI 0 (by decide) w516 hq6 rfl d_Mo_glue_82 ?_
          refine lv_if_le (tgt := 92) hx hb d_Mo_glue_85 (by decide) (fun c85 => ?_) (fun c85 => ?_)
          · skip
            exact absurd c85 (by decide)
          · skip
            have n85 := Int32.not_le.mp c85
            refine lv_iconst (v := 0) hx hb d_Mo_glue_88 (by decide) ?_
            refine lv_goto (tgt := 104) hx hb d_Mo_glue_89 (by decide) ?_
            exact hv_iret hE hr hlocks hI hK (v := 0) (Or.inl ⟨by simp [okGlue, k5, k13, k22, c59, c85, n85], rfl, hq6, fun z z1 => by rw [eg5, hv_up_ne _ _ z1]⟩) (by decide) (by decide) d_Mo_glue_104
      · skip
        have k22 := b2i_t c22
        refine lv_iload_n hx hb d_Mo_glue_25 rfl (lv_at hl 2 rfl) ?_
        refine lv_if_lt (tgt := 53) hx hb d_Mo_glue_26 (by decide) (fun c26 => ?_) (fun c26 => ?_)
        · skip
          have n26 := Int32.not_le.mpr c26
          refine lv_iconst (v := 0) hx hb d_Mo_glue_53 (by decide) ?_
          refine lv_istore (lv' := [(6, .int 0), (0, .ref mo), (1, .int w), (2, .int x), (3, .int b), (4, .int d), (5, .int z)]) hx hb d_Mo_glue_54 hl (by decide) rfl (fun ls hl => ?_)
          refine lv_aload_n hx hb d_Mo_glue_56 rfl (lv_at hl 1 rfl) ?_
          refine lv_iload hx hb d_Mo_glue_57 (lv_at hl 0 rfl) ?_
          refine lv_if_ne (tgt := 66) hx hb d_Mo_glue_59 (by decide) (fun c59 => ?_) (fun c59 => ?_)
          · skip
            exact absurd rfl c59
          · skip
            refine lv_iconst (v := 1) hx hb d_Mo_glue_62 (by decide) ?_
            refine lv_goto (tgt := 78) hx hb d_Mo_glue_63 (by decide) ?_
            refine hv_put hE k_Mo hI 0 (by decide) w516 hmo rfl rfl rfl (Nat.le_of_ble_eq_true rfl) d_Mo_glue_78 (fun H locs hI => ?_)
            obtain ⟨g7, eg7⟩ : ∃ z : hv_M, z = hv_up f mo (moE a 1 (nI s9) (nI e9) ct gd ln bf ac un md) := ⟨_, rfl⟩
            have hI : hv_I D CL b0 g7 s.heap H locs := by rw [eg7]; exact hI
            have hq8 : g7 mo = some (moE a 1 (nI s9) (nI e9) ct gd ln bf ac un md) := by rw [eg7]; exact hv_up_self _ _ _
            refine lv_aload_n hx hb d_Mo_glue_81 rfl (lv_at hl 1 rfl) ?_
            refine hv_get hE k_Mo hI 0 (by decide) w516 hq8 rfl d_Mo_glue_82 ?_
            refine lv_if_le (tgt := 92) hx hb d_Mo_glue_85 (by decide) (fun c85 => ?_) (fun c85 => ?_)
            · skip
              exact absurd c85 (by decide)
            · skip
              have n85 := Int32.not_le.mp c85
              refine lv_iconst (v := 0) hx hb d_Mo_glue_88 (by decide) ?_
              refine lv_goto (tgt := 104) hx hb d_Mo_glue_89 (by decide) ?_
              exact hv_iret hE hr hlocks hI hK (v := 0) (Or.inl ⟨by simp [okGlue, k5, k13, k22, c26, n26, c59, c85, n85], rfl, hq8, fun z z1 => by rw [eg7, hv_up_ne _ _ z1]⟩) (by decide) (by decide) d_Mo_glue_104
        · skip
          have n26 := Int32.not_lt.mp c26
          refine lv_iload hx hb d_Mo_glue_29 (lv_at hl 4 rfl) ?_
          refine lv_if_lt (tgt := 53) hx hb d_Mo_glue_31 (by decide) (fun c31 => ?_) (fun c31 => ?_)
          · skip
            have n31 := Int32.not_le.mpr c31
            refine lv_iconst (v := 0) hx hb d_Mo_glue_53 (by decide) ?_
            refine lv_istore (lv' := [(6, .int 0), (0, .ref mo), (1, .int w), (2, .int x), (3, .int b), (4, .int d), (5, .int z)]) hx hb d_Mo_glue_54 hl (by decide) rfl (fun ls hl => ?_)
            refine lv_aload_n hx hb d_Mo_glue_56 rfl (lv_at hl 1 rfl) ?_
            refine lv_iload hx hb d_Mo_glue_57 (lv_at hl 0 rfl) ?_
            refine lv_if_ne (tgt := 66) hx hb d_Mo_glue_59 (by decide) (fun c59 => ?_) (fun c59 => ?_)
            · skip
              exact absurd rfl c59
            · skip
              refine lv_iconst (v := 1) hx hb d_Mo_glue_62 (by decide) ?_
              refine lv_goto (tgt := 78) hx hb d_Mo_glue_63 (by decide) ?_
              refine hv_put hE k_Mo hI 0 (by decide) w516 hmo rfl rfl rfl (Nat.le_of_ble_eq_true rfl) d_Mo_glue_78 (fun H locs hI => ?_)
              obtain ⟨g9, eg9⟩ : ∃ z : hv_M, z = hv_up f mo (moE a 1 (nI s9) (nI e9) ct gd ln bf ac un md) := ⟨_, rfl⟩
              have hI : hv_I D CL b0 g9 s.heap H locs := by rw [eg9]; exact hI
              have hq10 : g9 mo = some (moE a 1 (nI s9) (nI e9) ct gd ln bf ac un md) := by rw [eg9]; exact hv_up_self _ _ _
              refine lv_aload_n hx hb d_Mo_glue_81 rfl (lv_at hl 1 rfl) ?_
              refine hv_get hE k_Mo hI 0 (by decide) w516 hq10 rfl d_Mo_glue_82 ?_
              refine lv_if_le (tgt := 92) hx hb d_Mo_glue_85 (by decide) (fun c85 => ?_) (fun c85 => ?_)
              · skip
                exact absurd c85 (by decide)
              · skip
                have n85 := Int32.not_le.mp c85
                refine lv_iconst (v := 0) hx hb d_Mo_glue_88 (by decide) ?_
                refine lv_goto (tgt := 104) hx hb d_Mo_glue_89 (by decide) ?_
                exact hv_iret hE hr hlocks hI hK (v := 0) (Or.inl ⟨by simp [okGlue, k5, k13, k22, c26, n26, c31, n31, c59, c85, n85], rfl, hq10, fun z z1 => by rw [eg9, hv_up_ne _ _ z1]⟩) (by decide) (by decide) d_Mo_glue_104
          · skip
            have n31 := Int32.not_lt.mp c31
            refine lv_iload_n hx hb d_Mo_glue_34 rfl (lv_at hl 3 rfl) ?_
            refine hv_Sp (As := [.int b]) (rest := []) hE hml hK hI (c_Mo_isOrder l hl0 b0 D cA f b) cd_Mo_isOrder w633 w634 rfl rfl rfl hl.1 (Nat.le_of_ble_eq_true rfl) d_Mo_glue_35 ⟨by decide, by decide⟩ ⟨by decide, by decide⟩ (fun H locs hI => ?_)
            refine W.eq (g2 := F0 m 38 ls [.int (b2i (ord4 b))]) rfl ?_
            refine lv_if_eq (tgt := 53) hx hb d_Mo_glue_38 (by decide) (fun c38 => ?_) (fun c38 => ?_)
            · skip
              have k38 := b2i_f c38
              refine lv_iconst (v := 0) hx hb d_Mo_glue_53 (by decide) ?_
              refine lv_istore (lv' := [(6, .int 0), (0, .ref mo), (1, .int w), (2, .int x), (3, .int b), (4, .int d), (5, .int z)]) hx hb d_Mo_glue_54 hl (by decide) rfl (fun ls hl => ?_)
              refine lv_aload_n hx hb d_Mo_glue_56 rfl (lv_at hl 1 rfl) ?_
              refine lv_iload hx hb d_Mo_glue_57 (lv_at hl 0 rfl) ?_
              refine lv_if_ne (tgt := 66) hx hb d_Mo_glue_59 (by decide) (fun c59 => ?_) (fun c59 => ?_)
              · skip
                exact absurd rfl c59
              · skip
                refine lv_iconst (v := 1) hx hb d_Mo_glue_62 (by decide) ?_
                refine lv_goto (tgt := 78) hx hb d_Mo_glue_63 (by decide) ?_
                refine hv_put hE k_Mo hI 0 (by decide) w516 hmo rfl rfl rfl (Nat.le_of_ble_eq_true rfl) d_Mo_glue_78 (fun H locs hI => ?_)
                obtain ⟨g11, eg11⟩ : ∃ z : hv_M, z = hv_up f mo (moE a 1 (nI s9) (nI e9) ct gd ln bf ac un md) := ⟨_, rfl⟩
                have hI : hv_I D CL b0 g11 s.heap H locs := by rw [eg11]; exact hI
                have hq12 : g11 mo = some (moE a 1 (nI s9) (nI e9) ct gd ln bf ac un md) := by rw [eg11]; exact hv_up_self _ _ _
                refine lv_aload_n hx hb d_Mo_glue_81 rfl (lv_at hl 1 rfl) ?_
                refine hv_get hE k_Mo hI 0 (by decide) w516 hq12 rfl d_Mo_glue_82 ?_
                refine lv_if_le (tgt := 92) hx hb d_Mo_glue_85 (by decide) (fun c85 => ?_) (fun c85 => ?_)
                · skip
                  exact absurd c85 (by decide)
                · skip
                  have n85 := Int32.not_le.mp c85
                  refine lv_iconst (v := 0) hx hb d_Mo_glue_88 (by decide) ?_
                  refine lv_goto (tgt := 104) hx hb d_Mo_glue_89 (by decide) ?_
                  exact hv_iret hE hr hlocks hI hK (v := 0) (Or.inl ⟨by simp [okGlue, k5, k13, k22, c26, n26, c31, n31, k38, c59, c85, n85], rfl, hq12, fun z z1 => by rw [eg11, hv_up_ne _ _ z1]⟩) (by decide) (by decide) d_Mo_glue_104
            · skip
              have k38 := b2i_t c38
              refine lv_iload hx hb d_Mo_glue_41 (lv_at hl 5 rfl) ?_
              refine hv_Sp (As := [.int z]) (rest := []) hE hml hK hI (c_Mo_isOrder l hl0 b0 D cA f z) cd_Mo_isOrder w633 w634 rfl rfl rfl hl.1 (Nat.le_of_ble_eq_true rfl) d_Mo_glue_43 ⟨by decide, by decide⟩ ⟨by decide, by decide⟩ (fun H locs hI => ?_)
              refine W.eq (g2 := F0 m 46 ls [.int (b2i (ord4 z))]) rfl ?_
              refine lv_if_eq (tgt := 53) hx hb d_Mo_glue_46 (by decide) (fun c46 => ?_) (fun c46 => ?_)
              · skip
                have k46 := b2i_f c46
                refine lv_iconst (v := 0) hx hb d_Mo_glue_53 (by decide) ?_
                refine lv_istore (lv' := [(6, .int 0), (0, .ref mo), (1, .int w), (2, .int x), (3, .int b), (4, .int d), (5, .int z)]) hx hb d_Mo_glue_54 hl (by decide) rfl (fun ls hl => ?_)
                refine lv_aload_n hx hb d_Mo_glue_56 rfl (lv_at hl 1 rfl) ?_
                refine lv_iload hx hb d_Mo_glue_57 (lv_at hl 0 rfl) ?_
                refine lv_if_ne (tgt := 66) hx hb d_Mo_glue_59 (by decide) (fun c59 => ?_) (fun c59 => ?_)
                · skip
                  exact absurd rfl c59
                · skip
                  refine lv_iconst (v := 1) hx hb d_Mo_glue_62 (by decide) ?_
                  refine lv_goto (tgt := 78) hx hb d_Mo_glue_63 (by decide) ?_
                  refine hv_put hE k_Mo hI 0 (by decide) w516 hmo rfl rfl rfl (Nat.le_of_ble_eq_true rfl) d_Mo_glue_78 (fun H locs hI => ?_)
                  obtain ⟨g13, eg13⟩ : ∃ z : hv_M, z = hv_up f mo (moE a 1 (nI s9) (nI e9) ct gd ln bf ac un md) := ⟨_, rfl⟩
                  have hI : hv_I D CL b0 g13 s.heap H locs := by rw [eg13]; exact hI
                  have hq14 : g13 mo = some (moE a 1 (nI s9) (nI e9) ct gd ln bf ac un md) := by rw [eg13]; exact hv_up_self _ _ _
                  refine lv_aload_n hx hb d_Mo_glue_81 rfl (lv_at hl 1 rfl) ?_
                  refine hv_get hE k_Mo hI 0 (by decide) w516 hq14 rfl d_Mo_glue_82 ?_
                  refine lv_if_le (tgt := 92) hx hb d_Mo_glue_85 (by decide) (fun c85 => ?_) (fun c85 => ?_)
                  · skip
                    exact absurd c85 (by decide)
                  · skip
                    have n85 := Int32.not_le.mp c85
                    refine lv_iconst (v := 0) hx hb d_Mo_glue_88 (by decide) ?_
                    refine lv_goto (tgt := 104) hx hb d_Mo_glue_89 (by decide) ?_
                    exact hv_iret hE hr hlocks hI hK (v := 0) (Or.inl ⟨by simp [okGlue, k5, k13, k22, c26, n26, c31, n31, k38, k46, c59, c85, n85], rfl, hq14, fun z z1 => by rw [eg13, hv_up_ne _ _ z1]⟩) (by decide) (by decide) d_Mo_glue_104
              · skip
                have k46 := b2i_t c46
                refine lv_iconst (v := 1) hx hb d_Mo_glue_49 (by decide) ?_
                refine lv_goto (tgt := 54) hx hb d_Mo_glue_50 (by decide) ?_
                refine lv_istore (lv' := [(6, .int 1), (0, .ref mo), (1, .int w), (2, .int x), (3, .int b), (4, .int d), (5, .int z)]) hx hb d_Mo_glue_54 hl (by decide) rfl (fun ls hl => ?_)
                refine lv_aload_n hx hb d_Mo_glue_56 rfl (lv_at hl 1 rfl) ?_
                refine lv_iload hx hb d_Mo_glue_57 (lv_at hl 0 rfl) ?_
                refine lv_if_ne (tgt := 66) hx hb d_Mo_glue_59 (by decide) (fun c59 => ?_) (fun c59 => ?_)
                · skip
                  refine lv_aload_n hx hb d_Mo_glue_66 rfl (lv_at hl 1 rfl) ?_
                  refine hv_Vp (As := []) (rest := [.ref mo]) hE hml hK hI (c_Mo_isFull l hl0 b0 D cA f mo a th (nI s9) (nI e9) ct gd ln bf ac un md hmo hnj) cd_Mo_isFull w613 w615 ws17 hmo rfl rfl rfl rfl hl.1 (Nat.le_of_ble_eq_true rfl) d_Mo_glue_67 ⟨by decide, by decide⟩ ⟨by decide, by decide⟩ (fun H locs hI => ?_)
                  refine W.eq (g2 := F0 m 70 ls [.int (b2i (decide ((nI e9) - (nI s9) = 100))), .ref mo]) rfl ?_
                  refine lv_if_eq (tgt := 77) hx hb d_Mo_glue_70 (by decide) (fun c70 => ?_) (fun c70 => ?_)
                  · skip
                    have k70 := b2i_f c70
                    refine lv_iconst (v := 0) hx hb d_Mo_glue_77 (by decide) ?_
                    refine hv_put hE k_Mo hI 0 (by decide) w516 hmo rfl rfl rfl (Nat.le_of_ble_eq_true rfl) d_Mo_glue_78 (fun H locs hI => ?_)
                    obtain ⟨g15, eg15⟩ : ∃ z : hv_M, z = hv_up f mo (moE a 0 (nI s9) (nI e9) ct gd ln bf ac un md) := ⟨_, rfl⟩
                    have hI : hv_I D CL b0 g15 s.heap H locs := by rw [eg15]; exact hI
                    have hq16 : g15 mo = some (moE a 0 (nI s9) (nI e9) ct gd ln bf ac un md) := by rw [eg15]; exact hv_up_self _ _ _
                    refine lv_aload_n hx hb d_Mo_glue_81 rfl (lv_at hl 1 rfl) ?_
                    refine hv_get hE k_Mo hI 0 (by decide) w516 hq16 rfl d_Mo_glue_82 ?_
                    refine lv_if_le (tgt := 92) hx hb d_Mo_glue_85 (by decide) (fun c85 => ?_) (fun c85 => ?_)
                    · skip
                      have n85 := Int32.not_lt.mpr c85
                      refine lv_aload_n hx hb d_Mo_glue_92 rfl (lv_at hl 1 rfl) ?_
                      refine lv_iconst (v := 2) hx hb d_Mo_glue_93 (by decide) ?_
                      refine lv_iload_n hx hb d_Mo_glue_94 rfl (lv_at hl 2 rfl) ?_
                      refine lv_iload_n hx hb d_Mo_glue_95 rfl (lv_at hl 3 rfl) ?_
                      refine lv_iload_n hx hb d_Mo_glue_96 rfl (lv_at hl 4 rfl) ?_
                      refine lv_iload hx hb d_Mo_glue_97 (lv_at hl 5 rfl) ?_
                      refine lv_iload hx hb d_Mo_glue_99 (lv_at hl 6 rfl) ?_
                      have hA17 : moA cA g15 a V := ⟨by rw [eg15, hv_up_ne _ _ (hnj.2 0 (by decide))]; exact hA.1, by rw [eg15, hv_up_ne _ _ (hnj.2 1 (by decide))]; exact hA.2.1, by rw [eg15, hv_up_ne _ _ (hnj.2 2 (by decide))]; exact hA.2.2.1, by rw [eg15, hv_up_ne _ _ (hnj.2 3 (by decide))]; exact hA.2.2.2.1, fun j9 hj9 => by rw [eg15, hv_up_ne _ _ (hnj.2 (4 + j9) (by omega))]; exact hA.2.2.2.2 j9 hj9⟩
                      refine hv_V (As := [.int 2, .int w, .int x, .int b, .int d, .int z]) (rest := []) hE hml hK hI (c_Mo_append l hl0 b0 D cA g15 mo a 0 s9 e9 ct gd ln bf ac un md V 2 w x b d z hq16 hnj hA17 hse he9) cd_Mo_append w617 w619 ws18 hq16 rfl rfl hl.1 (Nat.le_of_ble_eq_true rfl) d_Mo_glue_101 ⟨by decide, by decide⟩ ⟨by decide, by decide⟩ (fun v9 g19 H locs hp hI => ?_) (fun q9 E9 ce9 g9 H locs hp => hp.elim)
                      obtain ⟨hv, hg18, hA18, ho918⟩ := hp
                      rw [hv]
                      refine W.eq (g2 := F0 m 104 ls [.int (nI (e9 - s9))]) rfl ?_
                      exact hv_iret hE hr hlocks hI hK (v := nI (e9 - s9)) (Or.inr (Or.inr (⟨⟨by simp [okGlue, k5, k13, k22, c26, n26, c31, n31, k38, k46, c59, c85, n85], fu_f hse hfl he9 k70⟩, rfl, hg18, hA18, fun z z1 z2 z3 => by rw [ho918 _ z1 z2 z3, eg15, hv_up_ne _ _ z1]⟩))) (by decide) (by decide) d_Mo_glue_104
                    · skip
                      exact absurd (by decide) c85
                  · skip
                    have k70 := b2i_t c70
                    refine lv_iconst (v := 2) hx hb d_Mo_glue_73 (by decide) ?_
                    refine lv_goto (tgt := 78) hx hb d_Mo_glue_74 (by decide) ?_
                    refine hv_put hE k_Mo hI 0 (by decide) w516 hmo rfl rfl rfl (Nat.le_of_ble_eq_true rfl) d_Mo_glue_78 (fun H locs hI => ?_)
                    obtain ⟨g20, eg20⟩ : ∃ z : hv_M, z = hv_up f mo (moE a 2 (nI s9) (nI e9) ct gd ln bf ac un md) := ⟨_, rfl⟩
                    have hI : hv_I D CL b0 g20 s.heap H locs := by rw [eg20]; exact hI
                    have hq21 : g20 mo = some (moE a 2 (nI s9) (nI e9) ct gd ln bf ac un md) := by rw [eg20]; exact hv_up_self _ _ _
                    refine lv_aload_n hx hb d_Mo_glue_81 rfl (lv_at hl 1 rfl) ?_
                    refine hv_get hE k_Mo hI 0 (by decide) w516 hq21 rfl d_Mo_glue_82 ?_
                    refine lv_if_le (tgt := 92) hx hb d_Mo_glue_85 (by decide) (fun c85 => ?_) (fun c85 => ?_)
                    · skip
                      exact absurd c85 (by decide)
                    · skip
                      have n85 := Int32.not_le.mp c85
                      refine lv_iconst (v := 0) hx hb d_Mo_glue_88 (by decide) ?_
                      refine lv_goto (tgt := 104) hx hb d_Mo_glue_89 (by decide) ?_
                      exact hv_iret hE hr hlocks hI hK (v := 0) (Or.inr (Or.inl ⟨⟨by simp [okGlue, k5, k13, k22, c26, n26, c31, n31, k38, k46, c59, c85, n85], fu_t hse hfl he9 k70⟩, rfl, hq21, fun z z1 => by rw [eg20, hv_up_ne _ _ z1]⟩)) (by decide) (by decide) d_Mo_glue_104
                · skip
                  exact absurd c59 (by decide)

set_option maxHeartbeats 4000000 in
set_option maxRecDepth 100000 in
theorem c_Mo_kern (l : Launch) (hl0 : l.stackTraces = false) (b0 : Nat) (D : va_G) (cA : Nat → ClassId) (f : hv_M) (mo : Nat) (a : Nat → Nat) (th : Int32) (s9 e9 : Nat) (ct : Int32) (gd : Bool) (ln bf ac un : Int64) (md : Int32) (V : Wd) (w : Int32) (hmo : f mo = some (moE a th (nI s9) (nI e9) ct gd ln bf ac un md)) (hnj : moN mo a) (hA : moA cA f a V) (hse : s9 ≤ e9) (he9 : e9 < 10200) (hfl : e9 - s9 ≤ 100) : hv_Met l y_Mo_kern [Cond.code y_Mo_kern b_Mo_kern 2 (some FieldType.int)] (RM 2 0 0) b0 (Fa D cA) D CL [.ref mo, .int w] f (fun v g => (sz w.toInt64 = false ∧ v = some (.int 0) ∧ moRef f g mo (moE a 1 (nI s9) (nI e9) ct gd ln bf ac un md)) ∨ ((sz w.toInt64 = true ∧ e9 - s9 = 100) ∧ v = some (.int 0) ∧ moRef f g mo (moE a 2 (nI s9) (nI e9) ct gd ln bf ac un md)) ∨ ((sz w.toInt64 = true ∧ e9 - s9 < 100) ∧ v = some (.int (nI (e9 - s9))) ∧ moAdd cA f g mo a (adW V e9 3 w 0 0 0 0) (moE a 0 (nI s9) (nI (e9 + 1)) ct gd ln bf ac un md))) (NX) := by
  refine hv_Met.of (own := "BoxPackerModel") (by decide) rfl (Nat.le_of_ble_eq_true rfl) ?_
  intro p e s m below meth c hE hml hout hr hlocks hname hK hI ls hl
  have hl : lv_has ls 2 [(0, .ref mo), (1, .int w)] := hl
  obtain ⟨hx, hb, hown, hts, hVK⟩ := id hE
  refine lv_aload_n hx hb d_Mo_kern_0 rfl (lv_at hl 0 rfl) ?_
  refine lv_iload_n hx hb d_Mo_kern_1 rfl (lv_at hl 1 rfl) ?_
  refine lv_i2l (v := w.toInt64) hx hb d_Mo_kern_2 rfl ?_
  refine hv_Sp (As := [.long w.toInt64]) (rest := [.ref mo]) hE hml hK hI (c_Mo_isSize l hl0 b0 D cA f w.toInt64) cd_Mo_isSize w608 w609 rfl rfl rfl hl.1 (Nat.le_of_ble_eq_true rfl) d_Mo_kern_3 ⟨by decide, by decide⟩ ⟨by decide, by decide⟩ (fun H locs hI => ?_)
  refine W.eq (g2 := F0 m 6 ls [.int (b2i (sz w.toInt64)), .ref mo]) rfl ?_
  refine lv_if_ne (tgt := 13) hx hb d_Mo_kern_6 (by decide) (fun c6 => ?_) (fun c6 => ?_)
  · skip
    have k6 := b2i_t c6
    refine lv_aload_n hx hb d_Mo_kern_13 rfl (lv_at hl 0 rfl) ?_
    refine hv_Vp (As := []) (rest := [.ref mo]) hE hml hK hI (c_Mo_isFull l hl0 b0 D cA f mo a th (nI s9) (nI e9) ct gd ln bf ac un md hmo hnj) cd_Mo_isFull w613 w615 ws17 hmo rfl rfl rfl rfl hl.1 (Nat.le_of_ble_eq_true rfl) d_Mo_kern_14 ⟨by decide, by decide⟩ ⟨by decide, by decide⟩ (fun H locs hI => ?_)
    refine W.eq (g2 := F0 m 17 ls [.int (b2i (decide ((nI e9) - (nI s9) = 100))), .ref mo]) rfl ?_
    refine lv_if_eq (tgt := 24) hx hb d_Mo_kern_17 (by decide) (fun c17 => ?_) (fun c17 => ?_)
    · skip
      have k17 := b2i_f c17
      refine lv_iconst (v := 0) hx hb d_Mo_kern_24 (by decide) ?_
      refine hv_put hE k_Mo hI 0 (by decide) w516 hmo rfl rfl rfl (Nat.le_of_ble_eq_true rfl) d_Mo_kern_25 (fun H locs hI => ?_)
      obtain ⟨g1, eg1⟩ : ∃ z : hv_M, z = hv_up f mo (moE a 0 (nI s9) (nI e9) ct gd ln bf ac un md) := ⟨_, rfl⟩
      have hI : hv_I D CL b0 g1 s.heap H locs := by rw [eg1]; exact hI
      have hq2 : g1 mo = some (moE a 0 (nI s9) (nI e9) ct gd ln bf ac un md) := by rw [eg1]; exact hv_up_self _ _ _
      refine lv_aload_n hx hb d_Mo_kern_28 rfl (lv_at hl 0 rfl) ?_
      refine hv_get hE k_Mo hI 0 (by decide) w516 hq2 rfl d_Mo_kern_29 ?_
      refine lv_if_le (tgt := 39) hx hb d_Mo_kern_32 (by decide) (fun c32 => ?_) (fun c32 => ?_)
      · skip
        have n32 := Int32.not_lt.mpr c32
        refine lv_aload_n hx hb d_Mo_kern_39 rfl (lv_at hl 0 rfl) ?_
        refine lv_iconst (v := 3) hx hb d_Mo_kern_40 (by decide) ?_
        refine lv_iload_n hx hb d_Mo_kern_41 rfl (lv_at hl 1 rfl) ?_
        refine lv_iconst (v := 0) hx hb d_Mo_kern_42 (by decide) ?_
        refine lv_iconst (v := 0) hx hb d_Mo_kern_43 (by decide) ?_
        refine lv_iconst (v := 0) hx hb d_Mo_kern_44 (by decide) ?_
        refine lv_iconst (v := 0) hx hb d_Mo_kern_45 (by decide) ?_
        have hA3 : moA cA g1 a V := ⟨by rw [eg1, hv_up_ne _ _ (hnj.2 0 (by decide))]; exact hA.1, by rw [eg1, hv_up_ne _ _ (hnj.2 1 (by decide))]; exact hA.2.1, by rw [eg1, hv_up_ne _ _ (hnj.2 2 (by decide))]; exact hA.2.2.1, by rw [eg1, hv_up_ne _ _ (hnj.2 3 (by decide))]; exact hA.2.2.2.1, fun j9 hj9 => by rw [eg1, hv_up_ne _ _ (hnj.2 (4 + j9) (by omega))]; exact hA.2.2.2.2 j9 hj9⟩
        refine hv_V (As := [.int 3, .int w, .int 0, .int 0, .int 0, .int 0]) (rest := []) hE hml hK hI (c_Mo_append l hl0 b0 D cA g1 mo a 0 s9 e9 ct gd ln bf ac un md V 3 w 0 0 0 0 hq2 hnj hA3 hse he9) cd_Mo_append w617 w619 ws18 hq2 rfl rfl hl.1 (Nat.le_of_ble_eq_true rfl) d_Mo_kern_46 ⟨by decide, by decide⟩ ⟨by decide, by decide⟩ (fun v9 g5 H locs hp hI => ?_) (fun q9 E9 ce9 g9 H locs hp => hp.elim)
        obtain ⟨hv, hg4, hA4, ho94⟩ := hp
        rw [hv]
        refine W.eq (g2 := F0 m 49 ls [.int (nI (e9 - s9))]) rfl ?_
        exact hv_iret hE hr hlocks hI hK (v := nI (e9 - s9)) (Or.inr (Or.inr (⟨⟨by simp [okRule, k6, c32, n32], fu_f hse hfl he9 k17⟩, rfl, hg4, hA4, fun z z1 z2 z3 => by rw [ho94 _ z1 z2 z3, eg1, hv_up_ne _ _ z1]⟩))) (by decide) (by decide) d_Mo_kern_49
      · skip
        exact absurd (by decide) c32
    · skip
      have k17 := b2i_t c17
      refine lv_iconst (v := 2) hx hb d_Mo_kern_20 (by decide) ?_
      refine lv_goto (tgt := 25) hx hb d_Mo_kern_21 (by decide) ?_
      refine hv_put hE k_Mo hI 0 (by decide) w516 hmo rfl rfl rfl (Nat.le_of_ble_eq_true rfl) d_Mo_kern_25 (fun H locs hI => ?_)
      obtain ⟨g6, eg6⟩ : ∃ z : hv_M, z = hv_up f mo (moE a 2 (nI s9) (nI e9) ct gd ln bf ac un md) := ⟨_, rfl⟩
      have hI : hv_I D CL b0 g6 s.heap H locs := by rw [eg6]; exact hI
      have hq7 : g6 mo = some (moE a 2 (nI s9) (nI e9) ct gd ln bf ac un md) := by rw [eg6]; exact hv_up_self _ _ _
      refine lv_aload_n hx hb d_Mo_kern_28 rfl (lv_at hl 0 rfl) ?_
      refine hv_get hE k_Mo hI 0 (by decide) w516 hq7 rfl d_Mo_kern_29 ?_
      refine lv_if_le (tgt := 39) hx hb d_Mo_kern_32 (by decide) (fun c32 => ?_) (fun c32 => ?_)
      · skip
        exact absurd c32 (by decide)
      · skip
        have n32 := Int32.not_le.mp c32
        refine lv_iconst (v := 0) hx hb d_Mo_kern_35 (by decide) ?_
        refine lv_goto (tgt := 49) hx hb d_Mo_kern_36 (by decide) ?_
        exact hv_iret hE hr hlocks hI hK (v := 0) (Or.inr (Or.inl ⟨⟨by simp [okRule, k6, c32, n32], fu_t hse hfl he9 k17⟩, rfl, hq7, fun z z1 => by rw [eg6, hv_up_ne _ _ z1]⟩)) (by decide) (by decide) d_Mo_kern_49
  · skip
    have k6 := b2i_f c6
    refine lv_iconst (v := 1) hx hb d_Mo_kern_9 (by decide) ?_
    refine lv_goto (tgt := 25) hx hb d_Mo_kern_10 (by decide) ?_
    refine hv_put hE k_Mo hI 0 (by decide) w516 hmo rfl rfl rfl (Nat.le_of_ble_eq_true rfl) d_Mo_kern_25 (fun H locs hI => ?_)
    obtain ⟨g8, eg8⟩ : ∃ z : hv_M, z = hv_up f mo (moE a 1 (nI s9) (nI e9) ct gd ln bf ac un md) := ⟨_, rfl⟩
    have hI : hv_I D CL b0 g8 s.heap H locs := by rw [eg8]; exact hI
    have hq9 : g8 mo = some (moE a 1 (nI s9) (nI e9) ct gd ln bf ac un md) := by rw [eg8]; exact hv_up_self _ _ _
    refine lv_aload_n hx hb d_Mo_kern_28 rfl (lv_at hl 0 rfl) ?_
    refine hv_get hE k_Mo hI 0 (by decide) w516 hq9 rfl d_Mo_kern_29 ?_
    refine lv_if_le (tgt := 39) hx hb d_Mo_kern_32 (by decide) (fun c32 => ?_) (fun c32 => ?_)
    · skip
      exact absurd c32 (by decide)
    · skip
      have n32 := Int32.not_le.mp c32
      refine lv_iconst (v := 0) hx hb d_Mo_kern_35 (by decide) ?_
      refine lv_goto (tgt := 49) hx hb d_Mo_kern_36 (by decide) ?_
      exact hv_iret hE hr hlocks hI hK (v := 0) (Or.inl ⟨by simp [okRule, k6, c32, n32], rfl, hq9, fun z z1 => by rw [eg8, hv_up_ne _ _ z1]⟩) (by decide) (by decide) d_Mo_kern_49

set_option maxHeartbeats 4000000 in
set_option maxRecDepth 100000 in
theorem c_Mo_box (l : Launch) (hl0 : l.stackTraces = false) (b0 : Nat) (D : va_G) (cA : Nat → ClassId) (f : hv_M) (mo : Nat) (a : Nat → Nat) (th : Int32) (s9 e9 : Nat) (ct : Int32) (gd : Bool) (ln bf ac un : Int64) (md : Int32) (V : Wd) (k z : Int32) (c9 : Nat) (hmo : f mo = some (moE a th (nI s9) (nI e9) ct gd ln bf ac un md)) (hnj : moN mo a) (hA : moA cA f a V) (hse : s9 ≤ e9) (he9 : e9 < 10200) (hfl : e9 - s9 ≤ 100) (hct : ct = nI c9) : hv_Met l y_Mo_box [Cond.code y_Mo_box b_Mo_box 3 (some FieldType.int)] (RM 2 0 0) b0 (Fa D cA) D CL [.ref mo, .int k, .int z] f (fun v g => (isBx k c9 = false ∧ v = some (.int 0) ∧ moRef f g mo (moE a 1 (nI s9) (nI e9) ct gd ln bf ac un md)) ∨ ((isBx k c9 = true ∧ sz z.toInt64 = false) ∧ v = some (.int 0) ∧ moRef f g mo (moE a 2 (nI s9) (nI e9) ct gd ln bf ac un md)) ∨ ((isBx k c9 = true ∧ sz z.toInt64 = true ∧ e9 - s9 = 100) ∧ v = some (.int 0) ∧ moRef f g mo (moE a 3 (nI s9) (nI e9) ct gd ln bf ac un md)) ∨ ((isBx k c9 = true ∧ sz z.toInt64 = true ∧ e9 - s9 < 100) ∧ v = some (.int (nI (e9 - s9))) ∧ moAdd cA f g mo a (adW V e9 4 k z 0 0 0) (moE a 0 (nI s9) (nI (e9 + 1)) ct gd ln bf ac un md))) (NX) := by
  refine hv_Met.of (own := "BoxPackerModel") (by decide) rfl (Nat.le_of_ble_eq_true rfl) ?_
  intro p e s m below meth c hE hml hout hr hlocks hname hK hI ls hl
  have hl : lv_has ls 3 [(0, .ref mo), (1, .int k), (2, .int z)] := hl
  obtain ⟨hx, hb, hown, hts, hVK⟩ := id hE
  refine lv_aload_n hx hb d_Mo_box_0 rfl (lv_at hl 0 rfl) ?_
  refine lv_aload_n hx hb d_Mo_box_1 rfl (lv_at hl 0 rfl) ?_
  refine lv_iload_n hx hb d_Mo_box_2 rfl (lv_at hl 1 rfl) ?_
  refine hv_Vp (As := [.int k]) (rest := [.ref mo]) hE hml hK hI (c_Mo_isBox l hl0 b0 D cA f mo a th (nI s9) (nI e9) ct gd ln bf ac un md k c9 hmo hnj hct) cd_Mo_isBox w644 w646 ws19 hmo rfl rfl rfl rfl hl.1 (Nat.le_of_ble_eq_true rfl) d_Mo_box_3 ⟨by decide, by decide⟩ ⟨by decide, by decide⟩ (fun H locs hI => ?_)
  refine W.eq (g2 := F0 m 6 ls [.int (b2i (isBx k c9)), .ref mo]) rfl ?_
  refine lv_if_ne (tgt := 13) hx hb d_Mo_box_6 (by decide) (fun c6 => ?_) (fun c6 => ?_)
  · skip
    have k6 := b2i_t c6
    refine lv_iload_n hx hb d_Mo_box_13 rfl (lv_at hl 2 rfl) ?_
    refine lv_i2l (v := z.toInt64) hx hb d_Mo_box_14 rfl ?_
    refine hv_Sp (As := [.long z.toInt64]) (rest := [.ref mo]) hE hml hK hI (c_Mo_isSize l hl0 b0 D cA f z.toInt64) cd_Mo_isSize w608 w609 rfl rfl rfl hl.1 (Nat.le_of_ble_eq_true rfl) d_Mo_box_15 ⟨by decide, by decide⟩ ⟨by decide, by decide⟩ (fun H locs hI => ?_)
    refine W.eq (g2 := F0 m 18 ls [.int (b2i (sz z.toInt64)), .ref mo]) rfl ?_
    refine lv_if_ne (tgt := 25) hx hb d_Mo_box_18 (by decide) (fun c18 => ?_) (fun c18 => ?_)
    · skip
      have k18 := b2i_t c18
      refine lv_aload_n hx hb d_Mo_box_25 rfl (lv_at hl 0 rfl) ?_
      refine hv_Vp (As := []) (rest := [.ref mo]) hE hml hK hI (c_Mo_isFull l hl0 b0 D cA f mo a th (nI s9) (nI e9) ct gd ln bf ac un md hmo hnj) cd_Mo_isFull w613 w615 ws17 hmo rfl rfl rfl rfl hl.1 (Nat.le_of_ble_eq_true rfl) d_Mo_box_26 ⟨by decide, by decide⟩ ⟨by decide, by decide⟩ (fun H locs hI => ?_)
      refine W.eq (g2 := F0 m 29 ls [.int (b2i (decide ((nI e9) - (nI s9) = 100))), .ref mo]) rfl ?_
      refine lv_if_eq (tgt := 36) hx hb d_Mo_box_29 (by decide) (fun c29 => ?_) (fun c29 => ?_)
      · skip
        have k29 := b2i_f c29
        refine lv_iconst (v := 0) hx hb d_Mo_box_36 (by decide) ?_
        refine hv_put hE k_Mo hI 0 (by decide) w516 hmo rfl rfl rfl (Nat.le_of_ble_eq_true rfl) d_Mo_box_37 (fun H locs hI => ?_)
        obtain ⟨g1, eg1⟩ : ∃ z : hv_M, z = hv_up f mo (moE a 0 (nI s9) (nI e9) ct gd ln bf ac un md) := ⟨_, rfl⟩
        have hI : hv_I D CL b0 g1 s.heap H locs := by rw [eg1]; exact hI
        have hq2 : g1 mo = some (moE a 0 (nI s9) (nI e9) ct gd ln bf ac un md) := by rw [eg1]; exact hv_up_self _ _ _
        refine lv_aload_n hx hb d_Mo_box_40 rfl (lv_at hl 0 rfl) ?_
        refine hv_get hE k_Mo hI 0 (by decide) w516 hq2 rfl d_Mo_box_41 ?_
        refine lv_if_le (tgt := 51) hx hb d_Mo_box_44 (by decide) (fun c44 => ?_) (fun c44 => ?_)
        · skip
          have n44 := Int32.not_lt.mpr c44
          refine lv_aload_n hx hb d_Mo_box_51 rfl (lv_at hl 0 rfl) ?_
          refine lv_iconst (v := 4) hx hb d_Mo_box_52 (by decide) ?_
          refine lv_iload_n hx hb d_Mo_box_53 rfl (lv_at hl 1 rfl) ?_
          refine lv_iload_n hx hb d_Mo_box_54 rfl (lv_at hl 2 rfl) ?_
          refine lv_iconst (v := 0) hx hb d_Mo_box_55 (by decide) ?_
          refine lv_iconst (v := 0) hx hb d_Mo_box_56 (by decide) ?_
          refine lv_iconst (v := 0) hx hb d_Mo_box_57 (by decide) ?_
          have hA3 : moA cA g1 a V := ⟨by rw [eg1, hv_up_ne _ _ (hnj.2 0 (by decide))]; exact hA.1, by rw [eg1, hv_up_ne _ _ (hnj.2 1 (by decide))]; exact hA.2.1, by rw [eg1, hv_up_ne _ _ (hnj.2 2 (by decide))]; exact hA.2.2.1, by rw [eg1, hv_up_ne _ _ (hnj.2 3 (by decide))]; exact hA.2.2.2.1, fun j9 hj9 => by rw [eg1, hv_up_ne _ _ (hnj.2 (4 + j9) (by omega))]; exact hA.2.2.2.2 j9 hj9⟩
          refine hv_V (As := [.int 4, .int k, .int z, .int 0, .int 0, .int 0]) (rest := []) hE hml hK hI (c_Mo_append l hl0 b0 D cA g1 mo a 0 s9 e9 ct gd ln bf ac un md V 4 k z 0 0 0 hq2 hnj hA3 hse he9) cd_Mo_append w617 w619 ws18 hq2 rfl rfl hl.1 (Nat.le_of_ble_eq_true rfl) d_Mo_box_58 ⟨by decide, by decide⟩ ⟨by decide, by decide⟩ (fun v9 g5 H locs hp hI => ?_) (fun q9 E9 ce9 g9 H locs hp => hp.elim)
          obtain ⟨hv, hg4, hA4, ho94⟩ := hp
          rw [hv]
          refine W.eq (g2 := F0 m 61 ls [.int (nI (e9 - s9))]) rfl ?_
          exact hv_iret hE hr hlocks hI hK (v := nI (e9 - s9)) (Or.inr (Or.inr (Or.inr (⟨⟨k6, k18, fu_f hse hfl he9 k29⟩, rfl, hg4, hA4, fun z z1 z2 z3 => by rw [ho94 _ z1 z2 z3, eg1, hv_up_ne _ _ z1]⟩)))) (by decide) (by decide) d_Mo_box_61
        · skip
          exact absurd (by decide) c44
      · skip
        have k29 := b2i_t c29
        refine lv_iconst (v := 3) hx hb d_Mo_box_32 (by decide) ?_
        refine lv_goto (tgt := 37) hx hb d_Mo_box_33 (by decide) ?_
        refine hv_put hE k_Mo hI 0 (by decide) w516 hmo rfl rfl rfl (Nat.le_of_ble_eq_true rfl) d_Mo_box_37 (fun H locs hI => ?_)
        obtain ⟨g6, eg6⟩ : ∃ z : hv_M, z = hv_up f mo (moE a 3 (nI s9) (nI e9) ct gd ln bf ac un md) := ⟨_, rfl⟩
        have hI : hv_I D CL b0 g6 s.heap H locs := by rw [eg6]; exact hI
        have hq7 : g6 mo = some (moE a 3 (nI s9) (nI e9) ct gd ln bf ac un md) := by rw [eg6]; exact hv_up_self _ _ _
        refine lv_aload_n hx hb d_Mo_box_40 rfl (lv_at hl 0 rfl) ?_
        refine hv_get hE k_Mo hI 0 (by decide) w516 hq7 rfl d_Mo_box_41 ?_
        refine lv_if_le (tgt := 51) hx hb d_Mo_box_44 (by decide) (fun c44 => ?_) (fun c44 => ?_)
        · skip
          exact absurd c44 (by decide)
        · skip
          have n44 := Int32.not_le.mp c44
          refine lv_iconst (v := 0) hx hb d_Mo_box_47 (by decide) ?_
          refine lv_goto (tgt := 61) hx hb d_Mo_box_48 (by decide) ?_
          exact hv_iret hE hr hlocks hI hK (v := 0) (Or.inr (Or.inr (Or.inl ⟨⟨k6, k18, fu_t hse hfl he9 k29⟩, rfl, hq7, fun z z1 => by rw [eg6, hv_up_ne _ _ z1]⟩))) (by decide) (by decide) d_Mo_box_61
    · skip
      have k18 := b2i_f c18
      refine lv_iconst (v := 2) hx hb d_Mo_box_21 (by decide) ?_
      refine lv_goto (tgt := 37) hx hb d_Mo_box_22 (by decide) ?_
      refine hv_put hE k_Mo hI 0 (by decide) w516 hmo rfl rfl rfl (Nat.le_of_ble_eq_true rfl) d_Mo_box_37 (fun H locs hI => ?_)
      obtain ⟨g8, eg8⟩ : ∃ z : hv_M, z = hv_up f mo (moE a 2 (nI s9) (nI e9) ct gd ln bf ac un md) := ⟨_, rfl⟩
      have hI : hv_I D CL b0 g8 s.heap H locs := by rw [eg8]; exact hI
      have hq9 : g8 mo = some (moE a 2 (nI s9) (nI e9) ct gd ln bf ac un md) := by rw [eg8]; exact hv_up_self _ _ _
      refine lv_aload_n hx hb d_Mo_box_40 rfl (lv_at hl 0 rfl) ?_
      refine hv_get hE k_Mo hI 0 (by decide) w516 hq9 rfl d_Mo_box_41 ?_
      refine lv_if_le (tgt := 51) hx hb d_Mo_box_44 (by decide) (fun c44 => ?_) (fun c44 => ?_)
      · skip
        exact absurd c44 (by decide)
      · skip
        have n44 := Int32.not_le.mp c44
        refine lv_iconst (v := 0) hx hb d_Mo_box_47 (by decide) ?_
        refine lv_goto (tgt := 61) hx hb d_Mo_box_48 (by decide) ?_
        exact hv_iret hE hr hlocks hI hK (v := 0) (Or.inr (Or.inl ⟨⟨k6, k18⟩, rfl, hq9, fun z z1 => by rw [eg8, hv_up_ne _ _ z1]⟩)) (by decide) (by decide) d_Mo_box_61
  · skip
    have k6 := b2i_f c6
    refine lv_iconst (v := 1) hx hb d_Mo_box_9 (by decide) ?_
    refine lv_goto (tgt := 37) hx hb d_Mo_box_10 (by decide) ?_
    refine hv_put hE k_Mo hI 0 (by decide) w516 hmo rfl rfl rfl (Nat.le_of_ble_eq_true rfl) d_Mo_box_37 (fun H locs hI => ?_)
    obtain ⟨g10, eg10⟩ : ∃ z : hv_M, z = hv_up f mo (moE a 1 (nI s9) (nI e9) ct gd ln bf ac un md) := ⟨_, rfl⟩
    have hI : hv_I D CL b0 g10 s.heap H locs := by rw [eg10]; exact hI
    have hq11 : g10 mo = some (moE a 1 (nI s9) (nI e9) ct gd ln bf ac un md) := by rw [eg10]; exact hv_up_self _ _ _
    refine lv_aload_n hx hb d_Mo_box_40 rfl (lv_at hl 0 rfl) ?_
    refine hv_get hE k_Mo hI 0 (by decide) w516 hq11 rfl d_Mo_box_41 ?_
    refine lv_if_le (tgt := 51) hx hb d_Mo_box_44 (by decide) (fun c44 => ?_) (fun c44 => ?_)
    · skip
      exact absurd c44 (by decide)
    · skip
      have n44 := Int32.not_le.mp c44
      refine lv_iconst (v := 0) hx hb d_Mo_box_47 (by decide) ?_
      refine lv_goto (tgt := 61) hx hb d_Mo_box_48 (by decide) ?_
      exact hv_iret hE hr hlocks hI hK (v := 0) (Or.inl ⟨k6, rfl, hq11, fun z z1 => by rw [eg10, hv_up_ne _ _ z1]⟩) (by decide) (by decide) d_Mo_box_61

set_option maxHeartbeats 4000000 in
set_option maxRecDepth 100000 in
theorem c_Mo_keep (l : Launch) (hl0 : l.stackTraces = false) (b0 : Nat) (D : va_G) (cA : Nat → ClassId) (f : hv_M) (mo : Nat) (a : Nat → Nat) (th : Int32) (s9 e9 : Nat) (ct : Int32) (gd : Bool) (ln bf ac un : Int64) (md : Int32) (V : Wd) (k : Int32) (hmo : f mo = some (moE a th (nI s9) (nI e9) ct gd ln bf ac un md)) (hnj : moN mo a) (hA : moA cA f a V) (hse : s9 ≤ e9) (he9 : e9 < 10200) : hv_Met l y_Mo_keep [Cond.code y_Mo_keep b_Mo_keep 2 (some FieldType.boolean)] (RM 0 0 0) b0 (Fa D cA) D CL [.ref mo, .int k] f (fun v g => (v = some (.int 0) ∧ (k < 0 ∨ nI (e9 - s9) < k) ∧ moRef f g mo (moE a 0 (nI s9) (nI e9) ct gd ln bf ac un md)) ∨ (v = some (.int 1) ∧ ¬ k < 0 ∧ ¬ nI (e9 - s9) < k ∧ moRef f g mo (moE a 0 (nI s9) (nI s9 + k) ct gd ln bf ac un md))) (NX) := by
  refine hv_Met.of (own := "BoxPackerModel") (by decide) rfl (Nat.le_of_ble_eq_true rfl) ?_
  intro p e s m below meth c hE hml hout hr hlocks hname hK hI ls hl
  have hl : lv_has ls 2 [(0, .ref mo), (1, .int k)] := hl
  obtain ⟨hx, hb, hown, hts, hVK⟩ := id hE
  refine lv_aload_n hx hb d_Mo_keep_0 rfl (lv_at hl 0 rfl) ?_
  refine lv_iconst (v := 0) hx hb d_Mo_keep_1 (by decide) ?_
  refine hv_put hE k_Mo hI 0 (by decide) w516 hmo rfl rfl rfl (Nat.le_of_ble_eq_true rfl) d_Mo_keep_2 (fun H locs hI => ?_)
  obtain ⟨g1, eg1⟩ : ∃ z : hv_M, z = hv_up f mo (moE a 0 (nI s9) (nI e9) ct gd ln bf ac un md) := ⟨_, rfl⟩
  have hI : hv_I D CL b0 g1 s.heap H locs := by rw [eg1]; exact hI
  have hq2 : g1 mo = some (moE a 0 (nI s9) (nI e9) ct gd ln bf ac un md) := by rw [eg1]; exact hv_up_self _ _ _
  refine lv_iload_n hx hb d_Mo_keep_5 rfl (lv_at hl 1 rfl) ?_
  refine lv_if_lt (tgt := 22) hx hb d_Mo_keep_6 (by decide) (fun c6 => ?_) (fun c6 => ?_)
  · skip
    have n6 := Int32.not_le.mpr c6
    refine lv_iconst (v := 0) hx hb d_Mo_keep_22 (by decide) ?_
    exact hv_zret hE hr hlocks hI hK (v := 0) (by first | rfl | exact b2i_nar _) (Or.inl ⟨rfl, Or.inl c6, hq2, fun z z1 => by rw [eg1, hv_up_ne _ _ z1]⟩) (by decide) (by decide) d_Mo_keep_23
  · skip
    have n6 := Int32.not_lt.mp c6
    refine lv_iload_n hx hb d_Mo_keep_9 rfl (lv_at hl 1 rfl) ?_
    refine lv_aload_n hx hb d_Mo_keep_10 rfl (lv_at hl 0 rfl) ?_
    refine hv_get hE k_Mo hI 4 (by decide) w520 hq2 rfl d_Mo_keep_11 ?_
    refine lv_aload_n hx hb d_Mo_keep_14 rfl (lv_at hl 0 rfl) ?_
    refine hv_get hE k_Mo hI 3 (by decide) w519 hq2 rfl d_Mo_keep_15 ?_
    refine lv_isub hx hb d_Mo_keep_18 ?_
    refine lv_icmp_le (tgt := 24) hx hb d_Mo_keep_19 (by decide) (fun c19 => ?_) (fun c19 => ?_)
    · skip
      have n19 := Int32.not_lt.mpr c19
      refine lv_aload_n hx hb d_Mo_keep_24 rfl (lv_at hl 0 rfl) ?_
      refine lv_aload_n hx hb d_Mo_keep_25 rfl (lv_at hl 0 rfl) ?_
      refine hv_get hE k_Mo hI 3 (by decide) w519 hq2 rfl d_Mo_keep_26 ?_
      refine lv_iload_n hx hb d_Mo_keep_29 rfl (lv_at hl 1 rfl) ?_
      refine lv_iadd hx hb d_Mo_keep_30 ?_
      refine hv_put hE k_Mo hI 4 (by decide) w520 hq2 rfl rfl rfl (Nat.le_of_ble_eq_true rfl) d_Mo_keep_31 (fun H locs hI => ?_)
      obtain ⟨g3, eg3⟩ : ∃ z : hv_M, z = hv_up g1 mo (moE a 0 (nI s9) ((nI s9) + k) ct gd ln bf ac un md) := ⟨_, rfl⟩
      have hI : hv_I D CL b0 g3 s.heap H locs := by rw [eg3]; exact hI
      have hq4 : g3 mo = some (moE a 0 (nI s9) ((nI s9) + k) ct gd ln bf ac un md) := by rw [eg3]; exact hv_up_self _ _ _
      refine lv_iconst (v := 1) hx hb d_Mo_keep_34 (by decide) ?_
      exact hv_zret hE hr hlocks hI hK (v := 1) (by first | rfl | exact b2i_nar _) (Or.inr ⟨rfl, c6, by rw [← nI_sub hse]; exact n19, hq4, fun z z1 => by rw [eg3, hv_up_ne _ _ z1, eg1, hv_up_ne _ _ z1]⟩) (by decide) (by decide) d_Mo_keep_35
    · skip
      have n19 := Int32.not_le.mp c19
      refine lv_iconst (v := 0) hx hb d_Mo_keep_22 (by decide) ?_
      exact hv_zret hE hr hlocks hI hK (v := 0) (by first | rfl | exact b2i_nar _) (Or.inl ⟨rfl, Or.inr (by rw [← nI_sub hse]; exact n19), hq2, fun z z1 => by rw [eg1, hv_up_ne _ _ z1]⟩) (by decide) (by decide) d_Mo_keep_23

set_option maxHeartbeats 4000000 in
set_option maxRecDepth 100000 in
theorem c_Mo_items (l : Launch) (hl0 : l.stackTraces = false) (b0 : Nat) (D : va_G) (cA : Nat → ClassId) (f : hv_M) (mo : Nat) (a : Nat → Nat) (th : Int32) (s9 e9 : Nat) (ct : Int32) (gd : Bool) (ln bf ac un : Int64) (md : Int32) (V : Wd) (hmo : f mo = some (moE a th (nI s9) (nI e9) ct gd ln bf ac un md)) (hnj : moN mo a) (hA : moA cA f a V) (hse : s9 ≤ e9) (he9 : e9 < 10200) : hv_Met l y_Mo_items [Cond.code y_Mo_items b_Mo_items 1 (some FieldType.int)] (RM 0 0 0) b0 (Fa D cA) D CL [.ref mo] f (fun v g => v = some (.int (nI (e9 - s9))) ∧ moRef f g mo (moE a 0 (nI s9) (nI e9) ct gd ln bf ac un md)) (NX) := by
  refine hv_Met.of (own := "BoxPackerModel") (by decide) rfl (Nat.le_of_ble_eq_true rfl) ?_
  intro p e s m below meth c hE hml hout hr hlocks hname hK hI ls hl
  have hl : lv_has ls 1 [(0, .ref mo)] := hl
  obtain ⟨hx, hb, hown, hts, hVK⟩ := id hE
  refine lv_aload_n hx hb d_Mo_items_0 rfl (lv_at hl 0 rfl) ?_
  refine lv_iconst (v := 0) hx hb d_Mo_items_1 (by decide) ?_
  refine hv_put hE k_Mo hI 0 (by decide) w516 hmo rfl rfl rfl (Nat.le_of_ble_eq_true rfl) d_Mo_items_2 (fun H locs hI => ?_)
  obtain ⟨g1, eg1⟩ : ∃ z : hv_M, z = hv_up f mo (moE a 0 (nI s9) (nI e9) ct gd ln bf ac un md) := ⟨_, rfl⟩
  have hI : hv_I D CL b0 g1 s.heap H locs := by rw [eg1]; exact hI
  have hq2 : g1 mo = some (moE a 0 (nI s9) (nI e9) ct gd ln bf ac un md) := by rw [eg1]; exact hv_up_self _ _ _
  refine lv_aload_n hx hb d_Mo_items_5 rfl (lv_at hl 0 rfl) ?_
  refine hv_get hE k_Mo hI 4 (by decide) w520 hq2 rfl d_Mo_items_6 ?_
  refine lv_aload_n hx hb d_Mo_items_9 rfl (lv_at hl 0 rfl) ?_
  refine hv_get hE k_Mo hI 3 (by decide) w519 hq2 rfl d_Mo_items_10 ?_
  refine lv_isub hx hb d_Mo_items_13 ?_
  exact hv_iret hE hr hlocks hI hK (v := (nI e9) - (nI s9)) (⟨by rw [nI_sub hse], hq2, fun z z1 => by rw [eg1, hv_up_ne _ _ z1]⟩) (by decide) (by decide) d_Mo_items_14

set_option maxHeartbeats 4000000 in
set_option maxRecDepth 100000 in
theorem c_Mo_boxes (l : Launch) (hl0 : l.stackTraces = false) (b0 : Nat) (D : va_G) (cA : Nat → ClassId) (f : hv_M) (mo : Nat) (a : Nat → Nat) (th st en ct : Int32) (gd : Bool) (ln bf ac un : Int64) (md : Int32) (hmo : f mo = some (moE a th st en ct gd ln bf ac un md)) (hnj : moN mo a) : hv_Met l y_Mo_boxes [Cond.code y_Mo_boxes b_Mo_boxes 1 (some FieldType.int)] (RM 0 0 0) b0 (Fa D cA) D CL [.ref mo] f (fun v g => v = some (.int ct) ∧ moRef f g mo (moE a 0 st en ct gd ln bf ac un md)) (NX) := by
  refine hv_Met.of (own := "BoxPackerModel") (by decide) rfl (Nat.le_of_ble_eq_true rfl) ?_
  intro p e s m below meth c hE hml hout hr hlocks hname hK hI ls hl
  have hl : lv_has ls 1 [(0, .ref mo)] := hl
  obtain ⟨hx, hb, hown, hts, hVK⟩ := id hE
  refine lv_aload_n hx hb d_Mo_boxes_0 rfl (lv_at hl 0 rfl) ?_
  refine lv_iconst (v := 0) hx hb d_Mo_boxes_1 (by decide) ?_
  refine hv_put hE k_Mo hI 0 (by decide) w516 hmo rfl rfl rfl (Nat.le_of_ble_eq_true rfl) d_Mo_boxes_2 (fun H locs hI => ?_)
  obtain ⟨g1, eg1⟩ : ∃ z : hv_M, z = hv_up f mo (moE a 0 st en ct gd ln bf ac un md) := ⟨_, rfl⟩
  have hI : hv_I D CL b0 g1 s.heap H locs := by rw [eg1]; exact hI
  have hq2 : g1 mo = some (moE a 0 st en ct gd ln bf ac un md) := by rw [eg1]; exact hv_up_self _ _ _
  refine lv_aload_n hx hb d_Mo_boxes_5 rfl (lv_at hl 0 rfl) ?_
  refine hv_get hE k_Mo hI 5 (by decide) w521 hq2 rfl d_Mo_boxes_6 ?_
  exact hv_iret hE hr hlocks hI hK (v := ct) (⟨rfl, hq2, fun z z1 => by rw [eg1, hv_up_ne _ _ z1]⟩) (by decide) (by decide) d_Mo_boxes_9

