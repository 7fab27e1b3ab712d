/-! ===== the reference: leaves ===== -/
theorem hv_I.sameL {D : va_G} {cl : List vw_C} {b0 : Nat} {f : hv_M} {H0 H : Heap} {locs : List Loc} {q n : Nat} {cA : ClassId} {g g' : Nat → Int64} (hI : hv_I D cl b0 f H0 H locs) (he : f q = some (.inl (cA, n, .inr (.inl g)))) (hg : ∀ j, j < n → g j = g' j) : hv_I D cl b0 (hv_up f q (.inl (cA, n, .inr (.inl g')))) H0 H locs := by
  have e9 : vp_cell cA (n, .inr (.inl g)) = vp_cell cA (n, .inr (.inl g')) := by
    rw [vp_cell_l, vp_cell_l]
    unfold arrV
    congr 2
    funext j
    show Value.long (g j.val) = Value.long (g' j.val)
    rw [hg j.val j.isLt]
  refine ⟨fun z y hz => ?_, fun z y hz => ?_, hI.2.2.1, hI.2.2.2⟩
  · by_cases hq : z = q
    · subst hq
      rw [hv_up_self] at hz
      cases hz
      have h9 := hI.1 _ _ he
      show H[z]? = some (vp_cell _ _)
      rw [← e9]
      exact h9
    · rw [hv_up_ne _ _ hq] at hz
      exact hI.1 z y hz
  · by_cases hq : z = q
    · subst hq
      exact hI.2.1 _ _ he
    · rw [hv_up_ne _ _ hq] at hz
      exact hI.2.1 z y hz
theorem ix5 {k j : Nat} : (5 : Int32) * nI k + nI j = nI (5 * k + j) := by
  rw [show (5 : Int32) = nI 5 from rfl]; simp only [nI]; rw [← Int32.ofNat_mul, ← Int32.ofNat_add]
theorem ix5' {k : Nat} : (5 : Int32) * nI k = nI (5 * k) := by
  rw [show (5 : Int32) = nI 5 from rfl]; simp only [nI]; rw [← Int32.ofNat_mul]

set_option maxHeartbeats 4000000 in
set_option maxRecDepth 100000 in
theorem c_Mo_isSize (l : Launch) (hl0 : l.stackTraces = false) (b0 : Nat) (D : va_G) (cA : Nat → ClassId) (f : hv_M) (x : Int64)  : hv_Met l y_Mo_isSize [Cond.code y_Mo_isSize b_Mo_isSize 2 (some FieldType.boolean)] (RM 0 0 0) b0 (Fa D cA) D CL [.long x] f (PV f (some (.int (b2i (sz x))))) (NX) := by
  refine hv_Met.of (own := "BoxPackerModel") (by decide) rfl (Nat.le_of_ble_eq_true rfl) ?_
  intro p e s m below meth c hE hml hout hr hlocks hname hK hI ls hl
  have hl : lv_has ls 2 [(0, .long x)] := hl
  obtain ⟨hx, hb, hown, hts, hVK⟩ := id hE
  refine lv_lload_n hx hb d_Mo_isSize_0 rfl (lv_at hl 0 rfl) ?_
  refine lv_ldc2 (v := (-1073741823)) hx hb hown (hts _ w611) d_Mo_isSize_1 ?_
  refine W.lcmp hx hb d_Mo_isSize_4 ?_
  refine lv_if_lt (tgt := 20) hx hb d_Mo_isSize_5 (by decide) (fun c5 => ?_) (fun c5 => ?_)
  · skip
    have m5 := (lg_cmp_lt _ _).mp c5
    have n5 := Int64.not_le.mpr m5
    refine lv_iconst (v := 0) hx hb d_Mo_isSize_20 (by decide) ?_
    exact hv_zret hE hr hlocks hI hK (v := 0) (by first | rfl | exact b2i_nar _) (⟨by simp [b2i, sz, m5, n5], rfl⟩) (by decide) (by decide) d_Mo_isSize_21
  · skip
    have m5 : ¬ _ := fun q => c5 ((lg_cmp_lt _ _).mpr q)
    have n5 := Int64.not_lt.mp m5
    refine lv_lload_n hx hb d_Mo_isSize_8 rfl (lv_at hl 0 rfl) ?_
    refine lv_ldc2 (v := 1073741823) hx hb hown (hts _ w612) d_Mo_isSize_9 ?_
    refine W.lcmp hx hb d_Mo_isSize_12 ?_
    refine lv_if_gt (tgt := 20) hx hb d_Mo_isSize_13 (by decide) (fun c13 => ?_) (fun c13 => ?_)
    · skip
      have m13 := (lg_cmp_gt _ _).mp c13
      have n13 := Int64.not_le.mpr m13
      refine lv_iconst (v := 0) hx hb d_Mo_isSize_20 (by decide) ?_
      exact hv_zret hE hr hlocks hI hK (v := 0) (by first | rfl | exact b2i_nar _) (⟨by simp [b2i, sz, m5, n5, m13, n13], rfl⟩) (by decide) (by decide) d_Mo_isSize_21
    · skip
      have m13 : ¬ _ := fun q => c13 ((lg_cmp_gt _ _).mpr q)
      have n13 := Int64.not_lt.mp m13
      refine lv_iconst (v := 1) hx hb d_Mo_isSize_16 (by decide) ?_
      refine lv_goto (tgt := 21) hx hb d_Mo_isSize_17 (by decide) ?_
      exact hv_zret hE hr hlocks hI hK (v := 1) (by first | rfl | exact b2i_nar _) (⟨by simp [b2i, sz, m5, n5, m13, n13], rfl⟩) (by decide) (by decide) d_Mo_isSize_21

set_option maxHeartbeats 4000000 in
set_option maxRecDepth 100000 in
theorem c_Mo_isRuleSize (l : Launch) (hl0 : l.stackTraces = false) (b0 : Nat) (D : va_G) (cA : Nat → ClassId) (f : hv_M) (x : Int32)  : hv_Met l y_Mo_isRuleSize [Cond.code y_Mo_isRuleSize b_Mo_isRuleSize 1 (some FieldType.boolean)] (RM 1 0 0) b0 (Fa D cA) D CL [.int x] f (PV f (some (.int (b2i (szr x))))) (NX) := by
  refine hv_Met.of (own := "BoxPackerModel") (by decide) rfl (Nat.le_of_ble_eq_true rfl) ?_
  intro p e s m below meth c hE hml hout hr hlocks hname hK hI ls hl
  have hl : lv_has ls 1 [(0, .int x)] := hl
  obtain ⟨hx, hb, hown, hts, hVK⟩ := id hE
  refine lv_iload_n hx hb d_Mo_isRuleSize_0 rfl (lv_at hl 0 rfl) ?_
  refine lv_ldc (v := (-1073741824)) hx hb hown (hts _ w628) d_Mo_isRuleSize_1 ?_
  refine lv_icmp_eq (tgt := 14) hx hb d_Mo_isRuleSize_3 (by decide) (fun c3 => ?_) (fun c3 => ?_)
  · skip
    refine lv_iconst (v := 1) hx hb d_Mo_isRuleSize_14 (by decide) ?_
    refine lv_goto (tgt := 19) hx hb d_Mo_isRuleSize_15 (by decide) ?_
    exact hv_zret hE hr hlocks hI hK (v := 1) (by first | rfl | exact b2i_nar _) (⟨by simp [b2i, szr, c3], rfl⟩) (by decide) (by decide) d_Mo_isRuleSize_19
  · skip
    refine lv_iload_n hx hb d_Mo_isRuleSize_6 rfl (lv_at hl 0 rfl) ?_
    refine lv_i2l (v := x.toInt64) hx hb d_Mo_isRuleSize_7 rfl ?_
    refine hv_Sp (As := [.long x.toInt64]) (rest := []) hE hml hK hI (c_Mo_isSize l hl0 b0 D cA f x.toInt64) cd_Mo_isSize w608 w609 rfl rfl rfl hl.1 (Nat.le_of_ble_eq_true rfl) d_Mo_isRuleSize_8 ⟨by decide, by decide⟩ ⟨by decide, by decide⟩ (fun H locs hI => ?_)
    refine W.eq (g2 := F0 m 11 ls [.int (b2i (sz x.toInt64))]) rfl ?_
    refine lv_if_eq (tgt := 18) hx hb d_Mo_isRuleSize_11 (by decide) (fun c11 => ?_) (fun c11 => ?_)
    · skip
      have k11 := b2i_f c11
      refine lv_iconst (v := 0) hx hb d_Mo_isRuleSize_18 (by decide) ?_
      exact hv_zret hE hr hlocks hI hK (v := 0) (by first | rfl | exact b2i_nar _) (⟨by simp [b2i, szr, c3, k11], rfl⟩) (by decide) (by decide) d_Mo_isRuleSize_19
    · skip
      have k11 := b2i_t c11
      refine lv_iconst (v := 1) hx hb d_Mo_isRuleSize_14 (by decide) ?_
      refine lv_goto (tgt := 19) hx hb d_Mo_isRuleSize_15 (by decide) ?_
      exact hv_zret hE hr hlocks hI hK (v := 1) (by first | rfl | exact b2i_nar _) (⟨by simp [b2i, szr, c3, k11], rfl⟩) (by decide) (by decide) d_Mo_isRuleSize_19

set_option maxHeartbeats 4000000 in
set_option maxRecDepth 100000 in
theorem c_Mo_isOrder (l : Launch) (hl0 : l.stackTraces = false) (b0 : Nat) (D : va_G) (cA : Nat → ClassId) (f : hv_M) (x : Int32)  : hv_Met l y_Mo_isOrder [Cond.code y_Mo_isOrder b_Mo_isOrder 1 (some FieldType.boolean)] (RM 0 0 0) b0 (Fa D cA) D CL [.int x] f (PV f (some (.int (b2i (ord4 x))))) (NX) := by
  refine hv_Met.of (own := "BoxPackerModel") (by decide) rfl (Nat.le_of_ble_eq_true rfl) ?_
  intro p e s m below meth c hE hml hout hr hlocks hname hK hI ls hl
  have hl : lv_has ls 1 [(0, .int x)] := hl
  obtain ⟨hx, hb, hown, hts, hVK⟩ := id hE
  refine lv_iload_n hx hb d_Mo_isOrder_0 rfl (lv_at hl 0 rfl) ?_
  refine lv_if_lt (tgt := 13) hx hb d_Mo_isOrder_1 (by decide) (fun c1 => ?_) (fun c1 => ?_)
  · skip
    have n1 := Int32.not_le.mpr c1
    refine lv_iconst (v := 0) hx hb d_Mo_isOrder_13 (by decide) ?_
    exact hv_zret hE hr hlocks hI hK (v := 0) (by first | rfl | exact b2i_nar _) (⟨by simp [b2i, ord4, c1, n1], rfl⟩) (by decide) (by decide) d_Mo_isOrder_14
  · skip
    have n1 := Int32.not_lt.mp c1
    refine lv_iload_n hx hb d_Mo_isOrder_4 rfl (lv_at hl 0 rfl) ?_
    refine lv_iconst (v := 4) hx hb d_Mo_isOrder_5 (by decide) ?_
    refine lv_icmp_ge (tgt := 13) hx hb d_Mo_isOrder_6 (by decide) (fun c6 => ?_) (fun c6 => ?_)
    · skip
      have n6 := Int32.not_lt.mpr c6
      refine lv_iconst (v := 0) hx hb d_Mo_isOrder_13 (by decide) ?_
      exact hv_zret hE hr hlocks hI hK (v := 0) (by first | rfl | exact b2i_nar _) (⟨by simp [b2i, ord4, c1, n1, c6, n6], rfl⟩) (by decide) (by decide) d_Mo_isOrder_14
    · skip
      have n6 := Int32.not_le.mp c6
      refine lv_iconst (v := 1) hx hb d_Mo_isOrder_9 (by decide) ?_
      refine lv_goto (tgt := 14) hx hb d_Mo_isOrder_10 (by decide) ?_
      exact hv_zret hE hr hlocks hI hK (v := 1) (by first | rfl | exact b2i_nar _) (⟨by simp [b2i, ord4, c1, n1, c6, n6], rfl⟩) (by decide) (by decide) d_Mo_isOrder_14

set_option maxHeartbeats 4000000 in
set_option maxRecDepth 100000 in
theorem c_Mo_thrown (l : Launch) (hl0 : l.stackTraces = false) (b0 : Nat) (D : va_G) (cA : Nat → ClassId) (f : hv_M) (mo : Nat) (a : Nat → Nat) (th st en ct : Int32) (gd : Bool) (ln bf ac un : Int64) (md : Int32) (hmo : f mo = some (moE a th st en ct gd ln bf ac un md)) (hnj : moN mo a) : hv_Met l y_Mo_thrown [Cond.code y_Mo_thrown b_Mo_thrown 1 (some FieldType.int)] (RM 0 0 0) b0 (Fa D cA) D CL [.ref mo] f (PV f (some (.int th))) (NX) := by
  refine hv_Met.of (own := "BoxPackerModel") (by decide) rfl (Nat.le_of_ble_eq_true rfl) ?_
  intro p e s m below meth c hE hml hout hr hlocks hname hK hI ls hl
  have hl : lv_has ls 1 [(0, .ref mo)] := hl
  obtain ⟨hx, hb, hown, hts, hVK⟩ := id hE
  refine lv_aload_n hx hb d_Mo_thrown_0 rfl (lv_at hl 0 rfl) ?_
  refine hv_get hE k_Mo hI 0 (by decide) w516 hmo rfl d_Mo_thrown_1 ?_
  exact hv_iret hE hr hlocks hI hK (v := th) (⟨rfl, rfl⟩) (by decide) (by decide) d_Mo_thrown_4

set_option maxHeartbeats 4000000 in
set_option maxRecDepth 100000 in
theorem c_Mo_isFull (l : Launch) (hl0 : l.stackTraces = false) (b0 : Nat) (D : va_G) (cA : Nat → ClassId) (f : hv_M) (mo : Nat) (a : Nat → Nat) (th st en ct : Int32) (gd : Bool) (ln bf ac un : Int64) (md : Int32) (hmo : f mo = some (moE a th st en ct gd ln bf ac un md)) (hnj : moN mo a) : hv_Met l y_Mo_isFull [Cond.code y_Mo_isFull b_Mo_isFull 1 (some FieldType.boolean)] (RM 0 0 0) b0 (Fa D cA) D CL [.ref mo] f (PV f (some (.int (b2i (decide (en - st = 100)))))) (NX) := by
  refine hv_Met.of (own := "BoxPackerModel") (by decide) rfl (Nat.le_of_ble_eq_true rfl) ?_
  intro p e s m below meth c hE hml hout hr hlocks hname hK hI ls hl
  have hl : lv_has ls 1 [(0, .ref mo)] := hl
  obtain ⟨hx, hb, hown, hts, hVK⟩ := id hE
  refine lv_aload_n hx hb d_Mo_isFull_0 rfl (lv_at hl 0 rfl) ?_
  refine hv_get hE k_Mo hI 4 (by decide) w520 hmo rfl d_Mo_isFull_1 ?_
  refine lv_aload_n hx hb d_Mo_isFull_4 rfl (lv_at hl 0 rfl) ?_
  refine hv_get hE k_Mo hI 3 (by decide) w519 hmo rfl d_Mo_isFull_5 ?_
  refine lv_isub hx hb d_Mo_isFull_8 ?_
  refine lv_bipush (v := 100) hx hb d_Mo_isFull_9 (by decide) ?_
  refine lv_icmp_ne (tgt := 18) hx hb d_Mo_isFull_11 (by decide) (fun c11 => ?_) (fun c11 => ?_)
  · skip
    refine lv_iconst (v := 0) hx hb d_Mo_isFull_18 (by decide) ?_
    exact hv_zret hE hr hlocks hI hK (v := 0) (by first | rfl | exact b2i_nar _) (⟨by simp [b2i, c11], rfl⟩) (by decide) (by decide) d_Mo_isFull_19
  · skip
    refine lv_iconst (v := 1) hx hb d_Mo_isFull_14 (by decide) ?_
    refine lv_goto (tgt := 19) hx hb d_Mo_isFull_15 (by decide) ?_
    exact hv_zret hE hr hlocks hI hK (v := 1) (by first | rfl | exact b2i_nar _) (⟨by simp [b2i, c11], rfl⟩) (by decide) (by decide) d_Mo_isFull_19

set_option maxHeartbeats 4000000 in
set_option maxRecDepth 100000 in
theorem c_Mo_isBox (l : Launch) (hl0 : l.stackTraces = false) (b0 : Nat) (D : va_G) (cA : Nat → ClassId) (f : hv_M) (mo : Nat) (a : Nat → Nat) (th st en ct : Int32) (gd : Bool) (ln bf ac un : Int64) (md : Int32) (k : Int32) (n : Nat) (hmo : f mo = some (moE a th st en ct gd ln bf ac un md)) (hnj : moN mo a) (hct : ct = nI n) : hv_Met l y_Mo_isBox [Cond.code y_Mo_isBox b_Mo_isBox 2 (some FieldType.boolean)] (RM 0 0 0) b0 (Fa D cA) D CL [.ref mo, .int k] f (PV f (some (.int (b2i (isBx k n))))) (NX) := by
  refine hv_Met.of (own := "BoxPackerModel") (by decide) rfl (Nat.le_of_ble_eq_true rfl) ?_
  intro p e s m below meth c hE hml hout hr hlocks hname hK hI ls hl
  have hl : lv_has ls 2 [(0, .ref mo), (1, .int k)] := hl
  obtain ⟨hx, hb, hown, hts, hVK⟩ := id hE
  refine lv_iload_n hx hb d_Mo_isBox_0 rfl (lv_at hl 1 rfl) ?_
  refine lv_if_lt (tgt := 16) hx hb d_Mo_isBox_1 (by decide) (fun c1 => ?_) (fun c1 => ?_)
  · skip
    have n1 := Int32.not_le.mpr c1
    refine lv_iconst (v := 0) hx hb d_Mo_isBox_16 (by decide) ?_
    exact hv_zret hE hr hlocks hI hK (v := 0) (by first | rfl | exact b2i_nar _) (⟨by simp [b2i, isBx, ← hct, c1, n1], rfl⟩) (by decide) (by decide) d_Mo_isBox_17
  · skip
    have n1 := Int32.not_lt.mp c1
    refine lv_iload_n hx hb d_Mo_isBox_4 rfl (lv_at hl 1 rfl) ?_
    refine lv_aload_n hx hb d_Mo_isBox_5 rfl (lv_at hl 0 rfl) ?_
    refine hv_get hE k_Mo hI 5 (by decide) w521 hmo rfl d_Mo_isBox_6 ?_
    refine lv_icmp_ge (tgt := 16) hx hb d_Mo_isBox_9 (by decide) (fun c9 => ?_) (fun c9 => ?_)
    · skip
      have n9 := Int32.not_lt.mpr c9
      refine lv_iconst (v := 0) hx hb d_Mo_isBox_16 (by decide) ?_
      exact hv_zret hE hr hlocks hI hK (v := 0) (by first | rfl | exact b2i_nar _) (⟨by simp [b2i, isBx, ← hct, c1, n1, c9, n9], rfl⟩) (by decide) (by decide) d_Mo_isBox_17
    · skip
      have n9 := Int32.not_le.mp c9
      refine lv_iconst (v := 1) hx hb d_Mo_isBox_12 (by decide) ?_
      refine lv_goto (tgt := 17) hx hb d_Mo_isBox_13 (by decide) ?_
      exact hv_zret hE hr hlocks hI hK (v := 1) (by first | rfl | exact b2i_nar _) (⟨by simp [b2i, isBx, ← hct, c1, n1, c9, n9], rfl⟩) (by decide) (by decide) d_Mo_isBox_17

set_option maxHeartbeats 4000000 in
set_option maxRecDepth 100000 in
theorem c_Mo_number (l : Launch) (hl0 : l.stackTraces = false) (b0 : Nat) (D : va_G) (cA : Nat → ClassId) (f : hv_M) (mo : Nat) (a : Nat → Nat) (th st en ct : Int32) (gd : Bool) (ln bf ac un : Int64) (md : Int32) (V : Wd) (k j : Nat) (hmo : f mo = some (moE a th st en ct gd ln bf ac un md)) (hnj : moN mo a) (hN : f (a 1) = some (.inl (cA 0, 51000, .inl V.2.1))) (hk : k < 10200) (hj : j < 5) : hv_Met l y_Mo_number [Cond.code y_Mo_number b_Mo_number 3 (some FieldType.int)] (RM 0 0 0) b0 (Fa D cA) D CL [.ref mo, .int (nI k), .int (nI j)] f (PV f (some (.int (wN V k j)))) (NX) := by
  refine hv_Met.of (own := "BoxPackerModel") (by decide) rfl (Nat.le_of_ble_eq_true rfl) ?_
  intro p e s m below meth c hE hml hout hr hlocks hname hK hI ls hl
  have hl : lv_has ls 3 [(0, .ref mo), (1, .int (nI k)), (2, .int (nI j))] := hl
  obtain ⟨hx, hb, hown, hts, hVK⟩ := id hE
  refine lv_aload_n hx hb d_Mo_number_0 rfl (lv_at hl 0 rfl) ?_
  refine hv_get hE k_Mo hI 2 (by decide) w518 hmo rfl d_Mo_number_1 ?_
  refine lv_iconst (v := 5) hx hb d_Mo_number_4 (by decide) ?_
  refine lv_iload_n hx hb d_Mo_number_5 rfl (lv_at hl 1 rfl) ?_
  refine lv_imul hx hb d_Mo_number_6 ?_
  refine lv_iload_n hx hb d_Mo_number_7 rfl (lv_at hl 2 rfl) ?_
  refine lv_iadd hx hb d_Mo_number_8 ?_
  refine hv_iald hE hI 0 hN rfl (by rw [ix5]; exact pk_in _ 51000 (by omega) rfl (by omega)) d_Mo_number_9 ?_
  rw [ix5, nI_cl (by omega)]
  refine W.eq (g2 := F0 m 10 ls [.int (wN V k j)]) rfl ?_
  exact hv_iret hE hr hlocks hI hK (v := wN V k j) (⟨rfl, rfl⟩) (by decide) (by decide) d_Mo_number_10

set_option maxHeartbeats 4000000 in
set_option maxRecDepth 100000 in
theorem c_Mo_solid (l : Launch) (hl0 : l.stackTraces = false) (b0 : Nat) (D : va_G) (cA : Nat → ClassId) (f : hv_M) (mo : Nat) (a : Nat → Nat) (th st en ct : Int32) (gd : Bool) (ln bf ac un : Int64) (md : Int32) (V : Wd) (k j : Nat) (hmo : f mo = some (moE a th st en ct gd ln bf ac un md)) (hnj : moN mo a) (hA : moA cA f a V) (hk : k < 10200) (hj : j < 5) : hv_Met l y_Mo_solid [Cond.code y_Mo_solid b_Mo_solid 4 (some FieldType.int)] (RM 1 0 0) b0 (Fa D cA) D CL [.ref mo, .int (nI k), .int (nI j)] f (PV f (some (.int (kn (wN V k j) 0)))) (NX) := by
  refine hv_Met.of (own := "BoxPackerModel") (by decide) rfl (Nat.le_of_ble_eq_true rfl) ?_
  intro p e s m below meth c hE hml hout hr hlocks hname hK hI ls hl
  have hl : lv_has ls 4 [(0, .ref mo), (1, .int (nI k)), (2, .int (nI j))] := hl
  obtain ⟨hx, hb, hown, hts, hVK⟩ := id hE
  refine lv_aload_n hx hb d_Mo_solid_0 rfl (lv_at hl 0 rfl) ?_
  refine lv_iload_n hx hb d_Mo_solid_1 rfl (lv_at hl 1 rfl) ?_
  refine lv_iload_n hx hb d_Mo_solid_2 rfl (lv_at hl 2 rfl) ?_
  refine hv_Vp (As := [.int (nI k), .int (nI j)]) (rest := []) hE hml hK hI (c_Mo_number l hl0 b0 D cA f mo a th st en ct gd ln bf ac un md V k j hmo hnj hA.2.1 (by omega) (by omega)) cd_Mo_number w664 w666 ws21 hmo rfl rfl rfl rfl hl.1 (Nat.le_of_ble_eq_true rfl) d_Mo_solid_3 ⟨by decide, by decide⟩ ⟨by decide, by decide⟩ (fun H locs hI => ?_)
  refine W.eq (g2 := F0 m 6 ls [.int (wN V k j)]) rfl ?_
  refine lv_istore_n (lv' := [(3, .int (wN V k j)), (0, .ref mo), (1, .int (nI k)), (2, .int (nI j))]) hx hb d_Mo_solid_6 rfl hl (by decide) rfl (fun ls hl => ?_)
  refine lv_iload_n hx hb d_Mo_solid_7 rfl (lv_at hl 0 rfl) ?_
  refine lv_ldc (v := (-1073741824)) hx hb hown (hts _ w628) d_Mo_solid_8 ?_
  refine lv_icmp_ne (tgt := 17) hx hb d_Mo_solid_10 (by decide) (fun c10 => ?_) (fun c10 => ?_)
  · skip
    refine lv_iload_n hx hb d_Mo_solid_17 rfl (lv_at hl 0 rfl) ?_
    exact hv_iret hE hr hlocks hI hK (v := wN V k j) (⟨by simp [kn, c10], rfl⟩) (by decide) (by decide) d_Mo_solid_18
  · skip
    refine lv_iconst (v := 0) hx hb d_Mo_solid_13 (by decide) ?_
    refine lv_goto (tgt := 18) hx hb d_Mo_solid_14 (by decide) ?_
    exact hv_iret hE hr hlocks hI hK (v := 0) (⟨by simp [kn, c10], rfl⟩) (by decide) (by decide) d_Mo_solid_18

set_option maxHeartbeats 4000000 in
set_option maxRecDepth 100000 in
theorem c_Mo_isSolid (l : Launch) (hl0 : l.stackTraces = false) (b0 : Nat) (D : va_G) (cA : Nat → ClassId) (f : hv_M) (mo : Nat) (a : Nat → Nat) (th st en ct : Int32) (gd : Bool) (ln bf ac un : Int64) (md : Int32) (V : Wd) (k : Nat) (hmo : f mo = some (moE a th st en ct gd ln bf ac un md)) (hnj : moN mo a) (hA : moA cA f a V) (hk : k < 10200) : hv_Met l y_Mo_isSolid [Cond.code y_Mo_isSolid b_Mo_isSolid 2 (some FieldType.boolean)] (RM 0 0 0) b0 (Fa D cA) D CL [.ref mo, .int (nI k)] f (PV f (some (.int (b2i (isSo V k))))) (NX) := by
  refine hv_Met.of (own := "BoxPackerModel") (by decide) rfl (Nat.le_of_ble_eq_true rfl) ?_
  intro p e s m below meth c hE hml hout hr hlocks hname hK hI ls hl
  have hl : lv_has ls 2 [(0, .ref mo), (1, .int (nI k))] := hl
  obtain ⟨hx, hb, hown, hts, hVK⟩ := id hE
  refine lv_aload_n hx hb d_Mo_isSolid_0 rfl (lv_at hl 0 rfl) ?_
  refine hv_get hE k_Mo hI 1 (by decide) w517 hmo rfl d_Mo_isSolid_1 ?_
  refine lv_iload_n hx hb d_Mo_isSolid_4 rfl (lv_at hl 1 rfl) ?_
  refine hv_iald hE hI 0 hA.1 rfl (pk_in k 10200 (by omega) rfl (by omega)) d_Mo_isSolid_5 ?_
  rw [nI_cl (by omega)]
  refine W.eq (g2 := F0 m 6 ls [.int (wK V k)]) rfl ?_
  refine lv_if_eq (tgt := 29) hx hb d_Mo_isSolid_6 (by decide) (fun c6 => ?_) (fun c6 => ?_)
  · skip
    refine lv_iconst (v := 1) hx hb d_Mo_isSolid_29 (by decide) ?_
    refine lv_goto (tgt := 34) hx hb d_Mo_isSolid_30 (by decide) ?_
    exact hv_zret hE hr hlocks hI hK (v := 1) (by first | rfl | exact b2i_nar _) (⟨by simp [b2i, isSo, c6], rfl⟩) (by decide) (by decide) d_Mo_isSolid_34
  · skip
    refine lv_aload_n hx hb d_Mo_isSolid_9 rfl (lv_at hl 0 rfl) ?_
    refine hv_get hE k_Mo hI 1 (by decide) w517 hmo rfl d_Mo_isSolid_10 ?_
    refine lv_iload_n hx hb d_Mo_isSolid_13 rfl (lv_at hl 1 rfl) ?_
    refine hv_iald hE hI 0 hA.1 rfl (pk_in k 10200 (by omega) rfl (by omega)) d_Mo_isSolid_14 ?_
    rw [nI_cl (by omega)]
    refine W.eq (g2 := F0 m 15 ls [.int (wK V k)]) rfl ?_
    refine lv_iconst (v := 1) hx hb d_Mo_isSolid_15 (by decide) ?_
    refine lv_icmp_eq (tgt := 29) hx hb d_Mo_isSolid_16 (by decide) (fun c16 => ?_) (fun c16 => ?_)
    · skip
      refine lv_iconst (v := 1) hx hb d_Mo_isSolid_29 (by decide) ?_
      refine lv_goto (tgt := 34) hx hb d_Mo_isSolid_30 (by decide) ?_
      exact hv_zret hE hr hlocks hI hK (v := 1) (by first | rfl | exact b2i_nar _) (⟨by simp [b2i, isSo, c6, c16], rfl⟩) (by decide) (by decide) d_Mo_isSolid_34
    · skip
      refine lv_aload_n hx hb d_Mo_isSolid_19 rfl (lv_at hl 0 rfl) ?_
      refine hv_get hE k_Mo hI 1 (by decide) w517 hmo rfl d_Mo_isSolid_20 ?_
      refine lv_iload_n hx hb d_Mo_isSolid_23 rfl (lv_at hl 1 rfl) ?_
      refine hv_iald hE hI 0 hA.1 rfl (pk_in k 10200 (by omega) rfl (by omega)) d_Mo_isSolid_24 ?_
      rw [nI_cl (by omega)]
      refine W.eq (g2 := F0 m 25 ls [.int (wK V k)]) rfl ?_
      refine lv_iconst (v := 4) hx hb d_Mo_isSolid_25 (by decide) ?_
      refine lv_icmp_ne (tgt := 33) hx hb d_Mo_isSolid_26 (by decide) (fun c26 => ?_) (fun c26 => ?_)
      · skip
        refine lv_iconst (v := 0) hx hb d_Mo_isSolid_33 (by decide) ?_
        exact hv_zret hE hr hlocks hI hK (v := 0) (by first | rfl | exact b2i_nar _) (⟨by simp [b2i, isSo, c6, c16, c26], rfl⟩) (by decide) (by decide) d_Mo_isSolid_34
      · skip
        refine lv_iconst (v := 1) hx hb d_Mo_isSolid_29 (by decide) ?_
        refine lv_goto (tgt := 34) hx hb d_Mo_isSolid_30 (by decide) ?_
        exact hv_zret hE hr hlocks hI hK (v := 1) (by first | rfl | exact b2i_nar _) (⟨by simp [b2i, isSo, c6, c16, c26], rfl⟩) (by decide) (by decide) d_Mo_isSolid_34

set_option maxHeartbeats 4000000 in
set_option maxRecDepth 100000 in
theorem c_Mo_sizeOf0 (l : Launch) (hl0 : l.stackTraces = false) (b0 : Nat) (D : va_G) (cA : Nat → ClassId) (f : hv_M) (mo : Nat) (a : Nat → Nat) (th st en ct : Int32) (gd : Bool) (ln bf ac un : Int64) (md : Int32) (V : Wd) (k : Nat) (hmo : f mo = some (moE a th st en ct gd ln bf ac un md)) (hnj : moN mo a) (hA : moA cA f a V) (hk : k < 10200) (hin : ¬ wK V k = 0 → ¬ wK V k = 1 → wI V k < 100 ∧ wN V k 0 = nI (wI V k)) : hv_Met l y_Mo_sizeOf [Cond.code y_Mo_sizeOf b_Mo_sizeOf 4 (some FieldType.int)] (RM 2 0 0) b0 (Fa D cA) D CL [.ref mo, .int (nI k), .int 0] f (PV f (some (.int (szO V k 0)))) (NX) := by
  refine hv_Met.of (own := "BoxPackerModel") (by decide) rfl (Nat.le_of_ble_eq_true rfl) ?_
  intro p e s m below meth c hE hml hout hr hlocks hname hK hI ls hl
  have hl : lv_has ls 4 [(0, .ref mo), (1, .int (nI k)), (2, .int 0)] := hl
  obtain ⟨hx, hb, hown, hts, hVK⟩ := id hE
  refine lv_aload_n hx hb d_Mo_sizeOf_0 rfl (lv_at hl 0 rfl) ?_
  refine hv_get hE k_Mo hI 1 (by decide) w517 hmo rfl d_Mo_sizeOf_1 ?_
  refine lv_iload_n hx hb d_Mo_sizeOf_4 rfl (lv_at hl 1 rfl) ?_
  refine hv_iald hE hI 0 hA.1 rfl (pk_in k 10200 (by omega) rfl (by omega)) d_Mo_sizeOf_5 ?_
  rw [nI_cl (by omega)]
  refine W.eq (g2 := F0 m 6 ls [.int (wK V k)]) rfl ?_
  refine lv_if_ne (tgt := 18) hx hb d_Mo_sizeOf_6 (by decide) (fun c6 => ?_) (fun c6 => ?_)
  · skip
    refine lv_aload_n hx hb d_Mo_sizeOf_18 rfl (lv_at hl 0 rfl) ?_
    refine hv_get hE k_Mo hI 1 (by decide) w517 hmo rfl d_Mo_sizeOf_19 ?_
    refine lv_iload_n hx hb d_Mo_sizeOf_22 rfl (lv_at hl 1 rfl) ?_
    refine hv_iald hE hI 0 hA.1 rfl (pk_in k 10200 (by omega) rfl (by omega)) d_Mo_sizeOf_23 ?_
    rw [nI_cl (by omega)]
    refine W.eq (g2 := F0 m 24 ls [.int (wK V k)]) rfl ?_
    refine lv_iconst (v := 1) hx hb d_Mo_sizeOf_24 (by decide) ?_
    refine lv_icmp_ne (tgt := 35) hx hb d_Mo_sizeOf_25 (by decide) (fun c25 => ?_) (fun c25 => ?_)
    · skip
      refine lv_aload_n hx hb d_Mo_sizeOf_35 rfl (lv_at hl 0 rfl) ?_
      refine lv_iload_n hx hb d_Mo_sizeOf_36 rfl (lv_at hl 1 rfl) ?_
      refine lv_iconst (v := 0) hx hb d_Mo_sizeOf_37 (by decide) ?_
      refine hv_Vp (As := [.int (nI k), .int 0]) (rest := []) hE hml hK hI (c_Mo_number l hl0 b0 D cA f mo a th st en ct gd ln bf ac un md V k 0 hmo hnj hA.2.1 (by omega) (by omega)) cd_Mo_number w664 w666 ws21 hmo rfl rfl rfl rfl hl.1 (Nat.le_of_ble_eq_true rfl) d_Mo_sizeOf_38 ⟨by decide, by decide⟩ ⟨by decide, by decide⟩ (fun H locs hI => ?_)
      refine W.eq (g2 := F0 m 41 ls [.int (wN V k 0)]) rfl ?_
      refine lv_istore_n (lv' := [(3, .int (wN V k 0)), (0, .ref mo), (1, .int (nI k)), (2, .int 0)]) hx hb d_Mo_sizeOf_41 rfl hl (by decide) rfl (fun ls hl => ?_)
      refine lv_iload_n hx hb d_Mo_sizeOf_42 rfl (lv_at hl 3 rfl) ?_
      refine lv_if_ne (tgt := 55) hx hb d_Mo_sizeOf_43 (by decide) (fun c43 => ?_) (fun c43 => ?_)
      · skip
        exact absurd rfl c43
      · skip
        refine lv_aload_n hx hb d_Mo_sizeOf_46 rfl (lv_at hl 1 rfl) ?_
        refine hv_get hE k_Mo hI 8 (by decide) w524 hmo rfl d_Mo_sizeOf_47 ?_
        refine lv_iload_n hx hb d_Mo_sizeOf_50 rfl (lv_at hl 0 rfl) ?_
        refine hv_iald hE hI 0 (hA.2.2.2.2 0 (by decide)) rfl (by rw [(hin c6 c25).2]; exact pk_in _ 100 (hin c6 c25).1 rfl (by omega)) d_Mo_sizeOf_51 ?_
        refine W.eq (g2 := F0 m 52 ls [.int (wA V 0 (wI V k))]) rfl ?_
        refine lv_goto (tgt := 75) hx hb d_Mo_sizeOf_52 (by decide) ?_
        exact hv_iret hE hr hlocks hI hK (v := wA V 0 (wI V k)) (⟨by simp [szO, c6, c25], rfl⟩) (by decide) (by decide) d_Mo_sizeOf_75
    · skip
      refine lv_aload_n hx hb d_Mo_sizeOf_28 rfl (lv_at hl 0 rfl) ?_
      refine lv_iload_n hx hb d_Mo_sizeOf_29 rfl (lv_at hl 1 rfl) ?_
      refine lv_iload_n hx hb d_Mo_sizeOf_30 rfl (lv_at hl 2 rfl) ?_
      refine hv_Vp (As := [.int (nI k), .int 0]) (rest := []) hE hml hK hI (c_Mo_solid l hl0 b0 D cA f mo a th st en ct gd ln bf ac un md V k 0 hmo hnj hA (by omega) (by omega)) cd_Mo_solid w692 w694 ws28 hmo rfl rfl rfl rfl hl.1 (Nat.le_of_ble_eq_true rfl) d_Mo_sizeOf_31 ⟨by decide, by decide⟩ ⟨by decide, by decide⟩ (fun H locs hI => ?_)
      refine W.eq (g2 := F0 m 34 ls [.int (kn (wN V k 0) 0)]) rfl ?_
      exact hv_iret hE hr hlocks hI hK (v := kn (wN V k 0) 0) (⟨by simp [szO, c6, c25], rfl⟩) (by decide) (by decide) d_Mo_sizeOf_34
  · skip
    refine lv_aload_n hx hb d_Mo_sizeOf_9 rfl (lv_at hl 0 rfl) ?_
    refine lv_iload_n hx hb d_Mo_sizeOf_10 rfl (lv_at hl 1 rfl) ?_
    refine lv_iload_n hx hb d_Mo_sizeOf_11 rfl (lv_at hl 2 rfl) ?_
    refine lv_iconst (v := 1) hx hb d_Mo_sizeOf_12 (by decide) ?_
    refine lv_iadd hx hb d_Mo_sizeOf_13 ?_
    refine W.eq (g2 := F0 m 14 ls [.int 1, .int (nI k), .ref mo]) rfl ?_
    refine W.eq (g2 := F0 m 14 ls [.int 1, .int (nI k), .ref mo]) rfl ?_
    refine hv_Vp (As := [.int (nI k), .int 1]) (rest := []) hE hml hK hI (c_Mo_number l hl0 b0 D cA f mo a th st en ct gd ln bf ac un md V k 1 hmo hnj hA.2.1 (by omega) (by omega)) cd_Mo_number w664 w666 ws21 hmo rfl rfl rfl rfl hl.1 (Nat.le_of_ble_eq_true rfl) d_Mo_sizeOf_14 ⟨by decide, by decide⟩ ⟨by decide, by decide⟩ (fun H locs hI => ?_)
    refine W.eq (g2 := F0 m 17 ls [.int (wN V k 1)]) rfl ?_
    exact hv_iret hE hr hlocks hI hK (v := wN V k 1) (⟨by simp [szO, c6], rfl⟩) (by decide) (by decide) d_Mo_sizeOf_17

set_option maxHeartbeats 4000000 in
set_option maxRecDepth 100000 in
theorem c_Mo_sizeOf1 (l : Launch) (hl0 : l.stackTraces = false) (b0 : Nat) (D : va_G) (cA : Nat → ClassId) (f : hv_M) (mo : Nat) (a : Nat → Nat) (th st en ct : Int32) (gd : Bool) (ln bf ac un : Int64) (md : Int32) (V : Wd) (k : Nat) (hmo : f mo = some (moE a th st en ct gd ln bf ac un md)) (hnj : moN mo a) (hA : moA cA f a V) (hk : k < 10200) (hin : ¬ wK V k = 0 → ¬ wK V k = 1 → wI V k < 100 ∧ wN V k 0 = nI (wI V k)) : hv_Met l y_Mo_sizeOf [Cond.code y_Mo_sizeOf b_Mo_sizeOf 4 (some FieldType.int)] (RM 2 0 0) b0 (Fa D cA) D CL [.ref mo, .int (nI k), .int 1] f (PV f (some (.int (szO V k 1)))) (NX) := by
  refine hv_Met.of (own := "BoxPackerModel") (by decide) rfl (Nat.le_of_ble_eq_true rfl) ?_
  intro p e s m below meth c hE hml hout hr hlocks hname hK hI ls hl
  have hl : lv_has ls 4 [(0, .ref mo), (1, .int (nI k)), (2, .int 1)] := hl
  obtain ⟨hx, hb, hown, hts, hVK⟩ := id hE
  refine lv_aload_n hx hb d_Mo_sizeOf_0 rfl (lv_at hl 0 rfl) ?_
  refine hv_get hE k_Mo hI 1 (by decide) w517 hmo rfl d_Mo_sizeOf_1 ?_
  refine lv_iload_n hx hb d_Mo_sizeOf_4 rfl (lv_at hl 1 rfl) ?_
  refine hv_iald hE hI 0 hA.1 rfl (pk_in k 10200 (by omega) rfl (by omega)) d_Mo_sizeOf_5 ?_
  rw [nI_cl (by omega)]
  refine W.eq (g2 := F0 m 6 ls [.int (wK V k)]) rfl ?_
  refine lv_if_ne (tgt := 18) hx hb d_Mo_sizeOf_6 (by decide) (fun c6 => ?_) (fun c6 => ?_)
  · skip
    refine lv_aload_n hx hb d_Mo_sizeOf_18 rfl (lv_at hl 0 rfl) ?_
    refine hv_get hE k_Mo hI 1 (by decide) w517 hmo rfl d_Mo_sizeOf_19 ?_
    refine lv_iload_n hx hb d_Mo_sizeOf_22 rfl (lv_at hl 1 rfl) ?_
    refine hv_iald hE hI 0 hA.1 rfl (pk_in k 10200 (by omega) rfl (by omega)) d_Mo_sizeOf_23 ?_
    rw [nI_cl (by omega)]
    refine W.eq (g2 := F0 m 24 ls [.int (wK V k)]) rfl ?_
    refine lv_iconst (v := 1) hx hb d_Mo_sizeOf_24 (by decide) ?_
    refine lv_icmp_ne (tgt := 35) hx hb d_Mo_sizeOf_25 (by decide) (fun c25 => ?_) (fun c25 => ?_)
    · skip
      refine lv_aload_n hx hb d_Mo_sizeOf_35 rfl (lv_at hl 0 rfl) ?_
      refine lv_iload_n hx hb d_Mo_sizeOf_36 rfl (lv_at hl 1 rfl) ?_
      refine lv_iconst (v := 0) hx hb d_Mo_sizeOf_37 (by decide) ?_
      refine hv_Vp (As := [.int (nI k), .int 0]) (rest := []) hE hml hK hI (c_Mo_number l hl0 b0 D cA f mo a th st en ct gd ln bf ac un md V k 0 hmo hnj hA.2.1 (by omega) (by omega)) cd_Mo_number w664 w666 ws21 hmo rfl rfl rfl rfl hl.1 (Nat.le_of_ble_eq_true rfl) d_Mo_sizeOf_38 ⟨by decide, by decide⟩ ⟨by decide, by decide⟩ (fun H locs hI => ?_)
      refine W.eq (g2 := F0 m 41 ls [.int (wN V k 0)]) rfl ?_
      refine lv_istore_n (lv' := [(3, .int (wN V k 0)), (0, .ref mo), (1, .int (nI k)), (2, .int 1)]) hx hb d_Mo_sizeOf_41 rfl hl (by decide) rfl (fun ls hl => ?_)
      refine lv_iload_n hx hb d_Mo_sizeOf_42 rfl (lv_at hl 3 rfl) ?_
      refine lv_if_ne (tgt := 55) hx hb d_Mo_sizeOf_43 (by decide) (fun c43 => ?_) (fun c43 => ?_)
      · skip
        refine lv_iload_n hx hb d_Mo_sizeOf_55 rfl (lv_at hl 3 rfl) ?_
        refine lv_iconst (v := 1) hx hb d_Mo_sizeOf_56 (by decide) ?_
        refine lv_icmp_ne (tgt := 69) hx hb d_Mo_sizeOf_57 (by decide) (fun c57 => ?_) (fun c57 => ?_)
        · skip
          exact absurd rfl c57
        · skip
          refine lv_aload_n hx hb d_Mo_sizeOf_60 rfl (lv_at hl 1 rfl) ?_
          refine hv_get hE k_Mo hI 9 (by decide) w525 hmo rfl d_Mo_sizeOf_61 ?_
          refine lv_iload_n hx hb d_Mo_sizeOf_64 rfl (lv_at hl 0 rfl) ?_
          refine hv_iald hE hI 0 (hA.2.2.2.2 1 (by decide)) rfl (by rw [(hin c6 c25).2]; exact pk_in _ 100 (hin c6 c25).1 rfl (by omega)) d_Mo_sizeOf_65 ?_
          refine W.eq (g2 := F0 m 66 ls [.int (wA V 1 (wI V k))]) rfl ?_
          refine lv_goto (tgt := 75) hx hb d_Mo_sizeOf_66 (by decide) ?_
          exact hv_iret hE hr hlocks hI hK (v := wA V 1 (wI V k)) (⟨by simp [szO, c6, c25], rfl⟩) (by decide) (by decide) d_Mo_sizeOf_75
      · skip
        exact absurd c43 (by decide)
    · skip
      refine lv_aload_n hx hb d_Mo_sizeOf_28 rfl (lv_at hl 0 rfl) ?_
      refine lv_iload_n hx hb d_Mo_sizeOf_29 rfl (lv_at hl 1 rfl) ?_
      refine lv_iload_n hx hb d_Mo_sizeOf_30 rfl (lv_at hl 2 rfl) ?_
      refine hv_Vp (As := [.int (nI k), .int 1]) (rest := []) hE hml hK hI (c_Mo_solid l hl0 b0 D cA f mo a th st en ct gd ln bf ac un md V k 1 hmo hnj hA (by omega) (by omega)) cd_Mo_solid w692 w694 ws28 hmo rfl rfl rfl rfl hl.1 (Nat.le_of_ble_eq_true rfl) d_Mo_sizeOf_31 ⟨by decide, by decide⟩ ⟨by decide, by decide⟩ (fun H locs hI => ?_)
      refine W.eq (g2 := F0 m 34 ls [.int (kn (wN V k 1) 0)]) rfl ?_
      exact hv_iret hE hr hlocks hI hK (v := kn (wN V k 1) 0) (⟨by simp [szO, c6, c25], rfl⟩) (by decide) (by decide) d_Mo_sizeOf_34
  · skip
    refine lv_aload_n hx hb d_Mo_sizeOf_9 rfl (lv_at hl 0 rfl) ?_
    refine lv_iload_n hx hb d_Mo_sizeOf_10 rfl (lv_at hl 1 rfl) ?_
    refine lv_iload_n hx hb d_Mo_sizeOf_11 rfl (lv_at hl 2 rfl) ?_
    refine lv_iconst (v := 1) hx hb d_Mo_sizeOf_12 (by decide) ?_
    refine lv_iadd hx hb d_Mo_sizeOf_13 ?_
    refine W.eq (g2 := F0 m 14 ls [.int 2, .int (nI k), .ref mo]) rfl ?_
    refine W.eq (g2 := F0 m 14 ls [.int 2, .int (nI k), .ref mo]) rfl ?_
    refine hv_Vp (As := [.int (nI k), .int 2]) (rest := []) hE hml hK hI (c_Mo_number l hl0 b0 D cA f mo a th st en ct gd ln bf ac un md V k 2 hmo hnj hA.2.1 (by omega) (by omega)) cd_Mo_number w664 w666 ws21 hmo rfl rfl rfl rfl hl.1 (Nat.le_of_ble_eq_true rfl) d_Mo_sizeOf_14 ⟨by decide, by decide⟩ ⟨by decide, by decide⟩ (fun H locs hI => ?_)
    refine W.eq (g2 := F0 m 17 ls [.int (wN V k 2)]) rfl ?_
    exact hv_iret hE hr hlocks hI hK (v := wN V k 2) (⟨by simp [szO, c6], rfl⟩) (by decide) (by decide) d_Mo_sizeOf_17

set_option maxHeartbeats 4000000 in
set_option maxRecDepth 100000 in
theorem c_Mo_sizeOf2 (l : Launch) (hl0 : l.stackTraces = false) (b0 : Nat) (D : va_G) (cA : Nat → ClassId) (f : hv_M) (mo : Nat) (a : Nat → Nat) (th st en ct : Int32) (gd : Bool) (ln bf ac un : Int64) (md : Int32) (V : Wd) (k : Nat) (hmo : f mo = some (moE a th st en ct gd ln bf ac un md)) (hnj : moN mo a) (hA : moA cA f a V) (hk : k < 10200) (hin : ¬ wK V k = 0 → ¬ wK V k = 1 → wI V k < 100 ∧ wN V k 0 = nI (wI V k)) : hv_Met l y_Mo_sizeOf [Cond.code y_Mo_sizeOf b_Mo_sizeOf 4 (some FieldType.int)] (RM 2 0 0) b0 (Fa D cA) D CL [.ref mo, .int (nI k), .int 2] f (PV f (some (.int (szO V k 2)))) (NX) := by
  refine hv_Met.of (own := "BoxPackerModel") (by decide) rfl (Nat.le_of_ble_eq_true rfl) ?_
  intro p e s m below meth c hE hml hout hr hlocks hname hK hI ls hl
  have hl : lv_has ls 4 [(0, .ref mo), (1, .int (nI k)), (2, .int 2)] := hl
  obtain ⟨hx, hb, hown, hts, hVK⟩ := id hE
  refine lv_aload_n hx hb d_Mo_sizeOf_0 rfl (lv_at hl 0 rfl) ?_
  refine hv_get hE k_Mo hI 1 (by decide) w517 hmo rfl d_Mo_sizeOf_1 ?_
  refine lv_iload_n hx hb d_Mo_sizeOf_4 rfl (lv_at hl 1 rfl) ?_
  refine hv_iald hE hI 0 hA.1 rfl (pk_in k 10200 (by omega) rfl (by omega)) d_Mo_sizeOf_5 ?_
  rw [nI_cl (by omega)]
  refine W.eq (g2 := F0 m 6 ls [.int (wK V k)]) rfl ?_
  refine lv_if_ne (tgt := 18) hx hb d_Mo_sizeOf_6 (by decide) (fun c6 => ?_) (fun c6 => ?_)
  · skip
    refine lv_aload_n hx hb d_Mo_sizeOf_18 rfl (lv_at hl 0 rfl) ?_
    refine hv_get hE k_Mo hI 1 (by decide) w517 hmo rfl d_Mo_sizeOf_19 ?_
    refine lv_iload_n hx hb d_Mo_sizeOf_22 rfl (lv_at hl 1 rfl) ?_
    refine hv_iald hE hI 0 hA.1 rfl (pk_in k 10200 (by omega) rfl (by omega)) d_Mo_sizeOf_23 ?_
    rw [nI_cl (by omega)]
    refine W.eq (g2 := F0 m 24 ls [.int (wK V k)]) rfl ?_
    refine lv_iconst (v := 1) hx hb d_Mo_sizeOf_24 (by decide) ?_
    refine lv_icmp_ne (tgt := 35) hx hb d_Mo_sizeOf_25 (by decide) (fun c25 => ?_) (fun c25 => ?_)
    · skip
      refine lv_aload_n hx hb d_Mo_sizeOf_35 rfl (lv_at hl 0 rfl) ?_
      refine lv_iload_n hx hb d_Mo_sizeOf_36 rfl (lv_at hl 1 rfl) ?_
      refine lv_iconst (v := 0) hx hb d_Mo_sizeOf_37 (by decide) ?_
      refine hv_Vp (As := [.int (nI k), .int 0]) (rest := []) hE hml hK hI (c_Mo_number l hl0 b0 D cA f mo a th st en ct gd ln bf ac un md V k 0 hmo hnj hA.2.1 (by omega) (by omega)) cd_Mo_number w664 w666 ws21 hmo rfl rfl rfl rfl hl.1 (Nat.le_of_ble_eq_true rfl) d_Mo_sizeOf_38 ⟨by decide, by decide⟩ ⟨by decide, by decide⟩ (fun H locs hI => ?_)
      refine W.eq (g2 := F0 m 41 ls [.int (wN V k 0)]) rfl ?_
      refine lv_istore_n (lv' := [(3, .int (wN V k 0)), (0, .ref mo), (1, .int (nI k)), (2, .int 2)]) hx hb d_Mo_sizeOf_41 rfl hl (by decide) rfl (fun ls hl => ?_)
      refine lv_iload_n hx hb d_Mo_sizeOf_42 rfl (lv_at hl 3 rfl) ?_
      refine lv_if_ne (tgt := 55) hx hb d_Mo_sizeOf_43 (by decide) (fun c43 => ?_) (fun c43 => ?_)
      · skip
        refine lv_iload_n hx hb d_Mo_sizeOf_55 rfl (lv_at hl 3 rfl) ?_
        refine lv_iconst (v := 1) hx hb d_Mo_sizeOf_56 (by decide) ?_
        refine lv_icmp_ne (tgt := 69) hx hb d_Mo_sizeOf_57 (by decide) (fun c57 => ?_) (fun c57 => ?_)
        · skip
          refine lv_aload_n hx hb d_Mo_sizeOf_69 rfl (lv_at hl 1 rfl) ?_
          refine hv_get hE k_Mo hI 10 (by decide) w526 hmo rfl d_Mo_sizeOf_70 ?_
          refine lv_iload_n hx hb d_Mo_sizeOf_73 rfl (lv_at hl 0 rfl) ?_
          refine hv_iald hE hI 0 (hA.2.2.2.2 2 (by decide)) rfl (by rw [(hin c6 c25).2]; exact pk_in _ 100 (hin c6 c25).1 rfl (by omega)) d_Mo_sizeOf_74 ?_
          refine W.eq (g2 := F0 m 75 ls [.int (wA V 2 (wI V k))]) rfl ?_
          exact hv_iret hE hr hlocks hI hK (v := wA V 2 (wI V k)) (⟨by simp [szO, c6, c25], rfl⟩) (by decide) (by decide) d_Mo_sizeOf_75
        · skip
          exact absurd c57 (by decide)
      · skip
        exact absurd c43 (by decide)
    · skip
      refine lv_aload_n hx hb d_Mo_sizeOf_28 rfl (lv_at hl 0 rfl) ?_
      refine lv_iload_n hx hb d_Mo_sizeOf_29 rfl (lv_at hl 1 rfl) ?_
      refine lv_iload_n hx hb d_Mo_sizeOf_30 rfl (lv_at hl 2 rfl) ?_
      refine hv_Vp (As := [.int (nI k), .int 2]) (rest := []) hE hml hK hI (c_Mo_solid l hl0 b0 D cA f mo a th st en ct gd ln bf ac un md V k 2 hmo hnj hA (by omega) (by omega)) cd_Mo_solid w692 w694 ws28 hmo rfl rfl rfl rfl hl.1 (Nat.le_of_ble_eq_true rfl) d_Mo_sizeOf_31 ⟨by decide, by decide⟩ ⟨by decide, by decide⟩ (fun H locs hI => ?_)
      refine W.eq (g2 := F0 m 34 ls [.int (kn (wN V k 2) 0)]) rfl ?_
      exact hv_iret hE hr hlocks hI hK (v := kn (wN V k 2) 0) (⟨by simp [szO, c6, c25], rfl⟩) (by decide) (by decide) d_Mo_sizeOf_34
  · skip
    refine lv_aload_n hx hb d_Mo_sizeOf_9 rfl (lv_at hl 0 rfl) ?_
    refine lv_iload_n hx hb d_Mo_sizeOf_10 rfl (lv_at hl 1 rfl) ?_
    refine lv_iload_n hx hb d_Mo_sizeOf_11 rfl (lv_at hl 2 rfl) ?_
    refine lv_iconst (v := 1) hx hb d_Mo_sizeOf_12 (by decide) ?_
    refine lv_iadd hx hb d_Mo_sizeOf_13 ?_
    refine W.eq (g2 := F0 m 14 ls [.int 3, .int (nI k), .ref mo]) rfl ?_
    refine W.eq (g2 := F0 m 14 ls [.int 3, .int (nI k), .ref mo]) rfl ?_
    refine hv_Vp (As := [.int (nI k), .int 3]) (rest := []) hE hml hK hI (c_Mo_number l hl0 b0 D cA f mo a th st en ct gd ln bf ac un md V k 3 hmo hnj hA.2.1 (by omega) (by omega)) cd_Mo_number w664 w666 ws21 hmo rfl rfl rfl rfl hl.1 (Nat.le_of_ble_eq_true rfl) d_Mo_sizeOf_14 ⟨by decide, by decide⟩ ⟨by decide, by decide⟩ (fun H locs hI => ?_)
    refine W.eq (g2 := F0 m 17 ls [.int (wN V k 3)]) rfl ?_
    exact hv_iret hE hr hlocks hI hK (v := wN V k 3) (⟨by simp [szO, c6], rfl⟩) (by decide) (by decide) d_Mo_sizeOf_17

set_option maxHeartbeats 4000000 in
set_option maxRecDepth 100000 in
theorem c_Mo_grow (l : Launch) (hl0 : l.stackTraces = false) (b0 : Nat) (D : va_G) (cA : Nat → ClassId) (f : hv_M) (mo : Nat) (a : Nat → Nat) (th st en ct : Int32) (gd : Bool) (ln bf ac un : Int64) (md : Int32) (by9 : Int64) (hmo : f mo = some (moE a th st en ct gd ln bf ac un md)) (hnj : moN mo a) : hv_Met l y_Mo_grow [Cond.code y_Mo_grow b_Mo_grow 3 none] (RM 1 0 0) b0 (Fa D cA) D CL [.ref mo, .long by9] f (fun v g => v = none ∧ g mo = some (moE a th st en ct (gd && sz (ln + by9)) (ln + by9) bf ac un md) ∧ ∀ z, z ≠ mo → g z = f z) (NX) := by
  refine hv_Met.of (own := "BoxPackerModel") (by decide) rfl (Nat.le_of_ble_eq_true rfl) ?_
  intro p e s m below meth c hE hml hout hr hlocks hname hK hI ls hl
  have hl : lv_has ls 3 [(0, .ref mo), (1, .long by9)] := hl
  obtain ⟨hx, hb, hown, hts, hVK⟩ := id hE
  refine lv_aload_n hx hb d_Mo_grow_0 rfl (lv_at hl 0 rfl) ?_
  refine lv_aload_n hx hb d_Mo_grow_1 rfl (lv_at hl 0 rfl) ?_
  refine hv_get hE k_Mo hI 19 (by decide) w535 hmo rfl d_Mo_grow_2 ?_
  refine lv_lload_n hx hb d_Mo_grow_5 rfl (lv_at hl 1 rfl) ?_
  refine lv_ladd hx hb d_Mo_grow_6 ?_
  refine hv_put hE k_Mo hI 19 (by decide) w535 hmo rfl rfl rfl (Nat.le_of_ble_eq_true rfl) d_Mo_grow_7 (fun H locs hI => ?_)
  obtain ⟨g1, eg1⟩ : ∃ z : hv_M, z = hv_up f mo (moE a th st en ct gd (ln + by9) bf ac un md) := ⟨_, rfl⟩
  have hI : hv_I D CL b0 g1 s.heap H locs := by rw [eg1]; exact hI
  have hq2 : g1 mo = some (moE a th st en ct gd (ln + by9) bf ac un md) := by rw [eg1]; exact hv_up_self _ _ _
  refine lv_aload_n hx hb d_Mo_grow_10 rfl (lv_at hl 0 rfl) ?_
  refine lv_aload_n hx hb d_Mo_grow_11 rfl (lv_at hl 0 rfl) ?_
  refine hv_get hE k_Mo hI 18 (by decide) w534 hq2 rfl d_Mo_grow_12 ?_
  refine lv_if_eq (tgt := 32) hx hb d_Mo_grow_15 (by decide) (fun c15 => ?_) (fun c15 => ?_)
  · skip
    have k15 := b2i_f c15
    refine lv_iconst (v := 0) hx hb d_Mo_grow_32 (by decide) ?_
    refine hv_put hE k_Mo hI 18 (by decide) w534 hq2 rfl rfl rfl (Nat.le_of_ble_eq_true rfl) d_Mo_grow_33 (fun H locs hI => ?_)
    obtain ⟨g3, eg3⟩ : ∃ z : hv_M, z = hv_up g1 mo (moE a th st en ct false (ln + by9) bf ac un md) := ⟨_, rfl⟩
    have hI : hv_I D CL b0 g3 s.heap H locs := by rw [eg3]; exact hI
    have hq4 : g3 mo = some (moE a th st en ct false (ln + by9) bf ac un md) := by rw [eg3]; exact hv_up_self _ _ _
    exact hv_vret hE hr hlocks hI hK ((show _ ∧ _ ∧ _ by rw [show (gd && sz (ln + by9)) = false from by simp [k15]]; exact ⟨rfl, hq4, fun z z1 => by rw [eg3, hv_up_ne _ _ z1, eg1, hv_up_ne _ _ z1]⟩)) (by decide) (by decide) d_Mo_grow_36
  · skip
    have k15 := b2i_t c15
    refine lv_aload_n hx hb d_Mo_grow_18 rfl (lv_at hl 0 rfl) ?_
    refine hv_get hE k_Mo hI 19 (by decide) w535 hq2 rfl d_Mo_grow_19 ?_
    refine hv_Sp (As := [.long (ln + by9)]) (rest := [.ref mo]) hE hml hK hI (c_Mo_isSize l hl0 b0 D cA g1 (ln + by9)) cd_Mo_isSize w608 w609 rfl rfl rfl hl.1 (Nat.le_of_ble_eq_true rfl) d_Mo_grow_22 ⟨by decide, by decide⟩ ⟨by decide, by decide⟩ (fun H locs hI => ?_)
    refine W.eq (g2 := F0 m 25 ls [.int (b2i (sz (ln + by9))), .ref mo]) rfl ?_
    refine lv_if_eq (tgt := 32) hx hb d_Mo_grow_25 (by decide) (fun c25 => ?_) (fun c25 => ?_)
    · skip
      have k25 := b2i_f c25
      refine lv_iconst (v := 0) hx hb d_Mo_grow_32 (by decide) ?_
      refine hv_put hE k_Mo hI 18 (by decide) w534 hq2 rfl rfl rfl (Nat.le_of_ble_eq_true rfl) d_Mo_grow_33 (fun H locs hI => ?_)
      obtain ⟨g5, eg5⟩ : ∃ z : hv_M, z = hv_up g1 mo (moE a th st en ct false (ln + by9) bf ac un md) := ⟨_, rfl⟩
      have hI : hv_I D CL b0 g5 s.heap H locs := by rw [eg5]; exact hI
      have hq6 : g5 mo = some (moE a th st en ct false (ln + by9) bf ac un md) := by rw [eg5]; exact hv_up_self _ _ _
      exact hv_vret hE hr hlocks hI hK ((show _ ∧ _ ∧ _ by rw [show (gd && sz (ln + by9)) = false from by simp [k15, k25]]; exact ⟨rfl, hq6, fun z z1 => by rw [eg5, hv_up_ne _ _ z1, eg1, hv_up_ne _ _ z1]⟩)) (by decide) (by decide) d_Mo_grow_36
    · skip
      have k25 := b2i_t c25
      refine lv_iconst (v := 1) hx hb d_Mo_grow_28 (by decide) ?_
      refine lv_goto (tgt := 33) hx hb d_Mo_grow_29 (by decide) ?_
      refine hv_put hE k_Mo hI 18 (by decide) w534 hq2 rfl rfl rfl (Nat.le_of_ble_eq_true rfl) d_Mo_grow_33 (fun H locs hI => ?_)
      obtain ⟨g7, eg7⟩ : ∃ z : hv_M, z = hv_up g1 mo (moE a th st en ct true (ln + by9) bf ac un md) := ⟨_, rfl⟩
      have hI : hv_I D CL b0 g7 s.heap H locs := by rw [eg7]; exact hI
      have hq8 : g7 mo = some (moE a th st en ct true (ln + by9) bf ac un md) := by rw [eg7]; exact hv_up_self _ _ _
      exact hv_vret hE hr hlocks hI hK ((show _ ∧ _ ∧ _ by rw [show (gd && sz (ln + by9)) = true from by simp [k15, k25]]; exact ⟨rfl, hq8, fun z z1 => by rw [eg7, hv_up_ne _ _ z1, eg1, hv_up_ne _ _ z1]⟩)) (by decide) (by decide) d_Mo_grow_36

set_option maxHeartbeats 4000000 in
set_option maxRecDepth 100000 in
theorem c_Mo_greater (l : Launch) (hl0 : l.stackTraces = false) (b0 : Nat) (D : va_G) (cA : Nat → ClassId) (f : hv_M) (mo : Nat) (a : Nat → Nat) (th st en ct : Int32) (gd : Bool) (ln bf ac un : Int64) (md : Int32) (x y : Int64) (hmo : f mo = some (moE a th st en ct gd ln bf ac un md)) (hnj : moN mo a) : hv_Met l y_Mo_greater [Cond.code y_Mo_greater b_Mo_greater 5 (some FieldType.long)] (RM 1 0 0) b0 (Fa D cA) D CL [.ref mo, .long x, .long y] f (fun v g => v = some (.long (gtr x y)) ∧ g mo = some (moE a th st en ct (gd && sz y) ln bf ac un md) ∧ ∀ z, z ≠ mo → g z = f z) (NX) := by
  refine hv_Met.of (own := "BoxPackerModel") (by decide) rfl (Nat.le_of_ble_eq_true rfl) ?_
  intro p e s m below meth c hE hml hout hr hlocks hname hK hI ls hl
  have hl : lv_has ls 5 [(0, .ref mo), (1, .long x), (3, .long y)] := hl
  obtain ⟨hx, hb, hown, hts, hVK⟩ := id hE
  refine lv_aload_n hx hb d_Mo_greater_0 rfl (lv_at hl 0 rfl) ?_
  refine lv_aload_n hx hb d_Mo_greater_1 rfl (lv_at hl 0 rfl) ?_
  refine hv_get hE k_Mo hI 18 (by decide) w534 hmo rfl d_Mo_greater_2 ?_
  refine lv_if_eq (tgt := 19) hx hb d_Mo_greater_5 (by decide) (fun c5 => ?_) (fun c5 => ?_)
  · skip
    have k5 := b2i_f c5
    refine lv_iconst (v := 0) hx hb d_Mo_greater_19 (by decide) ?_
    refine hv_put hE k_Mo hI 18 (by decide) w534 hmo rfl rfl rfl (Nat.le_of_ble_eq_true rfl) d_Mo_greater_20 (fun H locs hI => ?_)
    obtain ⟨g1, eg1⟩ : ∃ z : hv_M, z = hv_up f mo (moE a th st en ct false ln bf ac un md) := ⟨_, rfl⟩
    have hI : hv_I D CL b0 g1 s.heap H locs := by rw [eg1]; exact hI
    have hq2 : g1 mo = some (moE a th st en ct false ln bf ac un md) := by rw [eg1]; exact hv_up_self _ _ _
    refine lv_lload_n hx hb d_Mo_greater_23 rfl (lv_at hl 2 rfl) ?_
    refine lv_lload_n hx hb d_Mo_greater_24 rfl (lv_at hl 1 rfl) ?_
    refine W.lcmp hx hb d_Mo_greater_25 ?_
    refine lv_if_le (tgt := 33) hx hb d_Mo_greater_26 (by decide) (fun c26 => ?_) (fun c26 => ?_)
    · skip
      have m26 := (lg_cmp_le _ _).mp c26
      have n26 := Int64.not_lt.mpr m26
      refine lv_lload_n hx hb d_Mo_greater_33 rfl (lv_at hl 1 rfl) ?_
      exact hv_lret hE hr hlocks hI hK (v := x) ((show _ ∧ _ ∧ _ by rw [show (gd && sz y) = false from by simp [k5]]; exact ⟨by rw [gtr, if_neg n26], hq2, fun z z1 => by rw [eg1, hv_up_ne _ _ z1]⟩)) (by decide) (by decide) d_Mo_greater_34
    · skip
      have m26 : ¬ _ := fun q => c26 ((lg_cmp_le _ _).mpr q)
      have n26 := Int64.not_le.mp m26
      refine lv_lload_n hx hb d_Mo_greater_29 rfl (lv_at hl 2 rfl) ?_
      refine lv_goto (tgt := 34) hx hb d_Mo_greater_30 (by decide) ?_
      exact hv_lret hE hr hlocks hI hK (v := y) ((show _ ∧ _ ∧ _ by rw [show (gd && sz y) = false from by simp [k5]]; exact ⟨by rw [gtr, if_pos n26], hq2, fun z z1 => by rw [eg1, hv_up_ne _ _ z1]⟩)) (by decide) (by decide) d_Mo_greater_34
  · skip
    have k5 := b2i_t c5
    refine lv_lload_n hx hb d_Mo_greater_8 rfl (lv_at hl 2 rfl) ?_
    refine hv_Sp (As := [.long y]) (rest := [.ref mo]) hE hml hK hI (c_Mo_isSize l hl0 b0 D cA f y) cd_Mo_isSize w608 w609 rfl rfl rfl hl.1 (Nat.le_of_ble_eq_true rfl) d_Mo_greater_9 ⟨by decide, by decide⟩ ⟨by decide, by decide⟩ (fun H locs hI => ?_)
    refine W.eq (g2 := F0 m 12 ls [.int (b2i (sz y)), .ref mo]) rfl ?_
    refine lv_if_eq (tgt := 19) hx hb d_Mo_greater_12 (by decide) (fun c12 => ?_) (fun c12 => ?_)
    · skip
      have k12 := b2i_f c12
      refine lv_iconst (v := 0) hx hb d_Mo_greater_19 (by decide) ?_
      refine hv_put hE k_Mo hI 18 (by decide) w534 hmo rfl rfl rfl (Nat.le_of_ble_eq_true rfl) d_Mo_greater_20 (fun H locs hI => ?_)
      obtain ⟨g3, eg3⟩ : ∃ z : hv_M, z = hv_up f mo (moE a th st en ct false ln bf ac un md) := ⟨_, rfl⟩
      have hI : hv_I D CL b0 g3 s.heap H locs := by rw [eg3]; exact hI
      have hq4 : g3 mo = some (moE a th st en ct false ln bf ac un md) := by rw [eg3]; exact hv_up_self _ _ _
      refine lv_lload_n hx hb d_Mo_greater_23 rfl (lv_at hl 2 rfl) ?_
      refine lv_lload_n hx hb d_Mo_greater_24 rfl (lv_at hl 1 rfl) ?_
      refine W.lcmp hx hb d_Mo_greater_25 ?_
      refine lv_if_le (tgt := 33) hx hb d_Mo_greater_26 (by decide) (fun c26 => ?_) (fun c26 => ?_)
      · skip
        have m26 := (lg_cmp_le _ _).mp c26
        have n26 := Int64.not_lt.mpr m26
        refine lv_lload_n hx hb d_Mo_greater_33 rfl (lv_at hl 1 rfl) ?_
        exact hv_lret hE hr hlocks hI hK (v := x) ((show _ ∧ _ ∧ _ by rw [show (gd && sz y) = false from by simp [k5, k12]]; exact ⟨by rw [gtr, if_neg n26], hq4, fun z z1 => by rw [eg3, hv_up_ne _ _ z1]⟩)) (by decide) (by decide) d_Mo_greater_34
      · skip
        have m26 : ¬ _ := fun q => c26 ((lg_cmp_le _ _).mpr q)
        have n26 := Int64.not_le.mp m26
        refine lv_lload_n hx hb d_Mo_greater_29 rfl (lv_at hl 2 rfl) ?_
        refine lv_goto (tgt := 34) hx hb d_Mo_greater_30 (by decide) ?_
        exact hv_lret hE hr hlocks hI hK (v := y) ((show _ ∧ _ ∧ _ by rw [show (gd && sz y) = false from by simp [k5, k12]]; exact ⟨by rw [gtr, if_pos n26], hq4, fun z z1 => by rw [eg3, hv_up_ne _ _ z1]⟩)) (by decide) (by decide) d_Mo_greater_34
    · skip
      have k12 := b2i_t c12
      refine lv_iconst (v := 1) hx hb d_Mo_greater_15 (by decide) ?_
      refine lv_goto (tgt := 20) hx hb d_Mo_greater_16 (by decide) ?_
      refine hv_put hE k_Mo hI 18 (by decide) w534 hmo rfl rfl rfl (Nat.le_of_ble_eq_true rfl) d_Mo_greater_20 (fun H locs hI => ?_)
      obtain ⟨g5, eg5⟩ : ∃ z : hv_M, z = hv_up f mo (moE a th st en ct true ln bf ac un md) := ⟨_, rfl⟩
      have hI : hv_I D CL b0 g5 s.heap H locs := by rw [eg5]; exact hI
      have hq6 : g5 mo = some (moE a th st en ct true ln bf ac un md) := by rw [eg5]; exact hv_up_self _ _ _
      refine lv_lload_n hx hb d_Mo_greater_23 rfl (lv_at hl 2 rfl) ?_
      refine lv_lload_n hx hb d_Mo_greater_24 rfl (lv_at hl 1 rfl) ?_
      refine W.lcmp hx hb d_Mo_greater_25 ?_
      refine lv_if_le (tgt := 33) hx hb d_Mo_greater_26 (by decide) (fun c26 => ?_) (fun c26 => ?_)
      · skip
        have m26 := (lg_cmp_le _ _).mp c26
        have n26 := Int64.not_lt.mpr m26
        refine lv_lload_n hx hb d_Mo_greater_33 rfl (lv_at hl 1 rfl) ?_
        exact hv_lret hE hr hlocks hI hK (v := x) ((show _ ∧ _ ∧ _ by rw [show (gd && sz y) = true from by simp [k5, k12]]; exact ⟨by rw [gtr, if_neg n26], hq6, fun z z1 => by rw [eg5, hv_up_ne _ _ z1]⟩)) (by decide) (by decide) d_Mo_greater_34
      · skip
        have m26 : ¬ _ := fun q => c26 ((lg_cmp_le _ _).mpr q)
        have n26 := Int64.not_le.mp m26
        refine lv_lload_n hx hb d_Mo_greater_29 rfl (lv_at hl 2 rfl) ?_
        refine lv_goto (tgt := 34) hx hb d_Mo_greater_30 (by decide) ?_
        exact hv_lret hE hr hlocks hI hK (v := y) ((show _ ∧ _ ∧ _ by rw [show (gd && sz y) = true from by simp [k5, k12]]; exact ⟨by rw [gtr, if_pos n26], hq6, fun z z1 => by rw [eg5, hv_up_ne _ _ z1]⟩)) (by decide) (by decide) d_Mo_greater_34

