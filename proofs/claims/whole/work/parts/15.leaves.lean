set_option maxHeartbeats 4000000 in
set_option maxRecDepth 100000 in
/-- isSize -/
theorem c_BP_isSize (l : Launch) (hl0 : l.stackTraces = false) (b0 : Nat) (D : va_G) (cA : Nat → ClassId) (f : hv_M) (x : Int64)  : hv_Met l y_BP_isSize [Cond.code y_BP_isSize b_BP_isSize 2 (some FieldType.boolean)] (RM 0 0 0) b0 (Fa D cA) D CL [.long x] f (PV f (some (.int (b2i (sz x))))) (NX) := by
  refine hv_Met.of (own := "BoxPacker") (by decide) rfl (Nat.le_of_ble_eq_true rfl) ?_
  intro p e s m below meth c hE hml hout hr hlocks hname hK hI ls hl
  have hl : lv_has ls 2 [(0, .long x)] := hl
  obtain ⟨hx, hb, hown, hts, hVK⟩ := id hE
  refine lv_lload_n hx hb d_BP_isSize_0 rfl (lv_at hl 0 rfl) ?_
  refine lv_ldc2 (v := (-1073741823)) hx hb hown (hts _ w154) d_BP_isSize_1 ?_
  refine W.lcmp hx hb d_BP_isSize_4 ?_
  refine lv_if_lt (tgt := 20) hx hb d_BP_isSize_5 (by decide) (fun c5 => ?_) (fun c5 => ?_)
  · skip
    refine lv_iconst (v := 0) hx hb d_BP_isSize_20 (by decide) ?_
    exact hv_zret hE hr hlocks hI hK (v := 0) (by first | rfl | exact b2i_nar _) (⟨by simp only [lg_cmp_lt, lg_cmp_gt, lg_cmp_le, lg_cmp_ge] at c5; first | (simp [b2i, sz, *]; done) | (simp [b2i, sz, *]; intro h9; exact absurd h9 (Int64.not_le.mpr (by assumption))), rfl⟩) (by decide) (by decide) d_BP_isSize_21
  · skip
    refine lv_lload_n hx hb d_BP_isSize_8 rfl (lv_at hl 0 rfl) ?_
    refine lv_ldc2 (v := 1073741823) hx hb hown (hts _ w155) d_BP_isSize_9 ?_
    refine W.lcmp hx hb d_BP_isSize_12 ?_
    refine lv_if_gt (tgt := 20) hx hb d_BP_isSize_13 (by decide) (fun c13 => ?_) (fun c13 => ?_)
    · skip
      refine lv_iconst (v := 0) hx hb d_BP_isSize_20 (by decide) ?_
      exact hv_zret hE hr hlocks hI hK (v := 0) (by first | rfl | exact b2i_nar _) (⟨by simp only [lg_cmp_lt, lg_cmp_gt, lg_cmp_le, lg_cmp_ge] at c5 c13; first | (simp [b2i, sz, *]; done) | (simp [b2i, sz, *]; intro h9; exact absurd h9 (Int64.not_le.mpr (by assumption))), rfl⟩) (by decide) (by decide) d_BP_isSize_21
    · skip
      refine lv_iconst (v := 1) hx hb d_BP_isSize_16 (by decide) ?_
      refine lv_goto (tgt := 21) hx hb d_BP_isSize_17 (by decide) ?_
      exact hv_zret hE hr hlocks hI hK (v := 1) (by first | rfl | exact b2i_nar _) (⟨by simp only [lg_cmp_lt, lg_cmp_gt, lg_cmp_le, lg_cmp_ge] at c5 c13; first | (simp [b2i, sz, *]; done) | (simp [b2i, sz, *]; intro h9; exact absurd h9 (Int64.not_le.mpr (by assumption))), rfl⟩) (by decide) (by decide) d_BP_isSize_21

set_option maxHeartbeats 4000000 in
set_option maxRecDepth 100000 in
/-- isSizeOrRunning -/
theorem c_BP_isSizeOrRunning (l : Launch) (hl0 : l.stackTraces = false) (b0 : Nat) (D : va_G) (cA : Nat → ClassId) (f : hv_M) (x : Int32)  : hv_Met l y_BP_isSizeOrRunning [Cond.code y_BP_isSizeOrRunning b_BP_isSizeOrRunning 1 (some FieldType.boolean)] (RM 1 0 0) b0 (Fa D cA) D CL [.int x] f (PV f (some (.int (b2i (szr x))))) (NX) := by
  refine hv_Met.of (own := "BoxPacker") (by decide) rfl (Nat.le_of_ble_eq_true rfl) ?_
  intro p e s m below meth c hE hml hout hr hlocks hname hK hI ls hl
  have hl : lv_has ls 1 [(0, .int x)] := hl
  obtain ⟨hx, hb, hown, hts, hVK⟩ := id hE
  refine lv_iload_n hx hb d_BP_isSizeOrRunning_0 rfl (lv_at hl 0 rfl) ?_
  refine lv_ldc (v := (-1073741824)) hx hb hown (hts _ w226) d_BP_isSizeOrRunning_1 ?_
  refine lv_icmp_eq (tgt := 14) hx hb d_BP_isSizeOrRunning_3 (by decide) (fun c3 => ?_) (fun c3 => ?_)
  · skip
    refine lv_iconst (v := 1) hx hb d_BP_isSizeOrRunning_14 (by decide) ?_
    refine lv_goto (tgt := 19) hx hb d_BP_isSizeOrRunning_15 (by decide) ?_
    exact hv_zret hE hr hlocks hI hK (v := 1) (by first | rfl | exact b2i_nar _) (⟨by simp [b2i, szr, *], rfl⟩) (by decide) (by decide) d_BP_isSizeOrRunning_19
  · skip
    refine lv_iload_n hx hb d_BP_isSizeOrRunning_6 rfl (lv_at hl 0 rfl) ?_
    refine lv_i2l (v := x.toInt64) hx hb d_BP_isSizeOrRunning_7 rfl ?_
    refine hv_Sp (As := [.long x.toInt64]) (rest := []) hE hml hK hI (c_BP_isSize l hl0 b0 D cA f x.toInt64) cd_BP_isSize w151 w152 rfl rfl rfl hl.1 (Nat.le_of_ble_eq_true rfl) d_BP_isSizeOrRunning_8 ⟨by decide, by decide⟩ ⟨by decide, by decide⟩ (fun H locs hI => ?_)
    refine W.eq (g2 := F0 m 11 ls [.int (b2i (sz x.toInt64))]) rfl ?_
    refine lv_if_eq (tgt := 18) hx hb d_BP_isSizeOrRunning_11 (by decide) (fun c11 => ?_) (fun c11 => ?_)
    · skip
      refine lv_iconst (v := 0) hx hb d_BP_isSizeOrRunning_18 (by decide) ?_
      exact hv_zret hE hr hlocks hI hK (v := 0) (by first | rfl | exact b2i_nar _) (⟨by have q11 := c11; simp only [b2i_ne] at q11; simp [b2i, szr, *], rfl⟩) (by decide) (by decide) d_BP_isSizeOrRunning_19
    · skip
      refine lv_iconst (v := 1) hx hb d_BP_isSizeOrRunning_14 (by decide) ?_
      refine lv_goto (tgt := 19) hx hb d_BP_isSizeOrRunning_15 (by decide) ?_
      exact hv_zret hE hr hlocks hI hK (v := 1) (by first | rfl | exact b2i_nar _) (⟨by have q11 := c11; simp only [b2i_ne] at q11; simp [b2i, szr, *], rfl⟩) (by decide) (by decide) d_BP_isSizeOrRunning_19

set_option maxHeartbeats 4000000 in
set_option maxRecDepth 100000 in
/-- isOrder -/
theorem c_BP_isOrder (l : Launch) (hl0 : l.stackTraces = false) (b0 : Nat) (D : va_G) (cA : Nat → ClassId) (f : hv_M) (x : Int32)  : hv_Met l y_BP_isOrder [Cond.code y_BP_isOrder b_BP_isOrder 1 (some FieldType.boolean)] (RM 0 0 0) b0 (Fa D cA) D CL [.int x] f (PV f (some (.int (b2i (ord4 x))))) (NX) := by
  refine hv_Met.of (own := "BoxPacker") (by decide) rfl (Nat.le_of_ble_eq_true rfl) ?_
  intro p e s m below meth c hE hml hout hr hlocks hname hK hI ls hl
  have hl : lv_has ls 1 [(0, .int x)] := hl
  obtain ⟨hx, hb, hown, hts, hVK⟩ := id hE
  refine lv_iload_n hx hb d_BP_isOrder_0 rfl (lv_at hl 0 rfl) ?_
  refine lv_if_lt (tgt := 13) hx hb d_BP_isOrder_1 (by decide) (fun c1 => ?_) (fun c1 => ?_)
  · skip
    refine lv_iconst (v := 0) hx hb d_BP_isOrder_13 (by decide) ?_
    exact hv_zret hE hr hlocks hI hK (v := 0) (by first | rfl | exact b2i_nar _) (⟨by first | (simp [b2i, ord4, Int32.not_lt, Int32.not_le, *]; done) | (simp [b2i, ord4, Int32.not_lt, Int32.not_le, *]; intro h9; exact absurd h9 (Int32.not_le.mpr (by assumption))), rfl⟩) (by decide) (by decide) d_BP_isOrder_14
  · skip
    refine lv_iload_n hx hb d_BP_isOrder_4 rfl (lv_at hl 0 rfl) ?_
    refine lv_iconst (v := 4) hx hb d_BP_isOrder_5 (by decide) ?_
    refine lv_icmp_ge (tgt := 13) hx hb d_BP_isOrder_6 (by decide) (fun c6 => ?_) (fun c6 => ?_)
    · skip
      refine lv_iconst (v := 0) hx hb d_BP_isOrder_13 (by decide) ?_
      exact hv_zret hE hr hlocks hI hK (v := 0) (by first | rfl | exact b2i_nar _) (⟨by first | (simp [b2i, ord4, Int32.not_lt, Int32.not_le, *]; done) | (simp [b2i, ord4, Int32.not_lt, Int32.not_le, *]; intro h9; exact absurd h9 (Int32.not_le.mpr (by assumption))), rfl⟩) (by decide) (by decide) d_BP_isOrder_14
    · skip
      refine lv_iconst (v := 1) hx hb d_BP_isOrder_9 (by decide) ?_
      refine lv_goto (tgt := 14) hx hb d_BP_isOrder_10 (by decide) ?_
      exact hv_zret hE hr hlocks hI hK (v := 1) (by first | rfl | exact b2i_nar _) (⟨by first | (simp [b2i, ord4, Int32.not_lt, Int32.not_le, *]; done) | (simp [b2i, ord4, Int32.not_lt, Int32.not_le, *]; intro h9; exact absurd h9 (Int32.not_le.mpr (by assumption))), rfl⟩) (by decide) (by decide) d_BP_isOrder_14

set_option maxHeartbeats 4000000 in
set_option maxRecDepth 100000 in
/-- known -/
theorem c_BP_known2 (l : Launch) (hl0 : l.stackTraces = false) (b0 : Nat) (D : va_G) (cA : Nat → ClassId) (f : hv_M) (x r : Int32)  : hv_Met l y_BP_known2 [Cond.code y_BP_known2 b_BP_known2 2 (some FieldType.int)] (RM 0 0 0) b0 (Fa D cA) D CL [.int x, .int r] f (PV f (some (.int (kn x r)))) (NX) := by
  refine hv_Met.of (own := "BoxPacker") (by decide) rfl (Nat.le_of_ble_eq_true rfl) ?_
  intro p e s m below meth c hE hml hout hr hlocks hname hK hI ls hl
  have hl : lv_has ls 2 [(0, .int x), (1, .int r)] := hl
  obtain ⟨hx, hb, hown, hts, hVK⟩ := id hE
  refine lv_iload_n hx hb d_BP_known2_0 rfl (lv_at hl 0 rfl) ?_
  refine lv_ldc (v := (-1073741824)) hx hb hown (hts _ w226) d_BP_known2_1 ?_
  refine lv_icmp_ne (tgt := 10) hx hb d_BP_known2_3 (by decide) (fun c3 => ?_) (fun c3 => ?_)
  · skip
    refine lv_iload_n hx hb d_BP_known2_10 rfl (lv_at hl 0 rfl) ?_
    exact hv_iret hE hr hlocks hI hK (v := x) (⟨by simp [kn, *], rfl⟩) (by decide) (by decide) d_BP_known2_11
  · skip
    refine lv_iload_n hx hb d_BP_known2_6 rfl (lv_at hl 1 rfl) ?_
    refine lv_goto (tgt := 11) hx hb d_BP_known2_7 (by decide) ?_
    exact hv_iret hE hr hlocks hI hK (v := r) (⟨by simp [kn, *], rfl⟩) (by decide) (by decide) d_BP_known2_11

set_option maxHeartbeats 4000000 in
set_option maxRecDepth 100000 in
/-- known -/
theorem c_BP_known1 (l : Launch) (hl0 : l.stackTraces = false) (b0 : Nat) (D : va_G) (cA : Nat → ClassId) (f : hv_M) (x : Int32)  : hv_Met l y_BP_known1 [Cond.code y_BP_known1 b_BP_known1 1 (some FieldType.int)] (RM 1 0 0) b0 (Fa D cA) D CL [.int x] f (PV f (some (.int (kn x 0)))) (NX) := by
  refine hv_Met.of (own := "BoxPacker") (by decide) rfl (Nat.le_of_ble_eq_true rfl) ?_
  intro p e s m below meth c hE hml hout hr hlocks hname hK hI ls hl
  have hl : lv_has ls 1 [(0, .int x)] := hl
  obtain ⟨hx, hb, hown, hts, hVK⟩ := id hE
  refine lv_iload_n hx hb d_BP_known1_0 rfl (lv_at hl 0 rfl) ?_
  refine lv_iconst (v := 0) hx hb d_BP_known1_1 (by decide) ?_
  refine hv_Sp (As := [.int x, .int 0]) (rest := []) hE hml hK hI (c_BP_known2 l hl0 b0 D cA f x 0) cd_BP_known2 w406 w407 rfl rfl rfl hl.1 (Nat.le_of_ble_eq_true rfl) d_BP_known1_2 ⟨by decide, by decide⟩ ⟨by decide, by decide⟩ (fun H locs hI => ?_)
  refine W.eq (g2 := F0 m 5 ls [.int (kn x 0)]) rfl ?_
  exact hv_iret hE hr hlocks hI hK (v := kn x 0) (⟨rfl, rfl⟩) (by decide) (by decide) d_BP_known1_5

set_option maxHeartbeats 4000000 in
set_option maxRecDepth 100000 in
/-- sum -/
theorem c_BP_sum (l : Launch) (hl0 : l.stackTraces = false) (b0 : Nat) (D : va_G) (cA : Nat → ClassId) (f : hv_M) (x y : Int64)  : hv_Met l y_BP_sum [Cond.code y_BP_sum b_BP_sum 6 (some FieldType.int)] (RM 1 1 6) b0 (Fa D cA) D CL [.long x, .long y] f (fun v g => v = some (.int (x + y).toInt32) ∧ g = f ∧ sz (x + y) = true) (TX1 "java/lang/IllegalStateException" f (sz (x + y) = false)) := by
  refine hv_Met.of (own := "BoxPacker") (by decide) rfl (Nat.le_of_ble_eq_true rfl) ?_
  intro p e s m below meth c hE hml hout hr hlocks hname hK hI ls hl
  have hl : lv_has ls 6 [(0, .long x), (2, .long y)] := hl
  obtain ⟨hx, hb, hown, hts, hVK⟩ := id hE
  refine lv_lload_n hx hb d_BP_sum_0 rfl (lv_at hl 0 rfl) ?_
  refine lv_lload_n hx hb d_BP_sum_1 rfl (lv_at hl 1 rfl) ?_
  refine lv_ladd hx hb d_BP_sum_2 ?_
  refine lv_lstore (lv' := [(4, .long (x + y)), (0, .long x), (2, .long y)]) hx hb d_BP_sum_3 hl (by decide) rfl (fun ls hl => ?_)
  refine lv_lload hx hb d_BP_sum_5 (lv_at hl 0 rfl) ?_
  refine hv_Sp (As := [.long (x + y)]) (rest := []) hE hml hK hI (c_BP_isSize l hl0 b0 D cA f (x + y)) cd_BP_isSize w151 w152 rfl rfl rfl hl.1 (Nat.le_of_ble_eq_true rfl) d_BP_sum_7 ⟨by decide, by decide⟩ ⟨by decide, by decide⟩ (fun H locs hI => ?_)
  refine W.eq (g2 := F0 m 10 ls [.int (b2i (sz (x + y)))]) rfl ?_
  refine lv_if_ne (tgt := 23) hx hb d_BP_sum_10 (by decide) (fun c10 => ?_) (fun c10 => ?_)
  · skip
    refine lv_lload hx hb d_BP_sum_23 (lv_at hl 0 rfl) ?_
    refine lv_l2i (v := (x + y).toInt32) hx hb d_BP_sum_25 rfl ?_
    exact hv_iret hE hr hlocks hI hK (v := (x + y).toInt32) (⟨rfl, rfl, by cases hz : sz (x + y) with | true => rfl | false => exact absurd (by rw [hz]; rfl) c10⟩) (by decide) (by decide) d_BP_sum_26
  · skip
    exact hv_throw hE hl0 (cls := "java/lang/IllegalStateException") (text := "a sum of sizes is no size") (names := NMS) (by decide) (by decide) hI hK (hv_thr tw_ISE (by decide)) (by rw [hml]; exact hl.1) d_BP_sum_13 d_BP_sum_16 d_BP_sum_17 d_BP_sum_19 d_BP_sum_22 hout (by decide) (by decide) hlocks (⟨rfl, rfl, by simpa [b2i_ne] using c10⟩) (by decide) (by decide) (by decide) (by decide)

