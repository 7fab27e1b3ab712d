set_option maxHeartbeats 4000000 in
set_option maxRecDepth 100000 in
theorem c_BP_sumR (l : Launch) (hl0 : l.stackTraces = false) (b0 : Nat) (D : va_G) (cA : Nat → ClassId) (f : hv_M) (x y : Int64) (hz : sz (x + y) = true) : hv_Met l y_BP_sum [Cond.code y_BP_sum b_BP_sum 6 (some FieldType.int)] (RM 1 0 0) b0 (Fa D cA) D CL [.long x, .long y] f (PV f (some (.int (x + y).toInt32))) (NX) := by
  refine hv_Met.of (own := "BoxPacker") (by decide) rfl (Nat.le_of_ble_eq_true rfl) ?_
  intro p e s m below meth c hE hml hout hr hlocks hname hK hI ls hl
  have hl : lv_has ls 6 [(0, .long x), (2, .long y)] := hl
  obtain ⟨hx, hb, hown, hts, hVK⟩ := id hE
  refine lv_lload_n hx hb d_BP_sum_0 rfl (lv_at hl 0 rfl) ?_
  refine lv_lload_n hx hb d_BP_sum_1 rfl (lv_at hl 1 rfl) ?_
  refine lv_ladd hx hb d_BP_sum_2 ?_
  refine lv_lstore (lv' := [(4, .long (x + y)), (0, .long x), (2, .long y)]) hx hb d_BP_sum_3 hl (by decide) rfl (fun ls hl => ?_)
  refine lv_lload hx hb d_BP_sum_5 (lv_at hl 0 rfl) ?_
  refine hv_Sp (As := [.long (x + y)]) (rest := []) hE hml hK hI (c_BP_isSize l hl0 b0 D cA f (x + y)) cd_BP_isSize w151 w152 rfl rfl rfl hl.1 (Nat.le_of_ble_eq_true rfl) d_BP_sum_7 ⟨by decide, by decide⟩ ⟨by decide, by decide⟩ (fun H locs hI => ?_)
  refine W.eq (g2 := F0 m 10 ls [.int (b2i (sz (x + y)))]) rfl ?_
  refine lv_if_ne (tgt := 23) hx hb d_BP_sum_10 (by decide) (fun c10 => ?_) (fun c10 => ?_)
  · skip
    refine lv_lload hx hb d_BP_sum_23 (lv_at hl 0 rfl) ?_
    refine lv_l2i (v := (x + y).toInt32) hx hb d_BP_sum_25 rfl ?_
    exact hv_iret hE hr hlocks hI hK (v := (x + y).toInt32) (⟨rfl, rfl⟩) (by decide) (by decide) d_BP_sum_26
  · skip
    exact absurd c10 (by rw [hz]; decide)

set_option maxHeartbeats 4000000 in
set_option maxRecDepth 100000 in
theorem c_BP_sumX (l : Launch) (hl0 : l.stackTraces = false) (b0 : Nat) (D : va_G) (cA : Nat → ClassId) (f : hv_M) (x y : Int64) (hz : ¬ sz (x + y) = true) : hv_Met l y_BP_sum [Cond.code y_BP_sum b_BP_sum 6 (some FieldType.int)] (RM 1 1 6) b0 (Fa D cA) D CL [.long x, .long y] f (fun _ _ => False) (TX1 "java/lang/IllegalStateException" f True) := by
  refine hv_Met.of (own := "BoxPacker") (by decide) rfl (Nat.le_of_ble_eq_true rfl) ?_
  intro p e s m below meth c hE hml hout hr hlocks hname hK hI ls hl
  have hl : lv_has ls 6 [(0, .long x), (2, .long y)] := hl
  obtain ⟨hx, hb, hown, hts, hVK⟩ := id hE
  refine lv_lload_n hx hb d_BP_sum_0 rfl (lv_at hl 0 rfl) ?_
  refine lv_lload_n hx hb d_BP_sum_1 rfl (lv_at hl 1 rfl) ?_
  refine lv_ladd hx hb d_BP_sum_2 ?_
  refine lv_lstore (lv' := [(4, .long (x + y)), (0, .long x), (2, .long y)]) hx hb d_BP_sum_3 hl (by decide) rfl (fun ls hl => ?_)
  refine lv_lload hx hb d_BP_sum_5 (lv_at hl 0 rfl) ?_
  refine hv_Sp (As := [.long (x + y)]) (rest := []) hE hml hK hI (c_BP_isSize l hl0 b0 D cA f (x + y)) cd_BP_isSize w151 w152 rfl rfl rfl hl.1 (Nat.le_of_ble_eq_true rfl) d_BP_sum_7 ⟨by decide, by decide⟩ ⟨by decide, by decide⟩ (fun H locs hI => ?_)
  refine W.eq (g2 := F0 m 10 ls [.int (b2i (sz (x + y)))]) rfl ?_
  refine lv_if_ne (tgt := 23) hx hb d_BP_sum_10 (by decide) (fun c10 => ?_) (fun c10 => ?_)
  · skip
    exact absurd (by cases h9 : sz (x + y) with | true => exact absurd h9 hz | false => rfl) c10
  · skip
    exact hv_throw hE hl0 (cls := "java/lang/IllegalStateException") (text := "a sum of sizes is no size") (names := NMS) (by decide) (by decide) hI hK (hv_thr tw_ISE (by decide)) (by rw [hml]; exact hl.1) d_BP_sum_13 d_BP_sum_16 d_BP_sum_17 d_BP_sum_19 d_BP_sum_22 hout (by decide) (by decide) hlocks (⟨rfl, rfl, trivial⟩) (by decide) (by decide) (by decide) (by decide)

