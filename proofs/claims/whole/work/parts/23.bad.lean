set_option maxHeartbeats 4000000 in
set_option maxRecDepth 100000 in
theorem c_BP_dividedToNearest (l : Launch) (hl0 : l.stackTraces = false) (b0 : Nat) (D : va_G) (cA : Nat → ClassId) (f : hv_M) (x : Int64) (dv : Int32) (hdv : ¬ (2 : Int64) * dv.toInt64 = 0) : hv_Met l y_BP_dividedToNearest [Cond.code y_BP_dividedToNearest b_BP_dividedToNearest 7 (some FieldType.int)] (RM 0 0 0) b0 (Fa D cA) D CL [.long x, .int dv] f (PV f (some (.int (dtn x dv)))) (NX) := by
  refine hv_Met.of (own := "BoxPacker") (by decide) rfl (Nat.le_of_ble_eq_true rfl) ?_
  intro p e s m below meth c hE hml hout hr hlocks hname hK hI ls hl
  have hl : lv_has ls 7 [(0, .long x), (2, .int dv)] := hl
  obtain ⟨hx, hb, hown, hts, hVK⟩ := id hE
  refine lv_lload_n hx hb d_BP_dividedToNearest_0 rfl (lv_at hl 0 rfl) ?_
  refine lv_lconst (v := 0) hx hb d_BP_dividedToNearest_1 (by decide) ?_
  refine W.lcmp hx hb d_BP_dividedToNearest_2 ?_
  refine lv_if_ge (tgt := 11) hx hb d_BP_dividedToNearest_3 (by decide) (fun c3 => ?_) (fun c3 => ?_)
  · skip
    refine lv_lload_n hx hb d_BP_dividedToNearest_11 rfl (lv_at hl 0 rfl) ?_
    refine lv_lstore_n (lv' := [(3, .long x), (0, .long x), (2, .int dv)]) hx hb d_BP_dividedToNearest_12 rfl hl (by decide) rfl (fun ls hl => ?_)
    refine lv_ldc2 (v := 2) hx hb hown (hts _ w445) d_BP_dividedToNearest_13 ?_
    refine lv_lload_n hx hb d_BP_dividedToNearest_16 rfl (lv_at hl 0 rfl) ?_
    refine lv_lmul hx hb d_BP_dividedToNearest_17 ?_
    refine lv_iload_n hx hb d_BP_dividedToNearest_18 rfl (lv_at hl 2 rfl) ?_
    refine lv_i2l (v := dv.toInt64) hx hb d_BP_dividedToNearest_19 rfl ?_
    refine lv_ladd hx hb d_BP_dividedToNearest_20 ?_
    refine lv_ldc2 (v := 2) hx hb hown (hts _ w445) d_BP_dividedToNearest_21 ?_
    refine lv_iload_n hx hb d_BP_dividedToNearest_24 rfl (lv_at hl 2 rfl) ?_
    refine lv_i2l (v := dv.toInt64) hx hb d_BP_dividedToNearest_25 rfl ?_
    refine lv_lmul hx hb d_BP_dividedToNearest_26 ?_
    refine lv_ldiv hx hb d_BP_dividedToNearest_27 hdv ?_
    refine lv_lstore (lv' := [(5, .long (((2 * x) + dv.toInt64) / (2 * dv.toInt64))), (3, .long x), (0, .long x), (2, .int dv)]) hx hb d_BP_dividedToNearest_28 hl (by decide) rfl (fun ls hl => ?_)
    refine lv_lload_n hx hb d_BP_dividedToNearest_30 rfl (lv_at hl 2 rfl) ?_
    refine lv_lconst (v := 0) hx hb d_BP_dividedToNearest_31 (by decide) ?_
    refine W.lcmp hx hb d_BP_dividedToNearest_32 ?_
    refine lv_if_ge (tgt := 42) hx hb d_BP_dividedToNearest_33 (by decide) (fun c33 => ?_) (fun c33 => ?_)
    · skip
      refine lv_lload hx hb d_BP_dividedToNearest_42 (lv_at hl 0 rfl) ?_
      refine lv_l2i (v := (((2 * x) + dv.toInt64) / (2 * dv.toInt64)).toInt32) hx hb d_BP_dividedToNearest_44 rfl ?_
      exact hv_iret hE hr hlocks hI hK (v := (((2 * x) + dv.toInt64) / (2 * dv.toInt64)).toInt32) (⟨by rw [dtn, lab, if_neg (Int64.not_lt.mpr ((lg_cmp_ge x 0).mp c3)), if_neg (Int64.not_lt.mpr ((lg_cmp_ge x 0).mp c3))], rfl⟩) (by decide) (by decide) d_BP_dividedToNearest_45
    · skip
      exact absurd c3 c33
  · skip
    refine lv_lload_n hx hb d_BP_dividedToNearest_6 rfl (lv_at hl 0 rfl) ?_
    refine lv_lneg hx hb d_BP_dividedToNearest_7 ?_
    refine lv_goto (tgt := 12) hx hb d_BP_dividedToNearest_8 (by decide) ?_
    refine lv_lstore_n (lv' := [(3, .long (-x)), (0, .long x), (2, .int dv)]) hx hb d_BP_dividedToNearest_12 rfl hl (by decide) rfl (fun ls hl => ?_)
    refine lv_ldc2 (v := 2) hx hb hown (hts _ w445) d_BP_dividedToNearest_13 ?_
    refine lv_lload_n hx hb d_BP_dividedToNearest_16 rfl (lv_at hl 0 rfl) ?_
    refine lv_lmul hx hb d_BP_dividedToNearest_17 ?_
    refine lv_iload_n hx hb d_BP_dividedToNearest_18 rfl (lv_at hl 2 rfl) ?_
    refine lv_i2l (v := dv.toInt64) hx hb d_BP_dividedToNearest_19 rfl ?_
    refine lv_ladd hx hb d_BP_dividedToNearest_20 ?_
    refine lv_ldc2 (v := 2) hx hb hown (hts _ w445) d_BP_dividedToNearest_21 ?_
    refine lv_iload_n hx hb d_BP_dividedToNearest_24 rfl (lv_at hl 2 rfl) ?_
    refine lv_i2l (v := dv.toInt64) hx hb d_BP_dividedToNearest_25 rfl ?_
    refine lv_lmul hx hb d_BP_dividedToNearest_26 ?_
    refine lv_ldiv hx hb d_BP_dividedToNearest_27 hdv ?_
    refine lv_lstore (lv' := [(5, .long (((2 * (-x)) + dv.toInt64) / (2 * dv.toInt64))), (3, .long (-x)), (0, .long x), (2, .int dv)]) hx hb d_BP_dividedToNearest_28 hl (by decide) rfl (fun ls hl => ?_)
    refine lv_lload_n hx hb d_BP_dividedToNearest_30 rfl (lv_at hl 2 rfl) ?_
    refine lv_lconst (v := 0) hx hb d_BP_dividedToNearest_31 (by decide) ?_
    refine W.lcmp hx hb d_BP_dividedToNearest_32 ?_
    refine lv_if_ge (tgt := 42) hx hb d_BP_dividedToNearest_33 (by decide) (fun c33 => ?_) (fun c33 => ?_)
    · skip
      exact absurd c33 c3
    · skip
      refine lv_lload hx hb d_BP_dividedToNearest_36 (lv_at hl 0 rfl) ?_
      refine lv_lneg hx hb d_BP_dividedToNearest_38 ?_
      refine lv_goto (tgt := 44) hx hb d_BP_dividedToNearest_39 (by decide) ?_
      refine lv_l2i (v := (-(((2 * (-x)) + dv.toInt64) / (2 * dv.toInt64))).toInt32) hx hb d_BP_dividedToNearest_44 rfl ?_
      exact hv_iret hE hr hlocks hI hK (v := (-(((2 * (-x)) + dv.toInt64) / (2 * dv.toInt64))).toInt32) (⟨by rw [dtn, lab, if_pos (Int64.not_le.mp (fun q => c3 ((lg_cmp_ge x 0).mpr q))), if_pos (Int64.not_le.mp (fun q => c3 ((lg_cmp_ge x 0).mpr q)))], rfl⟩) (by decide) (by decide) d_BP_dividedToNearest_45

set_option maxHeartbeats 4000000 in
set_option maxRecDepth 100000 in
theorem c_Box_badnessRatio (l : Launch) (hl0 : l.stackTraces = false) (b0 : Nat) (D : va_G) (cA : Nat → ClassId) (f : hv_M) (mi av : Int32) (hav : ¬ av = 0) : hv_Met l y_Box_badnessRatio [Cond.code y_Box_badnessRatio b_Box_badnessRatio 2 (some FieldType.int)] (RM 0 0 0) b0 (Fa D cA) D CL [.int mi, .int av] f (PV f (some (.int (brat mi av)))) (NX) := by
  refine hv_Met.of (own := "BoxPacker$Box") (by decide) rfl (Nat.le_of_ble_eq_true rfl) ?_
  intro p e s m below meth c hE hml hout hr hlocks hname hK hI ls hl
  have hl : lv_has ls 2 [(0, .int mi), (1, .int av)] := hl
  obtain ⟨hx, hb, hown, hts, hVK⟩ := id hE
  refine lv_iload_n hx hb d_Box_badnessRatio_0 rfl (lv_at hl 0 rfl) ?_
  refine lv_ldc (v := 7230584) hx hb hown (hts _ w463) d_Box_badnessRatio_1 ?_
  refine lv_icmp_gt (tgt := 14) hx hb d_Box_badnessRatio_3 (by decide) (fun c3 => ?_) (fun c3 => ?_)
  · skip
    refine lv_iload_n hx hb d_Box_badnessRatio_14 rfl (lv_at hl 1 rfl) ?_
    refine lv_ldc (v := 1663497) hx hb hown (hts _ w464) d_Box_badnessRatio_15 ?_
    refine lv_icmp_lt (tgt := 30) hx hb d_Box_badnessRatio_17 (by decide) (fun c17 => ?_) (fun c17 => ?_)
    · skip
      refine lv_iload_n hx hb d_Box_badnessRatio_30 rfl (lv_at hl 0 rfl) ?_
      exact hv_iret hE hr hlocks hI hK (v := mi) (⟨by rw [brat, if_neg (Int32.not_le.mpr c3), if_pos c17], rfl⟩) (by decide) (by decide) d_Box_badnessRatio_31
    · skip
      refine lv_iload_n hx hb d_Box_badnessRatio_20 rfl (lv_at hl 0 rfl) ?_
      refine lv_iload_n hx hb d_Box_badnessRatio_21 rfl (lv_at hl 1 rfl) ?_
      refine lv_sipush (v := 297) hx hb d_Box_badnessRatio_22 (by decide) ?_
      refine lv_idiv hx hb d_Box_badnessRatio_25 (by decide) ?_
      refine lv_idiv hx hb d_Box_badnessRatio_26 (div297 c17) ?_
      refine lv_goto (tgt := 31) hx hb d_Box_badnessRatio_27 (by decide) ?_
      exact hv_iret hE hr hlocks hI hK (v := mi / (av / 297)) (⟨by rw [brat, if_neg (Int32.not_le.mpr c3), if_neg c17], rfl⟩) (by decide) (by decide) d_Box_badnessRatio_31
  · skip
    refine lv_sipush (v := 297) hx hb d_Box_badnessRatio_6 (by decide) ?_
    refine lv_iload_n hx hb d_Box_badnessRatio_9 rfl (lv_at hl 0 rfl) ?_
    refine lv_imul hx hb d_Box_badnessRatio_10 ?_
    refine lv_iload_n hx hb d_Box_badnessRatio_11 rfl (lv_at hl 1 rfl) ?_
    refine lv_idiv hx hb d_Box_badnessRatio_12 hav ?_
    exact hv_iret hE hr hlocks hI hK (v := (297 * mi) / av) (⟨by rw [brat, if_pos (Int32.not_lt.mp c3)], rfl⟩) (by decide) (by decide) d_Box_badnessRatio_13

set_option maxHeartbeats 4000000 in
set_option maxRecDepth 100000 in
theorem c_Box_badness (l : Launch) (hl0 : l.stackTraces = false) (b0 : Nat) (D : va_G) (cA : Nat → ClassId) (f : hv_M) (bx ca pa : Nat) (bel dp al w h d ex od to ov : Int32) (hbx : f bx = some (.inr (1, [.int bel, .ref ca, .ref pa, .int dp, .int al, .int w, .int h, .int d, .int ex, .int od, .int to, .int ov]))) : hv_Met l y_Box_badness [Cond.code y_Box_badness b_Box_badness 2 (some FieldType.int)] (RM 1 0 0) b0 (Fa D cA) D CL [.ref bx] f (PV f (some (.int (badF ex od to ov)))) (NX) := by
  refine hv_Met.of (own := "BoxPacker$Box") (by decide) rfl (Nat.le_of_ble_eq_true rfl) ?_
  intro p e s m below meth c hE hml hout hr hlocks hname hK hI ls hl
  have hl : lv_has ls 2 [(0, .ref bx)] := hl
  obtain ⟨hx, hb, hown, hts, hVK⟩ := id hE
  refine lv_aload_n hx hb d_Box_badness_0 rfl (lv_at hl 0 rfl) ?_
  refine hv_get hE k_Box hI 11 (by decide) w351 hbx rfl d_Box_badness_1 ?_
  refine lv_if_le (tgt := 10) hx hb d_Box_badness_4 (by decide) (fun c4 => ?_) (fun c4 => ?_)
  · skip
    refine lv_aload_n hx hb d_Box_badness_10 rfl (lv_at hl 0 rfl) ?_
    refine hv_get hE k_Box hI 8 (by decide) w345 hbx rfl d_Box_badness_11 ?_
    refine lv_if_eq (tgt := 24) hx hb d_Box_badness_14 (by decide) (fun c14 => ?_) (fun c14 => ?_)
    · skip
      refine lv_iconst (v := 0) hx hb d_Box_badness_24 (by decide) ?_
      exact hv_iret hE hr hlocks hI hK (v := 0) (⟨by rw [badF, if_neg (Int32.not_lt.mpr c4), if_pos (Or.inl c14)], rfl⟩) (by decide) (by decide) d_Box_badness_25
    · skip
      refine lv_aload_n hx hb d_Box_badness_17 rfl (lv_at hl 0 rfl) ?_
      refine hv_get hE k_Box hI 9 (by decide) w347 hbx rfl d_Box_badness_18 ?_
      refine lv_if_le (tgt := 26) hx hb d_Box_badness_21 (by decide) (fun c21 => ?_) (fun c21 => ?_)
      · skip
        refine lv_aload_n hx hb d_Box_badness_26 rfl (lv_at hl 0 rfl) ?_
        refine hv_get hE k_Box hI 10 (by decide) w349 hbx rfl d_Box_badness_27 ?_
        refine lv_if_ne (tgt := 37) hx hb d_Box_badness_30 (by decide) (fun c30 => ?_) (fun c30 => ?_)
        · skip
          refine lv_aload_n hx hb d_Box_badness_37 rfl (lv_at hl 0 rfl) ?_
          refine hv_get hE k_Box hI 8 (by decide) w345 hbx rfl d_Box_badness_38 ?_
          refine va_mabs hx hb (hml.trans hl.1.symm) hown (hts _ w457) (hts _ w458) (hts _ w14) (hts _ w459) (by decide) (Nat.le_of_ble_eq_true rfl) (by decide) (by decide) d_Box_badness_41 ?_
          refine W.eq (g2 := F0 m 44 ls [.int (ab ex)]) rfl ?_
          refine lv_aload_n hx hb d_Box_badness_44 rfl (lv_at hl 0 rfl) ?_
          refine hv_get hE k_Box hI 10 (by decide) w349 hbx rfl d_Box_badness_45 ?_
          refine hv_Sp (As := [.int (ab ex), .int to]) (rest := []) hE hml hK hI (c_Box_badnessRatio l hl0 b0 D cA f (ab ex) to c30) cd_Box_badnessRatio w460 w461 rfl rfl rfl hl.1 (Nat.le_of_ble_eq_true rfl) d_Box_badness_48 ⟨by decide, by decide⟩ ⟨by decide, by decide⟩ (fun H locs hI => ?_)
          refine W.eq (g2 := F0 m 51 ls [.int (brat (ab ex) to)]) rfl ?_
          refine lv_istore_n (lv' := [(1, .int (brat (ab ex) to)), (0, .ref bx)]) hx hb d_Box_badness_51 rfl hl (by decide) rfl (fun ls hl => ?_)
          refine lv_iload_n hx hb d_Box_badness_52 rfl (lv_at hl 0 rfl) ?_
          refine lv_sipush (v := 1290) hx hb d_Box_badness_53 (by decide) ?_
          refine lv_icmp_le (tgt := 65) hx hb d_Box_badness_56 (by decide) (fun c56 => ?_) (fun c56 => ?_)
          · skip
            refine lv_iload_n hx hb d_Box_badness_65 rfl (lv_at hl 0 rfl) ?_
            refine lv_iload_n hx hb d_Box_badness_66 rfl (lv_at hl 0 rfl) ?_
            refine lv_imul hx hb d_Box_badness_67 ?_
            refine lv_iload_n hx hb d_Box_badness_68 rfl (lv_at hl 0 rfl) ?_
            refine lv_imul hx hb d_Box_badness_69 ?_
            refine lv_ldc (v := 131072) hx hb hown (hts _ w465) d_Box_badness_70 ?_
            refine lv_iadd hx hb d_Box_badness_72 ?_
            refine lv_ldc (v := 262144) hx hb hown (hts _ w466) d_Box_badness_73 ?_
            refine lv_idiv hx hb d_Box_badness_75 (by decide) ?_
            exact hv_iret hE hr hlocks hI hK (v := ((((brat (ab ex) to) * (brat (ab ex) to)) * (brat (ab ex) to)) + 131072) / 262144) (⟨by rw [badF, if_neg (Int32.not_lt.mpr c4), if_neg (fun q => q.elim c14 (fun r => Int32.not_lt.mpr c21 r)), if_neg c30, if_pos c56], rfl⟩) (by decide) (by decide) d_Box_badness_76
          · skip
            refine lv_sipush (v := 10000) hx hb d_Box_badness_59 (by decide) ?_
            refine lv_goto (tgt := 76) hx hb d_Box_badness_62 (by decide) ?_
            exact hv_iret hE hr hlocks hI hK (v := 10000) (⟨by rw [badF, if_neg (Int32.not_lt.mpr c4), if_neg (fun q => q.elim c14 (fun r => Int32.not_lt.mpr c21 r)), if_neg c30, if_neg (Int32.not_le.mpr (Int32.not_le.mp c56))], rfl⟩) (by decide) (by decide) d_Box_badness_76
        · skip
          refine lv_sipush (v := 10000) hx hb d_Box_badness_33 (by decide) ?_
          exact hv_iret hE hr hlocks hI hK (v := 10000) (⟨by rw [badF, if_neg (Int32.not_lt.mpr c4), if_neg (fun q => q.elim c14 (fun r => Int32.not_lt.mpr c21 r)), if_pos c30], rfl⟩) (by decide) (by decide) d_Box_badness_36
      · skip
        refine lv_iconst (v := 0) hx hb d_Box_badness_24 (by decide) ?_
        exact hv_iret hE hr hlocks hI hK (v := 0) (⟨by rw [badF, if_neg (Int32.not_lt.mpr c4), if_pos (Or.inr (Int32.not_le.mp c21))], rfl⟩) (by decide) (by decide) d_Box_badness_25
  · skip
    refine lv_ldc (v := 1000000) hx hb hown (hts _ w325) d_Box_badness_7 ?_
    exact hv_iret hE hr hlocks hI hK (v := 1000000) (⟨by rw [badF, if_pos (Int32.not_le.mp c4)], rfl⟩) (by decide) (by decide) d_Box_badness_9

