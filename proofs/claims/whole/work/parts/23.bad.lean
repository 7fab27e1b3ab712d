set_option maxHeartbeats 4000000 in
set_option maxRecDepth 100000 in
theorem c_BP_share (l : Launch) (hl0 : l.stackTraces = false) (b0 : Nat) (D : va_G) (cA : Nat → ClassId) (f : hv_M) (pt ex : Int64) (dv : Int32)  : hv_Met l y_BP_share [Cond.code y_BP_share b_BP_share 9 (some FieldType.int)] (RM 0 0 0) b0 (Fa D cA) D CL [.long pt, .long ex, .int dv] f (PV f (some (.int (shr pt ex dv)))) (NX) := by
  refine hv_Met.of (own := "BoxPacker") (by decide) rfl (Nat.le_of_ble_eq_true rfl) ?_
  intro p e s m below meth c hE hml hout hr hlocks hname hK hI ls hl
  have hl : lv_has ls 9 [(0, .long pt), (2, .long ex), (4, .int dv)] := hl
  obtain ⟨hx, hb, hown, hts, hVK⟩ := id hE
  refine lv_iload hx hb d_BP_share_0 (lv_at hl 2 rfl) ?_
  refine lv_if_ne (tgt := 7) hx hb d_BP_share_2 (by decide) (fun c2 => ?_) (fun c2 => ?_)
  · skip
    refine lv_lload_n hx hb d_BP_share_7 rfl (lv_at hl 0 rfl) ?_
    refine lv_lload_n hx hb d_BP_share_8 rfl (lv_at hl 1 rfl) ?_
    refine lv_lmul hx hb d_BP_share_9 ?_
    refine lv_lstore (lv' := [(5, .long (pt * ex)), (0, .long pt), (2, .long ex), (4, .int dv)]) hx hb d_BP_share_10 hl (by decide) rfl (fun ls hl => ?_)
    refine lv_ldc2 (v := 2) hx hb hown (hts _ w441) d_BP_share_12 ?_
    refine lv_lload hx hb d_BP_share_15 (lv_at hl 0 rfl) ?_
    refine va_mabs_long hx hb (hml.trans hl.1.symm) hown (hts _ w442) (hts _ w443) (hts _ w14) (hts _ w444) (by decide) (Nat.le_of_ble_eq_true rfl) (by decide) (by decide) d_BP_share_17 ?_
    refine W.eq (g2 := F0 m 20 ls [.long (lab (pt * ex)), .long 2]) (by rw [labL_eq]) ?_
    refine lv_lmul hx hb d_BP_share_20 ?_
    refine lv_iload hx hb d_BP_share_21 (lv_at hl 3 rfl) ?_
    refine lv_i2l (v := dv.toInt64) hx hb d_BP_share_23 rfl ?_
    refine lv_ladd hx hb d_BP_share_24 ?_
    refine lv_ldc2 (v := 2) hx hb hown (hts _ w441) d_BP_share_25 ?_
    refine lv_iload hx hb d_BP_share_28 (lv_at hl 3 rfl) ?_
    refine lv_i2l (v := dv.toInt64) hx hb d_BP_share_30 rfl ?_
    refine lv_lmul hx hb d_BP_share_31 ?_
    refine lv_ldiv hx hb d_BP_share_32 (two_ne c2) ?_
    refine lv_lstore (lv' := [(7, .long (((2 * (lab (pt * ex))) + dv.toInt64) / (2 * dv.toInt64))), (5, .long (pt * ex)), (0, .long pt), (2, .long ex), (4, .int dv)]) hx hb d_BP_share_33 hl (by decide) rfl (fun ls hl => ?_)
    refine lv_lload hx hb d_BP_share_35 (lv_at hl 1 rfl) ?_
    refine lv_lconst (v := 0) hx hb d_BP_share_37 (by decide) ?_
    refine W.lcmp hx hb d_BP_share_38 ?_
    refine lv_if_ge (tgt := 48) hx hb d_BP_share_39 (by decide) (fun c39 => ?_) (fun c39 => ?_)
    · skip
      refine lv_lload hx hb d_BP_share_48 (lv_at hl 0 rfl) ?_
      refine lv_l2i (v := (((2 * (lab (pt * ex))) + dv.toInt64) / (2 * dv.toInt64)).toInt32) hx hb d_BP_share_50 rfl ?_
      exact hv_iret hE hr hlocks hI hK (v := (((2 * (lab (pt * ex))) + dv.toInt64) / (2 * dv.toInt64)).toInt32) (⟨by rw [shr, if_neg c2, dtn, if_neg (Int64.not_lt.mpr ((lg_cmp_ge (pt * ex) 0).mp c39))], rfl⟩) (by decide) (by decide) d_BP_share_51
    · skip
      refine lv_lload hx hb d_BP_share_42 (lv_at hl 0 rfl) ?_
      refine lv_lneg hx hb d_BP_share_44 ?_
      refine lv_goto (tgt := 50) hx hb d_BP_share_45 (by decide) ?_
      refine lv_l2i (v := (-(((2 * (lab (pt * ex))) + dv.toInt64) / (2 * dv.toInt64))).toInt32) hx hb d_BP_share_50 rfl ?_
      exact hv_iret hE hr hlocks hI hK (v := (-(((2 * (lab (pt * ex))) + dv.toInt64) / (2 * dv.toInt64))).toInt32) (⟨by rw [shr, if_neg c2, dtn, if_pos (Int64.not_le.mp (fun q => c39 ((lg_cmp_ge (pt * ex) 0).mpr q)))], rfl⟩) (by decide) (by decide) d_BP_share_51
  · skip
    refine lv_iconst (v := 0) hx hb d_BP_share_5 (by decide) ?_
    exact hv_iret hE hr hlocks hI hK (v := 0) (⟨by rw [shr, if_pos c2], rfl⟩) (by decide) (by decide) d_BP_share_6

set_option maxHeartbeats 4000000 in
set_option maxRecDepth 100000 in
theorem c_Box_badnessRatio (l : Launch) (hl0 : l.stackTraces = false) (b0 : Nat) (D : va_G) (cA : Nat → ClassId) (f : hv_M) (mi av : Int32) (hav : ¬ av = 0) : hv_Met l y_Box_badnessRatio [Cond.code y_Box_badnessRatio b_Box_badnessRatio 2 (some FieldType.int)] (RM 0 0 0) b0 (Fa D cA) D CL [.int mi, .int av] f (PV f (some (.int (brat mi av)))) (NX) := by
  refine hv_Met.of (own := "BoxPacker$Box") (by decide) rfl (Nat.le_of_ble_eq_true rfl) ?_
  intro p e s m below meth c hE hml hout hr hlocks hname hK hI ls hl
  have hl : lv_has ls 2 [(0, .int mi), (1, .int av)] := hl
  obtain ⟨hx, hb, hown, hts, hVK⟩ := id hE
  refine lv_iload_n hx hb d_Box_badnessRatio_0 rfl (lv_at hl 0 rfl) ?_
  refine lv_ldc (v := 7230584) hx hb hown (hts _ w462) d_Box_badnessRatio_1 ?_
  refine lv_icmp_gt (tgt := 14) hx hb d_Box_badnessRatio_3 (by decide) (fun c3 => ?_) (fun c3 => ?_)
  · skip
    refine lv_iload_n hx hb d_Box_badnessRatio_14 rfl (lv_at hl 1 rfl) ?_
    refine lv_ldc (v := 1663497) hx hb hown (hts _ w463) d_Box_badnessRatio_15 ?_
    refine lv_icmp_lt (tgt := 30) hx hb d_Box_badnessRatio_17 (by decide) (fun c17 => ?_) (fun c17 => ?_)
    · skip
      refine lv_iload_n hx hb d_Box_badnessRatio_30 rfl (lv_at hl 0 rfl) ?_
      exact hv_iret hE hr hlocks hI hK (v := mi) (⟨by rw [brat, if_neg (Int32.not_le.mpr c3), if_pos c17], rfl⟩) (by decide) (by decide) d_Box_badnessRatio_31
    · skip
      refine lv_iload_n hx hb d_Box_badnessRatio_20 rfl (lv_at hl 0 rfl) ?_
      refine lv_iload_n hx hb d_Box_badnessRatio_21 rfl (lv_at hl 1 rfl) ?_
      refine lv_sipush (v := 297) hx hb d_Box_badnessRatio_22 (by decide) ?_
      refine lv_idiv hx hb d_Box_badnessRatio_25 (by decide) ?_
      refine lv_idiv hx hb d_Box_badnessRatio_26 (div297 c17) ?_
      refine lv_goto (tgt := 31) hx hb d_Box_badnessRatio_27 (by decide) ?_
      exact hv_iret hE hr hlocks hI hK (v := mi / (av / 297)) (⟨by rw [brat, if_neg (Int32.not_le.mpr c3), if_neg c17], rfl⟩) (by decide) (by decide) d_Box_badnessRatio_31
  · skip
    refine lv_sipush (v := 297) hx hb d_Box_badnessRatio_6 (by decide) ?_
    refine lv_iload_n hx hb d_Box_badnessRatio_9 rfl (lv_at hl 0 rfl) ?_
    refine lv_imul hx hb d_Box_badnessRatio_10 ?_
    refine lv_iload_n hx hb d_Box_badnessRatio_11 rfl (lv_at hl 1 rfl) ?_
    refine lv_idiv hx hb d_Box_badnessRatio_12 hav ?_
    exact hv_iret hE hr hlocks hI hK (v := (297 * mi) / av) (⟨by rw [brat, if_pos (Int32.not_lt.mp c3)], rfl⟩) (by decide) (by decide) d_Box_badnessRatio_13

set_option maxHeartbeats 4000000 in
set_option maxRecDepth 100000 in
theorem c_Box_badness (l : Launch) (hl0 : l.stackTraces = false) (b0 : Nat) (D : va_G) (cA : Nat → ClassId) (f : hv_M) (bx ca pa : Nat) (bel dp al w h d ex od to ov : Int32) (hbx : f bx = some (.inr (1, [.int bel, .ref ca, .ref pa, .int dp, .int al, .int w, .int h, .int d, .int ex, .int od, .int to, .int ov]))) : hv_Met l y_Box_badness [Cond.code y_Box_badness b_Box_badness 2 (some FieldType.int)] (RM 1 0 0) b0 (Fa D cA) D CL [.ref bx] f (PV f (some (.int (badF ex od to ov)))) (NX) := by
  refine hv_Met.of (own := "BoxPacker$Box") (by decide) rfl (Nat.le_of_ble_eq_true rfl) ?_
  intro p e s m below meth c hE hml hout hr hlocks hname hK hI ls hl
  have hl : lv_has ls 2 [(0, .ref bx)] := hl
  obtain ⟨hx, hb, hown, hts, hVK⟩ := id hE
  refine lv_aload_n hx hb d_Box_badness_0 rfl (lv_at hl 0 rfl) ?_
  refine hv_get hE k_Box hI 11 (by decide) w347 hbx rfl d_Box_badness_1 ?_
  refine lv_if_le (tgt := 10) hx hb d_Box_badness_4 (by decide) (fun c4 => ?_) (fun c4 => ?_)
  · skip
    refine lv_aload_n hx hb d_Box_badness_10 rfl (lv_at hl 0 rfl) ?_
    refine hv_get hE k_Box hI 8 (by decide) w341 hbx rfl d_Box_badness_11 ?_
    refine lv_if_eq (tgt := 24) hx hb d_Box_badness_14 (by decide) (fun c14 => ?_) (fun c14 => ?_)
    · skip
      refine lv_iconst (v := 0) hx hb d_Box_badness_24 (by decide) ?_
      exact hv_iret hE hr hlocks hI hK (v := 0) (⟨by rw [badF, if_neg (Int32.not_lt.mpr c4), if_pos (Or.inl c14)], rfl⟩) (by decide) (by decide) d_Box_badness_25
    · skip
      refine lv_aload_n hx hb d_Box_badness_17 rfl (lv_at hl 0 rfl) ?_
      refine hv_get hE k_Box hI 9 (by decide) w343 hbx rfl d_Box_badness_18 ?_
      refine lv_if_le (tgt := 26) hx hb d_Box_badness_21 (by decide) (fun c21 => ?_) (fun c21 => ?_)
      · skip
        refine lv_aload_n hx hb d_Box_badness_26 rfl (lv_at hl 0 rfl) ?_
        refine hv_get hE k_Box hI 10 (by decide) w345 hbx rfl d_Box_badness_27 ?_
        refine lv_if_ne (tgt := 37) hx hb d_Box_badness_30 (by decide) (fun c30 => ?_) (fun c30 => ?_)
        · skip
          refine lv_aload_n hx hb d_Box_badness_37 rfl (lv_at hl 0 rfl) ?_
          refine hv_get hE k_Box hI 8 (by decide) w341 hbx rfl d_Box_badness_38 ?_
          refine va_mabs hx hb (hml.trans hl.1.symm) hown (hts _ w456) (hts _ w457) (hts _ w14) (hts _ w458) (by decide) (Nat.le_of_ble_eq_true rfl) (by decide) (by decide) d_Box_badness_41 ?_
          refine W.eq (g2 := F0 m 44 ls [.int (ab ex)]) rfl ?_
          refine lv_aload_n hx hb d_Box_badness_44 rfl (lv_at hl 0 rfl) ?_
          refine hv_get hE k_Box hI 10 (by decide) w345 hbx rfl d_Box_badness_45 ?_
          refine hv_Sp (As := [.int (ab ex), .int to]) (rest := []) hE hml hK hI (c_Box_badnessRatio l hl0 b0 D cA f (ab ex) to c30) cd_Box_badnessRatio w459 w460 rfl rfl rfl hl.1 (Nat.le_of_ble_eq_true rfl) d_Box_badness_48 ⟨by decide, by decide⟩ ⟨by decide, by decide⟩ (fun H locs hI => ?_)
          refine W.eq (g2 := F0 m 51 ls [.int (brat (ab ex) to)]) rfl ?_
          refine lv_istore_n (lv' := [(1, .int (brat (ab ex) to)), (0, .ref bx)]) hx hb d_Box_badness_51 rfl hl (by decide) rfl (fun ls hl => ?_)
          refine lv_iload_n hx hb d_Box_badness_52 rfl (lv_at hl 0 rfl) ?_
          refine lv_sipush (v := 1290) hx hb d_Box_badness_53 (by decide) ?_
          refine lv_icmp_le (tgt := 65) hx hb d_Box_badness_56 (by decide) (fun c56 => ?_) (fun c56 => ?_)
          · skip
            refine lv_iload_n hx hb d_Box_badness_65 rfl (lv_at hl 0 rfl) ?_
            refine lv_iload_n hx hb d_Box_badness_66 rfl (lv_at hl 0 rfl) ?_
            refine lv_imul hx hb d_Box_badness_67 ?_
            refine lv_iload_n hx hb d_Box_badness_68 rfl (lv_at hl 0 rfl) ?_
            refine lv_imul hx hb d_Box_badness_69 ?_
            refine lv_ldc (v := 131072) hx hb hown (hts _ w464) d_Box_badness_70 ?_
            refine lv_iadd hx hb d_Box_badness_72 ?_
            refine lv_ldc (v := 262144) hx hb hown (hts _ w465) d_Box_badness_73 ?_
            refine lv_idiv hx hb d_Box_badness_75 (by decide) ?_
            exact hv_iret hE hr hlocks hI hK (v := ((((brat (ab ex) to) * (brat (ab ex) to)) * (brat (ab ex) to)) + 131072) / 262144) (⟨by rw [badF, if_neg (Int32.not_lt.mpr c4), if_neg (fun q => q.elim c14 (fun r => Int32.not_lt.mpr c21 r)), if_neg c30, if_pos c56], rfl⟩) (by decide) (by decide) d_Box_badness_76
          · skip
            refine lv_sipush (v := 10000) hx hb d_Box_badness_59 (by decide) ?_
            refine lv_goto (tgt := 76) hx hb d_Box_badness_62 (by decide) ?_
            exact hv_iret hE hr hlocks hI hK (v := 10000) (⟨by rw [badF, if_neg (Int32.not_lt.mpr c4), if_neg (fun q => q.elim c14 (fun r => Int32.not_lt.mpr c21 r)), if_neg c30, if_neg (Int32.not_le.mpr (Int32.not_le.mp c56))], rfl⟩) (by decide) (by decide) d_Box_badness_76
        · skip
          refine lv_sipush (v := 10000) hx hb d_Box_badness_33 (by decide) ?_
          exact hv_iret hE hr hlocks hI hK (v := 10000) (⟨by rw [badF, if_neg (Int32.not_lt.mpr c4), if_neg (fun q => q.elim c14 (fun r => Int32.not_lt.mpr c21 r)), if_pos c30], rfl⟩) (by decide) (by decide) d_Box_badness_36
      · skip
        refine lv_iconst (v := 0) hx hb d_Box_badness_24 (by decide) ?_
        exact hv_iret hE hr hlocks hI hK (v := 0) (⟨by rw [badF, if_neg (Int32.not_lt.mpr c4), if_pos (Or.inr (Int32.not_le.mp c21))], rfl⟩) (by decide) (by decide) d_Box_badness_25
  · skip
    refine lv_ldc (v := 1000000) hx hb hown (hts _ w321) d_Box_badness_7 ?_
    exact hv_iret hE hr hlocks hI hK (v := 1000000) (⟨by rw [badF, if_pos (Int32.not_le.mp c4)], rfl⟩) (by decide) (by decide) d_Box_badness_9

