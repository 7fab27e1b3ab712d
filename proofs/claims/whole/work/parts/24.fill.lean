set_option maxHeartbeats 4000000 in
set_option maxRecDepth 100000 in
theorem c_Box_fillUp (l : Launch) (hl0 : l.stackTraces = false) (b0 : Nat) (D : va_G) (cA : Nat → ClassId) (f : hv_M) (bx ca pa : Nat) (bel : Bool) (dp al w h d od to ov how size : Int32) (hbx : f bx = some (.inr (1, [.int (b2i bel), .ref ca, .ref pa, .int dp, .int al, .int w, .int h, .int d, .int 0, .int od, .int to, .int ov]))) : hv_Met l y_Box_fillUp [Cond.code y_Box_fillUp b_Box_fillUp 5 none] (RM 3 1 6) b0 (Fa D cA) D CL [.ref bx, .int how, .int size] f (fun v g => v = none ∧ ∃ ex ln : Int32, fillF bel how size w h = some (ex, ln) ∧ g = hv_up f bx (.inr (1, [.int (b2i bel), .ref ca, .ref pa, .int dp, .int al, .int (if bel = true then w else ln), .int (if bel = true then ln else h), .int d, .int ex, .int od, .int to, .int ov]))) (fun E g => E = "java/lang/IllegalStateException" ∧ fillF bel how size w h = none ∧ ∀ z, z ≠ bx → g z = f z) := by
  refine hv_Met.of (own := "BoxPacker$Box") (by decide) rfl (Nat.le_of_ble_eq_true rfl) ?_
  intro p e s m below meth c hE hml hout hr hlocks hname hK hI ls hl
  have hl : lv_has ls 5 [(0, .ref bx), (1, .int how), (2, .int size)] := hl
  obtain ⟨hx, hb, hown, hts, hVK⟩ := id hE
  refine lv_aload_n hx hb d_Box_fillUp_0 rfl (lv_at hl 0 rfl) ?_
  refine hv_get hE k_Box hI 0 (by decide) w325 hbx rfl d_Box_fillUp_1 ?_
  refine lv_if_eq (tgt := 14) hx hb d_Box_fillUp_4 (by decide) (fun c4 => ?_) (fun c4 => ?_)
  · skip
    have hbl : ¬ bel = true := by rw [b2i_ne.mp c4]; decide
    refine lv_aload_n hx hb d_Box_fillUp_14 rfl (lv_at hl 0 rfl) ?_
    refine hv_get hE k_Box hI 5 (by decide) w335 hbx rfl d_Box_fillUp_15 ?_
    refine lv_istore_n (lv' := [(3, .int w), (0, .ref bx), (1, .int how), (2, .int size)]) hx hb d_Box_fillUp_18 rfl hl (by decide) rfl (fun ls hl => ?_)
    refine lv_iload_n hx hb d_Box_fillUp_19 rfl (lv_at hl 2 rfl) ?_
    refine lv_iconst (v := 1) hx hb d_Box_fillUp_20 (by decide) ?_
    refine lv_icmp_ne (tgt := 39) hx hb d_Box_fillUp_21 (by decide) (fun c21 => ?_) (fun c21 => ?_)
    · skip
      refine lv_iload_n hx hb d_Box_fillUp_39 rfl (lv_at hl 2 rfl) ?_
      refine lv_iconst (v := 2) hx hb d_Box_fillUp_40 (by decide) ?_
      refine lv_icmp_ne (tgt := 49) hx hb d_Box_fillUp_41 (by decide) (fun c41 => ?_) (fun c41 => ?_)
      · skip
        refine lv_iload_n hx hb d_Box_fillUp_49 rfl (lv_at hl 0 rfl) ?_
        refine lv_i2l (v := w.toInt64) hx hb d_Box_fillUp_50 rfl ?_
        refine lv_aload_n hx hb d_Box_fillUp_51 rfl (lv_at hl 1 rfl) ?_
        refine hv_get hE k_Box hI 8 (by decide) w341 hbx rfl d_Box_fillUp_52 ?_
        refine lv_i2l (v := (0 : Int32).toInt64) hx hb d_Box_fillUp_55 rfl ?_
        by_cases hz56 : sz (w.toInt64 + ((0 : Int32).toInt64)) = true
        rotate_left
        · refine hv_SN (As := [.long w.toInt64, .long ((0 : Int32).toInt64)]) (rest := []) hE hml hK hI (c_BP_sumX l hl0 b0 D cA f w.toInt64 ((0 : Int32).toInt64) hz56) cd_BP_sum w384 w385 rfl hl.1 (Nat.le_of_ble_eq_true rfl) d_Box_fillUp_56 ⟨by decide, by decide⟩ ⟨by decide, by decide⟩ (fun v9 g9 H locs hp hI => hp.elim) (fun q9 E9 ce9 g9 H locs hp hI hce hcv hcl => ?_)
          obtain ⟨hE9, hg9, -⟩ := hp
          rw [hg9] at hI
          rw [hE9] at hcl
          exact hv_out hout hlocks hI hK hce hcv hcl (⟨rfl, by simp only [fillF, if_neg hbl, if_neg c21, if_neg c41, Option.bind_some, Option.bind_none, jsum_f hz56], fun z z1 => rfl⟩) (by decide) (by decide)
        refine hv_SNp (As := [.long w.toInt64, .long ((0 : Int32).toInt64)]) (rest := []) hE hml hK hI (c_BP_sumR l hl0 b0 D cA f w.toInt64 ((0 : Int32).toInt64) hz56) cd_BP_sum w384 w385 rfl rfl rfl hl.1 (Nat.le_of_ble_eq_true rfl) d_Box_fillUp_56 ⟨by decide, by decide⟩ ⟨by decide, by decide⟩ (fun H locs hI => ?_)
        refine W.eq (g2 := F0 m 59 ls [.int ((w.toInt64 + ((0 : Int32).toInt64)).toInt32)]) rfl ?_
        refine lv_istore (lv' := [(4, .int ((w.toInt64 + ((0 : Int32).toInt64)).toInt32)), (3, .int w), (0, .ref bx), (1, .int how), (2, .int size)]) hx hb d_Box_fillUp_59 hl (by decide) rfl (fun ls hl => ?_)
        refine lv_aload_n hx hb d_Box_fillUp_61 rfl (lv_at hl 2 rfl) ?_
        refine hv_get hE k_Box hI 0 (by decide) w325 hbx rfl d_Box_fillUp_62 ?_
        refine lv_if_eq (tgt := 77) hx hb d_Box_fillUp_65 (by decide) (fun c65 => ?_) (fun c65 => ?_)
        · skip
          refine lv_aload_n hx hb d_Box_fillUp_77 rfl (lv_at hl 2 rfl) ?_
          refine lv_iload hx hb d_Box_fillUp_78 (lv_at hl 0 rfl) ?_
          refine hv_put hE k_Box hI 5 (by decide) w335 hbx rfl rfl rfl (Nat.le_of_ble_eq_true rfl) d_Box_fillUp_80 (fun H locs hI => ?_)
          obtain ⟨g1, eg1⟩ : ∃ z : hv_M, z = hv_up f bx (.inr (1, [.int (b2i bel), .ref ca, .ref pa, .int dp, .int al, .int ((w.toInt64 + ((0 : Int32).toInt64)).toInt32), .int h, .int d, .int 0, .int od, .int to, .int ov])) := ⟨_, rfl⟩
          have hI : hv_I D CL b0 g1 s.heap H locs := by rw [eg1]; exact hI
          have h2 : g1 bx = some (.inr (1, [.int (b2i bel), .ref ca, .ref pa, .int dp, .int al, .int ((w.toInt64 + ((0 : Int32).toInt64)).toInt32), .int h, .int d, .int 0, .int od, .int to, .int ov])) := by rw [eg1]; exact hv_up_self _ _ _
          exact hv_vret hE hr hlocks hI hK (⟨rfl, 0, (w.toInt64 + ((0 : Int32).toInt64)).toInt32, by simp only [fillF, if_neg hbl, if_neg c21, if_neg c41, Option.bind_some, Option.bind_none, jsum_t hz56], by simp only [eg1, hv_up_up, if_neg hbl]⟩) (by decide) (by decide) d_Box_fillUp_83
        · skip
          exact absurd c4 c65
      · skip
        refine lv_aload_n hx hb d_Box_fillUp_44 rfl (lv_at hl 1 rfl) ?_
        refine lv_iload_n hx hb d_Box_fillUp_45 rfl (lv_at hl 3 rfl) ?_
        refine hv_put hE k_Box hI 8 (by decide) w341 hbx rfl rfl rfl (Nat.le_of_ble_eq_true rfl) d_Box_fillUp_46 (fun H locs hI => ?_)
        obtain ⟨g3, eg3⟩ : ∃ z : hv_M, z = hv_up f bx (.inr (1, [.int (b2i bel), .ref ca, .ref pa, .int dp, .int al, .int w, .int h, .int d, .int size, .int od, .int to, .int ov])) := ⟨_, rfl⟩
        have hI : hv_I D CL b0 g3 s.heap H locs := by rw [eg3]; exact hI
        have h4 : g3 bx = some (.inr (1, [.int (b2i bel), .ref ca, .ref pa, .int dp, .int al, .int w, .int h, .int d, .int size, .int od, .int to, .int ov])) := by rw [eg3]; exact hv_up_self _ _ _
        refine lv_iload_n hx hb d_Box_fillUp_49 rfl (lv_at hl 0 rfl) ?_
        refine lv_i2l (v := w.toInt64) hx hb d_Box_fillUp_50 rfl ?_
        refine lv_aload_n hx hb d_Box_fillUp_51 rfl (lv_at hl 1 rfl) ?_
        refine hv_get hE k_Box hI 8 (by decide) w341 h4 rfl d_Box_fillUp_52 ?_
        refine lv_i2l (v := size.toInt64) hx hb d_Box_fillUp_55 rfl ?_
        by_cases hz56 : sz (w.toInt64 + size.toInt64) = true
        rotate_left
        · refine hv_SN (As := [.long w.toInt64, .long size.toInt64]) (rest := []) hE hml hK hI (c_BP_sumX l hl0 b0 D cA g3 w.toInt64 size.toInt64 hz56) cd_BP_sum w384 w385 rfl hl.1 (Nat.le_of_ble_eq_true rfl) d_Box_fillUp_56 ⟨by decide, by decide⟩ ⟨by decide, by decide⟩ (fun v9 g9 H locs hp hI => hp.elim) (fun q9 E9 ce9 g9 H locs hp hI hce hcv hcl => ?_)
          obtain ⟨hE9, hg9, -⟩ := hp
          rw [hg9] at hI
          rw [hE9] at hcl
          exact hv_out hout hlocks hI hK hce hcv hcl (⟨rfl, by simp only [fillF, if_neg hbl, if_neg c21, if_pos c41, Option.bind_some, Option.bind_none, jsum_f hz56], fun z z1 => by rw [eg3, hv_up_ne _ _ z1]⟩) (by decide) (by decide)
        refine hv_SNp (As := [.long w.toInt64, .long size.toInt64]) (rest := []) hE hml hK hI (c_BP_sumR l hl0 b0 D cA g3 w.toInt64 size.toInt64 hz56) cd_BP_sum w384 w385 rfl rfl rfl hl.1 (Nat.le_of_ble_eq_true rfl) d_Box_fillUp_56 ⟨by decide, by decide⟩ ⟨by decide, by decide⟩ (fun H locs hI => ?_)
        refine W.eq (g2 := F0 m 59 ls [.int ((w.toInt64 + size.toInt64).toInt32)]) rfl ?_
        refine lv_istore (lv' := [(4, .int ((w.toInt64 + size.toInt64).toInt32)), (3, .int w), (0, .ref bx), (1, .int how), (2, .int size)]) hx hb d_Box_fillUp_59 hl (by decide) rfl (fun ls hl => ?_)
        refine lv_aload_n hx hb d_Box_fillUp_61 rfl (lv_at hl 2 rfl) ?_
        refine hv_get hE k_Box hI 0 (by decide) w325 h4 rfl d_Box_fillUp_62 ?_
        refine lv_if_eq (tgt := 77) hx hb d_Box_fillUp_65 (by decide) (fun c65 => ?_) (fun c65 => ?_)
        · skip
          refine lv_aload_n hx hb d_Box_fillUp_77 rfl (lv_at hl 2 rfl) ?_
          refine lv_iload hx hb d_Box_fillUp_78 (lv_at hl 0 rfl) ?_
          refine hv_put hE k_Box hI 5 (by decide) w335 h4 rfl rfl rfl (Nat.le_of_ble_eq_true rfl) d_Box_fillUp_80 (fun H locs hI => ?_)
          obtain ⟨g5, eg5⟩ : ∃ z : hv_M, z = hv_up g3 bx (.inr (1, [.int (b2i bel), .ref ca, .ref pa, .int dp, .int al, .int ((w.toInt64 + size.toInt64).toInt32), .int h, .int d, .int size, .int od, .int to, .int ov])) := ⟨_, rfl⟩
          have hI : hv_I D CL b0 g5 s.heap H locs := by rw [eg5]; exact hI
          have h6 : g5 bx = some (.inr (1, [.int (b2i bel), .ref ca, .ref pa, .int dp, .int al, .int ((w.toInt64 + size.toInt64).toInt32), .int h, .int d, .int size, .int od, .int to, .int ov])) := by rw [eg5]; exact hv_up_self _ _ _
          exact hv_vret hE hr hlocks hI hK (⟨rfl, size, (w.toInt64 + size.toInt64).toInt32, by simp only [fillF, if_neg hbl, if_neg c21, if_pos c41, Option.bind_some, Option.bind_none, jsum_t hz56], by simp only [eg5, eg3, hv_up_up, if_neg hbl]⟩) (by decide) (by decide) d_Box_fillUp_83
        · skip
          exact absurd c4 c65
    · skip
      refine lv_aload_n hx hb d_Box_fillUp_24 rfl (lv_at hl 1 rfl) ?_
      refine lv_iload_n hx hb d_Box_fillUp_25 rfl (lv_at hl 3 rfl) ?_
      refine lv_i2l (v := size.toInt64) hx hb d_Box_fillUp_26 rfl ?_
      refine lv_iload_n hx hb d_Box_fillUp_27 rfl (lv_at hl 0 rfl) ?_
      refine lv_ineg hx hb d_Box_fillUp_28 ?_
      refine lv_i2l (v := (-w).toInt64) hx hb d_Box_fillUp_29 rfl ?_
      by_cases hz30 : sz (size.toInt64 + ((-w).toInt64)) = true
      rotate_left
      · refine hv_SN (As := [.long size.toInt64, .long ((-w).toInt64)]) (rest := [.ref bx]) hE hml hK hI (c_BP_sumX l hl0 b0 D cA f size.toInt64 ((-w).toInt64) hz30) cd_BP_sum w384 w385 rfl hl.1 (Nat.le_of_ble_eq_true rfl) d_Box_fillUp_30 ⟨by decide, by decide⟩ ⟨by decide, by decide⟩ (fun v9 g9 H locs hp hI => hp.elim) (fun q9 E9 ce9 g9 H locs hp hI hce hcv hcl => ?_)
        obtain ⟨hE9, hg9, -⟩ := hp
        rw [hg9] at hI
        rw [hE9] at hcl
        exact hv_out hout hlocks hI hK hce hcv hcl (⟨rfl, by simp only [fillF, if_neg hbl, if_pos c21, Option.bind_some, Option.bind_none, jsum_f hz30], fun z z1 => rfl⟩) (by decide) (by decide)
      refine hv_SNp (As := [.long size.toInt64, .long ((-w).toInt64)]) (rest := [.ref bx]) hE hml hK hI (c_BP_sumR l hl0 b0 D cA f size.toInt64 ((-w).toInt64) hz30) cd_BP_sum w384 w385 rfl rfl rfl hl.1 (Nat.le_of_ble_eq_true rfl) d_Box_fillUp_30 ⟨by decide, by decide⟩ ⟨by decide, by decide⟩ (fun H locs hI => ?_)
      refine W.eq (g2 := F0 m 33 ls [.int ((size.toInt64 + ((-w).toInt64)).toInt32), .ref bx]) rfl ?_
      refine hv_put hE k_Box hI 8 (by decide) w341 hbx rfl rfl rfl (Nat.le_of_ble_eq_true rfl) d_Box_fillUp_33 (fun H locs hI => ?_)
      obtain ⟨g7, eg7⟩ : ∃ z : hv_M, z = hv_up f bx (.inr (1, [.int (b2i bel), .ref ca, .ref pa, .int dp, .int al, .int w, .int h, .int d, .int ((size.toInt64 + ((-w).toInt64)).toInt32), .int od, .int to, .int ov])) := ⟨_, rfl⟩
      have hI : hv_I D CL b0 g7 s.heap H locs := by rw [eg7]; exact hI
      have h8 : g7 bx = some (.inr (1, [.int (b2i bel), .ref ca, .ref pa, .int dp, .int al, .int w, .int h, .int d, .int ((size.toInt64 + ((-w).toInt64)).toInt32), .int od, .int to, .int ov])) := by rw [eg7]; exact hv_up_self _ _ _
      refine lv_goto (tgt := 49) hx hb d_Box_fillUp_36 (by decide) ?_
      refine lv_iload_n hx hb d_Box_fillUp_49 rfl (lv_at hl 0 rfl) ?_
      refine lv_i2l (v := w.toInt64) hx hb d_Box_fillUp_50 rfl ?_
      refine lv_aload_n hx hb d_Box_fillUp_51 rfl (lv_at hl 1 rfl) ?_
      refine hv_get hE k_Box hI 8 (by decide) w341 h8 rfl d_Box_fillUp_52 ?_
      refine lv_i2l (v := ((size.toInt64 + ((-w).toInt64)).toInt32).toInt64) hx hb d_Box_fillUp_55 rfl ?_
      by_cases hz56 : sz (w.toInt64 + (((size.toInt64 + ((-w).toInt64)).toInt32).toInt64)) = true
      rotate_left
      · refine hv_SN (As := [.long w.toInt64, .long (((size.toInt64 + ((-w).toInt64)).toInt32).toInt64)]) (rest := []) hE hml hK hI (c_BP_sumX l hl0 b0 D cA g7 w.toInt64 (((size.toInt64 + ((-w).toInt64)).toInt32).toInt64) hz56) cd_BP_sum w384 w385 rfl hl.1 (Nat.le_of_ble_eq_true rfl) d_Box_fillUp_56 ⟨by decide, by decide⟩ ⟨by decide, by decide⟩ (fun v9 g9 H locs hp hI => hp.elim) (fun q9 E9 ce9 g9 H locs hp hI hce hcv hcl => ?_)
        obtain ⟨hE9, hg9, -⟩ := hp
        rw [hg9] at hI
        rw [hE9] at hcl
        exact hv_out hout hlocks hI hK hce hcv hcl (⟨rfl, by simp only [fillF, if_neg hbl, if_pos c21, Option.bind_some, Option.bind_none, jsum_t hz30, jsum_f hz56], fun z z1 => by rw [eg7, hv_up_ne _ _ z1]⟩) (by decide) (by decide)
      refine hv_SNp (As := [.long w.toInt64, .long (((size.toInt64 + ((-w).toInt64)).toInt32).toInt64)]) (rest := []) hE hml hK hI (c_BP_sumR l hl0 b0 D cA g7 w.toInt64 (((size.toInt64 + ((-w).toInt64)).toInt32).toInt64) hz56) cd_BP_sum w384 w385 rfl rfl rfl hl.1 (Nat.le_of_ble_eq_true rfl) d_Box_fillUp_56 ⟨by decide, by decide⟩ ⟨by decide, by decide⟩ (fun H locs hI => ?_)
      refine W.eq (g2 := F0 m 59 ls [.int ((w.toInt64 + (((size.toInt64 + ((-w).toInt64)).toInt32).toInt64)).toInt32)]) rfl ?_
      refine lv_istore (lv' := [(4, .int ((w.toInt64 + (((size.toInt64 + ((-w).toInt64)).toInt32).toInt64)).toInt32)), (3, .int w), (0, .ref bx), (1, .int how), (2, .int size)]) hx hb d_Box_fillUp_59 hl (by decide) rfl (fun ls hl => ?_)
      refine lv_aload_n hx hb d_Box_fillUp_61 rfl (lv_at hl 2 rfl) ?_
      refine hv_get hE k_Box hI 0 (by decide) w325 h8 rfl d_Box_fillUp_62 ?_
      refine lv_if_eq (tgt := 77) hx hb d_Box_fillUp_65 (by decide) (fun c65 => ?_) (fun c65 => ?_)
      · skip
        refine lv_aload_n hx hb d_Box_fillUp_77 rfl (lv_at hl 2 rfl) ?_
        refine lv_iload hx hb d_Box_fillUp_78 (lv_at hl 0 rfl) ?_
        refine hv_put hE k_Box hI 5 (by decide) w335 h8 rfl rfl rfl (Nat.le_of_ble_eq_true rfl) d_Box_fillUp_80 (fun H locs hI => ?_)
        obtain ⟨g9, eg9⟩ : ∃ z : hv_M, z = hv_up g7 bx (.inr (1, [.int (b2i bel), .ref ca, .ref pa, .int dp, .int al, .int ((w.toInt64 + (((size.toInt64 + ((-w).toInt64)).toInt32).toInt64)).toInt32), .int h, .int d, .int ((size.toInt64 + ((-w).toInt64)).toInt32), .int od, .int to, .int ov])) := ⟨_, rfl⟩
        have hI : hv_I D CL b0 g9 s.heap H locs := by rw [eg9]; exact hI
        have h10 : g9 bx = some (.inr (1, [.int (b2i bel), .ref ca, .ref pa, .int dp, .int al, .int ((w.toInt64 + (((size.toInt64 + ((-w).toInt64)).toInt32).toInt64)).toInt32), .int h, .int d, .int ((size.toInt64 + ((-w).toInt64)).toInt32), .int od, .int to, .int ov])) := by rw [eg9]; exact hv_up_self _ _ _
        exact hv_vret hE hr hlocks hI hK (⟨rfl, (size.toInt64 + ((-w).toInt64)).toInt32, (w.toInt64 + (((size.toInt64 + ((-w).toInt64)).toInt32).toInt64)).toInt32, by simp only [fillF, if_neg hbl, if_pos c21, Option.bind_some, Option.bind_none, jsum_t hz30, jsum_t hz56], by simp only [eg9, eg7, hv_up_up, if_neg hbl]⟩) (by decide) (by decide) d_Box_fillUp_83
      · skip
        exact absurd c4 c65
  · skip
    have hbl : bel = true := by cases hb9 : bel with | true => rfl | false => exact absurd (by rw [hb9]; rfl) c4
    refine lv_aload_n hx hb d_Box_fillUp_7 rfl (lv_at hl 0 rfl) ?_
    refine hv_get hE k_Box hI 6 (by decide) w337 hbx rfl d_Box_fillUp_8 ?_
    refine lv_goto (tgt := 18) hx hb d_Box_fillUp_11 (by decide) ?_
    refine lv_istore_n (lv' := [(3, .int h), (0, .ref bx), (1, .int how), (2, .int size)]) hx hb d_Box_fillUp_18 rfl hl (by decide) rfl (fun ls hl => ?_)
    refine lv_iload_n hx hb d_Box_fillUp_19 rfl (lv_at hl 2 rfl) ?_
    refine lv_iconst (v := 1) hx hb d_Box_fillUp_20 (by decide) ?_
    refine lv_icmp_ne (tgt := 39) hx hb d_Box_fillUp_21 (by decide) (fun c21 => ?_) (fun c21 => ?_)
    · skip
      refine lv_iload_n hx hb d_Box_fillUp_39 rfl (lv_at hl 2 rfl) ?_
      refine lv_iconst (v := 2) hx hb d_Box_fillUp_40 (by decide) ?_
      refine lv_icmp_ne (tgt := 49) hx hb d_Box_fillUp_41 (by decide) (fun c41 => ?_) (fun c41 => ?_)
      · skip
        refine lv_iload_n hx hb d_Box_fillUp_49 rfl (lv_at hl 0 rfl) ?_
        refine lv_i2l (v := h.toInt64) hx hb d_Box_fillUp_50 rfl ?_
        refine lv_aload_n hx hb d_Box_fillUp_51 rfl (lv_at hl 1 rfl) ?_
        refine hv_get hE k_Box hI 8 (by decide) w341 hbx rfl d_Box_fillUp_52 ?_
        refine lv_i2l (v := (0 : Int32).toInt64) hx hb d_Box_fillUp_55 rfl ?_
        by_cases hz56 : sz (h.toInt64 + ((0 : Int32).toInt64)) = true
        rotate_left
        · refine hv_SN (As := [.long h.toInt64, .long ((0 : Int32).toInt64)]) (rest := []) hE hml hK hI (c_BP_sumX l hl0 b0 D cA f h.toInt64 ((0 : Int32).toInt64) hz56) cd_BP_sum w384 w385 rfl hl.1 (Nat.le_of_ble_eq_true rfl) d_Box_fillUp_56 ⟨by decide, by decide⟩ ⟨by decide, by decide⟩ (fun v9 g9 H locs hp hI => hp.elim) (fun q9 E9 ce9 g9 H locs hp hI hce hcv hcl => ?_)
          obtain ⟨hE9, hg9, -⟩ := hp
          rw [hg9] at hI
          rw [hE9] at hcl
          exact hv_out hout hlocks hI hK hce hcv hcl (⟨rfl, by simp only [fillF, if_pos hbl, if_neg c21, if_neg c41, Option.bind_some, Option.bind_none, jsum_f hz56], fun z z1 => rfl⟩) (by decide) (by decide)
        refine hv_SNp (As := [.long h.toInt64, .long ((0 : Int32).toInt64)]) (rest := []) hE hml hK hI (c_BP_sumR l hl0 b0 D cA f h.toInt64 ((0 : Int32).toInt64) hz56) cd_BP_sum w384 w385 rfl rfl rfl hl.1 (Nat.le_of_ble_eq_true rfl) d_Box_fillUp_56 ⟨by decide, by decide⟩ ⟨by decide, by decide⟩ (fun H locs hI => ?_)
        refine W.eq (g2 := F0 m 59 ls [.int ((h.toInt64 + ((0 : Int32).toInt64)).toInt32)]) rfl ?_
        refine lv_istore (lv' := [(4, .int ((h.toInt64 + ((0 : Int32).toInt64)).toInt32)), (3, .int h), (0, .ref bx), (1, .int how), (2, .int size)]) hx hb d_Box_fillUp_59 hl (by decide) rfl (fun ls hl => ?_)
        refine lv_aload_n hx hb d_Box_fillUp_61 rfl (lv_at hl 2 rfl) ?_
        refine hv_get hE k_Box hI 0 (by decide) w325 hbx rfl d_Box_fillUp_62 ?_
        refine lv_if_eq (tgt := 77) hx hb d_Box_fillUp_65 (by decide) (fun c65 => ?_) (fun c65 => ?_)
        · skip
          exact absurd c65 c4
        · skip
          refine lv_aload_n hx hb d_Box_fillUp_68 rfl (lv_at hl 2 rfl) ?_
          refine lv_iload hx hb d_Box_fillUp_69 (lv_at hl 0 rfl) ?_
          refine hv_put hE k_Box hI 6 (by decide) w337 hbx rfl rfl rfl (Nat.le_of_ble_eq_true rfl) d_Box_fillUp_71 (fun H locs hI => ?_)
          obtain ⟨g11, eg11⟩ : ∃ z : hv_M, z = hv_up f bx (.inr (1, [.int (b2i bel), .ref ca, .ref pa, .int dp, .int al, .int w, .int ((h.toInt64 + ((0 : Int32).toInt64)).toInt32), .int d, .int 0, .int od, .int to, .int ov])) := ⟨_, rfl⟩
          have hI : hv_I D CL b0 g11 s.heap H locs := by rw [eg11]; exact hI
          have h12 : g11 bx = some (.inr (1, [.int (b2i bel), .ref ca, .ref pa, .int dp, .int al, .int w, .int ((h.toInt64 + ((0 : Int32).toInt64)).toInt32), .int d, .int 0, .int od, .int to, .int ov])) := by rw [eg11]; exact hv_up_self _ _ _
          refine lv_goto (tgt := 83) hx hb d_Box_fillUp_74 (by decide) ?_
          exact hv_vret hE hr hlocks hI hK (⟨rfl, 0, (h.toInt64 + ((0 : Int32).toInt64)).toInt32, by simp only [fillF, if_pos hbl, if_neg c21, if_neg c41, Option.bind_some, Option.bind_none, jsum_t hz56], by simp only [eg11, hv_up_up, if_pos hbl]⟩) (by decide) (by decide) d_Box_fillUp_83
      · skip
        refine lv_aload_n hx hb d_Box_fillUp_44 rfl (lv_at hl 1 rfl) ?_
        refine lv_iload_n hx hb d_Box_fillUp_45 rfl (lv_at hl 3 rfl) ?_
        refine hv_put hE k_Box hI 8 (by decide) w341 hbx rfl rfl rfl (Nat.le_of_ble_eq_true rfl) d_Box_fillUp_46 (fun H locs hI => ?_)
        obtain ⟨g13, eg13⟩ : ∃ z : hv_M, z = hv_up f bx (.inr (1, [.int (b2i bel), .ref ca, .ref pa, .int dp, .int al, .int w, .int h, .int d, .int size, .int od, .int to, .int ov])) := ⟨_, rfl⟩
        have hI : hv_I D CL b0 g13 s.heap H locs := by rw [eg13]; exact hI
        have h14 : g13 bx = some (.inr (1, [.int (b2i bel), .ref ca, .ref pa, .int dp, .int al, .int w, .int h, .int d, .int size, .int od, .int to, .int ov])) := by rw [eg13]; exact hv_up_self _ _ _
        refine lv_iload_n hx hb d_Box_fillUp_49 rfl (lv_at hl 0 rfl) ?_
        refine lv_i2l (v := h.toInt64) hx hb d_Box_fillUp_50 rfl ?_
        refine lv_aload_n hx hb d_Box_fillUp_51 rfl (lv_at hl 1 rfl) ?_
        refine hv_get hE k_Box hI 8 (by decide) w341 h14 rfl d_Box_fillUp_52 ?_
        refine lv_i2l (v := size.toInt64) hx hb d_Box_fillUp_55 rfl ?_
        by_cases hz56 : sz (h.toInt64 + size.toInt64) = true
        rotate_left
        · refine hv_SN (As := [.long h.toInt64, .long size.toInt64]) (rest := []) hE hml hK hI (c_BP_sumX l hl0 b0 D cA g13 h.toInt64 size.toInt64 hz56) cd_BP_sum w384 w385 rfl hl.1 (Nat.le_of_ble_eq_true rfl) d_Box_fillUp_56 ⟨by decide, by decide⟩ ⟨by decide, by decide⟩ (fun v9 g9 H locs hp hI => hp.elim) (fun q9 E9 ce9 g9 H locs hp hI hce hcv hcl => ?_)
          obtain ⟨hE9, hg9, -⟩ := hp
          rw [hg9] at hI
          rw [hE9] at hcl
          exact hv_out hout hlocks hI hK hce hcv hcl (⟨rfl, by simp only [fillF, if_pos hbl, if_neg c21, if_pos c41, Option.bind_some, Option.bind_none, jsum_f hz56], fun z z1 => by rw [eg13, hv_up_ne _ _ z1]⟩) (by decide) (by decide)
        refine hv_SNp (As := [.long h.toInt64, .long size.toInt64]) (rest := []) hE hml hK hI (c_BP_sumR l hl0 b0 D cA g13 h.toInt64 size.toInt64 hz56) cd_BP_sum w384 w385 rfl rfl rfl hl.1 (Nat.le_of_ble_eq_true rfl) d_Box_fillUp_56 ⟨by decide, by decide⟩ ⟨by decide, by decide⟩ (fun H locs hI => ?_)
        refine W.eq (g2 := F0 m 59 ls [.int ((h.toInt64 + size.toInt64).toInt32)]) rfl ?_
        refine lv_istore (lv' := [(4, .int ((h.toInt64 + size.toInt64).toInt32)), (3, .int h), (0, .ref bx), (1, .int how), (2, .int size)]) hx hb d_Box_fillUp_59 hl (by decide) rfl (fun ls hl => ?_)
        refine lv_aload_n hx hb d_Box_fillUp_61 rfl (lv_at hl 2 rfl) ?_
        refine hv_get hE k_Box hI 0 (by decide) w325 h14 rfl d_Box_fillUp_62 ?_
        refine lv_if_eq (tgt := 77) hx hb d_Box_fillUp_65 (by decide) (fun c65 => ?_) (fun c65 => ?_)
        · skip
          exact absurd c65 c4
        · skip
          refine lv_aload_n hx hb d_Box_fillUp_68 rfl (lv_at hl 2 rfl) ?_
          refine lv_iload hx hb d_Box_fillUp_69 (lv_at hl 0 rfl) ?_
          refine hv_put hE k_Box hI 6 (by decide) w337 h14 rfl rfl rfl (Nat.le_of_ble_eq_true rfl) d_Box_fillUp_71 (fun H locs hI => ?_)
          obtain ⟨g15, eg15⟩ : ∃ z : hv_M, z = hv_up g13 bx (.inr (1, [.int (b2i bel), .ref ca, .ref pa, .int dp, .int al, .int w, .int ((h.toInt64 + size.toInt64).toInt32), .int d, .int size, .int od, .int to, .int ov])) := ⟨_, rfl⟩
          have hI : hv_I D CL b0 g15 s.heap H locs := by rw [eg15]; exact hI
          have h16 : g15 bx = some (.inr (1, [.int (b2i bel), .ref ca, .ref pa, .int dp, .int al, .int w, .int ((h.toInt64 + size.toInt64).toInt32), .int d, .int size, .int od, .int to, .int ov])) := by rw [eg15]; exact hv_up_self _ _ _
          refine lv_goto (tgt := 83) hx hb d_Box_fillUp_74 (by decide) ?_
          exact hv_vret hE hr hlocks hI hK (⟨rfl, size, (h.toInt64 + size.toInt64).toInt32, by simp only [fillF, if_pos hbl, if_neg c21, if_pos c41, Option.bind_some, Option.bind_none, jsum_t hz56], by simp only [eg15, eg13, hv_up_up, if_pos hbl]⟩) (by decide) (by decide) d_Box_fillUp_83
    · skip
      refine lv_aload_n hx hb d_Box_fillUp_24 rfl (lv_at hl 1 rfl) ?_
      refine lv_iload_n hx hb d_Box_fillUp_25 rfl (lv_at hl 3 rfl) ?_
      refine lv_i2l (v := size.toInt64) hx hb d_Box_fillUp_26 rfl ?_
      refine lv_iload_n hx hb d_Box_fillUp_27 rfl (lv_at hl 0 rfl) ?_
      refine lv_ineg hx hb d_Box_fillUp_28 ?_
      refine lv_i2l (v := (-h).toInt64) hx hb d_Box_fillUp_29 rfl ?_
      by_cases hz30 : sz (size.toInt64 + ((-h).toInt64)) = true
      rotate_left
      · refine hv_SN (As := [.long size.toInt64, .long ((-h).toInt64)]) (rest := [.ref bx]) hE hml hK hI (c_BP_sumX l hl0 b0 D cA f size.toInt64 ((-h).toInt64) hz30) cd_BP_sum w384 w385 rfl hl.1 (Nat.le_of_ble_eq_true rfl) d_Box_fillUp_30 ⟨by decide, by decide⟩ ⟨by decide, by decide⟩ (fun v9 g9 H locs hp hI => hp.elim) (fun q9 E9 ce9 g9 H locs hp hI hce hcv hcl => ?_)
        obtain ⟨hE9, hg9, -⟩ := hp
        rw [hg9] at hI
        rw [hE9] at hcl
        exact hv_out hout hlocks hI hK hce hcv hcl (⟨rfl, by simp only [fillF, if_pos hbl, if_pos c21, Option.bind_some, Option.bind_none, jsum_f hz30], fun z z1 => rfl⟩) (by decide) (by decide)
      refine hv_SNp (As := [.long size.toInt64, .long ((-h).toInt64)]) (rest := [.ref bx]) hE hml hK hI (c_BP_sumR l hl0 b0 D cA f size.toInt64 ((-h).toInt64) hz30) cd_BP_sum w384 w385 rfl rfl rfl hl.1 (Nat.le_of_ble_eq_true rfl) d_Box_fillUp_30 ⟨by decide, by decide⟩ ⟨by decide, by decide⟩ (fun H locs hI => ?_)
      refine W.eq (g2 := F0 m 33 ls [.int ((size.toInt64 + ((-h).toInt64)).toInt32), .ref bx]) rfl ?_
      refine hv_put hE k_Box hI 8 (by decide) w341 hbx rfl rfl rfl (Nat.le_of_ble_eq_true rfl) d_Box_fillUp_33 (fun H locs hI => ?_)
      obtain ⟨g17, eg17⟩ : ∃ z : hv_M, z = hv_up f bx (.inr (1, [.int (b2i bel), .ref ca, .ref pa, .int dp, .int al, .int w, .int h, .int d, .int ((size.toInt64 + ((-h).toInt64)).toInt32), .int od, .int to, .int ov])) := ⟨_, rfl⟩
      have hI : hv_I D CL b0 g17 s.heap H locs := by rw [eg17]; exact hI
      have h18 : g17 bx = some (.inr (1, [.int (b2i bel), .ref ca, .ref pa, .int dp, .int al, .int w, .int h, .int d, .int ((size.toInt64 + ((-h).toInt64)).toInt32), .int od, .int to, .int ov])) := by rw [eg17]; exact hv_up_self _ _ _
      refine lv_goto (tgt := 49) hx hb d_Box_fillUp_36 (by decide) ?_
      refine lv_iload_n hx hb d_Box_fillUp_49 rfl (lv_at hl 0 rfl) ?_
      refine lv_i2l (v := h.toInt64) hx hb d_Box_fillUp_50 rfl ?_
      refine lv_aload_n hx hb d_Box_fillUp_51 rfl (lv_at hl 1 rfl) ?_
      refine hv_get hE k_Box hI 8 (by decide) w341 h18 rfl d_Box_fillUp_52 ?_
      refine lv_i2l (v := ((size.toInt64 + ((-h).toInt64)).toInt32).toInt64) hx hb d_Box_fillUp_55 rfl ?_
      by_cases hz56 : sz (h.toInt64 + (((size.toInt64 + ((-h).toInt64)).toInt32).toInt64)) = true
      rotate_left
      · refine hv_SN (As := [.long h.toInt64, .long (((size.toInt64 + ((-h).toInt64)).toInt32).toInt64)]) (rest := []) hE hml hK hI (c_BP_sumX l hl0 b0 D cA g17 h.toInt64 (((size.toInt64 + ((-h).toInt64)).toInt32).toInt64) hz56) cd_BP_sum w384 w385 rfl hl.1 (Nat.le_of_ble_eq_true rfl) d_Box_fillUp_56 ⟨by decide, by decide⟩ ⟨by decide, by decide⟩ (fun v9 g9 H locs hp hI => hp.elim) (fun q9 E9 ce9 g9 H locs hp hI hce hcv hcl => ?_)
        obtain ⟨hE9, hg9, -⟩ := hp
        rw [hg9] at hI
        rw [hE9] at hcl
        exact hv_out hout hlocks hI hK hce hcv hcl (⟨rfl, by simp only [fillF, if_pos hbl, if_pos c21, Option.bind_some, Option.bind_none, jsum_t hz30, jsum_f hz56], fun z z1 => by rw [eg17, hv_up_ne _ _ z1]⟩) (by decide) (by decide)
      refine hv_SNp (As := [.long h.toInt64, .long (((size.toInt64 + ((-h).toInt64)).toInt32).toInt64)]) (rest := []) hE hml hK hI (c_BP_sumR l hl0 b0 D cA g17 h.toInt64 (((size.toInt64 + ((-h).toInt64)).toInt32).toInt64) hz56) cd_BP_sum w384 w385 rfl rfl rfl hl.1 (Nat.le_of_ble_eq_true rfl) d_Box_fillUp_56 ⟨by decide, by decide⟩ ⟨by decide, by decide⟩ (fun H locs hI => ?_)
      refine W.eq (g2 := F0 m 59 ls [.int ((h.toInt64 + (((size.toInt64 + ((-h).toInt64)).toInt32).toInt64)).toInt32)]) rfl ?_
      refine lv_istore (lv' := [(4, .int ((h.toInt64 + (((size.toInt64 + ((-h).toInt64)).toInt32).toInt64)).toInt32)), (3, .int h), (0, .ref bx), (1, .int how), (2, .int size)]) hx hb d_Box_fillUp_59 hl (by decide) rfl (fun ls hl => ?_)
      refine lv_aload_n hx hb d_Box_fillUp_61 rfl (lv_at hl 2 rfl) ?_
      refine hv_get hE k_Box hI 0 (by decide) w325 h18 rfl d_Box_fillUp_62 ?_
      refine lv_if_eq (tgt := 77) hx hb d_Box_fillUp_65 (by decide) (fun c65 => ?_) (fun c65 => ?_)
      · skip
        exact absurd c65 c4
      · skip
        refine lv_aload_n hx hb d_Box_fillUp_68 rfl (lv_at hl 2 rfl) ?_
        refine lv_iload hx hb d_Box_fillUp_69 (lv_at hl 0 rfl) ?_
        refine hv_put hE k_Box hI 6 (by decide) w337 h18 rfl rfl rfl (Nat.le_of_ble_eq_true rfl) d_Box_fillUp_71 (fun H locs hI => ?_)
        obtain ⟨g19, eg19⟩ : ∃ z : hv_M, z = hv_up g17 bx (.inr (1, [.int (b2i bel), .ref ca, .ref pa, .int dp, .int al, .int w, .int ((h.toInt64 + (((size.toInt64 + ((-h).toInt64)).toInt32).toInt64)).toInt32), .int d, .int ((size.toInt64 + ((-h).toInt64)).toInt32), .int od, .int to, .int ov])) := ⟨_, rfl⟩
        have hI : hv_I D CL b0 g19 s.heap H locs := by rw [eg19]; exact hI
        have h20 : g19 bx = some (.inr (1, [.int (b2i bel), .ref ca, .ref pa, .int dp, .int al, .int w, .int ((h.toInt64 + (((size.toInt64 + ((-h).toInt64)).toInt32).toInt64)).toInt32), .int d, .int ((size.toInt64 + ((-h).toInt64)).toInt32), .int od, .int to, .int ov])) := by rw [eg19]; exact hv_up_self _ _ _
        refine lv_goto (tgt := 83) hx hb d_Box_fillUp_74 (by decide) ?_
        exact hv_vret hE hr hlocks hI hK (⟨rfl, (size.toInt64 + ((-h).toInt64)).toInt32, (h.toInt64 + (((size.toInt64 + ((-h).toInt64)).toInt32).toInt64)).toInt32, by simp only [fillF, if_pos hbl, if_pos c21, Option.bind_some, Option.bind_none, jsum_t hz30, jsum_t hz56], by simp only [eg19, eg17, hv_up_up, if_pos hbl]⟩) (by decide) (by decide) d_Box_fillUp_83

