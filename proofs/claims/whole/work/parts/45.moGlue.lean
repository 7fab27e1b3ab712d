/-! ===== the reference: lay, setGlue ===== -/

set_option maxHeartbeats 4000000 in
set_option maxRecDepth 100000 in
theorem c_Mo_lay (l : Launch) (hl0 : l.stackTraces = false) (b0 : Nat) (D : va_G) (cA : Nat → ClassId) (f : hv_M) (mo : Nat) (a : Nat → Nat) (th st en ct : Int32) (gd : Bool) (ln bf ac un : Int64) (V : Wd) (s1 s2 : Nat → Int64) (r : Mk) (k X Y : Int32) (c9 : Nat) (hmo : f mo = some (moE a th st en ct gd ln bf ac un (nI r.2))) (hnj : moN mo a) (hA : moA cA f a V) (h14 : f (a 14) = some (.inl (cA 1, 4, .inr (.inl s1)))) (h15 : f (a 15) = some (.inl (cA 1, 4, .inr (.inl s2)))) (h16 : f (a 16) = some (.inl (cA 1, 6000, .inr (.inl (r.1))))) (hr9 : r.2 ≤ 1000) (hct : ct = nI c9) (hc9 : c9 ≤ 100) (hbv : ∀ b, b < c9 → bxV V b) (hF9 : ∀ b, b < c9 → wF V (b + 1) ≤ 10100) : hv_Met l y_Mo_lay [Cond.code y_Mo_lay b_Mo_lay 4 (some FieldType.int)] (RM 17 0 0) b0 (Fa D cA) D CL [.ref mo, .int k, .int X, .int Y] f (fun v g => (isBx k c9 = false ∧ v = some (.int 0) ∧ moRef f g mo (moE a 1 st en ct gd ln bf ac un (nI r.2))) ∨ (isBx k c9 = true ∧ (sz X.toInt64 && sz Y.toInt64) = false ∧ v = some (.int 0) ∧ moRef f g mo (moE a 2 st en ct gd ln bf ac un (nI r.2))) ∨ (isBx k c9 = true ∧ sz X.toInt64 = true ∧ sz Y.toInt64 = true ∧ v = some (.int (layR V k.toNatClampNeg X.toInt64 Y.toInt64 r).2) ∧ msc cA g mo a 0 st en ct (layR V k.toNatClampNeg X.toInt64 Y.toInt64 r).1 ∧ ∀ z, z ≠ mo → z ≠ a 14 → z ≠ a 15 → z ≠ a 16 → g z = f z)) (NX) := by
  refine hv_Met.of (own := "BoxPackerModel") (by decide) rfl (Nat.le_of_ble_eq_true rfl) ?_
  intro p e s m below meth c hE hml hout hr hlocks hname hK hI ls hl
  have hl : lv_has ls 4 [(0, .ref mo), (1, .int k), (2, .int X), (3, .int Y)] := hl
  obtain ⟨hx, hb, hown, hts, hVK⟩ := id hE
  refine lv_aload_n hx hb d_Mo_lay_0 rfl (lv_at hl 0 rfl) ?_
  refine lv_aload_n hx hb d_Mo_lay_1 rfl (lv_at hl 0 rfl) ?_
  refine lv_iload_n hx hb d_Mo_lay_2 rfl (lv_at hl 1 rfl) ?_
  refine hv_Vp (As := [.int k]) (rest := [.ref mo]) hE hml hK hI (c_Mo_isBox l hl0 b0 D cA f mo a th st en ct gd ln bf ac un (nI r.2) k c9 hmo hnj hct) cd_Mo_isBox w644 w646 ws19 hmo rfl rfl rfl rfl hl.1 (Nat.le_of_ble_eq_true rfl) d_Mo_lay_3 ⟨by decide, by decide⟩ ⟨by decide, by decide⟩ (fun H locs hI => ?_)
  refine W.eq (g2 := F0 m 6 ls [.int (b2i (isBx k c9)), .ref mo]) rfl ?_
  refine lv_if_ne (tgt := 13) hx hb d_Mo_lay_6 (by decide) (fun c6 => ?_) (fun c6 => ?_)
  · skip
    have k6 := b2i_t c6
    refine lv_iload_n hx hb d_Mo_lay_13 rfl (lv_at hl 2 rfl) ?_
    refine lv_i2l (v := X.toInt64) hx hb d_Mo_lay_14 rfl ?_
    refine hv_Sp (As := [.long X.toInt64]) (rest := [.ref mo]) hE hml hK hI (c_Mo_isSize l hl0 b0 D cA f X.toInt64) cd_Mo_isSize w608 w609 rfl rfl rfl hl.1 (Nat.le_of_ble_eq_true rfl) d_Mo_lay_15 ⟨by decide, by decide⟩ ⟨by decide, by decide⟩ (fun H locs hI => ?_)
    refine W.eq (g2 := F0 m 18 ls [.int (b2i (sz X.toInt64)), .ref mo]) rfl ?_
    refine lv_if_eq (tgt := 29) hx hb d_Mo_lay_18 (by decide) (fun c18 => ?_) (fun c18 => ?_)
    · skip
      have k18 := b2i_f c18
      refine lv_iconst (v := 2) hx hb d_Mo_lay_29 (by decide) ?_
      refine lv_goto (tgt := 34) hx hb d_Mo_lay_30 (by decide) ?_
      refine hv_put hE k_Mo hI 0 (by decide) w516 hmo rfl rfl rfl (Nat.le_of_ble_eq_true rfl) d_Mo_lay_34 (fun H locs hI => ?_)
      obtain ⟨g1, eg1⟩ : ∃ z : hv_M, z = hv_up f mo (moE a 2 st en ct gd ln bf ac un (nI r.2)) := ⟨_, rfl⟩
      have hI : hv_I D CL b0 g1 s.heap H locs := by rw [eg1]; exact hI
      have hq2 : g1 mo = some (moE a 2 st en ct gd ln bf ac un (nI r.2)) := by rw [eg1]; exact hv_up_self _ _ _
      refine lv_aload_n hx hb d_Mo_lay_37 rfl (lv_at hl 0 rfl) ?_
      refine hv_get hE k_Mo hI 0 (by decide) w516 hq2 rfl d_Mo_lay_38 ?_
      refine lv_if_le (tgt := 46) hx hb d_Mo_lay_41 (by decide) (fun c41 => ?_) (fun c41 => ?_)
      · skip
        exact absurd c41 (by decide)
      · skip
        have n41 := Int32.not_le.mp c41
        refine lv_iconst (v := 0) hx hb d_Mo_lay_44 (by decide) ?_
        have hq3 : g1 (a 14) = some (.inl (cA 1, 4, .inr (.inl s1))) := by rw [eg1, hv_up_ne _ _ (hnj.2 14 (by decide))]; exact h14
        have hq4 : g1 (a 15) = some (.inl (cA 1, 4, .inr (.inl s2))) := by rw [eg1, hv_up_ne _ _ (hnj.2 15 (by decide))]; exact h15
        have hq5 : g1 (a 16) = some (.inl (cA 1, 6000, .inr (.inl (r.1)))) := by rw [eg1, hv_up_ne _ _ (hnj.2 16 (by decide))]; exact h16
        exact hv_iret hE hr hlocks hI hK (v := 0) (Or.inr (Or.inl ⟨k6, by simp [k18], rfl, hq2, fun z z1 => by rw [eg1, hv_up_ne _ _ z1]⟩)) (by decide) (by decide) d_Mo_lay_45
    · skip
      have k18 := b2i_t c18
      refine lv_iload_n hx hb d_Mo_lay_21 rfl (lv_at hl 3 rfl) ?_
      refine lv_i2l (v := Y.toInt64) hx hb d_Mo_lay_22 rfl ?_
      refine hv_Sp (As := [.long Y.toInt64]) (rest := [.ref mo]) hE hml hK hI (c_Mo_isSize l hl0 b0 D cA f Y.toInt64) cd_Mo_isSize w608 w609 rfl rfl rfl hl.1 (Nat.le_of_ble_eq_true rfl) d_Mo_lay_23 ⟨by decide, by decide⟩ ⟨by decide, by decide⟩ (fun H locs hI => ?_)
      refine W.eq (g2 := F0 m 26 ls [.int (b2i (sz Y.toInt64)), .ref mo]) rfl ?_
      refine lv_if_ne (tgt := 33) hx hb d_Mo_lay_26 (by decide) (fun c26 => ?_) (fun c26 => ?_)
      · skip
        have k26 := b2i_t c26
        refine lv_iconst (v := 0) hx hb d_Mo_lay_33 (by decide) ?_
        refine hv_put hE k_Mo hI 0 (by decide) w516 hmo rfl rfl rfl (Nat.le_of_ble_eq_true rfl) d_Mo_lay_34 (fun H locs hI => ?_)
        obtain ⟨g6, eg6⟩ : ∃ z : hv_M, z = hv_up f mo (moE a 0 st en ct gd ln bf ac un (nI r.2)) := ⟨_, rfl⟩
        have hI : hv_I D CL b0 g6 s.heap H locs := by rw [eg6]; exact hI
        have hq7 : g6 mo = some (moE a 0 st en ct gd ln bf ac un (nI r.2)) := by rw [eg6]; exact hv_up_self _ _ _
        refine lv_aload_n hx hb d_Mo_lay_37 rfl (lv_at hl 0 rfl) ?_
        refine hv_get hE k_Mo hI 0 (by decide) w516 hq7 rfl d_Mo_lay_38 ?_
        refine lv_if_le (tgt := 46) hx hb d_Mo_lay_41 (by decide) (fun c41 => ?_) (fun c41 => ?_)
        · skip
          have n41 := Int32.not_lt.mpr c41
          refine lv_aload_n hx hb d_Mo_lay_46 rfl (lv_at hl 0 rfl) ?_
          refine lv_iconst (v := 0) hx hb d_Mo_lay_47 (by decide) ?_
          refine hv_put hE k_Mo hI 26 (by decide) w542 hq7 rfl rfl rfl (Nat.le_of_ble_eq_true rfl) d_Mo_lay_48 (fun H locs hI => ?_)
          obtain ⟨g8, eg8⟩ : ∃ z : hv_M, z = hv_up g6 mo (moE a 0 st en ct gd ln bf ac un 0) := ⟨_, rfl⟩
          have hI : hv_I D CL b0 g8 s.heap H locs := by rw [eg8]; exact hI
          have hq9 : g8 mo = some (moE a 0 st en ct gd ln bf ac un 0) := by rw [eg8]; exact hv_up_self _ _ _
          refine lv_aload_n hx hb d_Mo_lay_51 rfl (lv_at hl 0 rfl) ?_
          refine hv_get hE k_Mo hI 17 (by decide) w533 hq9 rfl d_Mo_lay_52 ?_
          refine lv_iload_n hx hb d_Mo_lay_55 rfl (lv_at hl 1 rfl) ?_
          have hq10 : g8 (a 13) = some (.inl (cA 0, 100, .inl (wA V 9))) := by rw [eg8, hv_up_ne _ _ (hnj.2 13 (by decide)), eg6, hv_up_ne _ _ (hnj.2 13 (by decide))]; exact (hA.2.2.2.2 9 (by decide))
          refine hv_iald hE hI 0 hq10 rfl (pk_in k.toNatClampNeg 100 (Nat.lt_of_lt_of_le (isBx_nat k6 hc9).1 hc9) (isBx_nat k6 hc9).2) d_Mo_lay_56 ?_
          refine W.eq (g2 := F0 m 57 ls [.int (wA V 9 k.toNatClampNeg)]) rfl ?_
          refine lv_sipush (v := 20000) hx hb d_Mo_lay_57 (by decide) ?_
          refine lv_icmp_gt (tgt := 75) hx hb d_Mo_lay_60 (by decide) (fun c60 => ?_) (fun c60 => ?_)
          · skip
            have n60 := Int32.not_le.mpr c60
            refine lv_aload_n hx hb d_Mo_lay_75 rfl (lv_at hl 0 rfl) ?_
            refine lv_iconst (v := 0) hx hb d_Mo_lay_76 (by decide) ?_
            refine hv_put hE k_Mo hI 26 (by decide) w542 hq9 rfl rfl rfl (Nat.le_of_ble_eq_true rfl) d_Mo_lay_77 (fun H locs hI => ?_)
            obtain ⟨g11, eg11⟩ : ∃ z : hv_M, z = hv_up g8 mo (moE a 0 st en ct gd ln bf ac un 0) := ⟨_, rfl⟩
            have hI : hv_I D CL b0 g11 s.heap H locs := by rw [eg11]; exact hI
            have hq12 : g11 mo = some (moE a 0 st en ct gd ln bf ac un 0) := by rw [eg11]; exact hv_up_self _ _ _
            refine lv_iconst (v := (-1)) hx hb d_Mo_lay_80 (by decide) ?_
            have hq13 : g11 (a 14) = some (.inl (cA 1, 4, .inr (.inl s1))) := by rw [eg11, hv_up_ne _ _ (hnj.2 14 (by decide)), eg8, hv_up_ne _ _ (hnj.2 14 (by decide)), eg6, hv_up_ne _ _ (hnj.2 14 (by decide))]; exact h14
            have hq14 : g11 (a 15) = some (.inl (cA 1, 4, .inr (.inl s2))) := by rw [eg11, hv_up_ne _ _ (hnj.2 15 (by decide)), eg8, hv_up_ne _ _ (hnj.2 15 (by decide)), eg6, hv_up_ne _ _ (hnj.2 15 (by decide))]; exact h15
            have hq15 : g11 (a 16) = some (.inl (cA 1, 6000, .inr (.inl (r.1)))) := by rw [eg11, hv_up_ne _ _ (hnj.2 16 (by decide)), eg8, hv_up_ne _ _ (hnj.2 16 (by decide)), eg6, hv_up_ne _ _ (hnj.2 16 (by decide))]; exact h16
            exact hv_iret hE hr hlocks hI hK (v := (-1)) (Or.inr (Or.inr (show _ ∧ _ ∧ _ ∧ _ ∧ _ ∧ _ by rw [show layR V k.toNatClampNeg X.toInt64 Y.toInt64 r = _ from if_pos c60]; exact ⟨k6, k18, k26, rfl, ⟨⟨_, (ln, bf, ac, un, s1, s2), hq12, hq13, hq14⟩, hq15⟩, fun z z1 z2 z3 z4 => by rw [eg11, hv_up_ne _ _ z1, eg8, hv_up_ne _ _ z1, eg6, hv_up_ne _ _ z1]⟩))) (by decide) (by decide) d_Mo_lay_81
          · skip
            have n60 := Int32.not_lt.mp c60
            refine lv_aload_n hx hb d_Mo_lay_63 rfl (lv_at hl 0 rfl) ?_
            refine lv_iload_n hx hb d_Mo_lay_64 rfl (lv_at hl 1 rfl) ?_
            refine lv_iload_n hx hb d_Mo_lay_65 rfl (lv_at hl 2 rfl) ?_
            refine lv_i2l (v := X.toInt64) hx hb d_Mo_lay_66 rfl ?_
            refine lv_iload_n hx hb d_Mo_lay_67 rfl (lv_at hl 3 rfl) ?_
            refine lv_i2l (v := Y.toInt64) hx hb d_Mo_lay_68 rfl ?_
            refine W.eq (g2 := F0 m 69 ls [.long Y.toInt64, .long X.toInt64, .int (nI k.toNatClampNeg), .ref mo]) (by rw [← (isBx_nat k6 hc9).2]) ?_
            have hq16 : g8 (a 14) = some (.inl (cA 1, 4, .inr (.inl s1))) := by rw [eg8, hv_up_ne _ _ (hnj.2 14 (by decide)), eg6, hv_up_ne _ _ (hnj.2 14 (by decide))]; exact h14
            have hq17 : g8 (a 15) = some (.inl (cA 1, 4, .inr (.inl s2))) := by rw [eg8, hv_up_ne _ _ (hnj.2 15 (by decide)), eg6, hv_up_ne _ _ (hnj.2 15 (by decide))]; exact h15
            have hq18 : g8 (a 16) = some (.inl (cA 1, 6000, .inr (.inl (r.1)))) := by rw [eg8, hv_up_ne _ _ (hnj.2 16 (by decide)), eg6, hv_up_ne _ _ (hnj.2 16 (by decide))]; exact h16
            have hA19 : moA cA g8 a V := ⟨by rw [eg8, hv_up_ne _ _ (hnj.2 0 (by decide)), eg6, hv_up_ne _ _ (hnj.2 0 (by decide))]; exact hA.1, by rw [eg8, hv_up_ne _ _ (hnj.2 1 (by decide)), eg6, hv_up_ne _ _ (hnj.2 1 (by decide))]; exact hA.2.1, by rw [eg8, hv_up_ne _ _ (hnj.2 2 (by decide)), eg6, hv_up_ne _ _ (hnj.2 2 (by decide))]; exact hA.2.2.1, by rw [eg8, hv_up_ne _ _ (hnj.2 3 (by decide)), eg6, hv_up_ne _ _ (hnj.2 3 (by decide))]; exact hA.2.2.2.1, fun j9 hj9 => by rw [eg8, hv_up_ne _ _ (hnj.2 (4 + j9) (by omega)), eg6, hv_up_ne _ _ (hnj.2 (4 + j9) (by omega))]; exact hA.2.2.2.2 j9 hj9⟩
            refine hv_V (As := [.int (nI k.toNatClampNeg), .long X.toInt64, .long Y.toInt64]) (rest := []) hE hml hK hI (mayP_all l hl0 b0 D cA mo a 0 st en ct V c9 hnj hc9 hbv hF9 10 g8 k.toNatClampNeg X.toInt64 Y.toInt64 (r.1, 0) ⟨⟨gd, (ln, bf, ac, un, s1, s2), hq9, hq16, hq17⟩, hq18⟩ hA19 (Nat.zero_le _) (isBx_nat k6 hc9).1 (hbv _ (isBx_nat k6 hc9).1).2.2.2.2.2.2.2.2.1.2) cd_Mo_layBox w742 w744 ws33 hq9 rfl rfl hl.1 (Nat.le_of_ble_eq_true rfl) d_Mo_lay_69 ⟨by decide, by decide⟩ ⟨by decide, by decide⟩ (fun v9 g21 H locs hp hI => ?_) (fun q9 E9 ce9 g9 H locs hp => hp.elim)
            obtain ⟨hv, ⟨⟨gd20, v20, hs20⟩, hh20⟩, ho920⟩ := hp
            rw [hv]
            refine W.eq (g2 := F0 m 72 ls [.int (b2i (layF V 10 k.toNatClampNeg X.toInt64 Y.toInt64 (r.1, 0)).1)]) rfl ?_
            refine lv_if_ne (tgt := 82) hx hb d_Mo_lay_72 (by decide) (fun c72 => ?_) (fun c72 => ?_)
            · skip
              have k72 := b2i_t c72
              refine lv_aload_n hx hb d_Mo_lay_82 rfl (lv_at hl 0 rfl) ?_
              refine hv_get hE k_Mo hI 26 (by decide) w542 hs20.1 rfl d_Mo_lay_83 ?_
              exact hv_iret hE hr hlocks hI hK (v := nI (layF V 10 k.toNatClampNeg X.toInt64 Y.toInt64 (r.1, 0)).2.2) (Or.inr (Or.inr (show _ ∧ _ ∧ _ ∧ _ ∧ _ ∧ _ by rw [show layR V k.toNatClampNeg X.toInt64 Y.toInt64 r = _ from (if_neg c60).trans (if_pos k72)]; exact ⟨k6, k18, k26, rfl, ⟨⟨_, _, hs20.1, hs20.2.1, hs20.2.2⟩, hh20⟩, fun z z1 z2 z3 z4 => by rw [ho920 _ z1 z2 z3 z4, eg8, hv_up_ne _ _ z1, eg6, hv_up_ne _ _ z1]⟩))) (by decide) (by decide) d_Mo_lay_86
            · skip
              have k72 := b2i_f c72
              refine lv_aload_n hx hb d_Mo_lay_75 rfl (lv_at hl 0 rfl) ?_
              refine lv_iconst (v := 0) hx hb d_Mo_lay_76 (by decide) ?_
              refine hv_put hE k_Mo hI 26 (by decide) w542 hs20.1 rfl rfl rfl (Nat.le_of_ble_eq_true rfl) d_Mo_lay_77 (fun H locs hI => ?_)
              obtain ⟨g22, eg22⟩ : ∃ z : hv_M, z = hv_up g21 mo (moE a 0 st en ct (gd20) ((v20).1) ((v20).2.1) ((v20).2.2.1) ((v20).2.2.2.1) 0) := ⟨_, rfl⟩
              have hI : hv_I D CL b0 g22 s.heap H locs := by rw [eg22]; exact hI
              have hq23 : g22 mo = some (moE a 0 st en ct (gd20) ((v20).1) ((v20).2.1) ((v20).2.2.1) ((v20).2.2.2.1) 0) := by rw [eg22]; exact hv_up_self _ _ _
              refine lv_iconst (v := (-1)) hx hb d_Mo_lay_80 (by decide) ?_
              have hq24 : g22 (a 14) = some (.inl (cA 1, 4, .inr (.inl (v20).2.2.2.2.1))) := by rw [eg22, hv_up_ne _ _ (hnj.2 14 (by decide))]; exact hs20.2.1
              have hq25 : g22 (a 15) = some (.inl (cA 1, 4, .inr (.inl (v20).2.2.2.2.2))) := by rw [eg22, hv_up_ne _ _ (hnj.2 15 (by decide))]; exact hs20.2.2
              have hq26 : g22 (a 16) = some (.inl (cA 1, 6000, .inr (.inl ((layF V 10 k.toNatClampNeg X.toInt64 Y.toInt64 (r.1, 0)).2.1)))) := by rw [eg22, hv_up_ne _ _ (hnj.2 16 (by decide))]; exact hh20
              exact hv_iret hE hr hlocks hI hK (v := (-1)) (Or.inr (Or.inr (show _ ∧ _ ∧ _ ∧ _ ∧ _ ∧ _ by rw [show layR V k.toNatClampNeg X.toInt64 Y.toInt64 r = _ from (if_neg c60).trans (if_neg (by rw [k72]; decide))]; exact ⟨k6, k18, k26, rfl, ⟨⟨_, _, hq23, hq24, hq25⟩, hq26⟩, fun z z1 z2 z3 z4 => by rw [eg22, hv_up_ne _ _ z1, ho920 _ z1 z2 z3 z4, eg8, hv_up_ne _ _ z1, eg6, hv_up_ne _ _ z1]⟩))) (by decide) (by decide) d_Mo_lay_81
        · skip
          exact absurd (by decide) c41
      · skip
        have k26 := b2i_f c26
        refine lv_iconst (v := 2) hx hb d_Mo_lay_29 (by decide) ?_
        refine lv_goto (tgt := 34) hx hb d_Mo_lay_30 (by decide) ?_
        refine hv_put hE k_Mo hI 0 (by decide) w516 hmo rfl rfl rfl (Nat.le_of_ble_eq_true rfl) d_Mo_lay_34 (fun H locs hI => ?_)
        obtain ⟨g27, eg27⟩ : ∃ z : hv_M, z = hv_up f mo (moE a 2 st en ct gd ln bf ac un (nI r.2)) := ⟨_, rfl⟩
        have hI : hv_I D CL b0 g27 s.heap H locs := by rw [eg27]; exact hI
        have hq28 : g27 mo = some (moE a 2 st en ct gd ln bf ac un (nI r.2)) := by rw [eg27]; exact hv_up_self _ _ _
        refine lv_aload_n hx hb d_Mo_lay_37 rfl (lv_at hl 0 rfl) ?_
        refine hv_get hE k_Mo hI 0 (by decide) w516 hq28 rfl d_Mo_lay_38 ?_
        refine lv_if_le (tgt := 46) hx hb d_Mo_lay_41 (by decide) (fun c41 => ?_) (fun c41 => ?_)
        · skip
          exact absurd c41 (by decide)
        · skip
          have n41 := Int32.not_le.mp c41
          refine lv_iconst (v := 0) hx hb d_Mo_lay_44 (by decide) ?_
          have hq29 : g27 (a 14) = some (.inl (cA 1, 4, .inr (.inl s1))) := by rw [eg27, hv_up_ne _ _ (hnj.2 14 (by decide))]; exact h14
          have hq30 : g27 (a 15) = some (.inl (cA 1, 4, .inr (.inl s2))) := by rw [eg27, hv_up_ne _ _ (hnj.2 15 (by decide))]; exact h15
          have hq31 : g27 (a 16) = some (.inl (cA 1, 6000, .inr (.inl (r.1)))) := by rw [eg27, hv_up_ne _ _ (hnj.2 16 (by decide))]; exact h16
          exact hv_iret hE hr hlocks hI hK (v := 0) (Or.inr (Or.inl ⟨k6, by simp [k18, k26], rfl, hq28, fun z z1 => by rw [eg27, hv_up_ne _ _ z1]⟩)) (by decide) (by decide) d_Mo_lay_45
  · skip
    have k6 := b2i_f c6
    refine lv_iconst (v := 1) hx hb d_Mo_lay_9 (by decide) ?_
    refine lv_goto (tgt := 34) hx hb d_Mo_lay_10 (by decide) ?_
    refine hv_put hE k_Mo hI 0 (by decide) w516 hmo rfl rfl rfl (Nat.le_of_ble_eq_true rfl) d_Mo_lay_34 (fun H locs hI => ?_)
    obtain ⟨g32, eg32⟩ : ∃ z : hv_M, z = hv_up f mo (moE a 1 st en ct gd ln bf ac un (nI r.2)) := ⟨_, rfl⟩
    have hI : hv_I D CL b0 g32 s.heap H locs := by rw [eg32]; exact hI
    have hq33 : g32 mo = some (moE a 1 st en ct gd ln bf ac un (nI r.2)) := by rw [eg32]; exact hv_up_self _ _ _
    refine lv_aload_n hx hb d_Mo_lay_37 rfl (lv_at hl 0 rfl) ?_
    refine hv_get hE k_Mo hI 0 (by decide) w516 hq33 rfl d_Mo_lay_38 ?_
    refine lv_if_le (tgt := 46) hx hb d_Mo_lay_41 (by decide) (fun c41 => ?_) (fun c41 => ?_)
    · skip
      exact absurd c41 (by decide)
    · skip
      have n41 := Int32.not_le.mp c41
      refine lv_iconst (v := 0) hx hb d_Mo_lay_44 (by decide) ?_
      have hq34 : g32 (a 14) = some (.inl (cA 1, 4, .inr (.inl s1))) := by rw [eg32, hv_up_ne _ _ (hnj.2 14 (by decide))]; exact h14
      have hq35 : g32 (a 15) = some (.inl (cA 1, 4, .inr (.inl s2))) := by rw [eg32, hv_up_ne _ _ (hnj.2 15 (by decide))]; exact h15
      have hq36 : g32 (a 16) = some (.inl (cA 1, 6000, .inr (.inl (r.1)))) := by rw [eg32, hv_up_ne _ _ (hnj.2 16 (by decide))]; exact h16
      exact hv_iret hE hr hlocks hI hK (v := 0) (Or.inl ⟨k6, rfl, hq33, fun z z1 => by rw [eg32, hv_up_ne _ _ z1]⟩) (by decide) (by decide) d_Mo_lay_45

set_option maxHeartbeats 4000000 in
set_option maxRecDepth 100000 in
theorem c_Mo_setGlue (l : Launch) (hl0 : l.stackTraces = false) (b0 : Nat) (D : va_G) (cA : Nat → ClassId) (f : hv_M) (mo : Nat) (a : Nat → Nat) (th st en ct : Int32) (gd : Bool) (ln bf ac un : Int64) (md : Int32) (V : Wd) (s1 s2 : Nat → Int64) (ex : Int64) (c9 : Nat) (hmo : f mo = some (moE a th st en ct gd ln bf ac un md)) (hnj : moN mo a) (hA : moA cA f a V) (h14 : f (a 14) = some (.inl (cA 1, 4, .inr (.inl s1)))) (h15 : f (a 15) = some (.inl (cA 1, 4, .inr (.inl s2)))) (hc9 : c9 < 100) : hv_Met l y_Mo_setGlue [Cond.code y_Mo_setGlue b_Mo_setGlue 7 none] (RM 1 0 0) b0 (Fa D cA) D CL [.ref mo, .int (nI c9), .long ex] f (fun v g => v = none ∧ g (a 7) = some (.inl (cA 0, 100, .inl (upd (wA V 3) c9 ex.toInt32))) ∧ g (a 8) = some (.inl (cA 0, 100, .inl (upd (wA V 4) c9 ((otF ex (s1, s2)).1)))) ∧ g (a 9) = some (.inl (cA 0, 100, .inl (upd (wA V 5) c9 ((otF ex (s1, s2)).2)))) ∧ g (a 10) = some (.inl (cA 0, 100, .inl (upd (wA V 6) c9 (baM ex (otF ex (s1, s2)))))) ∧ g (a 11) = some (.inl (cA 0, 100, .inl (upd (wA V 7) c9 (ovM ex (otF ex (s1, s2)))))) ∧ ∀ z, z ≠ a 7 → z ≠ a 8 → z ≠ a 9 → z ≠ a 10 → z ≠ a 11 → g z = f z) (NX) := by
  refine hv_Met.of (own := "BoxPackerModel") (by decide) rfl (Nat.le_of_ble_eq_true rfl) ?_
  intro p e s m below meth c hE hml hout hr hlocks hname hK hI ls hl
  have hl : lv_has ls 7 [(0, .ref mo), (1, .int (nI c9)), (2, .long ex)] := hl
  obtain ⟨hx, hb, hown, hts, hVK⟩ := id hE
  refine lv_aload_n hx hb d_Mo_setGlue_0 rfl (lv_at hl 0 rfl) ?_
  refine hv_get hE k_Mo hI 11 (by decide) w527 hmo rfl d_Mo_setGlue_1 ?_
  refine lv_iload_n hx hb d_Mo_setGlue_4 rfl (lv_at hl 1 rfl) ?_
  refine lv_lload_n hx hb d_Mo_setGlue_5 rfl (lv_at hl 2 rfl) ?_
  refine lv_l2i (v := ex.toInt32) hx hb d_Mo_setGlue_6 rfl ?_
  refine hv_iast hE hI 0 (hA.2.2.2.2 3 (by decide)) rfl (pk_in c9 100 hc9 rfl (by omega)) d_Mo_setGlue_7 (fun H locs hI => ?_)
  rw [nI_cl (by omega)] at hI
  obtain ⟨g1, eg1⟩ : ∃ z : hv_M, z = hv_up f (a 7) (.inl (cA 0, 100, .inl (upd (wA V 3) c9 ex.toInt32))) := ⟨_, rfl⟩
  have hI : hv_I D CL b0 g1 s.heap H locs := by rw [eg1]; exact hI
  have hq2 : g1 (a 7) = some (.inl (cA 0, 100, .inl (upd (wA V 3) c9 ex.toInt32))) := by rw [eg1]; exact hv_up_self _ _ _
  refine lv_aload_n hx hb d_Mo_setGlue_8 rfl (lv_at hl 0 rfl) ?_
  have hq3 : g1 mo = some (moE a th st en ct gd ln bf ac un md) := by rw [eg1, hv_up_ne _ _ (Ne.symm (hnj.2 7 (by decide)))]; exact hmo
  refine hv_get hE k_Mo hI 12 (by decide) w528 hq3 rfl d_Mo_setGlue_9 ?_
  refine lv_iload_n hx hb d_Mo_setGlue_12 rfl (lv_at hl 1 rfl) ?_
  refine lv_iconst (v := 0) hx hb d_Mo_setGlue_13 (by decide) ?_
  have hq4 : g1 (a 8) = some (.inl (cA 0, 100, .inl (wA V 4))) := by rw [eg1, hv_up_ne _ _ (hnj.1 8 7 (by decide) (by decide) (by decide))]; exact (hA.2.2.2.2 4 (by decide))
  refine hv_iast hE hI 0 hq4 rfl (pk_in c9 100 hc9 rfl (by omega)) d_Mo_setGlue_14 (fun H locs hI => ?_)
  rw [nI_cl (by omega)] at hI
  obtain ⟨g5, eg5⟩ : ∃ z : hv_M, z = hv_up g1 (a 8) (.inl (cA 0, 100, .inl (upd (wA V 4) c9 0))) := ⟨_, rfl⟩
  have hI : hv_I D CL b0 g5 s.heap H locs := by rw [eg5]; exact hI
  have hq6 : g5 (a 8) = some (.inl (cA 0, 100, .inl (upd (wA V 4) c9 0))) := by rw [eg5]; exact hv_up_self _ _ _
  refine lv_aload_n hx hb d_Mo_setGlue_15 rfl (lv_at hl 0 rfl) ?_
  have hq7 : g5 mo = some (moE a th st en ct gd ln bf ac un md) := by rw [eg5, hv_up_ne _ _ (Ne.symm (hnj.2 8 (by decide)))]; exact hq3
  refine hv_get hE k_Mo hI 13 (by decide) w529 hq7 rfl d_Mo_setGlue_16 ?_
  refine lv_iload_n hx hb d_Mo_setGlue_19 rfl (lv_at hl 1 rfl) ?_
  refine lv_iconst (v := 0) hx hb d_Mo_setGlue_20 (by decide) ?_
  have hq8 : g5 (a 9) = some (.inl (cA 0, 100, .inl (wA V 5))) := by rw [eg5, hv_up_ne _ _ (hnj.1 9 8 (by decide) (by decide) (by decide)), eg1, hv_up_ne _ _ (hnj.1 9 7 (by decide) (by decide) (by decide))]; exact (hA.2.2.2.2 5 (by decide))
  refine hv_iast hE hI 0 hq8 rfl (pk_in c9 100 hc9 rfl (by omega)) d_Mo_setGlue_21 (fun H locs hI => ?_)
  rw [nI_cl (by omega)] at hI
  obtain ⟨g9, eg9⟩ : ∃ z : hv_M, z = hv_up g5 (a 9) (.inl (cA 0, 100, .inl (upd (wA V 5) c9 0))) := ⟨_, rfl⟩
  have hI : hv_I D CL b0 g9 s.heap H locs := by rw [eg9]; exact hI
  have hq10 : g9 (a 9) = some (.inl (cA 0, 100, .inl (upd (wA V 5) c9 0))) := by rw [eg9]; exact hv_up_self _ _ _
  refine lv_iconst (v := 0) hx hb d_Mo_setGlue_22 (by decide) ?_
  refine lv_istore (lv' := [(4, .int 0), (0, .ref mo), (1, .int (nI c9)), (2, .long ex)]) hx hb d_Mo_setGlue_23 hl (by decide) rfl (fun ls hl => ?_)
  have hq11 : g9 (a 7) = some (.inl (cA 0, 100, .inl (upd (wA V 3) c9 ex.toInt32))) := by rw [eg9, hv_up_ne _ _ (hnj.1 7 9 (by decide) (by decide) (by decide)), eg5, hv_up_ne _ _ (hnj.1 7 8 (by decide) (by decide) (by decide))]; exact hq2
  have hq12 : g9 (a 8) = some (.inl (cA 0, 100, .inl (upd (wA V 4) c9 0))) := by rw [eg9, hv_up_ne _ _ (hnj.1 8 9 (by decide) (by decide) (by decide))]; exact hq6
  have loop : ∀ (k i : Nat) (o t : Int32) (g : hv_M) (H : Heap) (locs : List Loc) (ls : Array Slot), i + k = 4 → g (a 7) = some (.inl (cA 0, 100, .inl (upd (wA V 3) c9 ex.toInt32))) → g (a 8) = some (.inl (cA 0, 100, .inl (upd (wA V 4) c9 o))) → g (a 9) = some (.inl (cA 0, 100, .inl (upd (wA V 5) c9 t))) → (o, t) = (if ex = 0 then (0, 0) else oL (if 0 < ex then s1 else s2) i) → (∀ z, z ≠ a 7 → z ≠ a 8 → z ≠ a 9 → g z = f z) → hv_I D CL b0 g s.heap H locs → lv_has ls 7 [(0, .ref mo), (1, .int (nI c9)), (2, .long ex), (4, .int (nI i))] → W p l e (RM 1 0 0) s m ([.ref mo, .int (nI c9), .long ex] : List Value).toArray below meth c H locs (0) (0) (xh_MQ below (hv_Q b0 (Fa D cA) D CL (fun v g => v = none ∧ g (a 7) = some (.inl (cA 0, 100, .inl (upd (wA V 3) c9 ex.toInt32))) ∧ g (a 8) = some (.inl (cA 0, 100, .inl (upd (wA V 4) c9 ((otF ex (s1, s2)).1)))) ∧ g (a 9) = some (.inl (cA 0, 100, .inl (upd (wA V 5) c9 ((otF ex (s1, s2)).2)))) ∧ g (a 10) = some (.inl (cA 0, 100, .inl (upd (wA V 6) c9 (baM ex (otF ex (s1, s2)))))) ∧ g (a 11) = some (.inl (cA 0, 100, .inl (upd (wA V 7) c9 (ovM ex (otF ex (s1, s2)))))) ∧ ∀ z, z ≠ a 7 → z ≠ a 8 → z ≠ a 9 → z ≠ a 10 → z ≠ a 11 → g z = f z) (NX)) s 0 0 (fun q => b0 ≤ q)) (F0 m 25 ls []) := by
    intro k
    induction k with
    | zero =>
      intro i o t g H locs ls hik h7 h8 h9 hW hfo hI hl
      have hgm : g mo = some (moE a th st en ct gd ln bf ac un md) := by rw [hfo _ (Ne.symm (hnj.2 7 (by decide))) (Ne.symm (hnj.2 8 (by decide))) (Ne.symm (hnj.2 9 (by decide)))]; exact hmo
      have hg10 : g (a 10) = some (.inl (cA 0, 100, .inl (wA V 6))) := by rw [hfo _ (hnj.1 10 7 (by decide) (by decide) (by decide)) (hnj.1 10 8 (by decide) (by decide) (by decide)) (hnj.1 10 9 (by decide) (by decide) (by decide))]; exact (hA.2.2.2.2 6 (by decide))
      have hg11 : g (a 11) = some (.inl (cA 0, 100, .inl (wA V 7))) := by rw [hfo _ (hnj.1 11 7 (by decide) (by decide) (by decide)) (hnj.1 11 8 (by decide) (by decide) (by decide)) (hnj.1 11 9 (by decide) (by decide) (by decide))]; exact (hA.2.2.2.2 7 (by decide))
      have hg14 : g (a 14) = some (.inl (cA 1, 4, .inr (.inl s1))) := by rw [hfo _ (hnj.1 14 7 (by decide) (by decide) (by decide)) (hnj.1 14 8 (by decide) (by decide) (by decide)) (hnj.1 14 9 (by decide) (by decide) (by decide))]; exact h14
      have hg15 : g (a 15) = some (.inl (cA 1, 4, .inr (.inl s2))) := by rw [hfo _ (hnj.1 15 7 (by decide) (by decide) (by decide)) (hnj.1 15 8 (by decide) (by decide) (by decide)) (hnj.1 15 9 (by decide) (by decide) (by decide))]; exact h15
      have hot : otF ex (s1, s2) = (o, t) := by rw [hW, show i = 4 by omega]; rfl
      refine lv_iload hx hb d_Mo_setGlue_25 (lv_at hl 3 rfl) ?_
      refine lv_iconst (v := 4) hx hb d_Mo_setGlue_27 (by decide) ?_
      refine lv_icmp_ge (tgt := 92) hx hb d_Mo_setGlue_28 (by decide) (fun c28 => ?_) (fun c28 => ?_)
      · skip
        have n28 := Int32.not_lt.mpr c28
        refine lv_lload_n hx hb d_Mo_setGlue_92 rfl (lv_at hl 2 rfl) ?_
        refine lv_lconst (v := 0) hx hb d_Mo_setGlue_93 (by decide) ?_
        refine W.lcmp hx hb d_Mo_setGlue_94 ?_
        refine lv_if_ge (tgt := 103) hx hb d_Mo_setGlue_95 (by decide) (fun c95 => ?_) (fun c95 => ?_)
        · skip
          have m95 := (lg_cmp_ge _ _).mp c95
          have n95 := Int64.not_lt.mpr m95
          refine lv_lconst (v := 0) hx hb d_Mo_setGlue_103 (by decide) ?_
          refine lv_lstore (lv' := [(4, .long 0), (0, .ref mo), (1, .int (nI c9)), (2, .long ex)]) hx hb d_Mo_setGlue_104 hl (by decide) rfl (fun ls hl => ?_)
          refine lv_lload hx hb d_Mo_setGlue_106 (lv_at hl 0 rfl) ?_
          refine lv_lconst (v := 0) hx hb d_Mo_setGlue_108 (by decide) ?_
          refine W.lcmp hx hb d_Mo_setGlue_109 ?_
          refine lv_if_le (tgt := 139) hx hb d_Mo_setGlue_110 (by decide) (fun c110 => ?_) (fun c110 => ?_)
          · skip
            have m110 := (lg_cmp_le _ _).mp c110
            have n110 := Int64.not_lt.mpr m110
            refine lv_iconst (v := 0) hx hb d_Mo_setGlue_139 (by decide) ?_
            refine lv_istore (lv' := [(6, .int 0), (4, .long 0), (0, .ref mo), (1, .int (nI c9)), (2, .long ex)]) hx hb d_Mo_setGlue_140 hl (by decide) rfl (fun ls hl => ?_)
            refine lv_aload_n hx hb d_Mo_setGlue_142 rfl (lv_at hl 2 rfl) ?_
            refine hv_get hE k_Mo hI 15 (by decide) w531 hgm rfl d_Mo_setGlue_143 ?_
            refine lv_iload_n hx hb d_Mo_setGlue_146 rfl (lv_at hl 3 rfl) ?_
            refine lv_iload hx hb d_Mo_setGlue_147 (lv_at hl 0 rfl) ?_
            refine lv_if_eq (tgt := 166) hx hb d_Mo_setGlue_149 (by decide) (fun c149 => ?_) (fun c149 => ?_)
            · skip
              refine lv_iconst (v := 0) hx hb d_Mo_setGlue_166 (by decide) ?_
              refine hv_iast hE hI 0 hg11 rfl (pk_in c9 100 hc9 rfl (by omega)) d_Mo_setGlue_167 (fun H locs hI => ?_)
              rw [nI_cl (by omega)] at hI
              obtain ⟨g13, eg13⟩ : ∃ z : hv_M, z = hv_up g (a 11) (.inl (cA 0, 100, .inl (upd (wA V 7) c9 0))) := ⟨_, rfl⟩
              have hI : hv_I D CL b0 g13 s.heap H locs := by rw [eg13]; exact hI
              have hq14 : g13 (a 11) = some (.inl (cA 0, 100, .inl (upd (wA V 7) c9 0))) := by rw [eg13]; exact hv_up_self _ _ _
              refine lv_aload_n hx hb d_Mo_setGlue_168 rfl (lv_at hl 2 rfl) ?_
              have hq15 : g13 mo = some (moE a th st en ct gd ln bf ac un md) := by rw [eg13, hv_up_ne _ _ (Ne.symm (hnj.2 11 (by decide)))]; exact hgm
              refine hv_get hE k_Mo hI 14 (by decide) w530 hq15 rfl d_Mo_setGlue_169 ?_
              refine lv_iload_n hx hb d_Mo_setGlue_172 rfl (lv_at hl 3 rfl) ?_
              refine lv_iload hx hb d_Mo_setGlue_173 (lv_at hl 0 rfl) ?_
              refine lv_if_eq (tgt := 183) hx hb d_Mo_setGlue_175 (by decide) (fun c175 => ?_) (fun c175 => ?_)
              · skip
                refine lv_aload_n hx hb d_Mo_setGlue_183 rfl (lv_at hl 2 rfl) ?_
                refine hv_get hE k_Mo hI 12 (by decide) w528 hq15 rfl d_Mo_setGlue_184 ?_
                refine lv_iload_n hx hb d_Mo_setGlue_187 rfl (lv_at hl 3 rfl) ?_
                have hq16 : g13 (a 8) = some (.inl (cA 0, 100, .inl (upd (wA V 4) c9 o))) := by rw [eg13, hv_up_ne _ _ (hnj.1 8 11 (by decide) (by decide) (by decide))]; exact h8
                refine hv_iald hE hI 0 hq16 rfl (pk_in c9 100 hc9 rfl (by omega)) d_Mo_setGlue_188 ?_
                rw [nI_cl (by omega)]
                rw [upd_self]
                refine lv_if_le (tgt := 196) hx hb d_Mo_setGlue_189 (by decide) (fun c189 => ?_) (fun c189 => ?_)
                · skip
                  have n189 := Int32.not_lt.mpr c189
                  refine lv_lload_n hx hb d_Mo_setGlue_196 rfl (lv_at hl 4 rfl) ?_
                  refine lv_lconst (v := 0) hx hb d_Mo_setGlue_197 (by decide) ?_
                  refine W.lcmp hx hb d_Mo_setGlue_198 ?_
                  refine lv_if_ge (tgt := 207) hx hb d_Mo_setGlue_199 (by decide) (fun c199 => ?_) (fun c199 => ?_)
                  · skip
                    have m199 := (lg_cmp_ge _ _).mp c199
                    have n199 := Int64.not_lt.mpr m199
                    refine lv_lload_n hx hb d_Mo_setGlue_207 rfl (lv_at hl 4 rfl) ?_
                    refine lv_aload_n hx hb d_Mo_setGlue_208 rfl (lv_at hl 2 rfl) ?_
                    refine hv_get hE k_Mo hI 13 (by decide) w529 hq15 rfl d_Mo_setGlue_209 ?_
                    refine lv_iload_n hx hb d_Mo_setGlue_212 rfl (lv_at hl 3 rfl) ?_
                    have hq17 : g13 (a 9) = some (.inl (cA 0, 100, .inl (upd (wA V 5) c9 t))) := by rw [eg13, hv_up_ne _ _ (hnj.1 9 11 (by decide) (by decide) (by decide))]; exact h9
                    refine hv_iald hE hI 0 hq17 rfl (pk_in c9 100 hc9 rfl (by omega)) d_Mo_setGlue_213 ?_
                    rw [nI_cl (by omega)]
                    rw [upd_self]
                    refine lv_i2l (v := t.toInt64) hx hb d_Mo_setGlue_214 rfl ?_
                    refine hv_Sp (As := [.long ex, .long t.toInt64]) (rest := [.int (nI c9), .ref (a 10)]) hE hml hK hI (c_Mo_badnessOf l hl0 b0 D cA g13 ex t.toInt64) cd_Mo_badnessOf w705 w706 rfl rfl rfl hl.1 (Nat.le_of_ble_eq_true rfl) d_Mo_setGlue_215 ⟨by decide, by decide⟩ ⟨by decide, by decide⟩ (fun H locs hI => ?_)
                    refine W.eq (g2 := F0 m 218 ls [.int (bnF ex t.toInt64), .int (nI c9), .ref (a 10)]) rfl ?_
                    have hq18 : g13 (a 10) = some (.inl (cA 0, 100, .inl (wA V 6))) := by rw [eg13, hv_up_ne _ _ (hnj.1 10 11 (by decide) (by decide) (by decide))]; exact hg10
                    refine hv_iast hE hI 0 hq18 rfl (pk_in c9 100 hc9 rfl (by omega)) d_Mo_setGlue_218 (fun H locs hI => ?_)
                    rw [nI_cl (by omega)] at hI
                    obtain ⟨g19, eg19⟩ : ∃ z : hv_M, z = hv_up g13 (a 10) (.inl (cA 0, 100, .inl (upd (wA V 6) c9 (bnF ex t.toInt64)))) := ⟨_, rfl⟩
                    have hI : hv_I D CL b0 g19 s.heap H locs := by rw [eg19]; exact hI
                    have hq20 : g19 (a 10) = some (.inl (cA 0, 100, .inl (upd (wA V 6) c9 (bnF ex t.toInt64)))) := by rw [eg19]; exact hv_up_self _ _ _
                    have hq21 : g19 (a 7) = some (.inl (cA 0, 100, .inl (upd (wA V 3) c9 ex.toInt32))) := by rw [eg19, hv_up_ne _ _ (hnj.1 7 10 (by decide) (by decide) (by decide)), eg13, hv_up_ne _ _ (hnj.1 7 11 (by decide) (by decide) (by decide))]; exact h7
                    have hq22 : g19 (a 8) = some (.inl (cA 0, 100, .inl (upd (wA V 4) c9 o))) := by rw [eg19, hv_up_ne _ _ (hnj.1 8 10 (by decide) (by decide) (by decide))]; exact hq16
                    have hq23 : g19 (a 9) = some (.inl (cA 0, 100, .inl (upd (wA V 5) c9 t))) := by rw [eg19, hv_up_ne _ _ (hnj.1 9 10 (by decide) (by decide) (by decide))]; exact hq17
                    have hq24 : g19 (a 11) = some (.inl (cA 0, 100, .inl (upd (wA V 7) c9 0))) := by rw [eg19, hv_up_ne _ _ (hnj.1 11 10 (by decide) (by decide) (by decide))]; exact hq14
                    exact hv_vret hE hr hlocks hI hK (⟨rfl, hq21, by rw [hot]; exact hq22, by rw [hot]; exact hq23, by rw [hot, show baM ex (o, t) = bnF ex t.toInt64 from by first | (simp [baM, ovB, msF, labs, m95, n95, m110, n110, c149, c175, c189, n189, m199, n199]; done) | exact absurd n189 (by rw [c119]; decide)]; exact hq20, by rw [hot, show ovM ex (o, t) = 0 from by simp [ovM, ovB, msF, m95, n95, m110, n110, c149, c175, c189, n189, m199, n199]]; exact hq24, fun z z1 z2 z3 z4 z5 => by rw [eg19, hv_up_ne _ _ z4, eg13, hv_up_ne _ _ z5]; exact hfo z z1 z2 z3⟩) (by decide) (by decide) d_Mo_setGlue_219
                  · skip
                    exact absurd c95 c199
                · skip
                  have n189 := Int32.not_le.mp c189
                  refine lv_iconst (v := 0) hx hb d_Mo_setGlue_192 (by decide) ?_
                  refine lv_goto (tgt := 218) hx hb d_Mo_setGlue_193 (by decide) ?_
                  have hq25 : g13 (a 10) = some (.inl (cA 0, 100, .inl (wA V 6))) := by rw [eg13, hv_up_ne _ _ (hnj.1 10 11 (by decide) (by decide) (by decide))]; exact hg10
                  refine hv_iast hE hI 0 hq25 rfl (pk_in c9 100 hc9 rfl (by omega)) d_Mo_setGlue_218 (fun H locs hI => ?_)
                  rw [nI_cl (by omega)] at hI
                  obtain ⟨g26, eg26⟩ : ∃ z : hv_M, z = hv_up g13 (a 10) (.inl (cA 0, 100, .inl (upd (wA V 6) c9 0))) := ⟨_, rfl⟩
                  have hI : hv_I D CL b0 g26 s.heap H locs := by rw [eg26]; exact hI
                  have hq27 : g26 (a 10) = some (.inl (cA 0, 100, .inl (upd (wA V 6) c9 0))) := by rw [eg26]; exact hv_up_self _ _ _
                  have hq28 : g26 (a 7) = some (.inl (cA 0, 100, .inl (upd (wA V 3) c9 ex.toInt32))) := by rw [eg26, hv_up_ne _ _ (hnj.1 7 10 (by decide) (by decide) (by decide)), eg13, hv_up_ne _ _ (hnj.1 7 11 (by decide) (by decide) (by decide))]; exact h7
                  have hq29 : g26 (a 8) = some (.inl (cA 0, 100, .inl (upd (wA V 4) c9 o))) := by rw [eg26, hv_up_ne _ _ (hnj.1 8 10 (by decide) (by decide) (by decide))]; exact hq16
                  have hq30 : g26 (a 9) = some (.inl (cA 0, 100, .inl (upd (wA V 5) c9 t))) := by rw [eg26, hv_up_ne _ _ (hnj.1 9 10 (by decide) (by decide) (by decide)), eg13, hv_up_ne _ _ (hnj.1 9 11 (by decide) (by decide) (by decide))]; exact h9
                  have hq31 : g26 (a 11) = some (.inl (cA 0, 100, .inl (upd (wA V 7) c9 0))) := by rw [eg26, hv_up_ne _ _ (hnj.1 11 10 (by decide) (by decide) (by decide))]; exact hq14
                  exact hv_vret hE hr hlocks hI hK (⟨rfl, hq28, by rw [hot]; exact hq29, by rw [hot]; exact hq30, by rw [hot, show baM ex (o, t) = 0 from by first | (simp [baM, ovB, msF, labs, m95, n95, m110, n110, c149, c175, c189, n189]; done) | exact absurd n189 (by rw [c119]; decide)]; exact hq27, by rw [hot, show ovM ex (o, t) = 0 from by simp [ovM, ovB, msF, m95, n95, m110, n110, c149, c175, c189, n189]]; exact hq31, fun z z1 z2 z3 z4 z5 => by rw [eg26, hv_up_ne _ _ z4, eg13, hv_up_ne _ _ z5]; exact hfo z z1 z2 z3⟩) (by decide) (by decide) d_Mo_setGlue_219
              · skip
                exact absurd rfl c175
            · skip
              exact absurd rfl c149
          · skip
            exact absurd (show lg_cmp 0 0 ≤ 0 by decide) c110
        · skip
          have m95 : ¬ _ := fun q => c95 ((lg_cmp_ge _ _).mpr q)
          have n95 := Int64.not_le.mp m95
          refine lv_lload_n hx hb d_Mo_setGlue_98 rfl (lv_at hl 2 rfl) ?_
          refine lv_lneg hx hb d_Mo_setGlue_99 ?_
          refine lv_goto (tgt := 104) hx hb d_Mo_setGlue_100 (by decide) ?_
          refine lv_lstore (lv' := [(4, .long (-ex)), (0, .ref mo), (1, .int (nI c9)), (2, .long ex)]) hx hb d_Mo_setGlue_104 hl (by decide) rfl (fun ls hl => ?_)
          refine lv_lload hx hb d_Mo_setGlue_106 (lv_at hl 0 rfl) ?_
          refine lv_lconst (v := 0) hx hb d_Mo_setGlue_108 (by decide) ?_
          refine W.lcmp hx hb d_Mo_setGlue_109 ?_
          refine lv_if_le (tgt := 139) hx hb d_Mo_setGlue_110 (by decide) (fun c110 => ?_) (fun c110 => ?_)
          · skip
            have m110 := (lg_cmp_le _ _).mp c110
            have n110 := Int64.not_lt.mpr m110
            refine lv_iconst (v := 0) hx hb d_Mo_setGlue_139 (by decide) ?_
            refine lv_istore (lv' := [(6, .int 0), (4, .long (-ex)), (0, .ref mo), (1, .int (nI c9)), (2, .long ex)]) hx hb d_Mo_setGlue_140 hl (by decide) rfl (fun ls hl => ?_)
            refine lv_aload_n hx hb d_Mo_setGlue_142 rfl (lv_at hl 2 rfl) ?_
            refine hv_get hE k_Mo hI 15 (by decide) w531 hgm rfl d_Mo_setGlue_143 ?_
            refine lv_iload_n hx hb d_Mo_setGlue_146 rfl (lv_at hl 3 rfl) ?_
            refine lv_iload hx hb d_Mo_setGlue_147 (lv_at hl 0 rfl) ?_
            refine lv_if_eq (tgt := 166) hx hb d_Mo_setGlue_149 (by decide) (fun c149 => ?_) (fun c149 => ?_)
            · skip
              refine lv_iconst (v := 0) hx hb d_Mo_setGlue_166 (by decide) ?_
              refine hv_iast hE hI 0 hg11 rfl (pk_in c9 100 hc9 rfl (by omega)) d_Mo_setGlue_167 (fun H locs hI => ?_)
              rw [nI_cl (by omega)] at hI
              obtain ⟨g32, eg32⟩ : ∃ z : hv_M, z = hv_up g (a 11) (.inl (cA 0, 100, .inl (upd (wA V 7) c9 0))) := ⟨_, rfl⟩
              have hI : hv_I D CL b0 g32 s.heap H locs := by rw [eg32]; exact hI
              have hq33 : g32 (a 11) = some (.inl (cA 0, 100, .inl (upd (wA V 7) c9 0))) := by rw [eg32]; exact hv_up_self _ _ _
              refine lv_aload_n hx hb d_Mo_setGlue_168 rfl (lv_at hl 2 rfl) ?_
              have hq34 : g32 mo = some (moE a th st en ct gd ln bf ac un md) := by rw [eg32, hv_up_ne _ _ (Ne.symm (hnj.2 11 (by decide)))]; exact hgm
              refine hv_get hE k_Mo hI 14 (by decide) w530 hq34 rfl d_Mo_setGlue_169 ?_
              refine lv_iload_n hx hb d_Mo_setGlue_172 rfl (lv_at hl 3 rfl) ?_
              refine lv_iload hx hb d_Mo_setGlue_173 (lv_at hl 0 rfl) ?_
              refine lv_if_eq (tgt := 183) hx hb d_Mo_setGlue_175 (by decide) (fun c175 => ?_) (fun c175 => ?_)
              · skip
                refine lv_aload_n hx hb d_Mo_setGlue_183 rfl (lv_at hl 2 rfl) ?_
                refine hv_get hE k_Mo hI 12 (by decide) w528 hq34 rfl d_Mo_setGlue_184 ?_
                refine lv_iload_n hx hb d_Mo_setGlue_187 rfl (lv_at hl 3 rfl) ?_
                have hq35 : g32 (a 8) = some (.inl (cA 0, 100, .inl (upd (wA V 4) c9 o))) := by rw [eg32, hv_up_ne _ _ (hnj.1 8 11 (by decide) (by decide) (by decide))]; exact h8
                refine hv_iald hE hI 0 hq35 rfl (pk_in c9 100 hc9 rfl (by omega)) d_Mo_setGlue_188 ?_
                rw [nI_cl (by omega)]
                rw [upd_self]
                refine lv_if_le (tgt := 196) hx hb d_Mo_setGlue_189 (by decide) (fun c189 => ?_) (fun c189 => ?_)
                · skip
                  have n189 := Int32.not_lt.mpr c189
                  refine lv_lload_n hx hb d_Mo_setGlue_196 rfl (lv_at hl 4 rfl) ?_
                  refine lv_lconst (v := 0) hx hb d_Mo_setGlue_197 (by decide) ?_
                  refine W.lcmp hx hb d_Mo_setGlue_198 ?_
                  refine lv_if_ge (tgt := 207) hx hb d_Mo_setGlue_199 (by decide) (fun c199 => ?_) (fun c199 => ?_)
                  · skip
                    exact absurd c199 c95
                  · skip
                    have m199 : ¬ _ := fun q => c199 ((lg_cmp_ge _ _).mpr q)
                    have n199 := Int64.not_le.mp m199
                    refine lv_lload_n hx hb d_Mo_setGlue_202 rfl (lv_at hl 4 rfl) ?_
                    refine lv_lneg hx hb d_Mo_setGlue_203 ?_
                    refine lv_goto (tgt := 208) hx hb d_Mo_setGlue_204 (by decide) ?_
                    refine lv_aload_n hx hb d_Mo_setGlue_208 rfl (lv_at hl 2 rfl) ?_
                    refine hv_get hE k_Mo hI 13 (by decide) w529 hq34 rfl d_Mo_setGlue_209 ?_
                    refine lv_iload_n hx hb d_Mo_setGlue_212 rfl (lv_at hl 3 rfl) ?_
                    have hq36 : g32 (a 9) = some (.inl (cA 0, 100, .inl (upd (wA V 5) c9 t))) := by rw [eg32, hv_up_ne _ _ (hnj.1 9 11 (by decide) (by decide) (by decide))]; exact h9
                    refine hv_iald hE hI 0 hq36 rfl (pk_in c9 100 hc9 rfl (by omega)) d_Mo_setGlue_213 ?_
                    rw [nI_cl (by omega)]
                    rw [upd_self]
                    refine lv_i2l (v := t.toInt64) hx hb d_Mo_setGlue_214 rfl ?_
                    refine hv_Sp (As := [.long (-ex), .long t.toInt64]) (rest := [.int (nI c9), .ref (a 10)]) hE hml hK hI (c_Mo_badnessOf l hl0 b0 D cA g32 (-ex) t.toInt64) cd_Mo_badnessOf w705 w706 rfl rfl rfl hl.1 (Nat.le_of_ble_eq_true rfl) d_Mo_setGlue_215 ⟨by decide, by decide⟩ ⟨by decide, by decide⟩ (fun H locs hI => ?_)
                    refine W.eq (g2 := F0 m 218 ls [.int (bnF (-ex) t.toInt64), .int (nI c9), .ref (a 10)]) rfl ?_
                    have hq37 : g32 (a 10) = some (.inl (cA 0, 100, .inl (wA V 6))) := by rw [eg32, hv_up_ne _ _ (hnj.1 10 11 (by decide) (by decide) (by decide))]; exact hg10
                    refine hv_iast hE hI 0 hq37 rfl (pk_in c9 100 hc9 rfl (by omega)) d_Mo_setGlue_218 (fun H locs hI => ?_)
                    rw [nI_cl (by omega)] at hI
                    obtain ⟨g38, eg38⟩ : ∃ z : hv_M, z = hv_up g32 (a 10) (.inl (cA 0, 100, .inl (upd (wA V 6) c9 (bnF (-ex) t.toInt64)))) := ⟨_, rfl⟩
                    have hI : hv_I D CL b0 g38 s.heap H locs := by rw [eg38]; exact hI
                    have hq39 : g38 (a 10) = some (.inl (cA 0, 100, .inl (upd (wA V 6) c9 (bnF (-ex) t.toInt64)))) := by rw [eg38]; exact hv_up_self _ _ _
                    have hq40 : g38 (a 7) = some (.inl (cA 0, 100, .inl (upd (wA V 3) c9 ex.toInt32))) := by rw [eg38, hv_up_ne _ _ (hnj.1 7 10 (by decide) (by decide) (by decide)), eg32, hv_up_ne _ _ (hnj.1 7 11 (by decide) (by decide) (by decide))]; exact h7
                    have hq41 : g38 (a 8) = some (.inl (cA 0, 100, .inl (upd (wA V 4) c9 o))) := by rw [eg38, hv_up_ne _ _ (hnj.1 8 10 (by decide) (by decide) (by decide))]; exact hq35
                    have hq42 : g38 (a 9) = some (.inl (cA 0, 100, .inl (upd (wA V 5) c9 t))) := by rw [eg38, hv_up_ne _ _ (hnj.1 9 10 (by decide) (by decide) (by decide))]; exact hq36
                    have hq43 : g38 (a 11) = some (.inl (cA 0, 100, .inl (upd (wA V 7) c9 0))) := by rw [eg38, hv_up_ne _ _ (hnj.1 11 10 (by decide) (by decide) (by decide))]; exact hq33
                    exact hv_vret hE hr hlocks hI hK (⟨rfl, hq40, by rw [hot]; exact hq41, by rw [hot]; exact hq42, by rw [hot, show baM ex (o, t) = bnF (-ex) t.toInt64 from by first | (simp [baM, ovB, msF, labs, m95, n95, m110, n110, c149, c175, c189, n189, m199, n199]; done) | exact absurd n189 (by rw [c119]; decide)]; exact hq39, by rw [hot, show ovM ex (o, t) = 0 from by simp [ovM, ovB, msF, m95, n95, m110, n110, c149, c175, c189, n189, m199, n199]]; exact hq43, fun z z1 z2 z3 z4 z5 => by rw [eg38, hv_up_ne _ _ z4, eg32, hv_up_ne _ _ z5]; exact hfo z z1 z2 z3⟩) (by decide) (by decide) d_Mo_setGlue_219
                · skip
                  have n189 := Int32.not_le.mp c189
                  refine lv_iconst (v := 0) hx hb d_Mo_setGlue_192 (by decide) ?_
                  refine lv_goto (tgt := 218) hx hb d_Mo_setGlue_193 (by decide) ?_
                  have hq44 : g32 (a 10) = some (.inl (cA 0, 100, .inl (wA V 6))) := by rw [eg32, hv_up_ne _ _ (hnj.1 10 11 (by decide) (by decide) (by decide))]; exact hg10
                  refine hv_iast hE hI 0 hq44 rfl (pk_in c9 100 hc9 rfl (by omega)) d_Mo_setGlue_218 (fun H locs hI => ?_)
                  rw [nI_cl (by omega)] at hI
                  obtain ⟨g45, eg45⟩ : ∃ z : hv_M, z = hv_up g32 (a 10) (.inl (cA 0, 100, .inl (upd (wA V 6) c9 0))) := ⟨_, rfl⟩
                  have hI : hv_I D CL b0 g45 s.heap H locs := by rw [eg45]; exact hI
                  have hq46 : g45 (a 10) = some (.inl (cA 0, 100, .inl (upd (wA V 6) c9 0))) := by rw [eg45]; exact hv_up_self _ _ _
                  have hq47 : g45 (a 7) = some (.inl (cA 0, 100, .inl (upd (wA V 3) c9 ex.toInt32))) := by rw [eg45, hv_up_ne _ _ (hnj.1 7 10 (by decide) (by decide) (by decide)), eg32, hv_up_ne _ _ (hnj.1 7 11 (by decide) (by decide) (by decide))]; exact h7
                  have hq48 : g45 (a 8) = some (.inl (cA 0, 100, .inl (upd (wA V 4) c9 o))) := by rw [eg45, hv_up_ne _ _ (hnj.1 8 10 (by decide) (by decide) (by decide))]; exact hq35
                  have hq49 : g45 (a 9) = some (.inl (cA 0, 100, .inl (upd (wA V 5) c9 t))) := by rw [eg45, hv_up_ne _ _ (hnj.1 9 10 (by decide) (by decide) (by decide)), eg32, hv_up_ne _ _ (hnj.1 9 11 (by decide) (by decide) (by decide))]; exact h9
                  have hq50 : g45 (a 11) = some (.inl (cA 0, 100, .inl (upd (wA V 7) c9 0))) := by rw [eg45, hv_up_ne _ _ (hnj.1 11 10 (by decide) (by decide) (by decide))]; exact hq33
                  exact hv_vret hE hr hlocks hI hK (⟨rfl, hq47, by rw [hot]; exact hq48, by rw [hot]; exact hq49, by rw [hot, show baM ex (o, t) = 0 from by first | (simp [baM, ovB, msF, labs, m95, n95, m110, n110, c149, c175, c189, n189]; done) | exact absurd n189 (by rw [c119]; decide)]; exact hq46, by rw [hot, show ovM ex (o, t) = 0 from by simp [ovM, ovB, msF, m95, n95, m110, n110, c149, c175, c189, n189]]; exact hq50, fun z z1 z2 z3 z4 z5 => by rw [eg45, hv_up_ne _ _ z4, eg32, hv_up_ne _ _ z5]; exact hfo z z1 z2 z3⟩) (by decide) (by decide) d_Mo_setGlue_219
              · skip
                exact absurd rfl c175
            · skip
              exact absurd rfl c149
          · skip
            have m110 : ¬ _ := fun q => c110 ((lg_cmp_le _ _).mpr q)
            have n110 := Int64.not_le.mp m110
            refine lv_aload_n hx hb d_Mo_setGlue_113 rfl (lv_at hl 1 rfl) ?_
            refine hv_get hE k_Mo hI 12 (by decide) w528 hgm rfl d_Mo_setGlue_114 ?_
            refine lv_iload_n hx hb d_Mo_setGlue_117 rfl (lv_at hl 2 rfl) ?_
            refine hv_iald hE hI 0 h8 rfl (pk_in c9 100 hc9 rfl (by omega)) d_Mo_setGlue_118 ?_
            rw [nI_cl (by omega)]
            rw [upd_self]
            refine lv_if_ne (tgt := 139) hx hb d_Mo_setGlue_119 (by decide) (fun c119 => ?_) (fun c119 => ?_)
            · skip
              refine lv_iconst (v := 0) hx hb d_Mo_setGlue_139 (by decide) ?_
              refine lv_istore (lv' := [(6, .int 0), (4, .long (-ex)), (0, .ref mo), (1, .int (nI c9)), (2, .long ex)]) hx hb d_Mo_setGlue_140 hl (by decide) rfl (fun ls hl => ?_)
              refine lv_aload_n hx hb d_Mo_setGlue_142 rfl (lv_at hl 2 rfl) ?_
              refine hv_get hE k_Mo hI 15 (by decide) w531 hgm rfl d_Mo_setGlue_143 ?_
              refine lv_iload_n hx hb d_Mo_setGlue_146 rfl (lv_at hl 3 rfl) ?_
              refine lv_iload hx hb d_Mo_setGlue_147 (lv_at hl 0 rfl) ?_
              refine lv_if_eq (tgt := 166) hx hb d_Mo_setGlue_149 (by decide) (fun c149 => ?_) (fun c149 => ?_)
              · skip
                refine lv_iconst (v := 0) hx hb d_Mo_setGlue_166 (by decide) ?_
                refine hv_iast hE hI 0 hg11 rfl (pk_in c9 100 hc9 rfl (by omega)) d_Mo_setGlue_167 (fun H locs hI => ?_)
                rw [nI_cl (by omega)] at hI
                obtain ⟨g51, eg51⟩ : ∃ z : hv_M, z = hv_up g (a 11) (.inl (cA 0, 100, .inl (upd (wA V 7) c9 0))) := ⟨_, rfl⟩
                have hI : hv_I D CL b0 g51 s.heap H locs := by rw [eg51]; exact hI
                have hq52 : g51 (a 11) = some (.inl (cA 0, 100, .inl (upd (wA V 7) c9 0))) := by rw [eg51]; exact hv_up_self _ _ _
                refine lv_aload_n hx hb d_Mo_setGlue_168 rfl (lv_at hl 2 rfl) ?_
                have hq53 : g51 mo = some (moE a th st en ct gd ln bf ac un md) := by rw [eg51, hv_up_ne _ _ (Ne.symm (hnj.2 11 (by decide)))]; exact hgm
                refine hv_get hE k_Mo hI 14 (by decide) w530 hq53 rfl d_Mo_setGlue_169 ?_
                refine lv_iload_n hx hb d_Mo_setGlue_172 rfl (lv_at hl 3 rfl) ?_
                refine lv_iload hx hb d_Mo_setGlue_173 (lv_at hl 0 rfl) ?_
                refine lv_if_eq (tgt := 183) hx hb d_Mo_setGlue_175 (by decide) (fun c175 => ?_) (fun c175 => ?_)
                · skip
                  refine lv_aload_n hx hb d_Mo_setGlue_183 rfl (lv_at hl 2 rfl) ?_
                  refine hv_get hE k_Mo hI 12 (by decide) w528 hq53 rfl d_Mo_setGlue_184 ?_
                  refine lv_iload_n hx hb d_Mo_setGlue_187 rfl (lv_at hl 3 rfl) ?_
                  have hq54 : g51 (a 8) = some (.inl (cA 0, 100, .inl (upd (wA V 4) c9 o))) := by rw [eg51, hv_up_ne _ _ (hnj.1 8 11 (by decide) (by decide) (by decide))]; exact h8
                  refine hv_iald hE hI 0 hq54 rfl (pk_in c9 100 hc9 rfl (by omega)) d_Mo_setGlue_188 ?_
                  rw [nI_cl (by omega)]
                  rw [upd_self]
                  refine lv_if_le (tgt := 196) hx hb d_Mo_setGlue_189 (by decide) (fun c189 => ?_) (fun c189 => ?_)
                  · skip
                    have n189 := Int32.not_lt.mpr c189
                    refine lv_lload_n hx hb d_Mo_setGlue_196 rfl (lv_at hl 4 rfl) ?_
                    refine lv_lconst (v := 0) hx hb d_Mo_setGlue_197 (by decide) ?_
                    refine W.lcmp hx hb d_Mo_setGlue_198 ?_
                    refine lv_if_ge (tgt := 207) hx hb d_Mo_setGlue_199 (by decide) (fun c199 => ?_) (fun c199 => ?_)
                    · skip
                      exact absurd c199 c95
                    · skip
                      have m199 : ¬ _ := fun q => c199 ((lg_cmp_ge _ _).mpr q)
                      have n199 := Int64.not_le.mp m199
                      refine lv_lload_n hx hb d_Mo_setGlue_202 rfl (lv_at hl 4 rfl) ?_
                      refine lv_lneg hx hb d_Mo_setGlue_203 ?_
                      refine lv_goto (tgt := 208) hx hb d_Mo_setGlue_204 (by decide) ?_
                      refine lv_aload_n hx hb d_Mo_setGlue_208 rfl (lv_at hl 2 rfl) ?_
                      refine hv_get hE k_Mo hI 13 (by decide) w529 hq53 rfl d_Mo_setGlue_209 ?_
                      refine lv_iload_n hx hb d_Mo_setGlue_212 rfl (lv_at hl 3 rfl) ?_
                      have hq55 : g51 (a 9) = some (.inl (cA 0, 100, .inl (upd (wA V 5) c9 t))) := by rw [eg51, hv_up_ne _ _ (hnj.1 9 11 (by decide) (by decide) (by decide))]; exact h9
                      refine hv_iald hE hI 0 hq55 rfl (pk_in c9 100 hc9 rfl (by omega)) d_Mo_setGlue_213 ?_
                      rw [nI_cl (by omega)]
                      rw [upd_self]
                      refine lv_i2l (v := t.toInt64) hx hb d_Mo_setGlue_214 rfl ?_
                      refine hv_Sp (As := [.long (-ex), .long t.toInt64]) (rest := [.int (nI c9), .ref (a 10)]) hE hml hK hI (c_Mo_badnessOf l hl0 b0 D cA g51 (-ex) t.toInt64) cd_Mo_badnessOf w705 w706 rfl rfl rfl hl.1 (Nat.le_of_ble_eq_true rfl) d_Mo_setGlue_215 ⟨by decide, by decide⟩ ⟨by decide, by decide⟩ (fun H locs hI => ?_)
                      refine W.eq (g2 := F0 m 218 ls [.int (bnF (-ex) t.toInt64), .int (nI c9), .ref (a 10)]) rfl ?_
                      have hq56 : g51 (a 10) = some (.inl (cA 0, 100, .inl (wA V 6))) := by rw [eg51, hv_up_ne _ _ (hnj.1 10 11 (by decide) (by decide) (by decide))]; exact hg10
                      refine hv_iast hE hI 0 hq56 rfl (pk_in c9 100 hc9 rfl (by omega)) d_Mo_setGlue_218 (fun H locs hI => ?_)
                      rw [nI_cl (by omega)] at hI
                      obtain ⟨g57, eg57⟩ : ∃ z : hv_M, z = hv_up g51 (a 10) (.inl (cA 0, 100, .inl (upd (wA V 6) c9 (bnF (-ex) t.toInt64)))) := ⟨_, rfl⟩
                      have hI : hv_I D CL b0 g57 s.heap H locs := by rw [eg57]; exact hI
                      have hq58 : g57 (a 10) = some (.inl (cA 0, 100, .inl (upd (wA V 6) c9 (bnF (-ex) t.toInt64)))) := by rw [eg57]; exact hv_up_self _ _ _
                      have hq59 : g57 (a 7) = some (.inl (cA 0, 100, .inl (upd (wA V 3) c9 ex.toInt32))) := by rw [eg57, hv_up_ne _ _ (hnj.1 7 10 (by decide) (by decide) (by decide)), eg51, hv_up_ne _ _ (hnj.1 7 11 (by decide) (by decide) (by decide))]; exact h7
                      have hq60 : g57 (a 8) = some (.inl (cA 0, 100, .inl (upd (wA V 4) c9 o))) := by rw [eg57, hv_up_ne _ _ (hnj.1 8 10 (by decide) (by decide) (by decide))]; exact hq54
                      have hq61 : g57 (a 9) = some (.inl (cA 0, 100, .inl (upd (wA V 5) c9 t))) := by rw [eg57, hv_up_ne _ _ (hnj.1 9 10 (by decide) (by decide) (by decide))]; exact hq55
                      have hq62 : g57 (a 11) = some (.inl (cA 0, 100, .inl (upd (wA V 7) c9 0))) := by rw [eg57, hv_up_ne _ _ (hnj.1 11 10 (by decide) (by decide) (by decide))]; exact hq52
                      exact hv_vret hE hr hlocks hI hK (⟨rfl, hq59, by rw [hot]; exact hq60, by rw [hot]; exact hq61, by rw [hot, show baM ex (o, t) = bnF (-ex) t.toInt64 from by first | (simp [baM, ovB, msF, labs, m95, n95, m110, n110, c119, c149, c175, c189, n189, m199, n199]; done) | exact absurd n189 (by rw [c119]; decide)]; exact hq58, by rw [hot, show ovM ex (o, t) = 0 from by simp [ovM, ovB, msF, m95, n95, m110, n110, c119, c149, c175, c189, n189, m199, n199]]; exact hq62, fun z z1 z2 z3 z4 z5 => by rw [eg57, hv_up_ne _ _ z4, eg51, hv_up_ne _ _ z5]; exact hfo z z1 z2 z3⟩) (by decide) (by decide) d_Mo_setGlue_219
                  · skip
                    have n189 := Int32.not_le.mp c189
                    refine lv_iconst (v := 0) hx hb d_Mo_setGlue_192 (by decide) ?_
                    refine lv_goto (tgt := 218) hx hb d_Mo_setGlue_193 (by decide) ?_
                    have hq63 : g51 (a 10) = some (.inl (cA 0, 100, .inl (wA V 6))) := by rw [eg51, hv_up_ne _ _ (hnj.1 10 11 (by decide) (by decide) (by decide))]; exact hg10
                    refine hv_iast hE hI 0 hq63 rfl (pk_in c9 100 hc9 rfl (by omega)) d_Mo_setGlue_218 (fun H locs hI => ?_)
                    rw [nI_cl (by omega)] at hI
                    obtain ⟨g64, eg64⟩ : ∃ z : hv_M, z = hv_up g51 (a 10) (.inl (cA 0, 100, .inl (upd (wA V 6) c9 0))) := ⟨_, rfl⟩
                    have hI : hv_I D CL b0 g64 s.heap H locs := by rw [eg64]; exact hI
                    have hq65 : g64 (a 10) = some (.inl (cA 0, 100, .inl (upd (wA V 6) c9 0))) := by rw [eg64]; exact hv_up_self _ _ _
                    have hq66 : g64 (a 7) = some (.inl (cA 0, 100, .inl (upd (wA V 3) c9 ex.toInt32))) := by rw [eg64, hv_up_ne _ _ (hnj.1 7 10 (by decide) (by decide) (by decide)), eg51, hv_up_ne _ _ (hnj.1 7 11 (by decide) (by decide) (by decide))]; exact h7
                    have hq67 : g64 (a 8) = some (.inl (cA 0, 100, .inl (upd (wA V 4) c9 o))) := by rw [eg64, hv_up_ne _ _ (hnj.1 8 10 (by decide) (by decide) (by decide))]; exact hq54
                    have hq68 : g64 (a 9) = some (.inl (cA 0, 100, .inl (upd (wA V 5) c9 t))) := by rw [eg64, hv_up_ne _ _ (hnj.1 9 10 (by decide) (by decide) (by decide)), eg51, hv_up_ne _ _ (hnj.1 9 11 (by decide) (by decide) (by decide))]; exact h9
                    have hq69 : g64 (a 11) = some (.inl (cA 0, 100, .inl (upd (wA V 7) c9 0))) := by rw [eg64, hv_up_ne _ _ (hnj.1 11 10 (by decide) (by decide) (by decide))]; exact hq52
                    exact hv_vret hE hr hlocks hI hK (⟨rfl, hq66, by rw [hot]; exact hq67, by rw [hot]; exact hq68, by rw [hot, show baM ex (o, t) = 0 from by first | (simp [baM, ovB, msF, labs, m95, n95, m110, n110, c119, c149, c175, c189, n189]; done) | exact absurd n189 (by rw [c119]; decide)]; exact hq65, by rw [hot, show ovM ex (o, t) = 0 from by simp [ovM, ovB, msF, m95, n95, m110, n110, c119, c149, c175, c189, n189]]; exact hq69, fun z z1 z2 z3 z4 z5 => by rw [eg64, hv_up_ne _ _ z4, eg51, hv_up_ne _ _ z5]; exact hfo z z1 z2 z3⟩) (by decide) (by decide) d_Mo_setGlue_219
                · skip
                  exact absurd rfl c175
              · skip
                exact absurd rfl c149
            · skip
              refine lv_aload_n hx hb d_Mo_setGlue_122 rfl (lv_at hl 1 rfl) ?_
              refine hv_get hE k_Mo hI 13 (by decide) w529 hgm rfl d_Mo_setGlue_123 ?_
              refine lv_iload_n hx hb d_Mo_setGlue_126 rfl (lv_at hl 2 rfl) ?_
              refine hv_iald hE hI 0 h9 rfl (pk_in c9 100 hc9 rfl (by omega)) d_Mo_setGlue_127 ?_
              rw [nI_cl (by omega)]
              rw [upd_self]
              refine lv_i2l (v := t.toInt64) hx hb d_Mo_setGlue_128 rfl ?_
              refine lv_lload hx hb d_Mo_setGlue_129 (lv_at hl 0 rfl) ?_
              refine W.lcmp hx hb d_Mo_setGlue_131 ?_
              refine lv_if_ge (tgt := 139) hx hb d_Mo_setGlue_132 (by decide) (fun c132 => ?_) (fun c132 => ?_)
              · skip
                have m132 := (lg_cmp_ge _ _).mp c132
                have n132 := Int64.not_lt.mpr m132
                refine lv_iconst (v := 0) hx hb d_Mo_setGlue_139 (by decide) ?_
                refine lv_istore (lv' := [(6, .int 0), (4, .long (-ex)), (0, .ref mo), (1, .int (nI c9)), (2, .long ex)]) hx hb d_Mo_setGlue_140 hl (by decide) rfl (fun ls hl => ?_)
                refine lv_aload_n hx hb d_Mo_setGlue_142 rfl (lv_at hl 2 rfl) ?_
                refine hv_get hE k_Mo hI 15 (by decide) w531 hgm rfl d_Mo_setGlue_143 ?_
                refine lv_iload_n hx hb d_Mo_setGlue_146 rfl (lv_at hl 3 rfl) ?_
                refine lv_iload hx hb d_Mo_setGlue_147 (lv_at hl 0 rfl) ?_
                refine lv_if_eq (tgt := 166) hx hb d_Mo_setGlue_149 (by decide) (fun c149 => ?_) (fun c149 => ?_)
                · skip
                  refine lv_iconst (v := 0) hx hb d_Mo_setGlue_166 (by decide) ?_
                  refine hv_iast hE hI 0 hg11 rfl (pk_in c9 100 hc9 rfl (by omega)) d_Mo_setGlue_167 (fun H locs hI => ?_)
                  rw [nI_cl (by omega)] at hI
                  obtain ⟨g70, eg70⟩ : ∃ z : hv_M, z = hv_up g (a 11) (.inl (cA 0, 100, .inl (upd (wA V 7) c9 0))) := ⟨_, rfl⟩
                  have hI : hv_I D CL b0 g70 s.heap H locs := by rw [eg70]; exact hI
                  have hq71 : g70 (a 11) = some (.inl (cA 0, 100, .inl (upd (wA V 7) c9 0))) := by rw [eg70]; exact hv_up_self _ _ _
                  refine lv_aload_n hx hb d_Mo_setGlue_168 rfl (lv_at hl 2 rfl) ?_
                  have hq72 : g70 mo = some (moE a th st en ct gd ln bf ac un md) := by rw [eg70, hv_up_ne _ _ (Ne.symm (hnj.2 11 (by decide)))]; exact hgm
                  refine hv_get hE k_Mo hI 14 (by decide) w530 hq72 rfl d_Mo_setGlue_169 ?_
                  refine lv_iload_n hx hb d_Mo_setGlue_172 rfl (lv_at hl 3 rfl) ?_
                  refine lv_iload hx hb d_Mo_setGlue_173 (lv_at hl 0 rfl) ?_
                  refine lv_if_eq (tgt := 183) hx hb d_Mo_setGlue_175 (by decide) (fun c175 => ?_) (fun c175 => ?_)
                  · skip
                    refine lv_aload_n hx hb d_Mo_setGlue_183 rfl (lv_at hl 2 rfl) ?_
                    refine hv_get hE k_Mo hI 12 (by decide) w528 hq72 rfl d_Mo_setGlue_184 ?_
                    refine lv_iload_n hx hb d_Mo_setGlue_187 rfl (lv_at hl 3 rfl) ?_
                    have hq73 : g70 (a 8) = some (.inl (cA 0, 100, .inl (upd (wA V 4) c9 o))) := by rw [eg70, hv_up_ne _ _ (hnj.1 8 11 (by decide) (by decide) (by decide))]; exact h8
                    refine hv_iald hE hI 0 hq73 rfl (pk_in c9 100 hc9 rfl (by omega)) d_Mo_setGlue_188 ?_
                    rw [nI_cl (by omega)]
                    rw [upd_self]
                    refine lv_if_le (tgt := 196) hx hb d_Mo_setGlue_189 (by decide) (fun c189 => ?_) (fun c189 => ?_)
                    · skip
                      have n189 := Int32.not_lt.mpr c189
                      refine lv_lload_n hx hb d_Mo_setGlue_196 rfl (lv_at hl 4 rfl) ?_
                      refine lv_lconst (v := 0) hx hb d_Mo_setGlue_197 (by decide) ?_
                      refine W.lcmp hx hb d_Mo_setGlue_198 ?_
                      refine lv_if_ge (tgt := 207) hx hb d_Mo_setGlue_199 (by decide) (fun c199 => ?_) (fun c199 => ?_)
                      · skip
                        exact absurd c199 c95
                      · skip
                        have m199 : ¬ _ := fun q => c199 ((lg_cmp_ge _ _).mpr q)
                        have n199 := Int64.not_le.mp m199
                        refine lv_lload_n hx hb d_Mo_setGlue_202 rfl (lv_at hl 4 rfl) ?_
                        refine lv_lneg hx hb d_Mo_setGlue_203 ?_
                        refine lv_goto (tgt := 208) hx hb d_Mo_setGlue_204 (by decide) ?_
                        refine lv_aload_n hx hb d_Mo_setGlue_208 rfl (lv_at hl 2 rfl) ?_
                        refine hv_get hE k_Mo hI 13 (by decide) w529 hq72 rfl d_Mo_setGlue_209 ?_
                        refine lv_iload_n hx hb d_Mo_setGlue_212 rfl (lv_at hl 3 rfl) ?_
                        have hq74 : g70 (a 9) = some (.inl (cA 0, 100, .inl (upd (wA V 5) c9 t))) := by rw [eg70, hv_up_ne _ _ (hnj.1 9 11 (by decide) (by decide) (by decide))]; exact h9
                        refine hv_iald hE hI 0 hq74 rfl (pk_in c9 100 hc9 rfl (by omega)) d_Mo_setGlue_213 ?_
                        rw [nI_cl (by omega)]
                        rw [upd_self]
                        refine lv_i2l (v := t.toInt64) hx hb d_Mo_setGlue_214 rfl ?_
                        refine hv_Sp (As := [.long (-ex), .long t.toInt64]) (rest := [.int (nI c9), .ref (a 10)]) hE hml hK hI (c_Mo_badnessOf l hl0 b0 D cA g70 (-ex) t.toInt64) cd_Mo_badnessOf w705 w706 rfl rfl rfl hl.1 (Nat.le_of_ble_eq_true rfl) d_Mo_setGlue_215 ⟨by decide, by decide⟩ ⟨by decide, by decide⟩ (fun H locs hI => ?_)
                        refine W.eq (g2 := F0 m 218 ls [.int (bnF (-ex) t.toInt64), .int (nI c9), .ref (a 10)]) rfl ?_
                        have hq75 : g70 (a 10) = some (.inl (cA 0, 100, .inl (wA V 6))) := by rw [eg70, hv_up_ne _ _ (hnj.1 10 11 (by decide) (by decide) (by decide))]; exact hg10
                        refine hv_iast hE hI 0 hq75 rfl (pk_in c9 100 hc9 rfl (by omega)) d_Mo_setGlue_218 (fun H locs hI => ?_)
                        rw [nI_cl (by omega)] at hI
                        obtain ⟨g76, eg76⟩ : ∃ z : hv_M, z = hv_up g70 (a 10) (.inl (cA 0, 100, .inl (upd (wA V 6) c9 (bnF (-ex) t.toInt64)))) := ⟨_, rfl⟩
                        have hI : hv_I D CL b0 g76 s.heap H locs := by rw [eg76]; exact hI
                        have hq77 : g76 (a 10) = some (.inl (cA 0, 100, .inl (upd (wA V 6) c9 (bnF (-ex) t.toInt64)))) := by rw [eg76]; exact hv_up_self _ _ _
                        have hq78 : g76 (a 7) = some (.inl (cA 0, 100, .inl (upd (wA V 3) c9 ex.toInt32))) := by rw [eg76, hv_up_ne _ _ (hnj.1 7 10 (by decide) (by decide) (by decide)), eg70, hv_up_ne _ _ (hnj.1 7 11 (by decide) (by decide) (by decide))]; exact h7
                        have hq79 : g76 (a 8) = some (.inl (cA 0, 100, .inl (upd (wA V 4) c9 o))) := by rw [eg76, hv_up_ne _ _ (hnj.1 8 10 (by decide) (by decide) (by decide))]; exact hq73
                        have hq80 : g76 (a 9) = some (.inl (cA 0, 100, .inl (upd (wA V 5) c9 t))) := by rw [eg76, hv_up_ne _ _ (hnj.1 9 10 (by decide) (by decide) (by decide))]; exact hq74
                        have hq81 : g76 (a 11) = some (.inl (cA 0, 100, .inl (upd (wA V 7) c9 0))) := by rw [eg76, hv_up_ne _ _ (hnj.1 11 10 (by decide) (by decide) (by decide))]; exact hq71
                        exact hv_vret hE hr hlocks hI hK (⟨rfl, hq78, by rw [hot]; exact hq79, by rw [hot]; exact hq80, by rw [hot, show baM ex (o, t) = bnF (-ex) t.toInt64 from by first | (simp [baM, ovB, msF, labs, m95, n95, m110, n110, c119, m132, n132, c149, c175, c189, n189, m199, n199]; done) | exact absurd n189 (by rw [c119]; decide)]; exact hq77, by rw [hot, show ovM ex (o, t) = 0 from by simp [ovM, ovB, msF, m95, n95, m110, n110, c119, m132, n132, c149, c175, c189, n189, m199, n199]]; exact hq81, fun z z1 z2 z3 z4 z5 => by rw [eg76, hv_up_ne _ _ z4, eg70, hv_up_ne _ _ z5]; exact hfo z z1 z2 z3⟩) (by decide) (by decide) d_Mo_setGlue_219
                    · skip
                      have n189 := Int32.not_le.mp c189
                      refine lv_iconst (v := 0) hx hb d_Mo_setGlue_192 (by decide) ?_
                      refine lv_goto (tgt := 218) hx hb d_Mo_setGlue_193 (by decide) ?_
                      have hq82 : g70 (a 10) = some (.inl (cA 0, 100, .inl (wA V 6))) := by rw [eg70, hv_up_ne _ _ (hnj.1 10 11 (by decide) (by decide) (by decide))]; exact hg10
                      refine hv_iast hE hI 0 hq82 rfl (pk_in c9 100 hc9 rfl (by omega)) d_Mo_setGlue_218 (fun H locs hI => ?_)
                      rw [nI_cl (by omega)] at hI
                      obtain ⟨g83, eg83⟩ : ∃ z : hv_M, z = hv_up g70 (a 10) (.inl (cA 0, 100, .inl (upd (wA V 6) c9 0))) := ⟨_, rfl⟩
                      have hI : hv_I D CL b0 g83 s.heap H locs := by rw [eg83]; exact hI
                      have hq84 : g83 (a 10) = some (.inl (cA 0, 100, .inl (upd (wA V 6) c9 0))) := by rw [eg83]; exact hv_up_self _ _ _
                      have hq85 : g83 (a 7) = some (.inl (cA 0, 100, .inl (upd (wA V 3) c9 ex.toInt32))) := by rw [eg83, hv_up_ne _ _ (hnj.1 7 10 (by decide) (by decide) (by decide)), eg70, hv_up_ne _ _ (hnj.1 7 11 (by decide) (by decide) (by decide))]; exact h7
                      have hq86 : g83 (a 8) = some (.inl (cA 0, 100, .inl (upd (wA V 4) c9 o))) := by rw [eg83, hv_up_ne _ _ (hnj.1 8 10 (by decide) (by decide) (by decide))]; exact hq73
                      have hq87 : g83 (a 9) = some (.inl (cA 0, 100, .inl (upd (wA V 5) c9 t))) := by rw [eg83, hv_up_ne _ _ (hnj.1 9 10 (by decide) (by decide) (by decide)), eg70, hv_up_ne _ _ (hnj.1 9 11 (by decide) (by decide) (by decide))]; exact h9
                      have hq88 : g83 (a 11) = some (.inl (cA 0, 100, .inl (upd (wA V 7) c9 0))) := by rw [eg83, hv_up_ne _ _ (hnj.1 11 10 (by decide) (by decide) (by decide))]; exact hq71
                      exact hv_vret hE hr hlocks hI hK (⟨rfl, hq85, by rw [hot]; exact hq86, by rw [hot]; exact hq87, by rw [hot, show baM ex (o, t) = 0 from by first | (simp [baM, ovB, msF, labs, m95, n95, m110, n110, c119, m132, n132, c149, c175, c189, n189]; done) | exact absurd n189 (by rw [c119]; decide)]; exact hq84, by rw [hot, show ovM ex (o, t) = 0 from by simp [ovM, ovB, msF, m95, n95, m110, n110, c119, m132, n132, c149, c175, c189, n189]]; exact hq88, fun z z1 z2 z3 z4 z5 => by rw [eg83, hv_up_ne _ _ z4, eg70, hv_up_ne _ _ z5]; exact hfo z z1 z2 z3⟩) (by decide) (by decide) d_Mo_setGlue_219
                  · skip
                    exact absurd rfl c175
                · skip
                  exact absurd rfl c149
              · skip
                have m132 : ¬ _ := fun q => c132 ((lg_cmp_ge _ _).mpr q)
                have n132 := Int64.not_le.mp m132
                refine lv_iconst (v := 1) hx hb d_Mo_setGlue_135 (by decide) ?_
                refine lv_goto (tgt := 140) hx hb d_Mo_setGlue_136 (by decide) ?_
                refine lv_istore (lv' := [(6, .int 1), (4, .long (-ex)), (0, .ref mo), (1, .int (nI c9)), (2, .long ex)]) hx hb d_Mo_setGlue_140 hl (by decide) rfl (fun ls hl => ?_)
                refine lv_aload_n hx hb d_Mo_setGlue_142 rfl (lv_at hl 2 rfl) ?_
                refine hv_get hE k_Mo hI 15 (by decide) w531 hgm rfl d_Mo_setGlue_143 ?_
                refine lv_iload_n hx hb d_Mo_setGlue_146 rfl (lv_at hl 3 rfl) ?_
                refine lv_iload hx hb d_Mo_setGlue_147 (lv_at hl 0 rfl) ?_
                refine lv_if_eq (tgt := 166) hx hb d_Mo_setGlue_149 (by decide) (fun c149 => ?_) (fun c149 => ?_)
                · skip
                  exact absurd c149 (by decide)
                · skip
                  refine lv_lload hx hb d_Mo_setGlue_152 (lv_at hl 1 rfl) ?_
                  refine lv_aload_n hx hb d_Mo_setGlue_154 rfl (lv_at hl 2 rfl) ?_
                  refine hv_get hE k_Mo hI 13 (by decide) w529 hgm rfl d_Mo_setGlue_155 ?_
                  refine lv_iload_n hx hb d_Mo_setGlue_158 rfl (lv_at hl 3 rfl) ?_
                  refine hv_iald hE hI 0 h9 rfl (pk_in c9 100 hc9 rfl (by omega)) d_Mo_setGlue_159 ?_
                  rw [nI_cl (by omega)]
                  rw [upd_self]
                  refine lv_i2l (v := t.toInt64) hx hb d_Mo_setGlue_160 rfl ?_
                  refine lv_lsub hx hb d_Mo_setGlue_161 ?_
                  refine lv_l2i (v := ((-ex) - t.toInt64).toInt32) hx hb d_Mo_setGlue_162 rfl ?_
                  refine lv_goto (tgt := 167) hx hb d_Mo_setGlue_163 (by decide) ?_
                  refine hv_iast hE hI 0 hg11 rfl (pk_in c9 100 hc9 rfl (by omega)) d_Mo_setGlue_167 (fun H locs hI => ?_)
                  rw [nI_cl (by omega)] at hI
                  obtain ⟨g89, eg89⟩ : ∃ z : hv_M, z = hv_up g (a 11) (.inl (cA 0, 100, .inl (upd (wA V 7) c9 (((-ex) - t.toInt64).toInt32)))) := ⟨_, rfl⟩
                  have hI : hv_I D CL b0 g89 s.heap H locs := by rw [eg89]; exact hI
                  have hq90 : g89 (a 11) = some (.inl (cA 0, 100, .inl (upd (wA V 7) c9 (((-ex) - t.toInt64).toInt32)))) := by rw [eg89]; exact hv_up_self _ _ _
                  refine lv_aload_n hx hb d_Mo_setGlue_168 rfl (lv_at hl 2 rfl) ?_
                  have hq91 : g89 mo = some (moE a th st en ct gd ln bf ac un md) := by rw [eg89, hv_up_ne _ _ (Ne.symm (hnj.2 11 (by decide)))]; exact hgm
                  refine hv_get hE k_Mo hI 14 (by decide) w530 hq91 rfl d_Mo_setGlue_169 ?_
                  refine lv_iload_n hx hb d_Mo_setGlue_172 rfl (lv_at hl 3 rfl) ?_
                  refine lv_iload hx hb d_Mo_setGlue_173 (lv_at hl 0 rfl) ?_
                  refine lv_if_eq (tgt := 183) hx hb d_Mo_setGlue_175 (by decide) (fun c175 => ?_) (fun c175 => ?_)
                  · skip
                    exact absurd c175 (by decide)
                  · skip
                    refine lv_ldc (v := 1000000) hx hb hown (hts _ w704) d_Mo_setGlue_178 ?_
                    refine lv_goto (tgt := 218) hx hb d_Mo_setGlue_180 (by decide) ?_
                    have hq92 : g89 (a 10) = some (.inl (cA 0, 100, .inl (wA V 6))) := by rw [eg89, hv_up_ne _ _ (hnj.1 10 11 (by decide) (by decide) (by decide))]; exact hg10
                    refine hv_iast hE hI 0 hq92 rfl (pk_in c9 100 hc9 rfl (by omega)) d_Mo_setGlue_218 (fun H locs hI => ?_)
                    rw [nI_cl (by omega)] at hI
                    obtain ⟨g93, eg93⟩ : ∃ z : hv_M, z = hv_up g89 (a 10) (.inl (cA 0, 100, .inl (upd (wA V 6) c9 1000000))) := ⟨_, rfl⟩
                    have hI : hv_I D CL b0 g93 s.heap H locs := by rw [eg93]; exact hI
                    have hq94 : g93 (a 10) = some (.inl (cA 0, 100, .inl (upd (wA V 6) c9 1000000))) := by rw [eg93]; exact hv_up_self _ _ _
                    have hq95 : g93 (a 7) = some (.inl (cA 0, 100, .inl (upd (wA V 3) c9 ex.toInt32))) := by rw [eg93, hv_up_ne _ _ (hnj.1 7 10 (by decide) (by decide) (by decide)), eg89, hv_up_ne _ _ (hnj.1 7 11 (by decide) (by decide) (by decide))]; exact h7
                    have hq96 : g93 (a 8) = some (.inl (cA 0, 100, .inl (upd (wA V 4) c9 o))) := by rw [eg93, hv_up_ne _ _ (hnj.1 8 10 (by decide) (by decide) (by decide)), eg89, hv_up_ne _ _ (hnj.1 8 11 (by decide) (by decide) (by decide))]; exact h8
                    have hq97 : g93 (a 9) = some (.inl (cA 0, 100, .inl (upd (wA V 5) c9 t))) := by rw [eg93, hv_up_ne _ _ (hnj.1 9 10 (by decide) (by decide) (by decide)), eg89, hv_up_ne _ _ (hnj.1 9 11 (by decide) (by decide) (by decide))]; exact h9
                    have hq98 : g93 (a 11) = some (.inl (cA 0, 100, .inl (upd (wA V 7) c9 (((-ex) - t.toInt64).toInt32)))) := by rw [eg93, hv_up_ne _ _ (hnj.1 11 10 (by decide) (by decide) (by decide))]; exact hq90
                    exact hv_vret hE hr hlocks hI hK (⟨rfl, hq95, by rw [hot]; exact hq96, by rw [hot]; exact hq97, by rw [hot, show baM ex (o, t) = 1000000 from by first | (simp [baM, ovB, msF, labs, m95, n95, m110, n110, c119, m132, n132, c149, c175]; done) | exact absurd n189 (by rw [c119]; decide)]; exact hq94, by rw [hot, show ovM ex (o, t) = ((-ex) - t.toInt64).toInt32 from by simp [ovM, ovB, msF, m95, n95, m110, n110, c119, m132, n132, c149, c175]]; exact hq98, fun z z1 z2 z3 z4 z5 => by rw [eg93, hv_up_ne _ _ z4, eg89, hv_up_ne _ _ z5]; exact hfo z z1 z2 z3⟩) (by decide) (by decide) d_Mo_setGlue_219
      · skip
        have n28 := Int32.not_le.mp c28
        exact absurd (show (4 : Int32) ≤ nI i from nI_le (a := 4) (by omega) (by omega)) c28
    | succ k ih =>
      intro i o t g H locs ls hik h7 h8 h9 hW hfo hI hl
      have hgm : g mo = some (moE a th st en ct gd ln bf ac un md) := by rw [hfo _ (Ne.symm (hnj.2 7 (by decide))) (Ne.symm (hnj.2 8 (by decide))) (Ne.symm (hnj.2 9 (by decide)))]; exact hmo
      have hg10 : g (a 10) = some (.inl (cA 0, 100, .inl (wA V 6))) := by rw [hfo _ (hnj.1 10 7 (by decide) (by decide) (by decide)) (hnj.1 10 8 (by decide) (by decide) (by decide)) (hnj.1 10 9 (by decide) (by decide) (by decide))]; exact (hA.2.2.2.2 6 (by decide))
      have hg11 : g (a 11) = some (.inl (cA 0, 100, .inl (wA V 7))) := by rw [hfo _ (hnj.1 11 7 (by decide) (by decide) (by decide)) (hnj.1 11 8 (by decide) (by decide) (by decide)) (hnj.1 11 9 (by decide) (by decide) (by decide))]; exact (hA.2.2.2.2 7 (by decide))
      have hg14 : g (a 14) = some (.inl (cA 1, 4, .inr (.inl s1))) := by rw [hfo _ (hnj.1 14 7 (by decide) (by decide) (by decide)) (hnj.1 14 8 (by decide) (by decide) (by decide)) (hnj.1 14 9 (by decide) (by decide) (by decide))]; exact h14
      have hg15 : g (a 15) = some (.inl (cA 1, 4, .inr (.inl s2))) := by rw [hfo _ (hnj.1 15 7 (by decide) (by decide) (by decide)) (hnj.1 15 8 (by decide) (by decide) (by decide)) (hnj.1 15 9 (by decide) (by decide) (by decide))]; exact h15
      refine lv_iload hx hb d_Mo_setGlue_25 (lv_at hl 3 rfl) ?_
      refine lv_iconst (v := 4) hx hb d_Mo_setGlue_27 (by decide) ?_
      refine lv_icmp_ge (tgt := 92) hx hb d_Mo_setGlue_28 (by decide) (fun c28 => ?_) (fun c28 => ?_)
      · skip
        have n28 := Int32.not_lt.mpr c28
        exact absurd c28 (nI_ge (b := 4) (by omega) (by omega))
      · skip
        have n28 := Int32.not_le.mp c28
        refine lv_lload_n hx hb d_Mo_setGlue_31 rfl (lv_at hl 2 rfl) ?_
        refine lv_lconst (v := 0) hx hb d_Mo_setGlue_32 (by decide) ?_
        refine W.lcmp hx hb d_Mo_setGlue_33 ?_
        refine lv_if_eq (tgt := 92) hx hb d_Mo_setGlue_34 (by decide) (fun c34 => ?_) (fun c34 => ?_)
        · skip
          have m34 := (lg_cmp_eq _ _).mp c34
          have hot : otF ex (s1, s2) = (o, t) := by rw [hW, if_pos m34, otF, if_pos m34]
          refine lv_lload_n hx hb d_Mo_setGlue_92 rfl (lv_at hl 2 rfl) ?_
          refine lv_lconst (v := 0) hx hb d_Mo_setGlue_93 (by decide) ?_
          refine W.lcmp hx hb d_Mo_setGlue_94 ?_
          refine lv_if_ge (tgt := 103) hx hb d_Mo_setGlue_95 (by decide) (fun c95 => ?_) (fun c95 => ?_)
          · skip
            have m95 := (lg_cmp_ge _ _).mp c95
            have n95 := Int64.not_lt.mpr m95
            refine lv_lconst (v := 0) hx hb d_Mo_setGlue_103 (by decide) ?_
            refine lv_lstore (lv' := [(4, .long 0), (0, .ref mo), (1, .int (nI c9)), (2, .long ex)]) hx hb d_Mo_setGlue_104 hl (by decide) rfl (fun ls hl => ?_)
            refine lv_lload hx hb d_Mo_setGlue_106 (lv_at hl 0 rfl) ?_
            refine lv_lconst (v := 0) hx hb d_Mo_setGlue_108 (by decide) ?_
            refine W.lcmp hx hb d_Mo_setGlue_109 ?_
            refine lv_if_le (tgt := 139) hx hb d_Mo_setGlue_110 (by decide) (fun c110 => ?_) (fun c110 => ?_)
            · skip
              have m110 := (lg_cmp_le _ _).mp c110
              have n110 := Int64.not_lt.mpr m110
              refine lv_iconst (v := 0) hx hb d_Mo_setGlue_139 (by decide) ?_
              refine lv_istore (lv' := [(6, .int 0), (4, .long 0), (0, .ref mo), (1, .int (nI c9)), (2, .long ex)]) hx hb d_Mo_setGlue_140 hl (by decide) rfl (fun ls hl => ?_)
              refine lv_aload_n hx hb d_Mo_setGlue_142 rfl (lv_at hl 2 rfl) ?_
              refine hv_get hE k_Mo hI 15 (by decide) w531 hgm rfl d_Mo_setGlue_143 ?_
              refine lv_iload_n hx hb d_Mo_setGlue_146 rfl (lv_at hl 3 rfl) ?_
              refine lv_iload hx hb d_Mo_setGlue_147 (lv_at hl 0 rfl) ?_
              refine lv_if_eq (tgt := 166) hx hb d_Mo_setGlue_149 (by decide) (fun c149 => ?_) (fun c149 => ?_)
              · skip
                refine lv_iconst (v := 0) hx hb d_Mo_setGlue_166 (by decide) ?_
                refine hv_iast hE hI 0 hg11 rfl (pk_in c9 100 hc9 rfl (by omega)) d_Mo_setGlue_167 (fun H locs hI => ?_)
                rw [nI_cl (by omega)] at hI
                obtain ⟨g99, eg99⟩ : ∃ z : hv_M, z = hv_up g (a 11) (.inl (cA 0, 100, .inl (upd (wA V 7) c9 0))) := ⟨_, rfl⟩
                have hI : hv_I D CL b0 g99 s.heap H locs := by rw [eg99]; exact hI
                have hq100 : g99 (a 11) = some (.inl (cA 0, 100, .inl (upd (wA V 7) c9 0))) := by rw [eg99]; exact hv_up_self _ _ _
                refine lv_aload_n hx hb d_Mo_setGlue_168 rfl (lv_at hl 2 rfl) ?_
                have hq101 : g99 mo = some (moE a th st en ct gd ln bf ac un md) := by rw [eg99, hv_up_ne _ _ (Ne.symm (hnj.2 11 (by decide)))]; exact hgm
                refine hv_get hE k_Mo hI 14 (by decide) w530 hq101 rfl d_Mo_setGlue_169 ?_
                refine lv_iload_n hx hb d_Mo_setGlue_172 rfl (lv_at hl 3 rfl) ?_
                refine lv_iload hx hb d_Mo_setGlue_173 (lv_at hl 0 rfl) ?_
                refine lv_if_eq (tgt := 183) hx hb d_Mo_setGlue_175 (by decide) (fun c175 => ?_) (fun c175 => ?_)
                · skip
                  refine lv_aload_n hx hb d_Mo_setGlue_183 rfl (lv_at hl 2 rfl) ?_
                  refine hv_get hE k_Mo hI 12 (by decide) w528 hq101 rfl d_Mo_setGlue_184 ?_
                  refine lv_iload_n hx hb d_Mo_setGlue_187 rfl (lv_at hl 3 rfl) ?_
                  have hq102 : g99 (a 8) = some (.inl (cA 0, 100, .inl (upd (wA V 4) c9 o))) := by rw [eg99, hv_up_ne _ _ (hnj.1 8 11 (by decide) (by decide) (by decide))]; exact h8
                  refine hv_iald hE hI 0 hq102 rfl (pk_in c9 100 hc9 rfl (by omega)) d_Mo_setGlue_188 ?_
                  rw [nI_cl (by omega)]
                  rw [upd_self]
                  refine lv_if_le (tgt := 196) hx hb d_Mo_setGlue_189 (by decide) (fun c189 => ?_) (fun c189 => ?_)
                  · skip
                    have n189 := Int32.not_lt.mpr c189
                    refine lv_lload_n hx hb d_Mo_setGlue_196 rfl (lv_at hl 4 rfl) ?_
                    refine lv_lconst (v := 0) hx hb d_Mo_setGlue_197 (by decide) ?_
                    refine W.lcmp hx hb d_Mo_setGlue_198 ?_
                    refine lv_if_ge (tgt := 207) hx hb d_Mo_setGlue_199 (by decide) (fun c199 => ?_) (fun c199 => ?_)
                    · skip
                      have m199 := (lg_cmp_ge _ _).mp c199
                      have n199 := Int64.not_lt.mpr m199
                      refine lv_lload_n hx hb d_Mo_setGlue_207 rfl (lv_at hl 4 rfl) ?_
                      refine lv_aload_n hx hb d_Mo_setGlue_208 rfl (lv_at hl 2 rfl) ?_
                      refine hv_get hE k_Mo hI 13 (by decide) w529 hq101 rfl d_Mo_setGlue_209 ?_
                      refine lv_iload_n hx hb d_Mo_setGlue_212 rfl (lv_at hl 3 rfl) ?_
                      have hq103 : g99 (a 9) = some (.inl (cA 0, 100, .inl (upd (wA V 5) c9 t))) := by rw [eg99, hv_up_ne _ _ (hnj.1 9 11 (by decide) (by decide) (by decide))]; exact h9
                      refine hv_iald hE hI 0 hq103 rfl (pk_in c9 100 hc9 rfl (by omega)) d_Mo_setGlue_213 ?_
                      rw [nI_cl (by omega)]
                      rw [upd_self]
                      refine lv_i2l (v := t.toInt64) hx hb d_Mo_setGlue_214 rfl ?_
                      refine hv_Sp (As := [.long ex, .long t.toInt64]) (rest := [.int (nI c9), .ref (a 10)]) hE hml hK hI (c_Mo_badnessOf l hl0 b0 D cA g99 ex t.toInt64) cd_Mo_badnessOf w705 w706 rfl rfl rfl hl.1 (Nat.le_of_ble_eq_true rfl) d_Mo_setGlue_215 ⟨by decide, by decide⟩ ⟨by decide, by decide⟩ (fun H locs hI => ?_)
                      refine W.eq (g2 := F0 m 218 ls [.int (bnF ex t.toInt64), .int (nI c9), .ref (a 10)]) rfl ?_
                      have hq104 : g99 (a 10) = some (.inl (cA 0, 100, .inl (wA V 6))) := by rw [eg99, hv_up_ne _ _ (hnj.1 10 11 (by decide) (by decide) (by decide))]; exact hg10
                      refine hv_iast hE hI 0 hq104 rfl (pk_in c9 100 hc9 rfl (by omega)) d_Mo_setGlue_218 (fun H locs hI => ?_)
                      rw [nI_cl (by omega)] at hI
                      obtain ⟨g105, eg105⟩ : ∃ z : hv_M, z = hv_up g99 (a 10) (.inl (cA 0, 100, .inl (upd (wA V 6) c9 (bnF ex t.toInt64)))) := ⟨_, rfl⟩
                      have hI : hv_I D CL b0 g105 s.heap H locs := by rw [eg105]; exact hI
                      have hq106 : g105 (a 10) = some (.inl (cA 0, 100, .inl (upd (wA V 6) c9 (bnF ex t.toInt64)))) := by rw [eg105]; exact hv_up_self _ _ _
                      have hq107 : g105 (a 7) = some (.inl (cA 0, 100, .inl (upd (wA V 3) c9 ex.toInt32))) := by rw [eg105, hv_up_ne _ _ (hnj.1 7 10 (by decide) (by decide) (by decide)), eg99, hv_up_ne _ _ (hnj.1 7 11 (by decide) (by decide) (by decide))]; exact h7
                      have hq108 : g105 (a 8) = some (.inl (cA 0, 100, .inl (upd (wA V 4) c9 o))) := by rw [eg105, hv_up_ne _ _ (hnj.1 8 10 (by decide) (by decide) (by decide))]; exact hq102
                      have hq109 : g105 (a 9) = some (.inl (cA 0, 100, .inl (upd (wA V 5) c9 t))) := by rw [eg105, hv_up_ne _ _ (hnj.1 9 10 (by decide) (by decide) (by decide))]; exact hq103
                      have hq110 : g105 (a 11) = some (.inl (cA 0, 100, .inl (upd (wA V 7) c9 0))) := by rw [eg105, hv_up_ne _ _ (hnj.1 11 10 (by decide) (by decide) (by decide))]; exact hq100
                      exact hv_vret hE hr hlocks hI hK (⟨rfl, hq107, by rw [hot]; exact hq108, by rw [hot]; exact hq109, by rw [hot, show baM ex (o, t) = bnF ex t.toInt64 from by first | (simp [baM, ovB, msF, labs, m95, n95, m110, n110, c149, c175, c189, n189, m199, n199]; done) | exact absurd n189 (by rw [c119]; decide)]; exact hq106, by rw [hot, show ovM ex (o, t) = 0 from by simp [ovM, ovB, msF, m95, n95, m110, n110, c149, c175, c189, n189, m199, n199]]; exact hq110, fun z z1 z2 z3 z4 z5 => by rw [eg105, hv_up_ne _ _ z4, eg99, hv_up_ne _ _ z5]; exact hfo z z1 z2 z3⟩) (by decide) (by decide) d_Mo_setGlue_219
                    · skip
                      exact absurd c95 c199
                  · skip
                    have n189 := Int32.not_le.mp c189
                    refine lv_iconst (v := 0) hx hb d_Mo_setGlue_192 (by decide) ?_
                    refine lv_goto (tgt := 218) hx hb d_Mo_setGlue_193 (by decide) ?_
                    have hq111 : g99 (a 10) = some (.inl (cA 0, 100, .inl (wA V 6))) := by rw [eg99, hv_up_ne _ _ (hnj.1 10 11 (by decide) (by decide) (by decide))]; exact hg10
                    refine hv_iast hE hI 0 hq111 rfl (pk_in c9 100 hc9 rfl (by omega)) d_Mo_setGlue_218 (fun H locs hI => ?_)
                    rw [nI_cl (by omega)] at hI
                    obtain ⟨g112, eg112⟩ : ∃ z : hv_M, z = hv_up g99 (a 10) (.inl (cA 0, 100, .inl (upd (wA V 6) c9 0))) := ⟨_, rfl⟩
                    have hI : hv_I D CL b0 g112 s.heap H locs := by rw [eg112]; exact hI
                    have hq113 : g112 (a 10) = some (.inl (cA 0, 100, .inl (upd (wA V 6) c9 0))) := by rw [eg112]; exact hv_up_self _ _ _
                    have hq114 : g112 (a 7) = some (.inl (cA 0, 100, .inl (upd (wA V 3) c9 ex.toInt32))) := by rw [eg112, hv_up_ne _ _ (hnj.1 7 10 (by decide) (by decide) (by decide)), eg99, hv_up_ne _ _ (hnj.1 7 11 (by decide) (by decide) (by decide))]; exact h7
                    have hq115 : g112 (a 8) = some (.inl (cA 0, 100, .inl (upd (wA V 4) c9 o))) := by rw [eg112, hv_up_ne _ _ (hnj.1 8 10 (by decide) (by decide) (by decide))]; exact hq102
                    have hq116 : g112 (a 9) = some (.inl (cA 0, 100, .inl (upd (wA V 5) c9 t))) := by rw [eg112, hv_up_ne _ _ (hnj.1 9 10 (by decide) (by decide) (by decide)), eg99, hv_up_ne _ _ (hnj.1 9 11 (by decide) (by decide) (by decide))]; exact h9
                    have hq117 : g112 (a 11) = some (.inl (cA 0, 100, .inl (upd (wA V 7) c9 0))) := by rw [eg112, hv_up_ne _ _ (hnj.1 11 10 (by decide) (by decide) (by decide))]; exact hq100
                    exact hv_vret hE hr hlocks hI hK (⟨rfl, hq114, by rw [hot]; exact hq115, by rw [hot]; exact hq116, by rw [hot, show baM ex (o, t) = 0 from by first | (simp [baM, ovB, msF, labs, m95, n95, m110, n110, c149, c175, c189, n189]; done) | exact absurd n189 (by rw [c119]; decide)]; exact hq113, by rw [hot, show ovM ex (o, t) = 0 from by simp [ovM, ovB, msF, m95, n95, m110, n110, c149, c175, c189, n189]]; exact hq117, fun z z1 z2 z3 z4 z5 => by rw [eg112, hv_up_ne _ _ z4, eg99, hv_up_ne _ _ z5]; exact hfo z z1 z2 z3⟩) (by decide) (by decide) d_Mo_setGlue_219
                · skip
                  exact absurd rfl c175
              · skip
                exact absurd rfl c149
            · skip
              exact absurd (show lg_cmp 0 0 ≤ 0 by decide) c110
          · skip
            have m95 : ¬ _ := fun q => c95 ((lg_cmp_ge _ _).mpr q)
            have n95 := Int64.not_le.mp m95
            refine lv_lload_n hx hb d_Mo_setGlue_98 rfl (lv_at hl 2 rfl) ?_
            refine lv_lneg hx hb d_Mo_setGlue_99 ?_
            refine lv_goto (tgt := 104) hx hb d_Mo_setGlue_100 (by decide) ?_
            refine lv_lstore (lv' := [(4, .long (-ex)), (0, .ref mo), (1, .int (nI c9)), (2, .long ex)]) hx hb d_Mo_setGlue_104 hl (by decide) rfl (fun ls hl => ?_)
            refine lv_lload hx hb d_Mo_setGlue_106 (lv_at hl 0 rfl) ?_
            refine lv_lconst (v := 0) hx hb d_Mo_setGlue_108 (by decide) ?_
            refine W.lcmp hx hb d_Mo_setGlue_109 ?_
            refine lv_if_le (tgt := 139) hx hb d_Mo_setGlue_110 (by decide) (fun c110 => ?_) (fun c110 => ?_)
            · skip
              have m110 := (lg_cmp_le _ _).mp c110
              have n110 := Int64.not_lt.mpr m110
              refine lv_iconst (v := 0) hx hb d_Mo_setGlue_139 (by decide) ?_
              refine lv_istore (lv' := [(6, .int 0), (4, .long (-ex)), (0, .ref mo), (1, .int (nI c9)), (2, .long ex)]) hx hb d_Mo_setGlue_140 hl (by decide) rfl (fun ls hl => ?_)
              refine lv_aload_n hx hb d_Mo_setGlue_142 rfl (lv_at hl 2 rfl) ?_
              refine hv_get hE k_Mo hI 15 (by decide) w531 hgm rfl d_Mo_setGlue_143 ?_
              refine lv_iload_n hx hb d_Mo_setGlue_146 rfl (lv_at hl 3 rfl) ?_
              refine lv_iload hx hb d_Mo_setGlue_147 (lv_at hl 0 rfl) ?_
              refine lv_if_eq (tgt := 166) hx hb d_Mo_setGlue_149 (by decide) (fun c149 => ?_) (fun c149 => ?_)
              · skip
                refine lv_iconst (v := 0) hx hb d_Mo_setGlue_166 (by decide) ?_
                refine hv_iast hE hI 0 hg11 rfl (pk_in c9 100 hc9 rfl (by omega)) d_Mo_setGlue_167 (fun H locs hI => ?_)
                rw [nI_cl (by omega)] at hI
                obtain ⟨g118, eg118⟩ : ∃ z : hv_M, z = hv_up g (a 11) (.inl (cA 0, 100, .inl (upd (wA V 7) c9 0))) := ⟨_, rfl⟩
                have hI : hv_I D CL b0 g118 s.heap H locs := by rw [eg118]; exact hI
                have hq119 : g118 (a 11) = some (.inl (cA 0, 100, .inl (upd (wA V 7) c9 0))) := by rw [eg118]; exact hv_up_self _ _ _
                refine lv_aload_n hx hb d_Mo_setGlue_168 rfl (lv_at hl 2 rfl) ?_
                have hq120 : g118 mo = some (moE a th st en ct gd ln bf ac un md) := by rw [eg118, hv_up_ne _ _ (Ne.symm (hnj.2 11 (by decide)))]; exact hgm
                refine hv_get hE k_Mo hI 14 (by decide) w530 hq120 rfl d_Mo_setGlue_169 ?_
                refine lv_iload_n hx hb d_Mo_setGlue_172 rfl (lv_at hl 3 rfl) ?_
                refine lv_iload hx hb d_Mo_setGlue_173 (lv_at hl 0 rfl) ?_
                refine lv_if_eq (tgt := 183) hx hb d_Mo_setGlue_175 (by decide) (fun c175 => ?_) (fun c175 => ?_)
                · skip
                  refine lv_aload_n hx hb d_Mo_setGlue_183 rfl (lv_at hl 2 rfl) ?_
                  refine hv_get hE k_Mo hI 12 (by decide) w528 hq120 rfl d_Mo_setGlue_184 ?_
                  refine lv_iload_n hx hb d_Mo_setGlue_187 rfl (lv_at hl 3 rfl) ?_
                  have hq121 : g118 (a 8) = some (.inl (cA 0, 100, .inl (upd (wA V 4) c9 o))) := by rw [eg118, hv_up_ne _ _ (hnj.1 8 11 (by decide) (by decide) (by decide))]; exact h8
                  refine hv_iald hE hI 0 hq121 rfl (pk_in c9 100 hc9 rfl (by omega)) d_Mo_setGlue_188 ?_
                  rw [nI_cl (by omega)]
                  rw [upd_self]
                  refine lv_if_le (tgt := 196) hx hb d_Mo_setGlue_189 (by decide) (fun c189 => ?_) (fun c189 => ?_)
                  · skip
                    have n189 := Int32.not_lt.mpr c189
                    refine lv_lload_n hx hb d_Mo_setGlue_196 rfl (lv_at hl 4 rfl) ?_
                    refine lv_lconst (v := 0) hx hb d_Mo_setGlue_197 (by decide) ?_
                    refine W.lcmp hx hb d_Mo_setGlue_198 ?_
                    refine lv_if_ge (tgt := 207) hx hb d_Mo_setGlue_199 (by decide) (fun c199 => ?_) (fun c199 => ?_)
                    · skip
                      exact absurd c199 c95
                    · skip
                      have m199 : ¬ _ := fun q => c199 ((lg_cmp_ge _ _).mpr q)
                      have n199 := Int64.not_le.mp m199
                      refine lv_lload_n hx hb d_Mo_setGlue_202 rfl (lv_at hl 4 rfl) ?_
                      refine lv_lneg hx hb d_Mo_setGlue_203 ?_
                      refine lv_goto (tgt := 208) hx hb d_Mo_setGlue_204 (by decide) ?_
                      refine lv_aload_n hx hb d_Mo_setGlue_208 rfl (lv_at hl 2 rfl) ?_
                      refine hv_get hE k_Mo hI 13 (by decide) w529 hq120 rfl d_Mo_setGlue_209 ?_
                      refine lv_iload_n hx hb d_Mo_setGlue_212 rfl (lv_at hl 3 rfl) ?_
                      have hq122 : g118 (a 9) = some (.inl (cA 0, 100, .inl (upd (wA V 5) c9 t))) := by rw [eg118, hv_up_ne _ _ (hnj.1 9 11 (by decide) (by decide) (by decide))]; exact h9
                      refine hv_iald hE hI 0 hq122 rfl (pk_in c9 100 hc9 rfl (by omega)) d_Mo_setGlue_213 ?_
                      rw [nI_cl (by omega)]
                      rw [upd_self]
                      refine lv_i2l (v := t.toInt64) hx hb d_Mo_setGlue_214 rfl ?_
                      refine hv_Sp (As := [.long (-ex), .long t.toInt64]) (rest := [.int (nI c9), .ref (a 10)]) hE hml hK hI (c_Mo_badnessOf l hl0 b0 D cA g118 (-ex) t.toInt64) cd_Mo_badnessOf w705 w706 rfl rfl rfl hl.1 (Nat.le_of_ble_eq_true rfl) d_Mo_setGlue_215 ⟨by decide, by decide⟩ ⟨by decide, by decide⟩ (fun H locs hI => ?_)
                      refine W.eq (g2 := F0 m 218 ls [.int (bnF (-ex) t.toInt64), .int (nI c9), .ref (a 10)]) rfl ?_
                      have hq123 : g118 (a 10) = some (.inl (cA 0, 100, .inl (wA V 6))) := by rw [eg118, hv_up_ne _ _ (hnj.1 10 11 (by decide) (by decide) (by decide))]; exact hg10
                      refine hv_iast hE hI 0 hq123 rfl (pk_in c9 100 hc9 rfl (by omega)) d_Mo_setGlue_218 (fun H locs hI => ?_)
                      rw [nI_cl (by omega)] at hI
                      obtain ⟨g124, eg124⟩ : ∃ z : hv_M, z = hv_up g118 (a 10) (.inl (cA 0, 100, .inl (upd (wA V 6) c9 (bnF (-ex) t.toInt64)))) := ⟨_, rfl⟩
                      have hI : hv_I D CL b0 g124 s.heap H locs := by rw [eg124]; exact hI
                      have hq125 : g124 (a 10) = some (.inl (cA 0, 100, .inl (upd (wA V 6) c9 (bnF (-ex) t.toInt64)))) := by rw [eg124]; exact hv_up_self _ _ _
                      have hq126 : g124 (a 7) = some (.inl (cA 0, 100, .inl (upd (wA V 3) c9 ex.toInt32))) := by rw [eg124, hv_up_ne _ _ (hnj.1 7 10 (by decide) (by decide) (by decide)), eg118, hv_up_ne _ _ (hnj.1 7 11 (by decide) (by decide) (by decide))]; exact h7
                      have hq127 : g124 (a 8) = some (.inl (cA 0, 100, .inl (upd (wA V 4) c9 o))) := by rw [eg124, hv_up_ne _ _ (hnj.1 8 10 (by decide) (by decide) (by decide))]; exact hq121
                      have hq128 : g124 (a 9) = some (.inl (cA 0, 100, .inl (upd (wA V 5) c9 t))) := by rw [eg124, hv_up_ne _ _ (hnj.1 9 10 (by decide) (by decide) (by decide))]; exact hq122
                      have hq129 : g124 (a 11) = some (.inl (cA 0, 100, .inl (upd (wA V 7) c9 0))) := by rw [eg124, hv_up_ne _ _ (hnj.1 11 10 (by decide) (by decide) (by decide))]; exact hq119
                      exact hv_vret hE hr hlocks hI hK (⟨rfl, hq126, by rw [hot]; exact hq127, by rw [hot]; exact hq128, by rw [hot, show baM ex (o, t) = bnF (-ex) t.toInt64 from by first | (simp [baM, ovB, msF, labs, m95, n95, m110, n110, c149, c175, c189, n189, m199, n199]; done) | exact absurd n189 (by rw [c119]; decide)]; exact hq125, by rw [hot, show ovM ex (o, t) = 0 from by simp [ovM, ovB, msF, m95, n95, m110, n110, c149, c175, c189, n189, m199, n199]]; exact hq129, fun z z1 z2 z3 z4 z5 => by rw [eg124, hv_up_ne _ _ z4, eg118, hv_up_ne _ _ z5]; exact hfo z z1 z2 z3⟩) (by decide) (by decide) d_Mo_setGlue_219
                  · skip
                    have n189 := Int32.not_le.mp c189
                    refine lv_iconst (v := 0) hx hb d_Mo_setGlue_192 (by decide) ?_
                    refine lv_goto (tgt := 218) hx hb d_Mo_setGlue_193 (by decide) ?_
                    have hq130 : g118 (a 10) = some (.inl (cA 0, 100, .inl (wA V 6))) := by rw [eg118, hv_up_ne _ _ (hnj.1 10 11 (by decide) (by decide) (by decide))]; exact hg10
                    refine hv_iast hE hI 0 hq130 rfl (pk_in c9 100 hc9 rfl (by omega)) d_Mo_setGlue_218 (fun H locs hI => ?_)
                    rw [nI_cl (by omega)] at hI
                    obtain ⟨g131, eg131⟩ : ∃ z : hv_M, z = hv_up g118 (a 10) (.inl (cA 0, 100, .inl (upd (wA V 6) c9 0))) := ⟨_, rfl⟩
                    have hI : hv_I D CL b0 g131 s.heap H locs := by rw [eg131]; exact hI
                    have hq132 : g131 (a 10) = some (.inl (cA 0, 100, .inl (upd (wA V 6) c9 0))) := by rw [eg131]; exact hv_up_self _ _ _
                    have hq133 : g131 (a 7) = some (.inl (cA 0, 100, .inl (upd (wA V 3) c9 ex.toInt32))) := by rw [eg131, hv_up_ne _ _ (hnj.1 7 10 (by decide) (by decide) (by decide)), eg118, hv_up_ne _ _ (hnj.1 7 11 (by decide) (by decide) (by decide))]; exact h7
                    have hq134 : g131 (a 8) = some (.inl (cA 0, 100, .inl (upd (wA V 4) c9 o))) := by rw [eg131, hv_up_ne _ _ (hnj.1 8 10 (by decide) (by decide) (by decide))]; exact hq121
                    have hq135 : g131 (a 9) = some (.inl (cA 0, 100, .inl (upd (wA V 5) c9 t))) := by rw [eg131, hv_up_ne _ _ (hnj.1 9 10 (by decide) (by decide) (by decide)), eg118, hv_up_ne _ _ (hnj.1 9 11 (by decide) (by decide) (by decide))]; exact h9
                    have hq136 : g131 (a 11) = some (.inl (cA 0, 100, .inl (upd (wA V 7) c9 0))) := by rw [eg131, hv_up_ne _ _ (hnj.1 11 10 (by decide) (by decide) (by decide))]; exact hq119
                    exact hv_vret hE hr hlocks hI hK (⟨rfl, hq133, by rw [hot]; exact hq134, by rw [hot]; exact hq135, by rw [hot, show baM ex (o, t) = 0 from by first | (simp [baM, ovB, msF, labs, m95, n95, m110, n110, c149, c175, c189, n189]; done) | exact absurd n189 (by rw [c119]; decide)]; exact hq132, by rw [hot, show ovM ex (o, t) = 0 from by simp [ovM, ovB, msF, m95, n95, m110, n110, c149, c175, c189, n189]]; exact hq136, fun z z1 z2 z3 z4 z5 => by rw [eg131, hv_up_ne _ _ z4, eg118, hv_up_ne _ _ z5]; exact hfo z z1 z2 z3⟩) (by decide) (by decide) d_Mo_setGlue_219
                · skip
                  exact absurd rfl c175
              · skip
                exact absurd rfl c149
            · skip
              have m110 : ¬ _ := fun q => c110 ((lg_cmp_le _ _).mpr q)
              have n110 := Int64.not_le.mp m110
              refine lv_aload_n hx hb d_Mo_setGlue_113 rfl (lv_at hl 1 rfl) ?_
              refine hv_get hE k_Mo hI 12 (by decide) w528 hgm rfl d_Mo_setGlue_114 ?_
              refine lv_iload_n hx hb d_Mo_setGlue_117 rfl (lv_at hl 2 rfl) ?_
              refine hv_iald hE hI 0 h8 rfl (pk_in c9 100 hc9 rfl (by omega)) d_Mo_setGlue_118 ?_
              rw [nI_cl (by omega)]
              rw [upd_self]
              refine lv_if_ne (tgt := 139) hx hb d_Mo_setGlue_119 (by decide) (fun c119 => ?_) (fun c119 => ?_)
              · skip
                refine lv_iconst (v := 0) hx hb d_Mo_setGlue_139 (by decide) ?_
                refine lv_istore (lv' := [(6, .int 0), (4, .long (-ex)), (0, .ref mo), (1, .int (nI c9)), (2, .long ex)]) hx hb d_Mo_setGlue_140 hl (by decide) rfl (fun ls hl => ?_)
                refine lv_aload_n hx hb d_Mo_setGlue_142 rfl (lv_at hl 2 rfl) ?_
                refine hv_get hE k_Mo hI 15 (by decide) w531 hgm rfl d_Mo_setGlue_143 ?_
                refine lv_iload_n hx hb d_Mo_setGlue_146 rfl (lv_at hl 3 rfl) ?_
                refine lv_iload hx hb d_Mo_setGlue_147 (lv_at hl 0 rfl) ?_
                refine lv_if_eq (tgt := 166) hx hb d_Mo_setGlue_149 (by decide) (fun c149 => ?_) (fun c149 => ?_)
                · skip
                  refine lv_iconst (v := 0) hx hb d_Mo_setGlue_166 (by decide) ?_
                  refine hv_iast hE hI 0 hg11 rfl (pk_in c9 100 hc9 rfl (by omega)) d_Mo_setGlue_167 (fun H locs hI => ?_)
                  rw [nI_cl (by omega)] at hI
                  obtain ⟨g137, eg137⟩ : ∃ z : hv_M, z = hv_up g (a 11) (.inl (cA 0, 100, .inl (upd (wA V 7) c9 0))) := ⟨_, rfl⟩
                  have hI : hv_I D CL b0 g137 s.heap H locs := by rw [eg137]; exact hI
                  have hq138 : g137 (a 11) = some (.inl (cA 0, 100, .inl (upd (wA V 7) c9 0))) := by rw [eg137]; exact hv_up_self _ _ _
                  refine lv_aload_n hx hb d_Mo_setGlue_168 rfl (lv_at hl 2 rfl) ?_
                  have hq139 : g137 mo = some (moE a th st en ct gd ln bf ac un md) := by rw [eg137, hv_up_ne _ _ (Ne.symm (hnj.2 11 (by decide)))]; exact hgm
                  refine hv_get hE k_Mo hI 14 (by decide) w530 hq139 rfl d_Mo_setGlue_169 ?_
                  refine lv_iload_n hx hb d_Mo_setGlue_172 rfl (lv_at hl 3 rfl) ?_
                  refine lv_iload hx hb d_Mo_setGlue_173 (lv_at hl 0 rfl) ?_
                  refine lv_if_eq (tgt := 183) hx hb d_Mo_setGlue_175 (by decide) (fun c175 => ?_) (fun c175 => ?_)
                  · skip
                    refine lv_aload_n hx hb d_Mo_setGlue_183 rfl (lv_at hl 2 rfl) ?_
                    refine hv_get hE k_Mo hI 12 (by decide) w528 hq139 rfl d_Mo_setGlue_184 ?_
                    refine lv_iload_n hx hb d_Mo_setGlue_187 rfl (lv_at hl 3 rfl) ?_
                    have hq140 : g137 (a 8) = some (.inl (cA 0, 100, .inl (upd (wA V 4) c9 o))) := by rw [eg137, hv_up_ne _ _ (hnj.1 8 11 (by decide) (by decide) (by decide))]; exact h8
                    refine hv_iald hE hI 0 hq140 rfl (pk_in c9 100 hc9 rfl (by omega)) d_Mo_setGlue_188 ?_
                    rw [nI_cl (by omega)]
                    rw [upd_self]
                    refine lv_if_le (tgt := 196) hx hb d_Mo_setGlue_189 (by decide) (fun c189 => ?_) (fun c189 => ?_)
                    · skip
                      have n189 := Int32.not_lt.mpr c189
                      refine lv_lload_n hx hb d_Mo_setGlue_196 rfl (lv_at hl 4 rfl) ?_
                      refine lv_lconst (v := 0) hx hb d_Mo_setGlue_197 (by decide) ?_
                      refine W.lcmp hx hb d_Mo_setGlue_198 ?_
                      refine lv_if_ge (tgt := 207) hx hb d_Mo_setGlue_199 (by decide) (fun c199 => ?_) (fun c199 => ?_)
                      · skip
                        exact absurd c199 c95
                      · skip
                        have m199 : ¬ _ := fun q => c199 ((lg_cmp_ge _ _).mpr q)
                        have n199 := Int64.not_le.mp m199
                        refine lv_lload_n hx hb d_Mo_setGlue_202 rfl (lv_at hl 4 rfl) ?_
                        refine lv_lneg hx hb d_Mo_setGlue_203 ?_
                        refine lv_goto (tgt := 208) hx hb d_Mo_setGlue_204 (by decide) ?_
                        refine lv_aload_n hx hb d_Mo_setGlue_208 rfl (lv_at hl 2 rfl) ?_
                        refine hv_get hE k_Mo hI 13 (by decide) w529 hq139 rfl d_Mo_setGlue_209 ?_
                        refine lv_iload_n hx hb d_Mo_setGlue_212 rfl (lv_at hl 3 rfl) ?_
                        have hq141 : g137 (a 9) = some (.inl (cA 0, 100, .inl (upd (wA V 5) c9 t))) := by rw [eg137, hv_up_ne _ _ (hnj.1 9 11 (by decide) (by decide) (by decide))]; exact h9
                        refine hv_iald hE hI 0 hq141 rfl (pk_in c9 100 hc9 rfl (by omega)) d_Mo_setGlue_213 ?_
                        rw [nI_cl (by omega)]
                        rw [upd_self]
                        refine lv_i2l (v := t.toInt64) hx hb d_Mo_setGlue_214 rfl ?_
                        refine hv_Sp (As := [.long (-ex), .long t.toInt64]) (rest := [.int (nI c9), .ref (a 10)]) hE hml hK hI (c_Mo_badnessOf l hl0 b0 D cA g137 (-ex) t.toInt64) cd_Mo_badnessOf w705 w706 rfl rfl rfl hl.1 (Nat.le_of_ble_eq_true rfl) d_Mo_setGlue_215 ⟨by decide, by decide⟩ ⟨by decide, by decide⟩ (fun H locs hI => ?_)
                        refine W.eq (g2 := F0 m 218 ls [.int (bnF (-ex) t.toInt64), .int (nI c9), .ref (a 10)]) rfl ?_
                        have hq142 : g137 (a 10) = some (.inl (cA 0, 100, .inl (wA V 6))) := by rw [eg137, hv_up_ne _ _ (hnj.1 10 11 (by decide) (by decide) (by decide))]; exact hg10
                        refine hv_iast hE hI 0 hq142 rfl (pk_in c9 100 hc9 rfl (by omega)) d_Mo_setGlue_218 (fun H locs hI => ?_)
                        rw [nI_cl (by omega)] at hI
                        obtain ⟨g143, eg143⟩ : ∃ z : hv_M, z = hv_up g137 (a 10) (.inl (cA 0, 100, .inl (upd (wA V 6) c9 (bnF (-ex) t.toInt64)))) := ⟨_, rfl⟩
                        have hI : hv_I D CL b0 g143 s.heap H locs := by rw [eg143]; exact hI
                        have hq144 : g143 (a 10) = some (.inl (cA 0, 100, .inl (upd (wA V 6) c9 (bnF (-ex) t.toInt64)))) := by rw [eg143]; exact hv_up_self _ _ _
                        have hq145 : g143 (a 7) = some (.inl (cA 0, 100, .inl (upd (wA V 3) c9 ex.toInt32))) := by rw [eg143, hv_up_ne _ _ (hnj.1 7 10 (by decide) (by decide) (by decide)), eg137, hv_up_ne _ _ (hnj.1 7 11 (by decide) (by decide) (by decide))]; exact h7
                        have hq146 : g143 (a 8) = some (.inl (cA 0, 100, .inl (upd (wA V 4) c9 o))) := by rw [eg143, hv_up_ne _ _ (hnj.1 8 10 (by decide) (by decide) (by decide))]; exact hq140
                        have hq147 : g143 (a 9) = some (.inl (cA 0, 100, .inl (upd (wA V 5) c9 t))) := by rw [eg143, hv_up_ne _ _ (hnj.1 9 10 (by decide) (by decide) (by decide))]; exact hq141
                        have hq148 : g143 (a 11) = some (.inl (cA 0, 100, .inl (upd (wA V 7) c9 0))) := by rw [eg143, hv_up_ne _ _ (hnj.1 11 10 (by decide) (by decide) (by decide))]; exact hq138
                        exact hv_vret hE hr hlocks hI hK (⟨rfl, hq145, by rw [hot]; exact hq146, by rw [hot]; exact hq147, by rw [hot, show baM ex (o, t) = bnF (-ex) t.toInt64 from by first | (simp [baM, ovB, msF, labs, m95, n95, m110, n110, c119, c149, c175, c189, n189, m199, n199]; done) | exact absurd n189 (by rw [c119]; decide)]; exact hq144, by rw [hot, show ovM ex (o, t) = 0 from by simp [ovM, ovB, msF, m95, n95, m110, n110, c119, c149, c175, c189, n189, m199, n199]]; exact hq148, fun z z1 z2 z3 z4 z5 => by rw [eg143, hv_up_ne _ _ z4, eg137, hv_up_ne _ _ z5]; exact hfo z z1 z2 z3⟩) (by decide) (by decide) d_Mo_setGlue_219
                    · skip
                      have n189 := Int32.not_le.mp c189
                      refine lv_iconst (v := 0) hx hb d_Mo_setGlue_192 (by decide) ?_
                      refine lv_goto (tgt := 218) hx hb d_Mo_setGlue_193 (by decide) ?_
                      have hq149 : g137 (a 10) = some (.inl (cA 0, 100, .inl (wA V 6))) := by rw [eg137, hv_up_ne _ _ (hnj.1 10 11 (by decide) (by decide) (by decide))]; exact hg10
                      refine hv_iast hE hI 0 hq149 rfl (pk_in c9 100 hc9 rfl (by omega)) d_Mo_setGlue_218 (fun H locs hI => ?_)
                      rw [nI_cl (by omega)] at hI
                      obtain ⟨g150, eg150⟩ : ∃ z : hv_M, z = hv_up g137 (a 10) (.inl (cA 0, 100, .inl (upd (wA V 6) c9 0))) := ⟨_, rfl⟩
                      have hI : hv_I D CL b0 g150 s.heap H locs := by rw [eg150]; exact hI
                      have hq151 : g150 (a 10) = some (.inl (cA 0, 100, .inl (upd (wA V 6) c9 0))) := by rw [eg150]; exact hv_up_self _ _ _
                      have hq152 : g150 (a 7) = some (.inl (cA 0, 100, .inl (upd (wA V 3) c9 ex.toInt32))) := by rw [eg150, hv_up_ne _ _ (hnj.1 7 10 (by decide) (by decide) (by decide)), eg137, hv_up_ne _ _ (hnj.1 7 11 (by decide) (by decide) (by decide))]; exact h7
                      have hq153 : g150 (a 8) = some (.inl (cA 0, 100, .inl (upd (wA V 4) c9 o))) := by rw [eg150, hv_up_ne _ _ (hnj.1 8 10 (by decide) (by decide) (by decide))]; exact hq140
                      have hq154 : g150 (a 9) = some (.inl (cA 0, 100, .inl (upd (wA V 5) c9 t))) := by rw [eg150, hv_up_ne _ _ (hnj.1 9 10 (by decide) (by decide) (by decide)), eg137, hv_up_ne _ _ (hnj.1 9 11 (by decide) (by decide) (by decide))]; exact h9
                      have hq155 : g150 (a 11) = some (.inl (cA 0, 100, .inl (upd (wA V 7) c9 0))) := by rw [eg150, hv_up_ne _ _ (hnj.1 11 10 (by decide) (by decide) (by decide))]; exact hq138
                      exact hv_vret hE hr hlocks hI hK (⟨rfl, hq152, by rw [hot]; exact hq153, by rw [hot]; exact hq154, by rw [hot, show baM ex (o, t) = 0 from by first | (simp [baM, ovB, msF, labs, m95, n95, m110, n110, c119, c149, c175, c189, n189]; done) | exact absurd n189 (by rw [c119]; decide)]; exact hq151, by rw [hot, show ovM ex (o, t) = 0 from by simp [ovM, ovB, msF, m95, n95, m110, n110, c119, c149, c175, c189, n189]]; exact hq155, fun z z1 z2 z3 z4 z5 => by rw [eg150, hv_up_ne _ _ z4, eg137, hv_up_ne _ _ z5]; exact hfo z z1 z2 z3⟩) (by decide) (by decide) d_Mo_setGlue_219
                  · skip
                    exact absurd rfl c175
                · skip
                  exact absurd rfl c149
              · skip
                refine lv_aload_n hx hb d_Mo_setGlue_122 rfl (lv_at hl 1 rfl) ?_
                refine hv_get hE k_Mo hI 13 (by decide) w529 hgm rfl d_Mo_setGlue_123 ?_
                refine lv_iload_n hx hb d_Mo_setGlue_126 rfl (lv_at hl 2 rfl) ?_
                refine hv_iald hE hI 0 h9 rfl (pk_in c9 100 hc9 rfl (by omega)) d_Mo_setGlue_127 ?_
                rw [nI_cl (by omega)]
                rw [upd_self]
                refine lv_i2l (v := t.toInt64) hx hb d_Mo_setGlue_128 rfl ?_
                refine lv_lload hx hb d_Mo_setGlue_129 (lv_at hl 0 rfl) ?_
                refine W.lcmp hx hb d_Mo_setGlue_131 ?_
                refine lv_if_ge (tgt := 139) hx hb d_Mo_setGlue_132 (by decide) (fun c132 => ?_) (fun c132 => ?_)
                · skip
                  have m132 := (lg_cmp_ge _ _).mp c132
                  have n132 := Int64.not_lt.mpr m132
                  refine lv_iconst (v := 0) hx hb d_Mo_setGlue_139 (by decide) ?_
                  refine lv_istore (lv' := [(6, .int 0), (4, .long (-ex)), (0, .ref mo), (1, .int (nI c9)), (2, .long ex)]) hx hb d_Mo_setGlue_140 hl (by decide) rfl (fun ls hl => ?_)
                  refine lv_aload_n hx hb d_Mo_setGlue_142 rfl (lv_at hl 2 rfl) ?_
                  refine hv_get hE k_Mo hI 15 (by decide) w531 hgm rfl d_Mo_setGlue_143 ?_
                  refine lv_iload_n hx hb d_Mo_setGlue_146 rfl (lv_at hl 3 rfl) ?_
                  refine lv_iload hx hb d_Mo_setGlue_147 (lv_at hl 0 rfl) ?_
                  refine lv_if_eq (tgt := 166) hx hb d_Mo_setGlue_149 (by decide) (fun c149 => ?_) (fun c149 => ?_)
                  · skip
                    refine lv_iconst (v := 0) hx hb d_Mo_setGlue_166 (by decide) ?_
                    refine hv_iast hE hI 0 hg11 rfl (pk_in c9 100 hc9 rfl (by omega)) d_Mo_setGlue_167 (fun H locs hI => ?_)
                    rw [nI_cl (by omega)] at hI
                    obtain ⟨g156, eg156⟩ : ∃ z : hv_M, z = hv_up g (a 11) (.inl (cA 0, 100, .inl (upd (wA V 7) c9 0))) := ⟨_, rfl⟩
                    have hI : hv_I D CL b0 g156 s.heap H locs := by rw [eg156]; exact hI
                    have hq157 : g156 (a 11) = some (.inl (cA 0, 100, .inl (upd (wA V 7) c9 0))) := by rw [eg156]; exact hv_up_self _ _ _
                    refine lv_aload_n hx hb d_Mo_setGlue_168 rfl (lv_at hl 2 rfl) ?_
                    have hq158 : g156 mo = some (moE a th st en ct gd ln bf ac un md) := by rw [eg156, hv_up_ne _ _ (Ne.symm (hnj.2 11 (by decide)))]; exact hgm
                    refine hv_get hE k_Mo hI 14 (by decide) w530 hq158 rfl d_Mo_setGlue_169 ?_
                    refine lv_iload_n hx hb d_Mo_setGlue_172 rfl (lv_at hl 3 rfl) ?_
                    refine lv_iload hx hb d_Mo_setGlue_173 (lv_at hl 0 rfl) ?_
                    refine lv_if_eq (tgt := 183) hx hb d_Mo_setGlue_175 (by decide) (fun c175 => ?_) (fun c175 => ?_)
                    · skip
                      refine lv_aload_n hx hb d_Mo_setGlue_183 rfl (lv_at hl 2 rfl) ?_
                      refine hv_get hE k_Mo hI 12 (by decide) w528 hq158 rfl d_Mo_setGlue_184 ?_
                      refine lv_iload_n hx hb d_Mo_setGlue_187 rfl (lv_at hl 3 rfl) ?_
                      have hq159 : g156 (a 8) = some (.inl (cA 0, 100, .inl (upd (wA V 4) c9 o))) := by rw [eg156, hv_up_ne _ _ (hnj.1 8 11 (by decide) (by decide) (by decide))]; exact h8
                      refine hv_iald hE hI 0 hq159 rfl (pk_in c9 100 hc9 rfl (by omega)) d_Mo_setGlue_188 ?_
                      rw [nI_cl (by omega)]
                      rw [upd_self]
                      refine lv_if_le (tgt := 196) hx hb d_Mo_setGlue_189 (by decide) (fun c189 => ?_) (fun c189 => ?_)
                      · skip
                        have n189 := Int32.not_lt.mpr c189
                        refine lv_lload_n hx hb d_Mo_setGlue_196 rfl (lv_at hl 4 rfl) ?_
                        refine lv_lconst (v := 0) hx hb d_Mo_setGlue_197 (by decide) ?_
                        refine W.lcmp hx hb d_Mo_setGlue_198 ?_
                        refine lv_if_ge (tgt := 207) hx hb d_Mo_setGlue_199 (by decide) (fun c199 => ?_) (fun c199 => ?_)
                        · skip
                          exact absurd c199 c95
                        · skip
                          have m199 : ¬ _ := fun q => c199 ((lg_cmp_ge _ _).mpr q)
                          have n199 := Int64.not_le.mp m199
                          refine lv_lload_n hx hb d_Mo_setGlue_202 rfl (lv_at hl 4 rfl) ?_
                          refine lv_lneg hx hb d_Mo_setGlue_203 ?_
                          refine lv_goto (tgt := 208) hx hb d_Mo_setGlue_204 (by decide) ?_
                          refine lv_aload_n hx hb d_Mo_setGlue_208 rfl (lv_at hl 2 rfl) ?_
                          refine hv_get hE k_Mo hI 13 (by decide) w529 hq158 rfl d_Mo_setGlue_209 ?_
                          refine lv_iload_n hx hb d_Mo_setGlue_212 rfl (lv_at hl 3 rfl) ?_
                          have hq160 : g156 (a 9) = some (.inl (cA 0, 100, .inl (upd (wA V 5) c9 t))) := by rw [eg156, hv_up_ne _ _ (hnj.1 9 11 (by decide) (by decide) (by decide))]; exact h9
                          refine hv_iald hE hI 0 hq160 rfl (pk_in c9 100 hc9 rfl (by omega)) d_Mo_setGlue_213 ?_
                          rw [nI_cl (by omega)]
                          rw [upd_self]
                          refine lv_i2l (v := t.toInt64) hx hb d_Mo_setGlue_214 rfl ?_
                          refine hv_Sp (As := [.long (-ex), .long t.toInt64]) (rest := [.int (nI c9), .ref (a 10)]) hE hml hK hI (c_Mo_badnessOf l hl0 b0 D cA g156 (-ex) t.toInt64) cd_Mo_badnessOf w705 w706 rfl rfl rfl hl.1 (Nat.le_of_ble_eq_true rfl) d_Mo_setGlue_215 ⟨by decide, by decide⟩ ⟨by decide, by decide⟩ (fun H locs hI => ?_)
                          refine W.eq (g2 := F0 m 218 ls [.int (bnF (-ex) t.toInt64), .int (nI c9), .ref (a 10)]) rfl ?_
                          have hq161 : g156 (a 10) = some (.inl (cA 0, 100, .inl (wA V 6))) := by rw [eg156, hv_up_ne _ _ (hnj.1 10 11 (by decide) (by decide) (by decide))]; exact hg10
                          refine hv_iast hE hI 0 hq161 rfl (pk_in c9 100 hc9 rfl (by omega)) d_Mo_setGlue_218 (fun H locs hI => ?_)
                          rw [nI_cl (by omega)] at hI
                          obtain ⟨g162, eg162⟩ : ∃ z : hv_M, z = hv_up g156 (a 10) (.inl (cA 0, 100, .inl (upd (wA V 6) c9 (bnF (-ex) t.toInt64)))) := ⟨_, rfl⟩
                          have hI : hv_I D CL b0 g162 s.heap H locs := by rw [eg162]; exact hI
                          have hq163 : g162 (a 10) = some (.inl (cA 0, 100, .inl (upd (wA V 6) c9 (bnF (-ex) t.toInt64)))) := by rw [eg162]; exact hv_up_self _ _ _
                          have hq164 : g162 (a 7) = some (.inl (cA 0, 100, .inl (upd (wA V 3) c9 ex.toInt32))) := by rw [eg162, hv_up_ne _ _ (hnj.1 7 10 (by decide) (by decide) (by decide)), eg156, hv_up_ne _ _ (hnj.1 7 11 (by decide) (by decide) (by decide))]; exact h7
                          have hq165 : g162 (a 8) = some (.inl (cA 0, 100, .inl (upd (wA V 4) c9 o))) := by rw [eg162, hv_up_ne _ _ (hnj.1 8 10 (by decide) (by decide) (by decide))]; exact hq159
                          have hq166 : g162 (a 9) = some (.inl (cA 0, 100, .inl (upd (wA V 5) c9 t))) := by rw [eg162, hv_up_ne _ _ (hnj.1 9 10 (by decide) (by decide) (by decide))]; exact hq160
                          have hq167 : g162 (a 11) = some (.inl (cA 0, 100, .inl (upd (wA V 7) c9 0))) := by rw [eg162, hv_up_ne _ _ (hnj.1 11 10 (by decide) (by decide) (by decide))]; exact hq157
                          exact hv_vret hE hr hlocks hI hK (⟨rfl, hq164, by rw [hot]; exact hq165, by rw [hot]; exact hq166, by rw [hot, show baM ex (o, t) = bnF (-ex) t.toInt64 from by first | (simp [baM, ovB, msF, labs, m95, n95, m110, n110, c119, m132, n132, c149, c175, c189, n189, m199, n199]; done) | exact absurd n189 (by rw [c119]; decide)]; exact hq163, by rw [hot, show ovM ex (o, t) = 0 from by simp [ovM, ovB, msF, m95, n95, m110, n110, c119, m132, n132, c149, c175, c189, n189, m199, n199]]; exact hq167, fun z z1 z2 z3 z4 z5 => by rw [eg162, hv_up_ne _ _ z4, eg156, hv_up_ne _ _ z5]; exact hfo z z1 z2 z3⟩) (by decide) (by decide) d_Mo_setGlue_219
                      · skip
                        have n189 := Int32.not_le.mp c189
                        refine lv_iconst (v := 0) hx hb d_Mo_setGlue_192 (by decide) ?_
                        refine lv_goto (tgt := 218) hx hb d_Mo_setGlue_193 (by decide) ?_
                        have hq168 : g156 (a 10) = some (.inl (cA 0, 100, .inl (wA V 6))) := by rw [eg156, hv_up_ne _ _ (hnj.1 10 11 (by decide) (by decide) (by decide))]; exact hg10
                        refine hv_iast hE hI 0 hq168 rfl (pk_in c9 100 hc9 rfl (by omega)) d_Mo_setGlue_218 (fun H locs hI => ?_)
                        rw [nI_cl (by omega)] at hI
                        obtain ⟨g169, eg169⟩ : ∃ z : hv_M, z = hv_up g156 (a 10) (.inl (cA 0, 100, .inl (upd (wA V 6) c9 0))) := ⟨_, rfl⟩
                        have hI : hv_I D CL b0 g169 s.heap H locs := by rw [eg169]; exact hI
                        have hq170 : g169 (a 10) = some (.inl (cA 0, 100, .inl (upd (wA V 6) c9 0))) := by rw [eg169]; exact hv_up_self _ _ _
                        have hq171 : g169 (a 7) = some (.inl (cA 0, 100, .inl (upd (wA V 3) c9 ex.toInt32))) := by rw [eg169, hv_up_ne _ _ (hnj.1 7 10 (by decide) (by decide) (by decide)), eg156, hv_up_ne _ _ (hnj.1 7 11 (by decide) (by decide) (by decide))]; exact h7
                        have hq172 : g169 (a 8) = some (.inl (cA 0, 100, .inl (upd (wA V 4) c9 o))) := by rw [eg169, hv_up_ne _ _ (hnj.1 8 10 (by decide) (by decide) (by decide))]; exact hq159
                        have hq173 : g169 (a 9) = some (.inl (cA 0, 100, .inl (upd (wA V 5) c9 t))) := by rw [eg169, hv_up_ne _ _ (hnj.1 9 10 (by decide) (by decide) (by decide)), eg156, hv_up_ne _ _ (hnj.1 9 11 (by decide) (by decide) (by decide))]; exact h9
                        have hq174 : g169 (a 11) = some (.inl (cA 0, 100, .inl (upd (wA V 7) c9 0))) := by rw [eg169, hv_up_ne _ _ (hnj.1 11 10 (by decide) (by decide) (by decide))]; exact hq157
                        exact hv_vret hE hr hlocks hI hK (⟨rfl, hq171, by rw [hot]; exact hq172, by rw [hot]; exact hq173, by rw [hot, show baM ex (o, t) = 0 from by first | (simp [baM, ovB, msF, labs, m95, n95, m110, n110, c119, m132, n132, c149, c175, c189, n189]; done) | exact absurd n189 (by rw [c119]; decide)]; exact hq170, by rw [hot, show ovM ex (o, t) = 0 from by simp [ovM, ovB, msF, m95, n95, m110, n110, c119, m132, n132, c149, c175, c189, n189]]; exact hq174, fun z z1 z2 z3 z4 z5 => by rw [eg169, hv_up_ne _ _ z4, eg156, hv_up_ne _ _ z5]; exact hfo z z1 z2 z3⟩) (by decide) (by decide) d_Mo_setGlue_219
                    · skip
                      exact absurd rfl c175
                  · skip
                    exact absurd rfl c149
                · skip
                  have m132 : ¬ _ := fun q => c132 ((lg_cmp_ge _ _).mpr q)
                  have n132 := Int64.not_le.mp m132
                  refine lv_iconst (v := 1) hx hb d_Mo_setGlue_135 (by decide) ?_
                  refine lv_goto (tgt := 140) hx hb d_Mo_setGlue_136 (by decide) ?_
                  refine lv_istore (lv' := [(6, .int 1), (4, .long (-ex)), (0, .ref mo), (1, .int (nI c9)), (2, .long ex)]) hx hb d_Mo_setGlue_140 hl (by decide) rfl (fun ls hl => ?_)
                  refine lv_aload_n hx hb d_Mo_setGlue_142 rfl (lv_at hl 2 rfl) ?_
                  refine hv_get hE k_Mo hI 15 (by decide) w531 hgm rfl d_Mo_setGlue_143 ?_
                  refine lv_iload_n hx hb d_Mo_setGlue_146 rfl (lv_at hl 3 rfl) ?_
                  refine lv_iload hx hb d_Mo_setGlue_147 (lv_at hl 0 rfl) ?_
                  refine lv_if_eq (tgt := 166) hx hb d_Mo_setGlue_149 (by decide) (fun c149 => ?_) (fun c149 => ?_)
                  · skip
                    exact absurd c149 (by decide)
                  · skip
                    refine lv_lload hx hb d_Mo_setGlue_152 (lv_at hl 1 rfl) ?_
                    refine lv_aload_n hx hb d_Mo_setGlue_154 rfl (lv_at hl 2 rfl) ?_
                    refine hv_get hE k_Mo hI 13 (by decide) w529 hgm rfl d_Mo_setGlue_155 ?_
                    refine lv_iload_n hx hb d_Mo_setGlue_158 rfl (lv_at hl 3 rfl) ?_
                    refine hv_iald hE hI 0 h9 rfl (pk_in c9 100 hc9 rfl (by omega)) d_Mo_setGlue_159 ?_
                    rw [nI_cl (by omega)]
                    rw [upd_self]
                    refine lv_i2l (v := t.toInt64) hx hb d_Mo_setGlue_160 rfl ?_
                    refine lv_lsub hx hb d_Mo_setGlue_161 ?_
                    refine lv_l2i (v := ((-ex) - t.toInt64).toInt32) hx hb d_Mo_setGlue_162 rfl ?_
                    refine lv_goto (tgt := 167) hx hb d_Mo_setGlue_163 (by decide) ?_
                    refine hv_iast hE hI 0 hg11 rfl (pk_in c9 100 hc9 rfl (by omega)) d_Mo_setGlue_167 (fun H locs hI => ?_)
                    rw [nI_cl (by omega)] at hI
                    obtain ⟨g175, eg175⟩ : ∃ z : hv_M, z = hv_up g (a 11) (.inl (cA 0, 100, .inl (upd (wA V 7) c9 (((-ex) - t.toInt64).toInt32)))) := ⟨_, rfl⟩
                    have hI : hv_I D CL b0 g175 s.heap H locs := by rw [eg175]; exact hI
                    have hq176 : g175 (a 11) = some (.inl (cA 0, 100, .inl (upd (wA V 7) c9 (((-ex) - t.toInt64).toInt32)))) := by rw [eg175]; exact hv_up_self _ _ _
                    refine lv_aload_n hx hb d_Mo_setGlue_168 rfl (lv_at hl 2 rfl) ?_
                    have hq177 : g175 mo = some (moE a th st en ct gd ln bf ac un md) := by rw [eg175, hv_up_ne _ _ (Ne.symm (hnj.2 11 (by decide)))]; exact hgm
                    refine hv_get hE k_Mo hI 14 (by decide) w530 hq177 rfl d_Mo_setGlue_169 ?_
                    refine lv_iload_n hx hb d_Mo_setGlue_172 rfl (lv_at hl 3 rfl) ?_
                    refine lv_iload hx hb d_Mo_setGlue_173 (lv_at hl 0 rfl) ?_
                    refine lv_if_eq (tgt := 183) hx hb d_Mo_setGlue_175 (by decide) (fun c175 => ?_) (fun c175 => ?_)
                    · skip
                      exact absurd c175 (by decide)
                    · skip
                      refine lv_ldc (v := 1000000) hx hb hown (hts _ w704) d_Mo_setGlue_178 ?_
                      refine lv_goto (tgt := 218) hx hb d_Mo_setGlue_180 (by decide) ?_
                      have hq178 : g175 (a 10) = some (.inl (cA 0, 100, .inl (wA V 6))) := by rw [eg175, hv_up_ne _ _ (hnj.1 10 11 (by decide) (by decide) (by decide))]; exact hg10
                      refine hv_iast hE hI 0 hq178 rfl (pk_in c9 100 hc9 rfl (by omega)) d_Mo_setGlue_218 (fun H locs hI => ?_)
                      rw [nI_cl (by omega)] at hI
                      obtain ⟨g179, eg179⟩ : ∃ z : hv_M, z = hv_up g175 (a 10) (.inl (cA 0, 100, .inl (upd (wA V 6) c9 1000000))) := ⟨_, rfl⟩
                      have hI : hv_I D CL b0 g179 s.heap H locs := by rw [eg179]; exact hI
                      have hq180 : g179 (a 10) = some (.inl (cA 0, 100, .inl (upd (wA V 6) c9 1000000))) := by rw [eg179]; exact hv_up_self _ _ _
                      have hq181 : g179 (a 7) = some (.inl (cA 0, 100, .inl (upd (wA V 3) c9 ex.toInt32))) := by rw [eg179, hv_up_ne _ _ (hnj.1 7 10 (by decide) (by decide) (by decide)), eg175, hv_up_ne _ _ (hnj.1 7 11 (by decide) (by decide) (by decide))]; exact h7
                      have hq182 : g179 (a 8) = some (.inl (cA 0, 100, .inl (upd (wA V 4) c9 o))) := by rw [eg179, hv_up_ne _ _ (hnj.1 8 10 (by decide) (by decide) (by decide)), eg175, hv_up_ne _ _ (hnj.1 8 11 (by decide) (by decide) (by decide))]; exact h8
                      have hq183 : g179 (a 9) = some (.inl (cA 0, 100, .inl (upd (wA V 5) c9 t))) := by rw [eg179, hv_up_ne _ _ (hnj.1 9 10 (by decide) (by decide) (by decide)), eg175, hv_up_ne _ _ (hnj.1 9 11 (by decide) (by decide) (by decide))]; exact h9
                      have hq184 : g179 (a 11) = some (.inl (cA 0, 100, .inl (upd (wA V 7) c9 (((-ex) - t.toInt64).toInt32)))) := by rw [eg179, hv_up_ne _ _ (hnj.1 11 10 (by decide) (by decide) (by decide))]; exact hq176
                      exact hv_vret hE hr hlocks hI hK (⟨rfl, hq181, by rw [hot]; exact hq182, by rw [hot]; exact hq183, by rw [hot, show baM ex (o, t) = 1000000 from by first | (simp [baM, ovB, msF, labs, m95, n95, m110, n110, c119, m132, n132, c149, c175]; done) | exact absurd n189 (by rw [c119]; decide)]; exact hq180, by rw [hot, show ovM ex (o, t) = ((-ex) - t.toInt64).toInt32 from by simp [ovM, ovB, msF, m95, n95, m110, n110, c119, m132, n132, c149, c175]]; exact hq184, fun z z1 z2 z3 z4 z5 => by rw [eg179, hv_up_ne _ _ z4, eg175, hv_up_ne _ _ z5]; exact hfo z z1 z2 z3⟩) (by decide) (by decide) d_Mo_setGlue_219
        · skip
          have m34 : ¬ _ := fun q => c34 ((lg_cmp_eq _ _).mpr q)
          refine lv_lload_n hx hb d_Mo_setGlue_37 rfl (lv_at hl 2 rfl) ?_
          refine lv_lconst (v := 0) hx hb d_Mo_setGlue_38 (by decide) ?_
          refine W.lcmp hx hb d_Mo_setGlue_39 ?_
          refine lv_if_le (tgt := 53) hx hb d_Mo_setGlue_40 (by decide) (fun c40 => ?_) (fun c40 => ?_)
          · skip
            have m40 := (lg_cmp_le _ _).mp c40
            have n40 := Int64.not_lt.mpr m40
            refine lv_aload_n hx hb d_Mo_setGlue_53 rfl (lv_at hl 0 rfl) ?_
            refine hv_get hE k_Mo hI 24 (by decide) w540 hgm rfl d_Mo_setGlue_54 ?_
            refine lv_iload hx hb d_Mo_setGlue_57 (lv_at hl 3 rfl) ?_
            refine hv_lald hE hI 1 hg15 rfl (pk_in i 4 (by omega) rfl (by omega)) d_Mo_setGlue_59 ?_
            rw [nI_cl (by omega)]
            refine lv_lstore (lv' := [(5, .long (s2 i)), (0, .ref mo), (1, .int (nI c9)), (2, .long ex), (4, .int (nI i))]) hx hb d_Mo_setGlue_60 hl (by decide) rfl (fun ls hl => ?_)
            refine lv_lload hx hb d_Mo_setGlue_62 (lv_at hl 0 rfl) ?_
            refine lv_lconst (v := 0) hx hb d_Mo_setGlue_64 (by decide) ?_
            refine W.lcmp hx hb d_Mo_setGlue_65 ?_
            refine lv_if_eq (tgt := 86) hx hb d_Mo_setGlue_66 (by decide) (fun c66 => ?_) (fun c66 => ?_)
            · skip
              have m66 := (lg_cmp_eq _ _).mp c66
              obtain ⟨v185, ev185⟩ : ∃ y : Int32, y = (nI i) + 1 := ⟨_, rfl⟩
              refine lv_iinc (v := v185) (lv' := [(4, .int v185), (5, .long (s2 i)), (0, .ref mo), (1, .int (nI c9)), (2, .long ex)]) hx hb d_Mo_setGlue_86 hl (k := 4) rfl (by rw [ev185]; rfl) (by decide) rfl (fun ls hl => ?_)
              refine lv_goto (tgt := 25) hx hb d_Mo_setGlue_89 (by decide) ?_
              exact ih (i + 1) o t _ _ _ ls (by omega) h7 h8 h9 (by rw [if_neg m34, if_neg n40, oL, if_pos m66]; rw [if_neg m34, if_neg n40] at hW; exact hW) (fun z z1 z2 z3 => hfo z z1 z2 z3) hI (by rw [← nI_1, ← ev185]; exact lv_sub hl [2, 3, 4, 0] rfl)
            · skip
              have m66 : ¬ _ := fun q => c66 ((lg_cmp_eq _ _).mpr q)
              refine lv_aload_n hx hb d_Mo_setGlue_69 rfl (lv_at hl 1 rfl) ?_
              refine hv_get hE k_Mo hI 12 (by decide) w528 hgm rfl d_Mo_setGlue_70 ?_
              refine lv_iload_n hx hb d_Mo_setGlue_73 rfl (lv_at hl 2 rfl) ?_
              refine lv_iload hx hb d_Mo_setGlue_74 (lv_at hl 4 rfl) ?_
              refine hv_iast hE hI 0 h8 rfl (pk_in c9 100 hc9 rfl (by omega)) d_Mo_setGlue_76 (fun H locs hI => ?_)
              rw [nI_cl (by omega)] at hI
              rw [upd2] at hI
              obtain ⟨g186, eg186⟩ : ∃ z : hv_M, z = hv_up g (a 8) (.inl (cA 0, 100, .inl (upd (wA V 4) c9 (nI i)))) := ⟨_, rfl⟩
              have hI : hv_I D CL b0 g186 s.heap H locs := by rw [eg186]; exact hI
              have hq187 : g186 (a 8) = some (.inl (cA 0, 100, .inl (upd (wA V 4) c9 (nI i)))) := by rw [eg186]; exact hv_up_self _ _ _
              refine lv_aload_n hx hb d_Mo_setGlue_77 rfl (lv_at hl 1 rfl) ?_
              have hq188 : g186 mo = some (moE a th st en ct gd ln bf ac un md) := by rw [eg186, hv_up_ne _ _ (Ne.symm (hnj.2 8 (by decide)))]; exact hgm
              refine hv_get hE k_Mo hI 13 (by decide) w529 hq188 rfl d_Mo_setGlue_78 ?_
              refine lv_iload_n hx hb d_Mo_setGlue_81 rfl (lv_at hl 2 rfl) ?_
              refine lv_lload hx hb d_Mo_setGlue_82 (lv_at hl 0 rfl) ?_
              refine lv_l2i (v := (s2 i).toInt32) hx hb d_Mo_setGlue_84 rfl ?_
              have hq189 : g186 (a 9) = some (.inl (cA 0, 100, .inl (upd (wA V 5) c9 t))) := by rw [eg186, hv_up_ne _ _ (hnj.1 9 8 (by decide) (by decide) (by decide))]; exact h9
              refine hv_iast hE hI 0 hq189 rfl (pk_in c9 100 hc9 rfl (by omega)) d_Mo_setGlue_85 (fun H locs hI => ?_)
              rw [nI_cl (by omega)] at hI
              rw [upd2] at hI
              obtain ⟨g190, eg190⟩ : ∃ z : hv_M, z = hv_up g186 (a 9) (.inl (cA 0, 100, .inl (upd (wA V 5) c9 ((s2 i).toInt32)))) := ⟨_, rfl⟩
              have hI : hv_I D CL b0 g190 s.heap H locs := by rw [eg190]; exact hI
              have hq191 : g190 (a 9) = some (.inl (cA 0, 100, .inl (upd (wA V 5) c9 ((s2 i).toInt32)))) := by rw [eg190]; exact hv_up_self _ _ _
              obtain ⟨v192, ev192⟩ : ∃ y : Int32, y = (nI i) + 1 := ⟨_, rfl⟩
              refine lv_iinc (v := v192) (lv' := [(4, .int v192), (5, .long (s2 i)), (0, .ref mo), (1, .int (nI c9)), (2, .long ex)]) hx hb d_Mo_setGlue_86 hl (k := 4) rfl (by rw [ev192]; rfl) (by decide) rfl (fun ls hl => ?_)
              refine lv_goto (tgt := 25) hx hb d_Mo_setGlue_89 (by decide) ?_
              have hq193 : g190 (a 7) = some (.inl (cA 0, 100, .inl (upd (wA V 3) c9 ex.toInt32))) := by rw [eg190, hv_up_ne _ _ (hnj.1 7 9 (by decide) (by decide) (by decide)), eg186, hv_up_ne _ _ (hnj.1 7 8 (by decide) (by decide) (by decide))]; exact h7
              have hq194 : g190 (a 8) = some (.inl (cA 0, 100, .inl (upd (wA V 4) c9 (nI i)))) := by rw [eg190, hv_up_ne _ _ (hnj.1 8 9 (by decide) (by decide) (by decide))]; exact hq187
              exact ih (i + 1) (nI i) ((s2 i).toInt32) _ _ _ ls (by omega) hq193 hq194 hq191 (by rw [if_neg m34, if_neg n40, oL, if_neg m66]) (fun z z1 z2 z3 => by rw [eg190, hv_up_ne _ _ z3, eg186, hv_up_ne _ _ z2]; exact hfo z z1 z2 z3) hI (by rw [← nI_1, ← ev192]; exact lv_sub hl [2, 3, 4, 0] rfl)
          · skip
            have m40 : ¬ _ := fun q => c40 ((lg_cmp_le _ _).mpr q)
            have n40 := Int64.not_le.mp m40
            refine lv_aload_n hx hb d_Mo_setGlue_43 rfl (lv_at hl 0 rfl) ?_
            refine hv_get hE k_Mo hI 23 (by decide) w539 hgm rfl d_Mo_setGlue_44 ?_
            refine lv_iload hx hb d_Mo_setGlue_47 (lv_at hl 3 rfl) ?_
            refine hv_lald hE hI 1 hg14 rfl (pk_in i 4 (by omega) rfl (by omega)) d_Mo_setGlue_49 ?_
            rw [nI_cl (by omega)]
            refine lv_goto (tgt := 60) hx hb d_Mo_setGlue_50 (by decide) ?_
            refine lv_lstore (lv' := [(5, .long (s1 i)), (0, .ref mo), (1, .int (nI c9)), (2, .long ex), (4, .int (nI i))]) hx hb d_Mo_setGlue_60 hl (by decide) rfl (fun ls hl => ?_)
            refine lv_lload hx hb d_Mo_setGlue_62 (lv_at hl 0 rfl) ?_
            refine lv_lconst (v := 0) hx hb d_Mo_setGlue_64 (by decide) ?_
            refine W.lcmp hx hb d_Mo_setGlue_65 ?_
            refine lv_if_eq (tgt := 86) hx hb d_Mo_setGlue_66 (by decide) (fun c66 => ?_) (fun c66 => ?_)
            · skip
              have m66 := (lg_cmp_eq _ _).mp c66
              obtain ⟨v195, ev195⟩ : ∃ y : Int32, y = (nI i) + 1 := ⟨_, rfl⟩
              refine lv_iinc (v := v195) (lv' := [(4, .int v195), (5, .long (s1 i)), (0, .ref mo), (1, .int (nI c9)), (2, .long ex)]) hx hb d_Mo_setGlue_86 hl (k := 4) rfl (by rw [ev195]; rfl) (by decide) rfl (fun ls hl => ?_)
              refine lv_goto (tgt := 25) hx hb d_Mo_setGlue_89 (by decide) ?_
              exact ih (i + 1) o t _ _ _ ls (by omega) h7 h8 h9 (by rw [if_neg m34, if_pos n40, oL, if_pos m66]; rw [if_neg m34, if_pos n40] at hW; exact hW) (fun z z1 z2 z3 => hfo z z1 z2 z3) hI (by rw [← nI_1, ← ev195]; exact lv_sub hl [2, 3, 4, 0] rfl)
            · skip
              have m66 : ¬ _ := fun q => c66 ((lg_cmp_eq _ _).mpr q)
              refine lv_aload_n hx hb d_Mo_setGlue_69 rfl (lv_at hl 1 rfl) ?_
              refine hv_get hE k_Mo hI 12 (by decide) w528 hgm rfl d_Mo_setGlue_70 ?_
              refine lv_iload_n hx hb d_Mo_setGlue_73 rfl (lv_at hl 2 rfl) ?_
              refine lv_iload hx hb d_Mo_setGlue_74 (lv_at hl 4 rfl) ?_
              refine hv_iast hE hI 0 h8 rfl (pk_in c9 100 hc9 rfl (by omega)) d_Mo_setGlue_76 (fun H locs hI => ?_)
              rw [nI_cl (by omega)] at hI
              rw [upd2] at hI
              obtain ⟨g196, eg196⟩ : ∃ z : hv_M, z = hv_up g (a 8) (.inl (cA 0, 100, .inl (upd (wA V 4) c9 (nI i)))) := ⟨_, rfl⟩
              have hI : hv_I D CL b0 g196 s.heap H locs := by rw [eg196]; exact hI
              have hq197 : g196 (a 8) = some (.inl (cA 0, 100, .inl (upd (wA V 4) c9 (nI i)))) := by rw [eg196]; exact hv_up_self _ _ _
              refine lv_aload_n hx hb d_Mo_setGlue_77 rfl (lv_at hl 1 rfl) ?_
              have hq198 : g196 mo = some (moE a th st en ct gd ln bf ac un md) := by rw [eg196, hv_up_ne _ _ (Ne.symm (hnj.2 8 (by decide)))]; exact hgm
              refine hv_get hE k_Mo hI 13 (by decide) w529 hq198 rfl d_Mo_setGlue_78 ?_
              refine lv_iload_n hx hb d_Mo_setGlue_81 rfl (lv_at hl 2 rfl) ?_
              refine lv_lload hx hb d_Mo_setGlue_82 (lv_at hl 0 rfl) ?_
              refine lv_l2i (v := (s1 i).toInt32) hx hb d_Mo_setGlue_84 rfl ?_
              have hq199 : g196 (a 9) = some (.inl (cA 0, 100, .inl (upd (wA V 5) c9 t))) := by rw [eg196, hv_up_ne _ _ (hnj.1 9 8 (by decide) (by decide) (by decide))]; exact h9
              refine hv_iast hE hI 0 hq199 rfl (pk_in c9 100 hc9 rfl (by omega)) d_Mo_setGlue_85 (fun H locs hI => ?_)
              rw [nI_cl (by omega)] at hI
              rw [upd2] at hI
              obtain ⟨g200, eg200⟩ : ∃ z : hv_M, z = hv_up g196 (a 9) (.inl (cA 0, 100, .inl (upd (wA V 5) c9 ((s1 i).toInt32)))) := ⟨_, rfl⟩
              have hI : hv_I D CL b0 g200 s.heap H locs := by rw [eg200]; exact hI
              have hq201 : g200 (a 9) = some (.inl (cA 0, 100, .inl (upd (wA V 5) c9 ((s1 i).toInt32)))) := by rw [eg200]; exact hv_up_self _ _ _
              obtain ⟨v202, ev202⟩ : ∃ y : Int32, y = (nI i) + 1 := ⟨_, rfl⟩
              refine lv_iinc (v := v202) (lv' := [(4, .int v202), (5, .long (s1 i)), (0, .ref mo), (1, .int (nI c9)), (2, .long ex)]) hx hb d_Mo_setGlue_86 hl (k := 4) rfl (by rw [ev202]; rfl) (by decide) rfl (fun ls hl => ?_)
              refine lv_goto (tgt := 25) hx hb d_Mo_setGlue_89 (by decide) ?_
              have hq203 : g200 (a 7) = some (.inl (cA 0, 100, .inl (upd (wA V 3) c9 ex.toInt32))) := by rw [eg200, hv_up_ne _ _ (hnj.1 7 9 (by decide) (by decide) (by decide)), eg196, hv_up_ne _ _ (hnj.1 7 8 (by decide) (by decide) (by decide))]; exact h7
              have hq204 : g200 (a 8) = some (.inl (cA 0, 100, .inl (upd (wA V 4) c9 (nI i)))) := by rw [eg200, hv_up_ne _ _ (hnj.1 8 9 (by decide) (by decide) (by decide))]; exact hq197
              exact ih (i + 1) (nI i) ((s1 i).toInt32) _ _ _ ls (by omega) hq203 hq204 hq201 (by rw [if_neg m34, if_pos n40, oL, if_neg m66]) (fun z z1 z2 z3 => by rw [eg200, hv_up_ne _ _ z3, eg196, hv_up_ne _ _ z2]; exact hfo z z1 z2 z3) hI (by rw [← nI_1, ← ev202]; exact lv_sub hl [2, 3, 4, 0] rfl)
  exact loop 4 0 0 0 _ _ _ ls (by omega) hq11 hq12 hq10 (by split <;> rfl) (fun z z1 z2 z3 => by rw [eg9, hv_up_ne _ _ z3, eg5, hv_up_ne _ _ z2, eg1, hv_up_ne _ _ z1]) hI (lv_sub hl [1, 2, 3, 0] rfl)

