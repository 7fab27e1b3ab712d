/-! ===== the reference: questions ===== -/
def ofM (V : Wd) (b j : Nat) : Int32 := [wA V 0 b, wA V 1 b, wA V 2 b, wA V 3 b, wA V 4 b, wA V 5 b, wA V 6 b, wA V 7 b, wA V 8 b, nI (wF V (b + 1) - wF V b), wA V 9 b].getD j 0
theorem of_10 {x : Int32} (h : x.toInt < 0 ∨ 9 < x.toInt) (h1 : ¬ x < 0) (h2 : x ≤ 10) : x = nI 10 := by
  obtain ⟨j, hj, e⟩ := nI_of h1
  have h3 : x.toInt = j := by rw [e, nI, Int32.toInt_ofNat_of_lt hj]
  have h4 : j ≤ 10 := (nI_leI (b := 10) hj (by decide)).mp (by rw [← e]; exact h2)
  rw [e, show j = 10 by omega]
theorem isBx_1 {k : Int32} {n : Nat} (h : isBx k n = true) (hn : n ≤ 100) : k + 1 = nI (k.toNatClampNeg + 1) := by
  have h9 := (isBx_nat h hn).2
  rw [← nI_1, ← h9]
theorem isBx_11 {x : Int32} (h1 : ¬ x < 0) (h2 : ¬ x ≤ 10) : isBx x 11 = false := by
  obtain ⟨j, hj, e⟩ := nI_of h1
  have h3 : ¬ x < nI 11 := fun q => h2 (by
    rw [e] at q ⊢
    exact (nI_leI (b := 10) hj (by decide)).mpr (by have := (nI_ltI hj (by decide)).mp q; omega))
  simp [isBx, h3]
theorem isBx_6 {x : Int32} (h1 : ¬ x < 0) : isBx x 6 = decide (x ≤ 5) := by
  obtain ⟨j, hj, e⟩ := nI_of h1
  have h3 : x < nI 6 ↔ x ≤ 5 := by
    rw [e]
    exact (nI_ltI hj (by decide)).trans (Iff.trans (by omega) (nI_leI (b := 5) hj (by decide)).symm)
  simp [isBx, h1, h3]
theorem div297L {s : Int64} (h : ¬ s < 1663497) : ¬ s / 297 = 0 := by
  intro q
  have h1 := congrArg Int64.toInt q
  have b1 : (1663497 : Int) ≤ s.toInt := by
    have := Int64.le_iff_toInt_le.mp (Int64.not_lt.mp h)
    rw [show (1663497 : Int64).toInt = 1663497 by decide] at this
    exact this
  have b2 := Int64.toInt_lt s
  rw [Int64.toInt_div, show (297 : Int64).toInt = 297 by decide, show (0 : Int64).toInt = 0 by decide, Int.tdiv_eq_ediv_of_nonneg (by omega), Int.bmod_eq_of_le (by omega) (by omega)] at h1
  omega

set_option maxHeartbeats 4000000 in
set_option maxRecDepth 100000 in
theorem c_Mo_of (l : Launch) (hl0 : l.stackTraces = false) (b0 : Nat) (D : va_G) (cA : Nat → ClassId) (f : hv_M) (mo : Nat) (a : Nat → Nat) (th st en ct : Int32) (gd : Bool) (ln bf ac un : Int64) (md : Int32) (V : Wd) (k wh : Int32) (c9 : Nat) (hmo : f mo = some (moE a th st en ct gd ln bf ac un md)) (hnj : moN mo a) (hA : moA cA f a V) (hct : ct = nI c9) (hc9 : c9 ≤ 100) (hF : ∀ b, b < c9 → wF V b ≤ wF V (b + 1)) : hv_Met l y_Mo_of [Cond.code y_Mo_of b_Mo_of 3 (some FieldType.int)] (RM 1 0 0) b0 (Fa D cA) D CL [.ref mo, .int k, .int wh] f (fun v g => ((isBx k c9 && isBx wh 11) = false ∧ v = some (.int 0) ∧ moRef f g mo (moE a 1 st en ct gd ln bf ac un md)) ∨ (isBx k c9 = true ∧ ∃ j, j < 11 ∧ wh = nI j ∧ v = some (.int (ofM V k.toNatClampNeg j)) ∧ moRef f g mo (moE a 0 st en ct gd ln bf ac un md))) (NX) := by
  refine hv_Met.of (own := "BoxPackerModel") (by decide) rfl (Nat.le_of_ble_eq_true rfl) ?_
  intro p e s m below meth c hE hml hout hr hlocks hname hK hI ls hl
  have hl : lv_has ls 3 [(0, .ref mo), (1, .int k), (2, .int wh)] := hl
  obtain ⟨hx, hb, hown, hts, hVK⟩ := id hE
  refine lv_aload_n hx hb d_Mo_of_0 rfl (lv_at hl 0 rfl) ?_
  refine lv_aload_n hx hb d_Mo_of_1 rfl (lv_at hl 0 rfl) ?_
  refine lv_iload_n hx hb d_Mo_of_2 rfl (lv_at hl 1 rfl) ?_
  refine hv_Vp (As := [.int k]) (rest := [.ref mo]) hE hml hK hI (c_Mo_isBox l hl0 b0 D cA f mo a th st en ct gd ln bf ac un md k c9 hmo hnj hct) cd_Mo_isBox w644 w646 ws19 hmo rfl rfl rfl rfl hl.1 (Nat.le_of_ble_eq_true rfl) d_Mo_of_3 ⟨by decide, by decide⟩ ⟨by decide, by decide⟩ (fun H locs hI => ?_)
  refine W.eq (g2 := F0 m 6 ls [.int (b2i (isBx k c9)), .ref mo]) rfl ?_
  refine lv_if_eq (tgt := 19) hx hb d_Mo_of_6 (by decide) (fun c6 => ?_) (fun c6 => ?_)
  · skip
    have k6 := b2i_f c6
    refine lv_iconst (v := 1) hx hb d_Mo_of_19 (by decide) ?_
    refine lv_goto (tgt := 24) hx hb d_Mo_of_20 (by decide) ?_
    refine hv_put hE k_Mo hI 0 (by decide) w516 hmo rfl rfl rfl (Nat.le_of_ble_eq_true rfl) d_Mo_of_24 (fun H locs hI => ?_)
    obtain ⟨g1, eg1⟩ : ∃ z : hv_M, z = hv_up f mo (moE a 1 st en ct gd ln bf ac un md) := ⟨_, rfl⟩
    have hI : hv_I D CL b0 g1 s.heap H locs := by rw [eg1]; exact hI
    have hq2 : g1 mo = some (moE a 1 st en ct gd ln bf ac un md) := by rw [eg1]; exact hv_up_self _ _ _
    refine lv_aload_n hx hb d_Mo_of_27 rfl (lv_at hl 0 rfl) ?_
    refine hv_get hE k_Mo hI 0 (by decide) w516 hq2 rfl d_Mo_of_28 ?_
    refine lv_if_le (tgt := 36) hx hb d_Mo_of_31 (by decide) (fun c31 => ?_) (fun c31 => ?_)
    · skip
      exact absurd c31 (by decide)
    · skip
      have n31 := Int32.not_le.mp c31
      refine lv_iconst (v := 0) hx hb d_Mo_of_34 (by decide) ?_
      exact hv_iret hE hr hlocks hI hK (v := 0) (Or.inl ⟨by simp [k6], rfl, hq2, fun z z1 => by rw [eg1, hv_up_ne _ _ z1]⟩) (by decide) (by decide) d_Mo_of_35
  · skip
    have k6 := b2i_t c6
    refine lv_iload_n hx hb d_Mo_of_9 rfl (lv_at hl 2 rfl) ?_
    refine lv_if_lt (tgt := 19) hx hb d_Mo_of_10 (by decide) (fun c10 => ?_) (fun c10 => ?_)
    · skip
      have n10 := Int32.not_le.mpr c10
      refine lv_iconst (v := 1) hx hb d_Mo_of_19 (by decide) ?_
      refine lv_goto (tgt := 24) hx hb d_Mo_of_20 (by decide) ?_
      refine hv_put hE k_Mo hI 0 (by decide) w516 hmo rfl rfl rfl (Nat.le_of_ble_eq_true rfl) d_Mo_of_24 (fun H locs hI => ?_)
      obtain ⟨g3, eg3⟩ : ∃ z : hv_M, z = hv_up f mo (moE a 1 st en ct gd ln bf ac un md) := ⟨_, rfl⟩
      have hI : hv_I D CL b0 g3 s.heap H locs := by rw [eg3]; exact hI
      have hq4 : g3 mo = some (moE a 1 st en ct gd ln bf ac un md) := by rw [eg3]; exact hv_up_self _ _ _
      refine lv_aload_n hx hb d_Mo_of_27 rfl (lv_at hl 0 rfl) ?_
      refine hv_get hE k_Mo hI 0 (by decide) w516 hq4 rfl d_Mo_of_28 ?_
      refine lv_if_le (tgt := 36) hx hb d_Mo_of_31 (by decide) (fun c31 => ?_) (fun c31 => ?_)
      · skip
        exact absurd c31 (by decide)
      · skip
        have n31 := Int32.not_le.mp c31
        refine lv_iconst (v := 0) hx hb d_Mo_of_34 (by decide) ?_
        exact hv_iret hE hr hlocks hI hK (v := 0) (Or.inl ⟨by simp [isBx, c10], rfl, hq4, fun z z1 => by rw [eg3, hv_up_ne _ _ z1]⟩) (by decide) (by decide) d_Mo_of_35
    · skip
      have n10 := Int32.not_lt.mp c10
      refine lv_iload_n hx hb d_Mo_of_13 rfl (lv_at hl 2 rfl) ?_
      refine lv_bipush (v := 10) hx hb d_Mo_of_14 (by decide) ?_
      refine lv_icmp_le (tgt := 23) hx hb d_Mo_of_16 (by decide) (fun c16 => ?_) (fun c16 => ?_)
      · skip
        have n16 := Int32.not_lt.mpr c16
        refine lv_iconst (v := 0) hx hb d_Mo_of_23 (by decide) ?_
        refine hv_put hE k_Mo hI 0 (by decide) w516 hmo rfl rfl rfl (Nat.le_of_ble_eq_true rfl) d_Mo_of_24 (fun H locs hI => ?_)
        obtain ⟨g5, eg5⟩ : ∃ z : hv_M, z = hv_up f mo (moE a 0 st en ct gd ln bf ac un md) := ⟨_, rfl⟩
        have hI : hv_I D CL b0 g5 s.heap H locs := by rw [eg5]; exact hI
        have hq6 : g5 mo = some (moE a 0 st en ct gd ln bf ac un md) := by rw [eg5]; exact hv_up_self _ _ _
        refine lv_aload_n hx hb d_Mo_of_27 rfl (lv_at hl 0 rfl) ?_
        refine hv_get hE k_Mo hI 0 (by decide) w516 hq6 rfl d_Mo_of_28 ?_
        refine lv_if_le (tgt := 36) hx hb d_Mo_of_31 (by decide) (fun c31 => ?_) (fun c31 => ?_)
        · skip
          have n31 := Int32.not_lt.mpr c31
          refine lv_iload_n hx hb d_Mo_of_36 rfl (lv_at hl 2 rfl) ?_
          by_cases hsw : (wh).toInt < 0 ∨ 9 < (wh).toInt
          · refine lv_tableOut (tgt := 171) hx hb d_Mo_of_37 hsw (by decide) ?_
            refine lv_aload_n hx hb d_Mo_of_171 rfl (lv_at hl 0 rfl) ?_
            refine hv_get hE k_Mo hI 17 (by decide) w533 hq6 rfl d_Mo_of_172 ?_
            refine lv_iload_n hx hb d_Mo_of_175 rfl (lv_at hl 1 rfl) ?_
            have hq7 : g5 (a 13) = some (.inl (cA 0, 100, .inl (wA V 9))) := by rw [eg5, hv_up_ne _ _ (hnj.2 13 (by decide))]; exact (hA.2.2.2.2 9 (by decide))
            refine hv_iald hE hI 0 hq7 rfl (pk_in k.toNatClampNeg 100 (Nat.lt_of_lt_of_le (isBx_nat k6 hc9).1 hc9) (isBx_nat k6 hc9).2) d_Mo_of_176 ?_
            refine W.eq (g2 := F0 m 177 ls [.int (wA V 9 k.toNatClampNeg)]) rfl ?_
            exact hv_iret hE hr hlocks hI hK (v := wA V 9 k.toNatClampNeg) (Or.inr ⟨k6, 10, by decide, of_10 hsw c10 c16, rfl, hq6, fun z z1 => by rw [eg5, hv_up_ne _ _ z1]⟩) (by decide) (by decide) d_Mo_of_177
          obtain ⟨j9, hj9, ej9⟩ := sw_nat (n := 9) hsw
          rcases (show j9 = 0 ∨ j9 = 1 ∨ j9 = 2 ∨ j9 = 3 ∨ j9 = 4 ∨ j9 = 5 ∨ j9 = 6 ∨ j9 = 7 ∨ j9 = 8 ∨ j9 = 9 by omega) with e9 | e9 | e9 | e9 | e9 | e9 | e9 | e9 | e9 | e9
          · rw [e9] at ej9
            refine lv_tableIn (tgt := 92) hx hb d_Mo_of_37 (by rw [ej9]; decide) (by rw [ej9]; decide) (by rw [ej9]; rfl) (by decide) ?_
            refine lv_aload_n hx hb d_Mo_of_92 rfl (lv_at hl 0 rfl) ?_
            refine hv_get hE k_Mo hI 8 (by decide) w524 hq6 rfl d_Mo_of_93 ?_
            refine lv_iload_n hx hb d_Mo_of_96 rfl (lv_at hl 1 rfl) ?_
            have hq8 : g5 (a 4) = some (.inl (cA 0, 100, .inl (wA V 0))) := by rw [eg5, hv_up_ne _ _ (hnj.2 4 (by decide))]; exact (hA.2.2.2.2 0 (by decide))
            refine hv_iald hE hI 0 hq8 rfl (pk_in k.toNatClampNeg 100 (Nat.lt_of_lt_of_le (isBx_nat k6 hc9).1 hc9) (isBx_nat k6 hc9).2) d_Mo_of_97 ?_
            refine W.eq (g2 := F0 m 98 ls [.int (wA V 0 k.toNatClampNeg)]) rfl ?_
            exact hv_iret hE hr hlocks hI hK (v := wA V 0 k.toNatClampNeg) (Or.inr ⟨k6, 0, by decide, ej9, rfl, hq6, fun z z1 => by rw [eg5, hv_up_ne _ _ z1]⟩) (by decide) (by decide) d_Mo_of_98
          · rw [e9] at ej9
            refine lv_tableIn (tgt := 99) hx hb d_Mo_of_37 (by rw [ej9]; decide) (by rw [ej9]; decide) (by rw [ej9]; rfl) (by decide) ?_
            refine lv_aload_n hx hb d_Mo_of_99 rfl (lv_at hl 0 rfl) ?_
            refine hv_get hE k_Mo hI 9 (by decide) w525 hq6 rfl d_Mo_of_100 ?_
            refine lv_iload_n hx hb d_Mo_of_103 rfl (lv_at hl 1 rfl) ?_
            have hq9 : g5 (a 5) = some (.inl (cA 0, 100, .inl (wA V 1))) := by rw [eg5, hv_up_ne _ _ (hnj.2 5 (by decide))]; exact (hA.2.2.2.2 1 (by decide))
            refine hv_iald hE hI 0 hq9 rfl (pk_in k.toNatClampNeg 100 (Nat.lt_of_lt_of_le (isBx_nat k6 hc9).1 hc9) (isBx_nat k6 hc9).2) d_Mo_of_104 ?_
            refine W.eq (g2 := F0 m 105 ls [.int (wA V 1 k.toNatClampNeg)]) rfl ?_
            exact hv_iret hE hr hlocks hI hK (v := wA V 1 k.toNatClampNeg) (Or.inr ⟨k6, 1, by decide, ej9, rfl, hq6, fun z z1 => by rw [eg5, hv_up_ne _ _ z1]⟩) (by decide) (by decide) d_Mo_of_105
          · rw [e9] at ej9
            refine lv_tableIn (tgt := 106) hx hb d_Mo_of_37 (by rw [ej9]; decide) (by rw [ej9]; decide) (by rw [ej9]; rfl) (by decide) ?_
            refine lv_aload_n hx hb d_Mo_of_106 rfl (lv_at hl 0 rfl) ?_
            refine hv_get hE k_Mo hI 10 (by decide) w526 hq6 rfl d_Mo_of_107 ?_
            refine lv_iload_n hx hb d_Mo_of_110 rfl (lv_at hl 1 rfl) ?_
            have hq10 : g5 (a 6) = some (.inl (cA 0, 100, .inl (wA V 2))) := by rw [eg5, hv_up_ne _ _ (hnj.2 6 (by decide))]; exact (hA.2.2.2.2 2 (by decide))
            refine hv_iald hE hI 0 hq10 rfl (pk_in k.toNatClampNeg 100 (Nat.lt_of_lt_of_le (isBx_nat k6 hc9).1 hc9) (isBx_nat k6 hc9).2) d_Mo_of_111 ?_
            refine W.eq (g2 := F0 m 112 ls [.int (wA V 2 k.toNatClampNeg)]) rfl ?_
            exact hv_iret hE hr hlocks hI hK (v := wA V 2 k.toNatClampNeg) (Or.inr ⟨k6, 2, by decide, ej9, rfl, hq6, fun z z1 => by rw [eg5, hv_up_ne _ _ z1]⟩) (by decide) (by decide) d_Mo_of_112
          · rw [e9] at ej9
            refine lv_tableIn (tgt := 113) hx hb d_Mo_of_37 (by rw [ej9]; decide) (by rw [ej9]; decide) (by rw [ej9]; rfl) (by decide) ?_
            refine lv_aload_n hx hb d_Mo_of_113 rfl (lv_at hl 0 rfl) ?_
            refine hv_get hE k_Mo hI 11 (by decide) w527 hq6 rfl d_Mo_of_114 ?_
            refine lv_iload_n hx hb d_Mo_of_117 rfl (lv_at hl 1 rfl) ?_
            have hq11 : g5 (a 7) = some (.inl (cA 0, 100, .inl (wA V 3))) := by rw [eg5, hv_up_ne _ _ (hnj.2 7 (by decide))]; exact (hA.2.2.2.2 3 (by decide))
            refine hv_iald hE hI 0 hq11 rfl (pk_in k.toNatClampNeg 100 (Nat.lt_of_lt_of_le (isBx_nat k6 hc9).1 hc9) (isBx_nat k6 hc9).2) d_Mo_of_118 ?_
            refine W.eq (g2 := F0 m 119 ls [.int (wA V 3 k.toNatClampNeg)]) rfl ?_
            exact hv_iret hE hr hlocks hI hK (v := wA V 3 k.toNatClampNeg) (Or.inr ⟨k6, 3, by decide, ej9, rfl, hq6, fun z z1 => by rw [eg5, hv_up_ne _ _ z1]⟩) (by decide) (by decide) d_Mo_of_119
          · rw [e9] at ej9
            refine lv_tableIn (tgt := 120) hx hb d_Mo_of_37 (by rw [ej9]; decide) (by rw [ej9]; decide) (by rw [ej9]; rfl) (by decide) ?_
            refine lv_aload_n hx hb d_Mo_of_120 rfl (lv_at hl 0 rfl) ?_
            refine hv_get hE k_Mo hI 12 (by decide) w528 hq6 rfl d_Mo_of_121 ?_
            refine lv_iload_n hx hb d_Mo_of_124 rfl (lv_at hl 1 rfl) ?_
            have hq12 : g5 (a 8) = some (.inl (cA 0, 100, .inl (wA V 4))) := by rw [eg5, hv_up_ne _ _ (hnj.2 8 (by decide))]; exact (hA.2.2.2.2 4 (by decide))
            refine hv_iald hE hI 0 hq12 rfl (pk_in k.toNatClampNeg 100 (Nat.lt_of_lt_of_le (isBx_nat k6 hc9).1 hc9) (isBx_nat k6 hc9).2) d_Mo_of_125 ?_
            refine W.eq (g2 := F0 m 126 ls [.int (wA V 4 k.toNatClampNeg)]) rfl ?_
            exact hv_iret hE hr hlocks hI hK (v := wA V 4 k.toNatClampNeg) (Or.inr ⟨k6, 4, by decide, ej9, rfl, hq6, fun z z1 => by rw [eg5, hv_up_ne _ _ z1]⟩) (by decide) (by decide) d_Mo_of_126
          · rw [e9] at ej9
            refine lv_tableIn (tgt := 127) hx hb d_Mo_of_37 (by rw [ej9]; decide) (by rw [ej9]; decide) (by rw [ej9]; rfl) (by decide) ?_
            refine lv_aload_n hx hb d_Mo_of_127 rfl (lv_at hl 0 rfl) ?_
            refine hv_get hE k_Mo hI 13 (by decide) w529 hq6 rfl d_Mo_of_128 ?_
            refine lv_iload_n hx hb d_Mo_of_131 rfl (lv_at hl 1 rfl) ?_
            have hq13 : g5 (a 9) = some (.inl (cA 0, 100, .inl (wA V 5))) := by rw [eg5, hv_up_ne _ _ (hnj.2 9 (by decide))]; exact (hA.2.2.2.2 5 (by decide))
            refine hv_iald hE hI 0 hq13 rfl (pk_in k.toNatClampNeg 100 (Nat.lt_of_lt_of_le (isBx_nat k6 hc9).1 hc9) (isBx_nat k6 hc9).2) d_Mo_of_132 ?_
            refine W.eq (g2 := F0 m 133 ls [.int (wA V 5 k.toNatClampNeg)]) rfl ?_
            exact hv_iret hE hr hlocks hI hK (v := wA V 5 k.toNatClampNeg) (Or.inr ⟨k6, 5, by decide, ej9, rfl, hq6, fun z z1 => by rw [eg5, hv_up_ne _ _ z1]⟩) (by decide) (by decide) d_Mo_of_133
          · rw [e9] at ej9
            refine lv_tableIn (tgt := 134) hx hb d_Mo_of_37 (by rw [ej9]; decide) (by rw [ej9]; decide) (by rw [ej9]; rfl) (by decide) ?_
            refine lv_aload_n hx hb d_Mo_of_134 rfl (lv_at hl 0 rfl) ?_
            refine hv_get hE k_Mo hI 14 (by decide) w530 hq6 rfl d_Mo_of_135 ?_
            refine lv_iload_n hx hb d_Mo_of_138 rfl (lv_at hl 1 rfl) ?_
            have hq14 : g5 (a 10) = some (.inl (cA 0, 100, .inl (wA V 6))) := by rw [eg5, hv_up_ne _ _ (hnj.2 10 (by decide))]; exact (hA.2.2.2.2 6 (by decide))
            refine hv_iald hE hI 0 hq14 rfl (pk_in k.toNatClampNeg 100 (Nat.lt_of_lt_of_le (isBx_nat k6 hc9).1 hc9) (isBx_nat k6 hc9).2) d_Mo_of_139 ?_
            refine W.eq (g2 := F0 m 140 ls [.int (wA V 6 k.toNatClampNeg)]) rfl ?_
            exact hv_iret hE hr hlocks hI hK (v := wA V 6 k.toNatClampNeg) (Or.inr ⟨k6, 6, by decide, ej9, rfl, hq6, fun z z1 => by rw [eg5, hv_up_ne _ _ z1]⟩) (by decide) (by decide) d_Mo_of_140
          · rw [e9] at ej9
            refine lv_tableIn (tgt := 141) hx hb d_Mo_of_37 (by rw [ej9]; decide) (by rw [ej9]; decide) (by rw [ej9]; rfl) (by decide) ?_
            refine lv_aload_n hx hb d_Mo_of_141 rfl (lv_at hl 0 rfl) ?_
            refine hv_get hE k_Mo hI 15 (by decide) w531 hq6 rfl d_Mo_of_142 ?_
            refine lv_iload_n hx hb d_Mo_of_145 rfl (lv_at hl 1 rfl) ?_
            have hq15 : g5 (a 11) = some (.inl (cA 0, 100, .inl (wA V 7))) := by rw [eg5, hv_up_ne _ _ (hnj.2 11 (by decide))]; exact (hA.2.2.2.2 7 (by decide))
            refine hv_iald hE hI 0 hq15 rfl (pk_in k.toNatClampNeg 100 (Nat.lt_of_lt_of_le (isBx_nat k6 hc9).1 hc9) (isBx_nat k6 hc9).2) d_Mo_of_146 ?_
            refine W.eq (g2 := F0 m 147 ls [.int (wA V 7 k.toNatClampNeg)]) rfl ?_
            exact hv_iret hE hr hlocks hI hK (v := wA V 7 k.toNatClampNeg) (Or.inr ⟨k6, 7, by decide, ej9, rfl, hq6, fun z z1 => by rw [eg5, hv_up_ne _ _ z1]⟩) (by decide) (by decide) d_Mo_of_147
          · rw [e9] at ej9
            refine lv_tableIn (tgt := 148) hx hb d_Mo_of_37 (by rw [ej9]; decide) (by rw [ej9]; decide) (by rw [ej9]; rfl) (by decide) ?_
            refine lv_aload_n hx hb d_Mo_of_148 rfl (lv_at hl 0 rfl) ?_
            refine hv_get hE k_Mo hI 16 (by decide) w532 hq6 rfl d_Mo_of_149 ?_
            refine lv_iload_n hx hb d_Mo_of_152 rfl (lv_at hl 1 rfl) ?_
            have hq16 : g5 (a 12) = some (.inl (cA 0, 100, .inl (wA V 8))) := by rw [eg5, hv_up_ne _ _ (hnj.2 12 (by decide))]; exact (hA.2.2.2.2 8 (by decide))
            refine hv_iald hE hI 0 hq16 rfl (pk_in k.toNatClampNeg 100 (Nat.lt_of_lt_of_le (isBx_nat k6 hc9).1 hc9) (isBx_nat k6 hc9).2) d_Mo_of_153 ?_
            refine W.eq (g2 := F0 m 154 ls [.int (wA V 8 k.toNatClampNeg)]) rfl ?_
            exact hv_iret hE hr hlocks hI hK (v := wA V 8 k.toNatClampNeg) (Or.inr ⟨k6, 8, by decide, ej9, rfl, hq6, fun z z1 => by rw [eg5, hv_up_ne _ _ z1]⟩) (by decide) (by decide) d_Mo_of_154
          · rw [e9] at ej9
            refine lv_tableIn (tgt := 155) hx hb d_Mo_of_37 (by rw [ej9]; decide) (by rw [ej9]; decide) (by rw [ej9]; rfl) (by decide) ?_
            refine lv_aload_n hx hb d_Mo_of_155 rfl (lv_at hl 0 rfl) ?_
            refine hv_get hE k_Mo hI 6 (by decide) w522 hq6 rfl d_Mo_of_156 ?_
            refine lv_iload_n hx hb d_Mo_of_159 rfl (lv_at hl 1 rfl) ?_
            refine lv_iconst (v := 1) hx hb d_Mo_of_160 (by decide) ?_
            refine lv_iadd hx hb d_Mo_of_161 ?_
            have hq17 : g5 (a 2) = some (.inl (cA 0, 101, .inl (fun b => nI (wF V b)))) := by rw [eg5, hv_up_ne _ _ (hnj.2 2 (by decide))]; exact hA.2.2.1
            refine hv_iald hE hI 0 hq17 rfl (pk_in (k.toNatClampNeg + 1) 101 (Nat.succ_lt_succ (Nat.lt_of_lt_of_le (isBx_nat k6 hc9).1 hc9)) (isBx_1 k6 hc9)) d_Mo_of_162 ?_
            rw [isBx_1 k6 hc9, nI_cl (by have := (isBx_nat k6 hc9).1; omega)]
            refine W.eq (g2 := F0 m 163 ls [.int (nI (wF V (k.toNatClampNeg + 1)))]) rfl ?_
            refine lv_aload_n hx hb d_Mo_of_163 rfl (lv_at hl 0 rfl) ?_
            refine hv_get hE k_Mo hI 6 (by decide) w522 hq6 rfl d_Mo_of_164 ?_
            refine lv_iload_n hx hb d_Mo_of_167 rfl (lv_at hl 1 rfl) ?_
            refine hv_iald hE hI 0 hq17 rfl (pk_in k.toNatClampNeg 101 (Nat.lt_of_lt_of_le (isBx_nat k6 hc9).1 (Nat.le_succ_of_le hc9)) (isBx_nat k6 hc9).2) d_Mo_of_168 ?_
            rw [show k.toNatClampNeg = k.toNatClampNeg from rfl]
            refine W.eq (g2 := F0 m 169 ls [.int (nI (wF V k.toNatClampNeg)), .int (nI (wF V (k.toNatClampNeg + 1)))]) rfl ?_
            refine lv_isub hx hb d_Mo_of_169 ?_
            exact hv_iret hE hr hlocks hI hK (v := (nI (wF V (k.toNatClampNeg + 1))) - (nI (wF V k.toNatClampNeg))) (Or.inr ⟨k6, 9, by decide, ej9, by rw [nI_sub (hF _ (isBx_nat k6 hc9).1)]; rfl, hq6, fun z z1 => by rw [eg5, hv_up_ne _ _ z1]⟩) (by decide) (by decide) d_Mo_of_170
        · skip
          exact absurd (by decide) c31
      · skip
        have n16 := Int32.not_le.mp c16
        refine lv_iconst (v := 1) hx hb d_Mo_of_19 (by decide) ?_
        refine lv_goto (tgt := 24) hx hb d_Mo_of_20 (by decide) ?_
        refine hv_put hE k_Mo hI 0 (by decide) w516 hmo rfl rfl rfl (Nat.le_of_ble_eq_true rfl) d_Mo_of_24 (fun H locs hI => ?_)
        obtain ⟨g18, eg18⟩ : ∃ z : hv_M, z = hv_up f mo (moE a 1 st en ct gd ln bf ac un md) := ⟨_, rfl⟩
        have hI : hv_I D CL b0 g18 s.heap H locs := by rw [eg18]; exact hI
        have hq19 : g18 mo = some (moE a 1 st en ct gd ln bf ac un md) := by rw [eg18]; exact hv_up_self _ _ _
        refine lv_aload_n hx hb d_Mo_of_27 rfl (lv_at hl 0 rfl) ?_
        refine hv_get hE k_Mo hI 0 (by decide) w516 hq19 rfl d_Mo_of_28 ?_
        refine lv_if_le (tgt := 36) hx hb d_Mo_of_31 (by decide) (fun c31 => ?_) (fun c31 => ?_)
        · skip
          exact absurd c31 (by decide)
        · skip
          have n31 := Int32.not_le.mp c31
          refine lv_iconst (v := 0) hx hb d_Mo_of_34 (by decide) ?_
          exact hv_iret hE hr hlocks hI hK (v := 0) (Or.inl ⟨by rw [isBx_11 c10 c16]; simp, rfl, hq19, fun z z1 => by rw [eg18, hv_up_ne _ _ z1]⟩) (by decide) (by decide) d_Mo_of_35

set_option maxHeartbeats 4000000 in
set_option maxRecDepth 100000 in
theorem c_Mo_mark (l : Launch) (hl0 : l.stackTraces = false) (b0 : Nat) (D : va_G) (cA : Nat → ClassId) (f : hv_M) (mo : Nat) (a : Nat → Nat) (th st en ct : Int32) (gd : Bool) (ln bf ac un : Int64) (md9 : Nat) (i wh : Int32) (row : Nat → Int64) (hmo : f mo = some (moE a th st en ct gd ln bf ac un (nI md9))) (hnj : moN mo a) (h16 : f (a 16) = some (.inl (cA 1, 6000, .inr (.inl (row))))) (hmd : md9 ≤ 1000) : hv_Met l y_Mo_mark [Cond.code y_Mo_mark b_Mo_mark 3 (some FieldType.long)] (RM 0 0 0) b0 (Fa D cA) D CL [.ref mo, .int i, .int wh] f (fun v g => ((isBx i md9 && isBx wh 6) = false ∧ v = some (.long 0) ∧ moRef f g mo (moE a 1 st en ct gd ln bf ac un (nI md9))) ∨ (isBx i md9 = true ∧ isBx wh 6 = true ∧ v = some (.long (row (6 * i.toNatClampNeg + wh.toNatClampNeg))) ∧ moRef f g mo (moE a 0 st en ct gd ln bf ac un (nI md9)))) (NX) := by
  refine hv_Met.of (own := "BoxPackerModel") (by decide) rfl (Nat.le_of_ble_eq_true rfl) ?_
  intro p e s m below meth c hE hml hout hr hlocks hname hK hI ls hl
  have hl : lv_has ls 3 [(0, .ref mo), (1, .int i), (2, .int wh)] := hl
  obtain ⟨hx, hb, hown, hts, hVK⟩ := id hE
  refine lv_aload_n hx hb d_Mo_mark_0 rfl (lv_at hl 0 rfl) ?_
  refine lv_iload_n hx hb d_Mo_mark_1 rfl (lv_at hl 1 rfl) ?_
  refine lv_if_lt (tgt := 22) hx hb d_Mo_mark_2 (by decide) (fun c2 => ?_) (fun c2 => ?_)
  · skip
    have n2 := Int32.not_le.mpr c2
    refine lv_iconst (v := 1) hx hb d_Mo_mark_22 (by decide) ?_
    refine lv_goto (tgt := 27) hx hb d_Mo_mark_23 (by decide) ?_
    refine hv_put hE k_Mo hI 0 (by decide) w516 hmo rfl rfl rfl (Nat.le_of_ble_eq_true rfl) d_Mo_mark_27 (fun H locs hI => ?_)
    obtain ⟨g1, eg1⟩ : ∃ z : hv_M, z = hv_up f mo (moE a 1 st en ct gd ln bf ac un (nI md9)) := ⟨_, rfl⟩
    have hI : hv_I D CL b0 g1 s.heap H locs := by rw [eg1]; exact hI
    have hq2 : g1 mo = some (moE a 1 st en ct gd ln bf ac un (nI md9)) := by rw [eg1]; exact hv_up_self _ _ _
    refine lv_aload_n hx hb d_Mo_mark_30 rfl (lv_at hl 0 rfl) ?_
    refine hv_get hE k_Mo hI 0 (by decide) w516 hq2 rfl d_Mo_mark_31 ?_
    refine lv_if_le (tgt := 41) hx hb d_Mo_mark_34 (by decide) (fun c34 => ?_) (fun c34 => ?_)
    · skip
      exact absurd c34 (by decide)
    · skip
      have n34 := Int32.not_le.mp c34
      refine lv_lconst (v := 0) hx hb d_Mo_mark_37 (by decide) ?_
      refine lv_goto (tgt := 52) hx hb d_Mo_mark_38 (by decide) ?_
      exact hv_lret hE hr hlocks hI hK (v := 0) (Or.inl ⟨by simp [isBx, c2], rfl, hq2, fun z z1 => by rw [eg1, hv_up_ne _ _ z1]⟩) (by decide) (by decide) d_Mo_mark_52
  · skip
    have n2 := Int32.not_lt.mp c2
    refine lv_iload_n hx hb d_Mo_mark_5 rfl (lv_at hl 1 rfl) ?_
    refine lv_aload_n hx hb d_Mo_mark_6 rfl (lv_at hl 0 rfl) ?_
    refine hv_get hE k_Mo hI 26 (by decide) w542 hmo rfl d_Mo_mark_7 ?_
    refine lv_icmp_ge (tgt := 22) hx hb d_Mo_mark_10 (by decide) (fun c10 => ?_) (fun c10 => ?_)
    · skip
      have n10 := Int32.not_lt.mpr c10
      refine lv_iconst (v := 1) hx hb d_Mo_mark_22 (by decide) ?_
      refine lv_goto (tgt := 27) hx hb d_Mo_mark_23 (by decide) ?_
      refine hv_put hE k_Mo hI 0 (by decide) w516 hmo rfl rfl rfl (Nat.le_of_ble_eq_true rfl) d_Mo_mark_27 (fun H locs hI => ?_)
      obtain ⟨g3, eg3⟩ : ∃ z : hv_M, z = hv_up f mo (moE a 1 st en ct gd ln bf ac un (nI md9)) := ⟨_, rfl⟩
      have hI : hv_I D CL b0 g3 s.heap H locs := by rw [eg3]; exact hI
      have hq4 : g3 mo = some (moE a 1 st en ct gd ln bf ac un (nI md9)) := by rw [eg3]; exact hv_up_self _ _ _
      refine lv_aload_n hx hb d_Mo_mark_30 rfl (lv_at hl 0 rfl) ?_
      refine hv_get hE k_Mo hI 0 (by decide) w516 hq4 rfl d_Mo_mark_31 ?_
      refine lv_if_le (tgt := 41) hx hb d_Mo_mark_34 (by decide) (fun c34 => ?_) (fun c34 => ?_)
      · skip
        exact absurd c34 (by decide)
      · skip
        have n34 := Int32.not_le.mp c34
        refine lv_lconst (v := 0) hx hb d_Mo_mark_37 (by decide) ?_
        refine lv_goto (tgt := 52) hx hb d_Mo_mark_38 (by decide) ?_
        exact hv_lret hE hr hlocks hI hK (v := 0) (Or.inl ⟨by simp [isBx, n10, c10], rfl, hq4, fun z z1 => by rw [eg3, hv_up_ne _ _ z1]⟩) (by decide) (by decide) d_Mo_mark_52
    · skip
      have n10 := Int32.not_le.mp c10
      refine lv_iload_n hx hb d_Mo_mark_13 rfl (lv_at hl 2 rfl) ?_
      refine lv_if_lt (tgt := 22) hx hb d_Mo_mark_14 (by decide) (fun c14 => ?_) (fun c14 => ?_)
      · skip
        have n14 := Int32.not_le.mpr c14
        refine lv_iconst (v := 1) hx hb d_Mo_mark_22 (by decide) ?_
        refine lv_goto (tgt := 27) hx hb d_Mo_mark_23 (by decide) ?_
        refine hv_put hE k_Mo hI 0 (by decide) w516 hmo rfl rfl rfl (Nat.le_of_ble_eq_true rfl) d_Mo_mark_27 (fun H locs hI => ?_)
        obtain ⟨g5, eg5⟩ : ∃ z : hv_M, z = hv_up f mo (moE a 1 st en ct gd ln bf ac un (nI md9)) := ⟨_, rfl⟩
        have hI : hv_I D CL b0 g5 s.heap H locs := by rw [eg5]; exact hI
        have hq6 : g5 mo = some (moE a 1 st en ct gd ln bf ac un (nI md9)) := by rw [eg5]; exact hv_up_self _ _ _
        refine lv_aload_n hx hb d_Mo_mark_30 rfl (lv_at hl 0 rfl) ?_
        refine hv_get hE k_Mo hI 0 (by decide) w516 hq6 rfl d_Mo_mark_31 ?_
        refine lv_if_le (tgt := 41) hx hb d_Mo_mark_34 (by decide) (fun c34 => ?_) (fun c34 => ?_)
        · skip
          exact absurd c34 (by decide)
        · skip
          have n34 := Int32.not_le.mp c34
          refine lv_lconst (v := 0) hx hb d_Mo_mark_37 (by decide) ?_
          refine lv_goto (tgt := 52) hx hb d_Mo_mark_38 (by decide) ?_
          exact hv_lret hE hr hlocks hI hK (v := 0) (Or.inl ⟨by simp [isBx, c14], rfl, hq6, fun z z1 => by rw [eg5, hv_up_ne _ _ z1]⟩) (by decide) (by decide) d_Mo_mark_52
      · skip
        have n14 := Int32.not_lt.mp c14
        refine lv_iload_n hx hb d_Mo_mark_17 rfl (lv_at hl 2 rfl) ?_
        refine lv_iconst (v := 5) hx hb d_Mo_mark_18 (by decide) ?_
        refine lv_icmp_le (tgt := 26) hx hb d_Mo_mark_19 (by decide) (fun c19 => ?_) (fun c19 => ?_)
        · skip
          have n19 := Int32.not_lt.mpr c19
          have hi9 : isBx i md9 = true := by simp [isBx, c2, n10]
          have hw9 : isBx wh 6 = true := by rw [isBx_6 c14]; simp [c19]
          refine lv_iconst (v := 0) hx hb d_Mo_mark_26 (by decide) ?_
          refine hv_put hE k_Mo hI 0 (by decide) w516 hmo rfl rfl rfl (Nat.le_of_ble_eq_true rfl) d_Mo_mark_27 (fun H locs hI => ?_)
          obtain ⟨g7, eg7⟩ : ∃ z : hv_M, z = hv_up f mo (moE a 0 st en ct gd ln bf ac un (nI md9)) := ⟨_, rfl⟩
          have hI : hv_I D CL b0 g7 s.heap H locs := by rw [eg7]; exact hI
          have hq8 : g7 mo = some (moE a 0 st en ct gd ln bf ac un (nI md9)) := by rw [eg7]; exact hv_up_self _ _ _
          refine lv_aload_n hx hb d_Mo_mark_30 rfl (lv_at hl 0 rfl) ?_
          refine hv_get hE k_Mo hI 0 (by decide) w516 hq8 rfl d_Mo_mark_31 ?_
          refine lv_if_le (tgt := 41) hx hb d_Mo_mark_34 (by decide) (fun c34 => ?_) (fun c34 => ?_)
          · skip
            have n34 := Int32.not_lt.mpr c34
            refine lv_aload_n hx hb d_Mo_mark_41 rfl (lv_at hl 0 rfl) ?_
            refine hv_get hE k_Mo hI 25 (by decide) w541 hq8 rfl d_Mo_mark_42 ?_
            refine lv_bipush (v := 6) hx hb d_Mo_mark_45 (by decide) ?_
            refine lv_iload_n hx hb d_Mo_mark_47 rfl (lv_at hl 1 rfl) ?_
            refine lv_imul hx hb d_Mo_mark_48 ?_
            refine lv_iload_n hx hb d_Mo_mark_49 rfl (lv_at hl 2 rfl) ?_
            refine lv_iadd hx hb d_Mo_mark_50 ?_
            have hq9 : g7 (a 16) = some (.inl (cA 1, 6000, .inr (.inl (row)))) := by rw [eg7, hv_up_ne _ _ (hnj.2 16 (by decide))]; exact h16
            refine hv_lald hE hI 1 hq9 rfl (by rw [Int32.mul_comm, mk_ix hi9 hw9 hmd]; exact pk_in _ 6000 (mk_lt hi9 hw9 hmd) rfl (by omega)) d_Mo_mark_51 ?_
            rw [Int32.mul_comm, mk_ix hi9 hw9 hmd, nI_cl (Nat.lt_trans (mk_lt hi9 hw9 hmd) (by decide))]
            exact hv_lret hE hr hlocks hI hK (v := row (6 * i.toNatClampNeg + wh.toNatClampNeg)) (Or.inr ⟨hi9, hw9, rfl, hq8, fun z z1 => by rw [eg7, hv_up_ne _ _ z1]⟩) (by decide) (by decide) d_Mo_mark_52
          · skip
            exact absurd (by decide) c34
        · skip
          have n19 := Int32.not_le.mp c19
          refine lv_iconst (v := 1) hx hb d_Mo_mark_22 (by decide) ?_
          refine lv_goto (tgt := 27) hx hb d_Mo_mark_23 (by decide) ?_
          refine hv_put hE k_Mo hI 0 (by decide) w516 hmo rfl rfl rfl (Nat.le_of_ble_eq_true rfl) d_Mo_mark_27 (fun H locs hI => ?_)
          obtain ⟨g10, eg10⟩ : ∃ z : hv_M, z = hv_up f mo (moE a 1 st en ct gd ln bf ac un (nI md9)) := ⟨_, rfl⟩
          have hI : hv_I D CL b0 g10 s.heap H locs := by rw [eg10]; exact hI
          have hq11 : g10 mo = some (moE a 1 st en ct gd ln bf ac un (nI md9)) := by rw [eg10]; exact hv_up_self _ _ _
          refine lv_aload_n hx hb d_Mo_mark_30 rfl (lv_at hl 0 rfl) ?_
          refine hv_get hE k_Mo hI 0 (by decide) w516 hq11 rfl d_Mo_mark_31 ?_
          refine lv_if_le (tgt := 41) hx hb d_Mo_mark_34 (by decide) (fun c34 => ?_) (fun c34 => ?_)
          · skip
            exact absurd c34 (by decide)
          · skip
            have n34 := Int32.not_le.mp c34
            refine lv_lconst (v := 0) hx hb d_Mo_mark_37 (by decide) ?_
            refine lv_goto (tgt := 52) hx hb d_Mo_mark_38 (by decide) ?_
            exact hv_lret hE hr hlocks hI hK (v := 0) (Or.inl ⟨by rw [isBx_6 c14]; simp [c19], rfl, hq11, fun z z1 => by rw [eg10, hv_up_ne _ _ z1]⟩) (by decide) (by decide) d_Mo_mark_52

set_option maxHeartbeats 4000000 in
set_option maxRecDepth 100000 in
theorem c_Mo_note (l : Launch) (hl0 : l.stackTraces = false) (b0 : Nat) (D : va_G) (cA : Nat → ClassId) (f : hv_M) (mo : Nat) (a : Nat → Nat) (th st en ct : Int32) (gd : Bool) (ln bf ac un : Int64) (t : Int32) (X Y w h d : Int64) (r : Mk) (hmo : f mo = some (moE a th st en ct gd ln bf ac un (nI r.2))) (hnj : moN mo a) (h16 : f (a 16) = some (.inl (cA 1, 6000, .inr (.inl (r.1))))) (hr9 : r.2 ≤ 1000) : hv_Met l y_Mo_note [Cond.code y_Mo_note b_Mo_note 12 (some FieldType.boolean)] (RM 0 0 0) b0 (Fa D cA) D CL [.ref mo, .int t, .long X, .long Y, .long w, .long h, .long d] f (fun v g => v = some (.int (b2i (noteF t.toInt64 X Y w h d r).1)) ∧ g mo = some (moE a th st en ct gd ln bf ac un (nI (noteF t.toInt64 X Y w h d r).2.2)) ∧ g (a 16) = some (.inl (cA 1, 6000, .inr (.inl ((noteF t.toInt64 X Y w h d r).2.1)))) ∧ ∀ z, z ≠ mo → z ≠ a 16 → g z = f z) (NX) := by
  refine hv_Met.of (own := "BoxPackerModel") (by decide) rfl (Nat.le_of_ble_eq_true rfl) ?_
  intro p e s m below meth c hE hml hout hr hlocks hname hK hI ls hl
  have hl : lv_has ls 12 [(0, .ref mo), (1, .int t), (2, .long X), (4, .long Y), (6, .long w), (8, .long h), (10, .long d)] := hl
  obtain ⟨hx, hb, hown, hts, hVK⟩ := id hE
  refine lv_aload_n hx hb d_Mo_note_0 rfl (lv_at hl 0 rfl) ?_
  refine hv_get hE k_Mo hI 26 (by decide) w542 hmo rfl d_Mo_note_1 ?_
  refine lv_sipush (v := 1000) hx hb d_Mo_note_4 (by decide) ?_
  refine lv_icmp_ne (tgt := 12) hx hb d_Mo_note_7 (by decide) (fun c7 => ?_) (fun c7 => ?_)
  · skip
    have hlt : r.2 < 1000 := by have h9 : ¬ r.2 = 1000 := fun q => c7 (by rw [q]; rfl); omega
    have hnt : ∀ t x y w h d, noteF t x y w h d r = (true, (vp_updL (vp_updL (vp_updL (vp_updL (vp_updL (vp_updL r.1 (6 * r.2) t) (6 * r.2 + 1) x) (6 * r.2 + 2) y) (6 * r.2 + 3) w) (6 * r.2 + 4) h) (6 * r.2 + 5) d, r.2 + 1)) := fun t x y w h d => if_neg (by omega)
    refine lv_aload_n hx hb d_Mo_note_12 rfl (lv_at hl 0 rfl) ?_
    refine hv_get hE k_Mo hI 25 (by decide) w541 hmo rfl d_Mo_note_13 ?_
    refine lv_bipush (v := 6) hx hb d_Mo_note_16 (by decide) ?_
    refine lv_aload_n hx hb d_Mo_note_18 rfl (lv_at hl 0 rfl) ?_
    refine hv_get hE k_Mo hI 26 (by decide) w542 hmo rfl d_Mo_note_19 ?_
    refine lv_imul hx hb d_Mo_note_22 ?_
    refine lv_iload_n hx hb d_Mo_note_23 rfl (lv_at hl 1 rfl) ?_
    refine lv_i2l (v := t.toInt64) hx hb d_Mo_note_24 rfl ?_
    refine hv_last hE hI 1 h16 rfl (by rw [Int32.mul_comm, mk6 r.2 0]; exact pk_in _ 6000 (by omega) rfl (by omega)) d_Mo_note_25 (fun H locs hI => ?_)
    rw [Int32.mul_comm, mk6 r.2 0, nI_cl (by omega)] at hI
    obtain ⟨g1, eg1⟩ : ∃ z : hv_M, z = hv_up f (a 16) (.inl (cA 1, 6000, .inr (.inl (vp_updL r.1 (6 * r.2) t.toInt64)))) := ⟨_, rfl⟩
    have hI : hv_I D CL b0 g1 s.heap H locs := by rw [eg1]; exact hI
    have hq2 : g1 (a 16) = some (.inl (cA 1, 6000, .inr (.inl (vp_updL r.1 (6 * r.2) t.toInt64)))) := by rw [eg1]; exact hv_up_self _ _ _
    refine lv_aload_n hx hb d_Mo_note_26 rfl (lv_at hl 0 rfl) ?_
    have hq3 : g1 mo = some (moE a th st en ct gd ln bf ac un (nI r.2)) := by rw [eg1, hv_up_ne _ _ (Ne.symm (hnj.2 16 (by decide)))]; exact hmo
    refine hv_get hE k_Mo hI 25 (by decide) w541 hq3 rfl d_Mo_note_27 ?_
    refine lv_bipush (v := 6) hx hb d_Mo_note_30 (by decide) ?_
    refine lv_aload_n hx hb d_Mo_note_32 rfl (lv_at hl 0 rfl) ?_
    refine hv_get hE k_Mo hI 26 (by decide) w542 hq3 rfl d_Mo_note_33 ?_
    refine lv_imul hx hb d_Mo_note_36 ?_
    refine lv_iconst (v := 1) hx hb d_Mo_note_37 (by decide) ?_
    refine lv_iadd hx hb d_Mo_note_38 ?_
    refine lv_lload_n hx hb d_Mo_note_39 rfl (lv_at hl 2 rfl) ?_
    refine hv_last hE hI 1 hq2 rfl (by rw [Int32.mul_comm, mk6 r.2 0, show (1 : Int32) = nI 1 from rfl, nI_add]; exact pk_in _ 6000 (by omega) rfl (by omega)) d_Mo_note_40 (fun H locs hI => ?_)
    rw [Int32.mul_comm, mk6 r.2 0, show (1 : Int32) = nI 1 from rfl, nI_add, nI_cl (by omega)] at hI
    obtain ⟨g4, eg4⟩ : ∃ z : hv_M, z = hv_up g1 (a 16) (.inl (cA 1, 6000, .inr (.inl (vp_updL (vp_updL r.1 (6 * r.2) t.toInt64) (6 * r.2 + 1) X)))) := ⟨_, rfl⟩
    have hI : hv_I D CL b0 g4 s.heap H locs := by rw [eg4]; exact hI
    have hq5 : g4 (a 16) = some (.inl (cA 1, 6000, .inr (.inl (vp_updL (vp_updL r.1 (6 * r.2) t.toInt64) (6 * r.2 + 1) X)))) := by rw [eg4]; exact hv_up_self _ _ _
    refine lv_aload_n hx hb d_Mo_note_41 rfl (lv_at hl 0 rfl) ?_
    have hq6 : g4 mo = some (moE a th st en ct gd ln bf ac un (nI r.2)) := by rw [eg4, hv_up_ne _ _ (Ne.symm (hnj.2 16 (by decide)))]; exact hq3
    refine hv_get hE k_Mo hI 25 (by decide) w541 hq6 rfl d_Mo_note_42 ?_
    refine lv_bipush (v := 6) hx hb d_Mo_note_45 (by decide) ?_
    refine lv_aload_n hx hb d_Mo_note_47 rfl (lv_at hl 0 rfl) ?_
    refine hv_get hE k_Mo hI 26 (by decide) w542 hq6 rfl d_Mo_note_48 ?_
    refine lv_imul hx hb d_Mo_note_51 ?_
    refine lv_iconst (v := 2) hx hb d_Mo_note_52 (by decide) ?_
    refine lv_iadd hx hb d_Mo_note_53 ?_
    refine lv_lload hx hb d_Mo_note_54 (lv_at hl 3 rfl) ?_
    refine hv_last hE hI 1 hq5 rfl (by rw [Int32.mul_comm, mk6 r.2 0, show (2 : Int32) = nI 2 from rfl, nI_add]; exact pk_in _ 6000 (by omega) rfl (by omega)) d_Mo_note_56 (fun H locs hI => ?_)
    rw [Int32.mul_comm, mk6 r.2 0, show (2 : Int32) = nI 2 from rfl, nI_add, nI_cl (by omega)] at hI
    obtain ⟨g7, eg7⟩ : ∃ z : hv_M, z = hv_up g4 (a 16) (.inl (cA 1, 6000, .inr (.inl (vp_updL (vp_updL (vp_updL r.1 (6 * r.2) t.toInt64) (6 * r.2 + 1) X) (6 * r.2 + 2) Y)))) := ⟨_, rfl⟩
    have hI : hv_I D CL b0 g7 s.heap H locs := by rw [eg7]; exact hI
    have hq8 : g7 (a 16) = some (.inl (cA 1, 6000, .inr (.inl (vp_updL (vp_updL (vp_updL r.1 (6 * r.2) t.toInt64) (6 * r.2 + 1) X) (6 * r.2 + 2) Y)))) := by rw [eg7]; exact hv_up_self _ _ _
    refine lv_aload_n hx hb d_Mo_note_57 rfl (lv_at hl 0 rfl) ?_
    have hq9 : g7 mo = some (moE a th st en ct gd ln bf ac un (nI r.2)) := by rw [eg7, hv_up_ne _ _ (Ne.symm (hnj.2 16 (by decide)))]; exact hq6
    refine hv_get hE k_Mo hI 25 (by decide) w541 hq9 rfl d_Mo_note_58 ?_
    refine lv_bipush (v := 6) hx hb d_Mo_note_61 (by decide) ?_
    refine lv_aload_n hx hb d_Mo_note_63 rfl (lv_at hl 0 rfl) ?_
    refine hv_get hE k_Mo hI 26 (by decide) w542 hq9 rfl d_Mo_note_64 ?_
    refine lv_imul hx hb d_Mo_note_67 ?_
    refine lv_iconst (v := 3) hx hb d_Mo_note_68 (by decide) ?_
    refine lv_iadd hx hb d_Mo_note_69 ?_
    refine lv_lload hx hb d_Mo_note_70 (lv_at hl 4 rfl) ?_
    refine hv_last hE hI 1 hq8 rfl (by rw [Int32.mul_comm, mk6 r.2 0, show (3 : Int32) = nI 3 from rfl, nI_add]; exact pk_in _ 6000 (by omega) rfl (by omega)) d_Mo_note_72 (fun H locs hI => ?_)
    rw [Int32.mul_comm, mk6 r.2 0, show (3 : Int32) = nI 3 from rfl, nI_add, nI_cl (by omega)] at hI
    obtain ⟨g10, eg10⟩ : ∃ z : hv_M, z = hv_up g7 (a 16) (.inl (cA 1, 6000, .inr (.inl (vp_updL (vp_updL (vp_updL (vp_updL r.1 (6 * r.2) t.toInt64) (6 * r.2 + 1) X) (6 * r.2 + 2) Y) (6 * r.2 + 3) w)))) := ⟨_, rfl⟩
    have hI : hv_I D CL b0 g10 s.heap H locs := by rw [eg10]; exact hI
    have hq11 : g10 (a 16) = some (.inl (cA 1, 6000, .inr (.inl (vp_updL (vp_updL (vp_updL (vp_updL r.1 (6 * r.2) t.toInt64) (6 * r.2 + 1) X) (6 * r.2 + 2) Y) (6 * r.2 + 3) w)))) := by rw [eg10]; exact hv_up_self _ _ _
    refine lv_aload_n hx hb d_Mo_note_73 rfl (lv_at hl 0 rfl) ?_
    have hq12 : g10 mo = some (moE a th st en ct gd ln bf ac un (nI r.2)) := by rw [eg10, hv_up_ne _ _ (Ne.symm (hnj.2 16 (by decide)))]; exact hq9
    refine hv_get hE k_Mo hI 25 (by decide) w541 hq12 rfl d_Mo_note_74 ?_
    refine lv_bipush (v := 6) hx hb d_Mo_note_77 (by decide) ?_
    refine lv_aload_n hx hb d_Mo_note_79 rfl (lv_at hl 0 rfl) ?_
    refine hv_get hE k_Mo hI 26 (by decide) w542 hq12 rfl d_Mo_note_80 ?_
    refine lv_imul hx hb d_Mo_note_83 ?_
    refine lv_iconst (v := 4) hx hb d_Mo_note_84 (by decide) ?_
    refine lv_iadd hx hb d_Mo_note_85 ?_
    refine lv_lload hx hb d_Mo_note_86 (lv_at hl 5 rfl) ?_
    refine hv_last hE hI 1 hq11 rfl (by rw [Int32.mul_comm, mk6 r.2 0, show (4 : Int32) = nI 4 from rfl, nI_add]; exact pk_in _ 6000 (by omega) rfl (by omega)) d_Mo_note_88 (fun H locs hI => ?_)
    rw [Int32.mul_comm, mk6 r.2 0, show (4 : Int32) = nI 4 from rfl, nI_add, nI_cl (by omega)] at hI
    obtain ⟨g13, eg13⟩ : ∃ z : hv_M, z = hv_up g10 (a 16) (.inl (cA 1, 6000, .inr (.inl (vp_updL (vp_updL (vp_updL (vp_updL (vp_updL r.1 (6 * r.2) t.toInt64) (6 * r.2 + 1) X) (6 * r.2 + 2) Y) (6 * r.2 + 3) w) (6 * r.2 + 4) h)))) := ⟨_, rfl⟩
    have hI : hv_I D CL b0 g13 s.heap H locs := by rw [eg13]; exact hI
    have hq14 : g13 (a 16) = some (.inl (cA 1, 6000, .inr (.inl (vp_updL (vp_updL (vp_updL (vp_updL (vp_updL r.1 (6 * r.2) t.toInt64) (6 * r.2 + 1) X) (6 * r.2 + 2) Y) (6 * r.2 + 3) w) (6 * r.2 + 4) h)))) := by rw [eg13]; exact hv_up_self _ _ _
    refine lv_aload_n hx hb d_Mo_note_89 rfl (lv_at hl 0 rfl) ?_
    have hq15 : g13 mo = some (moE a th st en ct gd ln bf ac un (nI r.2)) := by rw [eg13, hv_up_ne _ _ (Ne.symm (hnj.2 16 (by decide)))]; exact hq12
    refine hv_get hE k_Mo hI 25 (by decide) w541 hq15 rfl d_Mo_note_90 ?_
    refine lv_bipush (v := 6) hx hb d_Mo_note_93 (by decide) ?_
    refine lv_aload_n hx hb d_Mo_note_95 rfl (lv_at hl 0 rfl) ?_
    refine hv_get hE k_Mo hI 26 (by decide) w542 hq15 rfl d_Mo_note_96 ?_
    refine lv_imul hx hb d_Mo_note_99 ?_
    refine lv_iconst (v := 5) hx hb d_Mo_note_100 (by decide) ?_
    refine lv_iadd hx hb d_Mo_note_101 ?_
    refine lv_lload hx hb d_Mo_note_102 (lv_at hl 6 rfl) ?_
    refine hv_last hE hI 1 hq14 rfl (by rw [Int32.mul_comm, mk6 r.2 0, show (5 : Int32) = nI 5 from rfl, nI_add]; exact pk_in _ 6000 (by omega) rfl (by omega)) d_Mo_note_104 (fun H locs hI => ?_)
    rw [Int32.mul_comm, mk6 r.2 0, show (5 : Int32) = nI 5 from rfl, nI_add, nI_cl (by omega)] at hI
    obtain ⟨g16, eg16⟩ : ∃ z : hv_M, z = hv_up g13 (a 16) (.inl (cA 1, 6000, .inr (.inl (vp_updL (vp_updL (vp_updL (vp_updL (vp_updL (vp_updL r.1 (6 * r.2) t.toInt64) (6 * r.2 + 1) X) (6 * r.2 + 2) Y) (6 * r.2 + 3) w) (6 * r.2 + 4) h) (6 * r.2 + 5) d)))) := ⟨_, rfl⟩
    have hI : hv_I D CL b0 g16 s.heap H locs := by rw [eg16]; exact hI
    have hq17 : g16 (a 16) = some (.inl (cA 1, 6000, .inr (.inl (vp_updL (vp_updL (vp_updL (vp_updL (vp_updL (vp_updL r.1 (6 * r.2) t.toInt64) (6 * r.2 + 1) X) (6 * r.2 + 2) Y) (6 * r.2 + 3) w) (6 * r.2 + 4) h) (6 * r.2 + 5) d)))) := by rw [eg16]; exact hv_up_self _ _ _
    refine lv_aload_n hx hb d_Mo_note_105 rfl (lv_at hl 0 rfl) ?_
    refine lv_dup hx hb d_Mo_note_106 rfl ?_
    have hq18 : g16 mo = some (moE a th st en ct gd ln bf ac un (nI r.2)) := by rw [eg16, hv_up_ne _ _ (Ne.symm (hnj.2 16 (by decide)))]; exact hq15
    refine hv_get hE k_Mo hI 26 (by decide) w542 hq18 rfl d_Mo_note_107 ?_
    refine lv_iconst (v := 1) hx hb d_Mo_note_110 (by decide) ?_
    refine lv_iadd hx hb d_Mo_note_111 ?_
    refine hv_put hE k_Mo hI 26 (by decide) w542 hq18 rfl rfl rfl (Nat.le_of_ble_eq_true rfl) d_Mo_note_112 (fun H locs hI => ?_)
    obtain ⟨g19, eg19⟩ : ∃ z : hv_M, z = hv_up g16 mo (moE a th st en ct gd ln bf ac un ((nI r.2) + 1)) := ⟨_, rfl⟩
    have hI : hv_I D CL b0 g19 s.heap H locs := by rw [eg19]; exact hI
    have hq20 : g19 mo = some (moE a th st en ct gd ln bf ac un ((nI r.2) + 1)) := by rw [eg19]; exact hv_up_self _ _ _
    refine lv_iconst (v := 1) hx hb d_Mo_note_115 (by decide) ?_
    have hq21 : g19 (a 16) = some (.inl (cA 1, 6000, .inr (.inl (vp_updL (vp_updL (vp_updL (vp_updL (vp_updL (vp_updL r.1 (6 * r.2) t.toInt64) (6 * r.2 + 1) X) (6 * r.2 + 2) Y) (6 * r.2 + 3) w) (6 * r.2 + 4) h) (6 * r.2 + 5) d)))) := by rw [eg19, hv_up_ne _ _ (hnj.2 16 (by decide))]; exact hq17
    exact hv_zret hE hr hlocks hI hK (v := 1) (by first | rfl | exact b2i_nar _) ((show _ ∧ _ ∧ _ ∧ _ by rw [hnt]; exact ⟨rfl, by rw [← nI_1]; exact hq20, hq21, fun z z1 z2 => by rw [eg19, hv_up_ne _ _ z1, eg16, hv_up_ne _ _ z2, eg13, hv_up_ne _ _ z2, eg10, hv_up_ne _ _ z2, eg7, hv_up_ne _ _ z2, eg4, hv_up_ne _ _ z2, eg1, hv_up_ne _ _ z2]⟩)) (by decide) (by decide) d_Mo_note_116
  · skip
    have hge : r.2 = 1000 := (nI_eqI (b := 1000) (by omega) (by decide)).mp c7
    have hnt : ∀ t x y w h d, noteF t x y w h d r = (false, r) := fun t x y w h d => if_pos hge
    refine lv_iconst (v := 0) hx hb d_Mo_note_10 (by decide) ?_
    exact hv_zret hE hr hlocks hI hK (v := 0) (by first | rfl | exact b2i_nar _) ((show _ ∧ _ ∧ _ ∧ _ by rw [hnt]; exact ⟨rfl, hmo, h16, fun _ _ _ => rfl⟩)) (by decide) (by decide) d_Mo_note_11

set_option maxHeartbeats 4000000 in
set_option maxRecDepth 100000 in
theorem c_Mo_ruled0 (l : Launch) (hl0 : l.stackTraces = false) (b0 : Nat) (D : va_G) (cA : Nat → ClassId) (f : hv_M) (mo : Nat) (a : Nat → Nat) (th st en ct : Int32) (gd : Bool) (ln bf ac un : Int64) (md : Int32) (V : Wd) (b k : Nat) (hmo : f mo = some (moE a th st en ct gd ln bf ac un md)) (hnj : moN mo a) (hA : moA cA f a V) (hk : k < 10200) (hb9 : b < 100) : hv_Met l y_Mo_ruled [Cond.code y_Mo_ruled b_Mo_ruled 4 (some FieldType.long)] (RM 2 0 0) b0 (Fa D cA) D CL [.ref mo, .int (nI b), .int (nI k), .int 0] f (PV f (some (.long (rdF V b k 0)))) (NX) := by
  refine hv_Met.of (own := "BoxPackerModel") (by decide) rfl (Nat.le_of_ble_eq_true rfl) ?_
  intro p e s m below meth c hE hml hout hr hlocks hname hK hI ls hl
  have hl : lv_has ls 4 [(0, .ref mo), (1, .int (nI b)), (2, .int (nI k)), (3, .int 0)] := hl
  obtain ⟨hx, hb, hown, hts, hVK⟩ := id hE
  refine lv_aload_n hx hb d_Mo_ruled_0 rfl (lv_at hl 0 rfl) ?_
  refine lv_iload_n hx hb d_Mo_ruled_1 rfl (lv_at hl 2 rfl) ?_
  refine lv_iload_n hx hb d_Mo_ruled_2 rfl (lv_at hl 3 rfl) ?_
  refine hv_Vp (As := [.int (nI k), .int 0]) (rest := []) hE hml hK hI (c_Mo_number l hl0 b0 D cA f mo a th st en ct gd ln bf ac un md V k 0 hmo hnj hA.2.1 (by omega) (by omega)) cd_Mo_number w664 w666 ws21 hmo rfl rfl rfl rfl hl.1 (Nat.le_of_ble_eq_true rfl) d_Mo_ruled_3 ⟨by decide, by decide⟩ ⟨by decide, by decide⟩ (fun H locs hI => ?_)
  refine W.eq (g2 := F0 m 6 ls [.int (wN V k 0)]) rfl ?_
  refine lv_ldc (v := (-1073741824)) hx hb hown (hts _ w628) d_Mo_ruled_6 ?_
  refine lv_icmp_eq (tgt := 19) hx hb d_Mo_ruled_8 (by decide) (fun c8 => ?_) (fun c8 => ?_)
  · skip
    refine lv_aload_n hx hb d_Mo_ruled_19 rfl (lv_at hl 0 rfl) ?_
    refine hv_get hE k_Mo hI 7 (by decide) w523 hmo rfl d_Mo_ruled_20 ?_
    refine lv_iload_n hx hb d_Mo_ruled_23 rfl (lv_at hl 1 rfl) ?_
    refine hv_zald hE hI 2 hA.2.2.2.1 rfl (pk_in b 100 hb9 rfl (by omega)) d_Mo_ruled_24 ?_
    rw [nI_cl (by omega)]
    refine W.eq (g2 := F0 m 25 ls [.int (b2i (wB V b))]) rfl ?_
    refine lv_if_eq (tgt := 44) hx hb d_Mo_ruled_25 (by decide) (fun c25 => ?_) (fun c25 => ?_)
    · skip
      have k25 := b2i_f c25
      refine lv_iload_n hx hb d_Mo_ruled_44 rfl (lv_at hl 3 rfl) ?_
      refine lv_iconst (v := 1) hx hb d_Mo_ruled_45 (by decide) ?_
      refine lv_icmp_ne (tgt := 59) hx hb d_Mo_ruled_46 (by decide) (fun c46 => ?_) (fun c46 => ?_)
      · skip
        refine lv_iload_n hx hb d_Mo_ruled_59 rfl (lv_at hl 3 rfl) ?_
        refine lv_iconst (v := 2) hx hb d_Mo_ruled_60 (by decide) ?_
        refine lv_icmp_ne (tgt := 74) hx hb d_Mo_ruled_61 (by decide) (fun c61 => ?_) (fun c61 => ?_)
        · skip
          refine lv_lconst (v := 0) hx hb d_Mo_ruled_74 (by decide) ?_
          exact hv_lret hE hr hlocks hI hK (v := 0) (⟨by simp [rdF, c8, k25], rfl⟩) (by decide) (by decide) d_Mo_ruled_75
        · skip
          exact absurd c61 (by decide)
      · skip
        exact absurd c46 (by decide)
    · skip
      have k25 := b2i_t c25
      refine lv_iload_n hx hb d_Mo_ruled_28 rfl (lv_at hl 3 rfl) ?_
      refine lv_if_ne (tgt := 42) hx hb d_Mo_ruled_29 (by decide) (fun c29 => ?_) (fun c29 => ?_)
      · skip
        exact absurd rfl c29
      · skip
        refine lv_aload_n hx hb d_Mo_ruled_32 rfl (lv_at hl 0 rfl) ?_
        refine hv_get hE k_Mo hI 8 (by decide) w524 hmo rfl d_Mo_ruled_33 ?_
        refine lv_iload_n hx hb d_Mo_ruled_36 rfl (lv_at hl 1 rfl) ?_
        refine hv_iald hE hI 0 (hA.2.2.2.2 0 (by decide)) rfl (pk_in b 100 hb9 rfl (by omega)) d_Mo_ruled_37 ?_
        rw [nI_cl (by omega)]
        refine lv_i2l (v := ((wA V 0) b).toInt64) hx hb d_Mo_ruled_38 rfl ?_
        refine lv_goto (tgt := 43) hx hb d_Mo_ruled_39 (by decide) ?_
        exact hv_lret hE hr hlocks hI hK (v := ((wA V 0) b).toInt64) (⟨by simp [rdF, c8, k25], rfl⟩) (by decide) (by decide) d_Mo_ruled_43
  · skip
    refine lv_aload_n hx hb d_Mo_ruled_11 rfl (lv_at hl 0 rfl) ?_
    refine lv_iload_n hx hb d_Mo_ruled_12 rfl (lv_at hl 2 rfl) ?_
    refine lv_iload_n hx hb d_Mo_ruled_13 rfl (lv_at hl 3 rfl) ?_
    refine hv_Vp (As := [.int (nI k), .int 0]) (rest := []) hE hml hK hI (c_Mo_number l hl0 b0 D cA f mo a th st en ct gd ln bf ac un md V k 0 hmo hnj hA.2.1 (by omega) (by omega)) cd_Mo_number w664 w666 ws21 hmo rfl rfl rfl rfl hl.1 (Nat.le_of_ble_eq_true rfl) d_Mo_ruled_14 ⟨by decide, by decide⟩ ⟨by decide, by decide⟩ (fun H locs hI => ?_)
    refine W.eq (g2 := F0 m 17 ls [.int (wN V k 0)]) rfl ?_
    refine lv_i2l (v := (wN V k 0).toInt64) hx hb d_Mo_ruled_17 rfl ?_
    exact hv_lret hE hr hlocks hI hK (v := (wN V k 0).toInt64) (⟨by simp [rdF, c8], rfl⟩) (by decide) (by decide) d_Mo_ruled_18

set_option maxHeartbeats 4000000 in
set_option maxRecDepth 100000 in
theorem c_Mo_ruled1 (l : Launch) (hl0 : l.stackTraces = false) (b0 : Nat) (D : va_G) (cA : Nat → ClassId) (f : hv_M) (mo : Nat) (a : Nat → Nat) (th st en ct : Int32) (gd : Bool) (ln bf ac un : Int64) (md : Int32) (V : Wd) (b k : Nat) (hmo : f mo = some (moE a th st en ct gd ln bf ac un md)) (hnj : moN mo a) (hA : moA cA f a V) (hk : k < 10200) (hb9 : b < 100) : hv_Met l y_Mo_ruled [Cond.code y_Mo_ruled b_Mo_ruled 4 (some FieldType.long)] (RM 2 0 0) b0 (Fa D cA) D CL [.ref mo, .int (nI b), .int (nI k), .int 1] f (PV f (some (.long (rdF V b k 1)))) (NX) := by
  refine hv_Met.of (own := "BoxPackerModel") (by decide) rfl (Nat.le_of_ble_eq_true rfl) ?_
  intro p e s m below meth c hE hml hout hr hlocks hname hK hI ls hl
  have hl : lv_has ls 4 [(0, .ref mo), (1, .int (nI b)), (2, .int (nI k)), (3, .int 1)] := hl
  obtain ⟨hx, hb, hown, hts, hVK⟩ := id hE
  refine lv_aload_n hx hb d_Mo_ruled_0 rfl (lv_at hl 0 rfl) ?_
  refine lv_iload_n hx hb d_Mo_ruled_1 rfl (lv_at hl 2 rfl) ?_
  refine lv_iload_n hx hb d_Mo_ruled_2 rfl (lv_at hl 3 rfl) ?_
  refine hv_Vp (As := [.int (nI k), .int 1]) (rest := []) hE hml hK hI (c_Mo_number l hl0 b0 D cA f mo a th st en ct gd ln bf ac un md V k 1 hmo hnj hA.2.1 (by omega) (by omega)) cd_Mo_number w664 w666 ws21 hmo rfl rfl rfl rfl hl.1 (Nat.le_of_ble_eq_true rfl) d_Mo_ruled_3 ⟨by decide, by decide⟩ ⟨by decide, by decide⟩ (fun H locs hI => ?_)
  refine W.eq (g2 := F0 m 6 ls [.int (wN V k 1)]) rfl ?_
  refine lv_ldc (v := (-1073741824)) hx hb hown (hts _ w628) d_Mo_ruled_6 ?_
  refine lv_icmp_eq (tgt := 19) hx hb d_Mo_ruled_8 (by decide) (fun c8 => ?_) (fun c8 => ?_)
  · skip
    refine lv_aload_n hx hb d_Mo_ruled_19 rfl (lv_at hl 0 rfl) ?_
    refine hv_get hE k_Mo hI 7 (by decide) w523 hmo rfl d_Mo_ruled_20 ?_
    refine lv_iload_n hx hb d_Mo_ruled_23 rfl (lv_at hl 1 rfl) ?_
    refine hv_zald hE hI 2 hA.2.2.2.1 rfl (pk_in b 100 hb9 rfl (by omega)) d_Mo_ruled_24 ?_
    rw [nI_cl (by omega)]
    refine W.eq (g2 := F0 m 25 ls [.int (b2i (wB V b))]) rfl ?_
    refine lv_if_eq (tgt := 44) hx hb d_Mo_ruled_25 (by decide) (fun c25 => ?_) (fun c25 => ?_)
    · skip
      have k25 := b2i_f c25
      refine lv_iload_n hx hb d_Mo_ruled_44 rfl (lv_at hl 3 rfl) ?_
      refine lv_iconst (v := 1) hx hb d_Mo_ruled_45 (by decide) ?_
      refine lv_icmp_ne (tgt := 59) hx hb d_Mo_ruled_46 (by decide) (fun c46 => ?_) (fun c46 => ?_)
      · skip
        exact absurd rfl c46
      · skip
        refine lv_aload_n hx hb d_Mo_ruled_49 rfl (lv_at hl 0 rfl) ?_
        refine hv_get hE k_Mo hI 9 (by decide) w525 hmo rfl d_Mo_ruled_50 ?_
        refine lv_iload_n hx hb d_Mo_ruled_53 rfl (lv_at hl 1 rfl) ?_
        refine hv_iald hE hI 0 (hA.2.2.2.2 1 (by decide)) rfl (pk_in b 100 hb9 rfl (by omega)) d_Mo_ruled_54 ?_
        rw [nI_cl (by omega)]
        refine lv_i2l (v := ((wA V 1) b).toInt64) hx hb d_Mo_ruled_55 rfl ?_
        refine lv_goto (tgt := 75) hx hb d_Mo_ruled_56 (by decide) ?_
        exact hv_lret hE hr hlocks hI hK (v := ((wA V 1) b).toInt64) (⟨by simp [rdF, c8, k25], rfl⟩) (by decide) (by decide) d_Mo_ruled_75
    · skip
      have k25 := b2i_t c25
      refine lv_iload_n hx hb d_Mo_ruled_28 rfl (lv_at hl 3 rfl) ?_
      refine lv_if_ne (tgt := 42) hx hb d_Mo_ruled_29 (by decide) (fun c29 => ?_) (fun c29 => ?_)
      · skip
        refine lv_lconst (v := 0) hx hb d_Mo_ruled_42 (by decide) ?_
        exact hv_lret hE hr hlocks hI hK (v := 0) (⟨by simp [rdF, c8, k25], rfl⟩) (by decide) (by decide) d_Mo_ruled_43
      · skip
        exact absurd c29 (by decide)
  · skip
    refine lv_aload_n hx hb d_Mo_ruled_11 rfl (lv_at hl 0 rfl) ?_
    refine lv_iload_n hx hb d_Mo_ruled_12 rfl (lv_at hl 2 rfl) ?_
    refine lv_iload_n hx hb d_Mo_ruled_13 rfl (lv_at hl 3 rfl) ?_
    refine hv_Vp (As := [.int (nI k), .int 1]) (rest := []) hE hml hK hI (c_Mo_number l hl0 b0 D cA f mo a th st en ct gd ln bf ac un md V k 1 hmo hnj hA.2.1 (by omega) (by omega)) cd_Mo_number w664 w666 ws21 hmo rfl rfl rfl rfl hl.1 (Nat.le_of_ble_eq_true rfl) d_Mo_ruled_14 ⟨by decide, by decide⟩ ⟨by decide, by decide⟩ (fun H locs hI => ?_)
    refine W.eq (g2 := F0 m 17 ls [.int (wN V k 1)]) rfl ?_
    refine lv_i2l (v := (wN V k 1).toInt64) hx hb d_Mo_ruled_17 rfl ?_
    exact hv_lret hE hr hlocks hI hK (v := (wN V k 1).toInt64) (⟨by simp [rdF, c8], rfl⟩) (by decide) (by decide) d_Mo_ruled_18

set_option maxHeartbeats 4000000 in
set_option maxRecDepth 100000 in
theorem c_Mo_ruled2 (l : Launch) (hl0 : l.stackTraces = false) (b0 : Nat) (D : va_G) (cA : Nat → ClassId) (f : hv_M) (mo : Nat) (a : Nat → Nat) (th st en ct : Int32) (gd : Bool) (ln bf ac un : Int64) (md : Int32) (V : Wd) (b k : Nat) (hmo : f mo = some (moE a th st en ct gd ln bf ac un md)) (hnj : moN mo a) (hA : moA cA f a V) (hk : k < 10200) (hb9 : b < 100) : hv_Met l y_Mo_ruled [Cond.code y_Mo_ruled b_Mo_ruled 4 (some FieldType.long)] (RM 2 0 0) b0 (Fa D cA) D CL [.ref mo, .int (nI b), .int (nI k), .int 2] f (PV f (some (.long (rdF V b k 2)))) (NX) := by
  refine hv_Met.of (own := "BoxPackerModel") (by decide) rfl (Nat.le_of_ble_eq_true rfl) ?_
  intro p e s m below meth c hE hml hout hr hlocks hname hK hI ls hl
  have hl : lv_has ls 4 [(0, .ref mo), (1, .int (nI b)), (2, .int (nI k)), (3, .int 2)] := hl
  obtain ⟨hx, hb, hown, hts, hVK⟩ := id hE
  refine lv_aload_n hx hb d_Mo_ruled_0 rfl (lv_at hl 0 rfl) ?_
  refine lv_iload_n hx hb d_Mo_ruled_1 rfl (lv_at hl 2 rfl) ?_
  refine lv_iload_n hx hb d_Mo_ruled_2 rfl (lv_at hl 3 rfl) ?_
  refine hv_Vp (As := [.int (nI k), .int 2]) (rest := []) hE hml hK hI (c_Mo_number l hl0 b0 D cA f mo a th st en ct gd ln bf ac un md V k 2 hmo hnj hA.2.1 (by omega) (by omega)) cd_Mo_number w664 w666 ws21 hmo rfl rfl rfl rfl hl.1 (Nat.le_of_ble_eq_true rfl) d_Mo_ruled_3 ⟨by decide, by decide⟩ ⟨by decide, by decide⟩ (fun H locs hI => ?_)
  refine W.eq (g2 := F0 m 6 ls [.int (wN V k 2)]) rfl ?_
  refine lv_ldc (v := (-1073741824)) hx hb hown (hts _ w628) d_Mo_ruled_6 ?_
  refine lv_icmp_eq (tgt := 19) hx hb d_Mo_ruled_8 (by decide) (fun c8 => ?_) (fun c8 => ?_)
  · skip
    refine lv_aload_n hx hb d_Mo_ruled_19 rfl (lv_at hl 0 rfl) ?_
    refine hv_get hE k_Mo hI 7 (by decide) w523 hmo rfl d_Mo_ruled_20 ?_
    refine lv_iload_n hx hb d_Mo_ruled_23 rfl (lv_at hl 1 rfl) ?_
    refine hv_zald hE hI 2 hA.2.2.2.1 rfl (pk_in b 100 hb9 rfl (by omega)) d_Mo_ruled_24 ?_
    rw [nI_cl (by omega)]
    refine W.eq (g2 := F0 m 25 ls [.int (b2i (wB V b))]) rfl ?_
    refine lv_if_eq (tgt := 44) hx hb d_Mo_ruled_25 (by decide) (fun c25 => ?_) (fun c25 => ?_)
    · skip
      have k25 := b2i_f c25
      refine lv_iload_n hx hb d_Mo_ruled_44 rfl (lv_at hl 3 rfl) ?_
      refine lv_iconst (v := 1) hx hb d_Mo_ruled_45 (by decide) ?_
      refine lv_icmp_ne (tgt := 59) hx hb d_Mo_ruled_46 (by decide) (fun c46 => ?_) (fun c46 => ?_)
      · skip
        refine lv_iload_n hx hb d_Mo_ruled_59 rfl (lv_at hl 3 rfl) ?_
        refine lv_iconst (v := 2) hx hb d_Mo_ruled_60 (by decide) ?_
        refine lv_icmp_ne (tgt := 74) hx hb d_Mo_ruled_61 (by decide) (fun c61 => ?_) (fun c61 => ?_)
        · skip
          exact absurd rfl c61
        · skip
          refine lv_aload_n hx hb d_Mo_ruled_64 rfl (lv_at hl 0 rfl) ?_
          refine hv_get hE k_Mo hI 10 (by decide) w526 hmo rfl d_Mo_ruled_65 ?_
          refine lv_iload_n hx hb d_Mo_ruled_68 rfl (lv_at hl 1 rfl) ?_
          refine hv_iald hE hI 0 (hA.2.2.2.2 2 (by decide)) rfl (pk_in b 100 hb9 rfl (by omega)) d_Mo_ruled_69 ?_
          rw [nI_cl (by omega)]
          refine lv_i2l (v := ((wA V 2) b).toInt64) hx hb d_Mo_ruled_70 rfl ?_
          refine lv_goto (tgt := 75) hx hb d_Mo_ruled_71 (by decide) ?_
          exact hv_lret hE hr hlocks hI hK (v := ((wA V 2) b).toInt64) (⟨by simp [rdF, c8, k25], rfl⟩) (by decide) (by decide) d_Mo_ruled_75
      · skip
        exact absurd c46 (by decide)
    · skip
      have k25 := b2i_t c25
      refine lv_iload_n hx hb d_Mo_ruled_28 rfl (lv_at hl 3 rfl) ?_
      refine lv_if_ne (tgt := 42) hx hb d_Mo_ruled_29 (by decide) (fun c29 => ?_) (fun c29 => ?_)
      · skip
        refine lv_lconst (v := 0) hx hb d_Mo_ruled_42 (by decide) ?_
        exact hv_lret hE hr hlocks hI hK (v := 0) (⟨by simp [rdF, c8, k25], rfl⟩) (by decide) (by decide) d_Mo_ruled_43
      · skip
        exact absurd c29 (by decide)
  · skip
    refine lv_aload_n hx hb d_Mo_ruled_11 rfl (lv_at hl 0 rfl) ?_
    refine lv_iload_n hx hb d_Mo_ruled_12 rfl (lv_at hl 2 rfl) ?_
    refine lv_iload_n hx hb d_Mo_ruled_13 rfl (lv_at hl 3 rfl) ?_
    refine hv_Vp (As := [.int (nI k), .int 2]) (rest := []) hE hml hK hI (c_Mo_number l hl0 b0 D cA f mo a th st en ct gd ln bf ac un md V k 2 hmo hnj hA.2.1 (by omega) (by omega)) cd_Mo_number w664 w666 ws21 hmo rfl rfl rfl rfl hl.1 (Nat.le_of_ble_eq_true rfl) d_Mo_ruled_14 ⟨by decide, by decide⟩ ⟨by decide, by decide⟩ (fun H locs hI => ?_)
    refine W.eq (g2 := F0 m 17 ls [.int (wN V k 2)]) rfl ?_
    refine lv_i2l (v := (wN V k 2).toInt64) hx hb d_Mo_ruled_17 rfl ?_
    exact hv_lret hE hr hlocks hI hK (v := (wN V k 2).toInt64) (⟨by simp [rdF, c8], rfl⟩) (by decide) (by decide) d_Mo_ruled_18

set_option maxHeartbeats 4000000 in
set_option maxRecDepth 100000 in
theorem c_Mo_nearest (l : Launch) (hl0 : l.stackTraces = false) (b0 : Nat) (D : va_G) (cA : Nat → ClassId) (f : hv_M) (x y : Int64) (hy : ¬ y = 0) : hv_Met l y_Mo_nearest [Cond.code y_Mo_nearest b_Mo_nearest 8 (some FieldType.long)] (RM 0 0 0) b0 (Fa D cA) D CL [.long x, .long y] f (PV f (some (.long (nearF x y)))) (NX) := by
  refine hv_Met.of (own := "BoxPackerModel") (by decide) rfl (Nat.le_of_ble_eq_true rfl) ?_
  intro p e s m below meth c hE hml hout hr hlocks hname hK hI ls hl
  have hl : lv_has ls 8 [(0, .long x), (2, .long y)] := hl
  obtain ⟨hx, hb, hown, hts, hVK⟩ := id hE
  refine lv_lload_n hx hb d_Mo_nearest_0 rfl (lv_at hl 0 rfl) ?_
  refine lv_lconst (v := 0) hx hb d_Mo_nearest_1 (by decide) ?_
  refine W.lcmp hx hb d_Mo_nearest_2 ?_
  refine lv_if_ge (tgt := 11) hx hb d_Mo_nearest_3 (by decide) (fun c3 => ?_) (fun c3 => ?_)
  · skip
    have m3 := (lg_cmp_ge _ _).mp c3
    have n3 := Int64.not_lt.mpr m3
    refine lv_lload_n hx hb d_Mo_nearest_11 rfl (lv_at hl 0 rfl) ?_
    refine lv_lload_n hx hb d_Mo_nearest_12 rfl (lv_at hl 1 rfl) ?_
    refine lv_ldiv hx hb d_Mo_nearest_13 hy ?_
    refine lv_lstore (lv' := [(4, .long (x / y)), (0, .long x), (2, .long y)]) hx hb d_Mo_nearest_14 hl (by decide) rfl (fun ls hl => ?_)
    refine lv_lload_n hx hb d_Mo_nearest_16 rfl (lv_at hl 1 rfl) ?_
    refine lv_lconst (v := 0) hx hb d_Mo_nearest_17 (by decide) ?_
    refine W.lcmp hx hb d_Mo_nearest_18 ?_
    refine lv_if_ge (tgt := 27) hx hb d_Mo_nearest_19 (by decide) (fun c19 => ?_) (fun c19 => ?_)
    · skip
      have m19 := (lg_cmp_ge _ _).mp c19
      have n19 := Int64.not_lt.mpr m19
      refine lv_lload_n hx hb d_Mo_nearest_27 rfl (lv_at hl 1 rfl) ?_
      refine lv_lload_n hx hb d_Mo_nearest_28 rfl (lv_at hl 2 rfl) ?_
      refine lv_lrem hx hb d_Mo_nearest_29 hy ?_
      refine lv_lstore (lv' := [(6, .long (x - x / y * y)), (4, .long (x / y)), (0, .long x), (2, .long y)]) hx hb d_Mo_nearest_30 hl (by decide) rfl (fun ls hl => ?_)
      refine lv_lload hx hb d_Mo_nearest_32 (lv_at hl 0 rfl) ?_
      refine lv_lload_n hx hb d_Mo_nearest_34 rfl (lv_at hl 3 rfl) ?_
      refine lv_lload hx hb d_Mo_nearest_35 (lv_at hl 0 rfl) ?_
      refine lv_lsub hx hb d_Mo_nearest_37 ?_
      refine W.lcmp hx hb d_Mo_nearest_38 ?_
      refine lv_if_lt (tgt := 49) hx hb d_Mo_nearest_39 (by decide) (fun c39 => ?_) (fun c39 => ?_)
      · skip
        have m39 := (lg_cmp_lt _ _).mp c39
        have n39 := Int64.not_le.mpr m39
        refine lv_lload hx hb d_Mo_nearest_49 (lv_at hl 1 rfl) ?_
        refine lv_lstore (lv' := [(4, .long (x / y)), (6, .long (x - x / y * y)), (0, .long x), (2, .long y)]) hx hb d_Mo_nearest_51 hl (by decide) rfl (fun ls hl => ?_)
        refine lv_lload_n hx hb d_Mo_nearest_53 rfl (lv_at hl 2 rfl) ?_
        refine lv_lconst (v := 0) hx hb d_Mo_nearest_54 (by decide) ?_
        refine W.lcmp hx hb d_Mo_nearest_55 ?_
        refine lv_if_ge (tgt := 65) hx hb d_Mo_nearest_56 (by decide) (fun c56 => ?_) (fun c56 => ?_)
        · skip
          have m56 := (lg_cmp_ge _ _).mp c56
          have n56 := Int64.not_lt.mpr m56
          refine lv_lload hx hb d_Mo_nearest_65 (lv_at hl 0 rfl) ?_
          exact hv_lret hE hr hlocks hI hK (v := x / y) (⟨by simp only [nearF, labs, n3, n39, if_true, if_false], rfl⟩) (by decide) (by decide) d_Mo_nearest_67
        · skip
          exact absurd c3 c56
      · skip
        have m39 : ¬ _ := fun q => c39 ((lg_cmp_lt _ _).mpr q)
        have n39 := Int64.not_lt.mp m39
        refine lv_lload hx hb d_Mo_nearest_42 (lv_at hl 1 rfl) ?_
        refine lv_lconst (v := 1) hx hb d_Mo_nearest_44 (by decide) ?_
        refine lv_ladd hx hb d_Mo_nearest_45 ?_
        refine lv_goto (tgt := 51) hx hb d_Mo_nearest_46 (by decide) ?_
        refine lv_lstore (lv' := [(4, .long ((x / y) + 1)), (6, .long (x - x / y * y)), (0, .long x), (2, .long y)]) hx hb d_Mo_nearest_51 hl (by decide) rfl (fun ls hl => ?_)
        refine lv_lload_n hx hb d_Mo_nearest_53 rfl (lv_at hl 2 rfl) ?_
        refine lv_lconst (v := 0) hx hb d_Mo_nearest_54 (by decide) ?_
        refine W.lcmp hx hb d_Mo_nearest_55 ?_
        refine lv_if_ge (tgt := 65) hx hb d_Mo_nearest_56 (by decide) (fun c56 => ?_) (fun c56 => ?_)
        · skip
          have m56 := (lg_cmp_ge _ _).mp c56
          have n56 := Int64.not_lt.mpr m56
          refine lv_lload hx hb d_Mo_nearest_65 (lv_at hl 0 rfl) ?_
          exact hv_lret hE hr hlocks hI hK (v := (x / y) + 1) (⟨by simp only [nearF, labs, n3, n39, if_true, if_false], rfl⟩) (by decide) (by decide) d_Mo_nearest_67
        · skip
          exact absurd c3 c56
    · skip
      exact absurd c3 c19
  · skip
    have m3 : ¬ _ := fun q => c3 ((lg_cmp_ge _ _).mpr q)
    have n3 := Int64.not_le.mp m3
    refine lv_lload_n hx hb d_Mo_nearest_6 rfl (lv_at hl 0 rfl) ?_
    refine lv_lneg hx hb d_Mo_nearest_7 ?_
    refine lv_goto (tgt := 12) hx hb d_Mo_nearest_8 (by decide) ?_
    refine lv_lload_n hx hb d_Mo_nearest_12 rfl (lv_at hl 1 rfl) ?_
    refine lv_ldiv hx hb d_Mo_nearest_13 hy ?_
    refine lv_lstore (lv' := [(4, .long ((-x) / y)), (0, .long x), (2, .long y)]) hx hb d_Mo_nearest_14 hl (by decide) rfl (fun ls hl => ?_)
    refine lv_lload_n hx hb d_Mo_nearest_16 rfl (lv_at hl 1 rfl) ?_
    refine lv_lconst (v := 0) hx hb d_Mo_nearest_17 (by decide) ?_
    refine W.lcmp hx hb d_Mo_nearest_18 ?_
    refine lv_if_ge (tgt := 27) hx hb d_Mo_nearest_19 (by decide) (fun c19 => ?_) (fun c19 => ?_)
    · skip
      exact absurd c19 c3
    · skip
      have m19 : ¬ _ := fun q => c19 ((lg_cmp_ge _ _).mpr q)
      have n19 := Int64.not_le.mp m19
      refine lv_lload_n hx hb d_Mo_nearest_22 rfl (lv_at hl 1 rfl) ?_
      refine lv_lneg hx hb d_Mo_nearest_23 ?_
      refine lv_goto (tgt := 28) hx hb d_Mo_nearest_24 (by decide) ?_
      refine lv_lload_n hx hb d_Mo_nearest_28 rfl (lv_at hl 2 rfl) ?_
      refine lv_lrem hx hb d_Mo_nearest_29 hy ?_
      refine lv_lstore (lv' := [(6, .long ((-x) - (-x) / y * y)), (4, .long ((-x) / y)), (0, .long x), (2, .long y)]) hx hb d_Mo_nearest_30 hl (by decide) rfl (fun ls hl => ?_)
      refine lv_lload hx hb d_Mo_nearest_32 (lv_at hl 0 rfl) ?_
      refine lv_lload_n hx hb d_Mo_nearest_34 rfl (lv_at hl 3 rfl) ?_
      refine lv_lload hx hb d_Mo_nearest_35 (lv_at hl 0 rfl) ?_
      refine lv_lsub hx hb d_Mo_nearest_37 ?_
      refine W.lcmp hx hb d_Mo_nearest_38 ?_
      refine lv_if_lt (tgt := 49) hx hb d_Mo_nearest_39 (by decide) (fun c39 => ?_) (fun c39 => ?_)
      · skip
        have m39 := (lg_cmp_lt _ _).mp c39
        have n39 := Int64.not_le.mpr m39
        refine lv_lload hx hb d_Mo_nearest_49 (lv_at hl 1 rfl) ?_
        refine lv_lstore (lv' := [(4, .long ((-x) / y)), (6, .long ((-x) - (-x) / y * y)), (0, .long x), (2, .long y)]) hx hb d_Mo_nearest_51 hl (by decide) rfl (fun ls hl => ?_)
        refine lv_lload_n hx hb d_Mo_nearest_53 rfl (lv_at hl 2 rfl) ?_
        refine lv_lconst (v := 0) hx hb d_Mo_nearest_54 (by decide) ?_
        refine W.lcmp hx hb d_Mo_nearest_55 ?_
        refine lv_if_ge (tgt := 65) hx hb d_Mo_nearest_56 (by decide) (fun c56 => ?_) (fun c56 => ?_)
        · skip
          exact absurd c56 c3
        · skip
          have m56 : ¬ _ := fun q => c56 ((lg_cmp_ge _ _).mpr q)
          have n56 := Int64.not_le.mp m56
          refine lv_lload hx hb d_Mo_nearest_59 (lv_at hl 0 rfl) ?_
          refine lv_lneg hx hb d_Mo_nearest_61 ?_
          refine lv_goto (tgt := 67) hx hb d_Mo_nearest_62 (by decide) ?_
          exact hv_lret hE hr hlocks hI hK (v := -((-x) / y)) (⟨by simp only [nearF, labs, n3, n39, if_true, if_false], rfl⟩) (by decide) (by decide) d_Mo_nearest_67
      · skip
        have m39 : ¬ _ := fun q => c39 ((lg_cmp_lt _ _).mpr q)
        have n39 := Int64.not_lt.mp m39
        refine lv_lload hx hb d_Mo_nearest_42 (lv_at hl 1 rfl) ?_
        refine lv_lconst (v := 1) hx hb d_Mo_nearest_44 (by decide) ?_
        refine lv_ladd hx hb d_Mo_nearest_45 ?_
        refine lv_goto (tgt := 51) hx hb d_Mo_nearest_46 (by decide) ?_
        refine lv_lstore (lv' := [(4, .long (((-x) / y) + 1)), (6, .long ((-x) - (-x) / y * y)), (0, .long x), (2, .long y)]) hx hb d_Mo_nearest_51 hl (by decide) rfl (fun ls hl => ?_)
        refine lv_lload_n hx hb d_Mo_nearest_53 rfl (lv_at hl 2 rfl) ?_
        refine lv_lconst (v := 0) hx hb d_Mo_nearest_54 (by decide) ?_
        refine W.lcmp hx hb d_Mo_nearest_55 ?_
        refine lv_if_ge (tgt := 65) hx hb d_Mo_nearest_56 (by decide) (fun c56 => ?_) (fun c56 => ?_)
        · skip
          exact absurd c56 c3
        · skip
          have m56 : ¬ _ := fun q => c56 ((lg_cmp_ge _ _).mpr q)
          have n56 := Int64.not_le.mp m56
          refine lv_lload hx hb d_Mo_nearest_59 (lv_at hl 0 rfl) ?_
          refine lv_lneg hx hb d_Mo_nearest_61 ?_
          refine lv_goto (tgt := 67) hx hb d_Mo_nearest_62 (by decide) ?_
          exact hv_lret hE hr hlocks hI hK (v := -(((-x) / y) + 1)) (⟨by simp only [nearF, labs, n3, n39, if_true, if_false], rfl⟩) (by decide) (by decide) d_Mo_nearest_67

set_option maxHeartbeats 4000000 in
set_option maxRecDepth 100000 in
theorem c_Mo_badnessOf (l : Launch) (hl0 : l.stackTraces = false) (b0 : Nat) (D : va_G) (cA : Nat → ClassId) (f : hv_M) (t s9 : Int64)  : hv_Met l y_Mo_badnessOf [Cond.code y_Mo_badnessOf b_Mo_badnessOf 6 (some FieldType.int)] (RM 0 0 0) b0 (Fa D cA) D CL [.long t, .long s9] f (PV f (some (.int (bnF t s9)))) (NX) := by
  refine hv_Met.of (own := "BoxPackerModel") (by decide) rfl (Nat.le_of_ble_eq_true rfl) ?_
  intro p e s m below meth c hE hml hout hr hlocks hname hK hI ls hl
  have hl : lv_has ls 6 [(0, .long t), (2, .long s9)] := hl
  obtain ⟨hx, hb, hown, hts, hVK⟩ := id hE
  refine lv_lload_n hx hb d_Mo_badnessOf_0 rfl (lv_at hl 0 rfl) ?_
  refine lv_lconst (v := 0) hx hb d_Mo_badnessOf_1 (by decide) ?_
  refine W.lcmp hx hb d_Mo_badnessOf_2 ?_
  refine lv_if_ne (tgt := 8) hx hb d_Mo_badnessOf_3 (by decide) (fun c3 => ?_) (fun c3 => ?_)
  · skip
    have m3 : ¬ _ := fun q => c3 ((lg_cmp_eq _ _).mpr q)
    refine lv_lload_n hx hb d_Mo_badnessOf_8 rfl (lv_at hl 1 rfl) ?_
    refine lv_lconst (v := 0) hx hb d_Mo_badnessOf_9 (by decide) ?_
    refine W.lcmp hx hb d_Mo_badnessOf_10 ?_
    refine lv_if_ne (tgt := 18) hx hb d_Mo_badnessOf_11 (by decide) (fun c11 => ?_) (fun c11 => ?_)
    · skip
      have m11 : ¬ _ := fun q => c11 ((lg_cmp_eq _ _).mpr q)
      refine lv_lload_n hx hb d_Mo_badnessOf_18 rfl (lv_at hl 0 rfl) ?_
      refine lv_lstore (lv' := [(4, .long t), (0, .long t), (2, .long s9)]) hx hb d_Mo_badnessOf_19 hl (by decide) rfl (fun ls hl => ?_)
      refine lv_lload_n hx hb d_Mo_badnessOf_21 rfl (lv_at hl 1 rfl) ?_
      refine lv_ldc2 (v := 7230584) hx hb hown (hts _ w708) d_Mo_badnessOf_22 ?_
      refine W.lcmp hx hb d_Mo_badnessOf_25 ?_
      refine lv_if_gt (tgt := 41) hx hb d_Mo_badnessOf_26 (by decide) (fun c26 => ?_) (fun c26 => ?_)
      · skip
        have m26 := (lg_cmp_gt _ _).mp c26
        have n26 := Int64.not_le.mpr m26
        refine lv_lload_n hx hb d_Mo_badnessOf_41 rfl (lv_at hl 2 rfl) ?_
        refine lv_ldc2 (v := 1663497) hx hb hown (hts _ w710) d_Mo_badnessOf_42 ?_
        refine W.lcmp hx hb d_Mo_badnessOf_45 ?_
        refine lv_if_lt (tgt := 58) hx hb d_Mo_badnessOf_46 (by decide) (fun c46 => ?_) (fun c46 => ?_)
        · skip
          have m46 := (lg_cmp_lt _ _).mp c46
          have n46 := Int64.not_le.mpr m46
          refine lv_lload hx hb d_Mo_badnessOf_58 (lv_at hl 0 rfl) ?_
          refine lv_ldc2 (v := 1290) hx hb hown (hts _ w711) d_Mo_badnessOf_60 ?_
          refine W.lcmp hx hb d_Mo_badnessOf_63 ?_
          refine lv_if_le (tgt := 73) hx hb d_Mo_badnessOf_64 (by decide) (fun c64 => ?_) (fun c64 => ?_)
          · skip
            have m64 := (lg_cmp_le _ _).mp c64
            have n64 := Int64.not_lt.mpr m64
            refine lv_lload hx hb d_Mo_badnessOf_73 (lv_at hl 0 rfl) ?_
            refine lv_lload hx hb d_Mo_badnessOf_75 (lv_at hl 0 rfl) ?_
            refine lv_lmul hx hb d_Mo_badnessOf_77 ?_
            refine lv_lload hx hb d_Mo_badnessOf_78 (lv_at hl 0 rfl) ?_
            refine lv_lmul hx hb d_Mo_badnessOf_80 ?_
            refine lv_ldc2 (v := 131072) hx hb hown (hts _ w712) d_Mo_badnessOf_81 ?_
            refine lv_ladd hx hb d_Mo_badnessOf_84 ?_
            refine lv_ldc2 (v := 262144) hx hb hown (hts _ w713) d_Mo_badnessOf_85 ?_
            refine lv_ldiv hx hb d_Mo_badnessOf_88 (by decide) ?_
            refine lv_l2i (v := ((((t * t) * t) + 131072) / 262144).toInt32) hx hb d_Mo_badnessOf_89 rfl ?_
            exact hv_iret hE hr hlocks hI hK (v := ((((t * t) * t) + 131072) / 262144).toInt32) (⟨by simp only [bnF, m3, m11, n26, n46, n64, if_true, if_false], rfl⟩) (by decide) (by decide) d_Mo_badnessOf_90
          · skip
            have m64 : ¬ _ := fun q => c64 ((lg_cmp_le _ _).mpr q)
            have n64 := Int64.not_le.mp m64
            refine lv_sipush (v := 10000) hx hb d_Mo_badnessOf_67 (by decide) ?_
            refine lv_goto (tgt := 90) hx hb d_Mo_badnessOf_70 (by decide) ?_
            exact hv_iret hE hr hlocks hI hK (v := 10000) (⟨by simp only [bnF, m3, m11, n26, n46, n64, if_true, if_false], rfl⟩) (by decide) (by decide) d_Mo_badnessOf_90
        · skip
          have m46 : ¬ _ := fun q => c46 ((lg_cmp_lt _ _).mpr q)
          have n46 := Int64.not_lt.mp m46
          refine lv_lload_n hx hb d_Mo_badnessOf_49 rfl (lv_at hl 1 rfl) ?_
          refine lv_lload_n hx hb d_Mo_badnessOf_50 rfl (lv_at hl 2 rfl) ?_
          refine lv_ldc2 (v := 297) hx hb hown (hts _ w709) d_Mo_badnessOf_51 ?_
          refine lv_ldiv hx hb d_Mo_badnessOf_54 (by decide) ?_
          refine lv_ldiv hx hb d_Mo_badnessOf_55 (div297L m46) ?_
          refine lv_lstore (lv' := [(4, .long (t / (s9 / 297))), (0, .long t), (2, .long s9)]) hx hb d_Mo_badnessOf_56 hl (by decide) rfl (fun ls hl => ?_)
          refine lv_lload hx hb d_Mo_badnessOf_58 (lv_at hl 0 rfl) ?_
          refine lv_ldc2 (v := 1290) hx hb hown (hts _ w711) d_Mo_badnessOf_60 ?_
          refine W.lcmp hx hb d_Mo_badnessOf_63 ?_
          refine lv_if_le (tgt := 73) hx hb d_Mo_badnessOf_64 (by decide) (fun c64 => ?_) (fun c64 => ?_)
          · skip
            have m64 := (lg_cmp_le _ _).mp c64
            have n64 := Int64.not_lt.mpr m64
            refine lv_lload hx hb d_Mo_badnessOf_73 (lv_at hl 0 rfl) ?_
            refine lv_lload hx hb d_Mo_badnessOf_75 (lv_at hl 0 rfl) ?_
            refine lv_lmul hx hb d_Mo_badnessOf_77 ?_
            refine lv_lload hx hb d_Mo_badnessOf_78 (lv_at hl 0 rfl) ?_
            refine lv_lmul hx hb d_Mo_badnessOf_80 ?_
            refine lv_ldc2 (v := 131072) hx hb hown (hts _ w712) d_Mo_badnessOf_81 ?_
            refine lv_ladd hx hb d_Mo_badnessOf_84 ?_
            refine lv_ldc2 (v := 262144) hx hb hown (hts _ w713) d_Mo_badnessOf_85 ?_
            refine lv_ldiv hx hb d_Mo_badnessOf_88 (by decide) ?_
            refine lv_l2i (v := (((((t / (s9 / 297)) * (t / (s9 / 297))) * (t / (s9 / 297))) + 131072) / 262144).toInt32) hx hb d_Mo_badnessOf_89 rfl ?_
            exact hv_iret hE hr hlocks hI hK (v := (((((t / (s9 / 297)) * (t / (s9 / 297))) * (t / (s9 / 297))) + 131072) / 262144).toInt32) (⟨by simp only [bnF, m3, m11, n26, n46, n64, if_true, if_false], rfl⟩) (by decide) (by decide) d_Mo_badnessOf_90
          · skip
            have m64 : ¬ _ := fun q => c64 ((lg_cmp_le _ _).mpr q)
            have n64 := Int64.not_le.mp m64
            refine lv_sipush (v := 10000) hx hb d_Mo_badnessOf_67 (by decide) ?_
            refine lv_goto (tgt := 90) hx hb d_Mo_badnessOf_70 (by decide) ?_
            exact hv_iret hE hr hlocks hI hK (v := 10000) (⟨by simp only [bnF, m3, m11, n26, n46, n64, if_true, if_false], rfl⟩) (by decide) (by decide) d_Mo_badnessOf_90
      · skip
        have m26 : ¬ _ := fun q => c26 ((lg_cmp_gt _ _).mpr q)
        have n26 := Int64.not_lt.mp m26
        refine lv_lload_n hx hb d_Mo_badnessOf_29 rfl (lv_at hl 1 rfl) ?_
        refine lv_ldc2 (v := 297) hx hb hown (hts _ w709) d_Mo_badnessOf_30 ?_
        refine lv_lmul hx hb d_Mo_badnessOf_33 ?_
        refine lv_lload_n hx hb d_Mo_badnessOf_34 rfl (lv_at hl 2 rfl) ?_
        refine lv_ldiv hx hb d_Mo_badnessOf_35 m11 ?_
        refine lv_lstore (lv' := [(4, .long ((t * 297) / s9)), (0, .long t), (2, .long s9)]) hx hb d_Mo_badnessOf_36 hl (by decide) rfl (fun ls hl => ?_)
        refine lv_goto (tgt := 58) hx hb d_Mo_badnessOf_38 (by decide) ?_
        refine lv_lload hx hb d_Mo_badnessOf_58 (lv_at hl 0 rfl) ?_
        refine lv_ldc2 (v := 1290) hx hb hown (hts _ w711) d_Mo_badnessOf_60 ?_
        refine W.lcmp hx hb d_Mo_badnessOf_63 ?_
        refine lv_if_le (tgt := 73) hx hb d_Mo_badnessOf_64 (by decide) (fun c64 => ?_) (fun c64 => ?_)
        · skip
          have m64 := (lg_cmp_le _ _).mp c64
          have n64 := Int64.not_lt.mpr m64
          refine lv_lload hx hb d_Mo_badnessOf_73 (lv_at hl 0 rfl) ?_
          refine lv_lload hx hb d_Mo_badnessOf_75 (lv_at hl 0 rfl) ?_
          refine lv_lmul hx hb d_Mo_badnessOf_77 ?_
          refine lv_lload hx hb d_Mo_badnessOf_78 (lv_at hl 0 rfl) ?_
          refine lv_lmul hx hb d_Mo_badnessOf_80 ?_
          refine lv_ldc2 (v := 131072) hx hb hown (hts _ w712) d_Mo_badnessOf_81 ?_
          refine lv_ladd hx hb d_Mo_badnessOf_84 ?_
          refine lv_ldc2 (v := 262144) hx hb hown (hts _ w713) d_Mo_badnessOf_85 ?_
          refine lv_ldiv hx hb d_Mo_badnessOf_88 (by decide) ?_
          refine lv_l2i (v := ((((((t * 297) / s9) * ((t * 297) / s9)) * ((t * 297) / s9)) + 131072) / 262144).toInt32) hx hb d_Mo_badnessOf_89 rfl ?_
          exact hv_iret hE hr hlocks hI hK (v := ((((((t * 297) / s9) * ((t * 297) / s9)) * ((t * 297) / s9)) + 131072) / 262144).toInt32) (⟨by simp only [bnF, m3, m11, n26, n64, if_true, if_false], rfl⟩) (by decide) (by decide) d_Mo_badnessOf_90
        · skip
          have m64 : ¬ _ := fun q => c64 ((lg_cmp_le _ _).mpr q)
          have n64 := Int64.not_le.mp m64
          refine lv_sipush (v := 10000) hx hb d_Mo_badnessOf_67 (by decide) ?_
          refine lv_goto (tgt := 90) hx hb d_Mo_badnessOf_70 (by decide) ?_
          exact hv_iret hE hr hlocks hI hK (v := 10000) (⟨by simp only [bnF, m3, m11, n26, n64, if_true, if_false], rfl⟩) (by decide) (by decide) d_Mo_badnessOf_90
    · skip
      have m11 := (lg_cmp_eq _ _).mp c11
      refine lv_sipush (v := 10000) hx hb d_Mo_badnessOf_14 (by decide) ?_
      exact hv_iret hE hr hlocks hI hK (v := 10000) (⟨by rw [bnF, if_neg m3, if_pos m11], rfl⟩) (by decide) (by decide) d_Mo_badnessOf_17
  · skip
    have m3 := (lg_cmp_eq _ _).mp c3
    refine lv_iconst (v := 0) hx hb d_Mo_badnessOf_6 (by decide) ?_
    exact hv_iret hE hr hlocks hI hK (v := 0) (⟨by rw [bnF, if_pos m3], rfl⟩) (by decide) (by decide) d_Mo_badnessOf_7

