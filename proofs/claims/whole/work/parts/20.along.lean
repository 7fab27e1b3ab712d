set_option maxHeartbeats 4000000 in
set_option maxRecDepth 100000 in
theorem c_Box_measureAlong (l : Launch) (hl0 : l.stackTraces = false) (b0 : Nat) (D : va_G) (cA : Nat → ClassId) (f : hv_M) (bx ca pa n : Nat) (bel dp al ex od to ov : Int32) (gc : Nat → Option Nat) (gp0 : Nat → Int32) (iv : Nat → It) (hbx : f bx = some (.inr (1, [.int bel, .ref ca, .ref pa, .int dp, .int al, .int 0, .int 0, .int 0, .int ex, .int od, .int to, .int ov]))) (hca : f ca = some (.inl (cA 3, n, .inr (.inr (.inr (.inr gc)))))) (hpa : f pa = some (.inl (cA 0, n, .inl gp0))) (hit : itsAt f n gc iv) (hn : n ≤ 100) : hv_Met l y_Box_measureAlong [Cond.code y_Box_measureAlong b_Box_measureAlong 5 none] (RM 3 1 6) b0 (Fa D cA) D CL [.ref bx] f (fun v g => v = none ∧ ∃ (w h d : Int32) (gp : Nat → Int32), alongF iv n 0 0 0 0 gp0 = some (w, h, d, gp) ∧ g bx = some (.inr (1, [.int bel, .ref ca, .ref pa, .int dp, .int al, .int w, .int h, .int d, .int ex, .int od, .int to, .int ov])) ∧ g pa = some (.inl (cA 0, n, .inl gp)) ∧ ∀ z, z ≠ bx → z ≠ pa → g z = f z) (fun E g => E = "java/lang/IllegalStateException" ∧ alongF iv n 0 0 0 0 gp0 = none ∧ ∀ z, z ≠ bx → z ≠ pa → g z = f z) := by
  refine hv_Met.of (own := "BoxPacker$Box") (by decide) rfl (Nat.le_of_ble_eq_true rfl) ?_
  intro p e s m below meth c hE hml hout hr hlocks hname hK hI ls hl
  have hl : lv_has ls 5 [(0, .ref bx)] := hl
  obtain ⟨hx, hb, hown, hts, hVK⟩ := id hE
  refine lv_iconst (v := 0) hx hb d_Box_measureAlong_0 (by decide) ?_
  refine lv_istore_n (lv' := [(1, .int 0), (0, .ref bx)]) hx hb d_Box_measureAlong_1 rfl hl (by decide) rfl (fun ls hl => ?_)
  have loop : ∀ (k i : Nat) (w h d : Int32) (gp : Nat → Int32) (g : hv_M) (H : Heap) (locs : List Loc) (ls : Array Slot), i + k = n → g bx = some (.inr (1, [.int bel, .ref ca, .ref pa, .int dp, .int al, .int w, .int h, .int d, .int ex, .int od, .int to, .int ov])) → g pa = some (.inl (cA 0, n, .inl gp)) → (∀ z, z ≠ bx → z ≠ pa → g z = f z) → alongF iv k i w h d gp = alongF iv n 0 0 0 0 gp0 → hv_I D CL b0 g s.heap H locs → lv_has ls 5 [(0, .ref bx), (1, .int (nI i))] → W p l e (RM 3 1 6) s m ([.ref bx] : List Value).toArray below meth c H locs 0 0 (xh_MQ below (hv_Q b0 (Fa D cA) D CL (fun v g => v = none ∧ ∃ (w h d : Int32) (gp : Nat → Int32), alongF iv n 0 0 0 0 gp0 = some (w, h, d, gp) ∧ g bx = some (.inr (1, [.int bel, .ref ca, .ref pa, .int dp, .int al, .int w, .int h, .int d, .int ex, .int od, .int to, .int ov])) ∧ g pa = some (.inl (cA 0, n, .inl gp)) ∧ ∀ z, z ≠ bx → z ≠ pa → g z = f z) (fun E g => E = "java/lang/IllegalStateException" ∧ alongF iv n 0 0 0 0 gp0 = none ∧ ∀ z, z ≠ bx → z ≠ pa → g z = f z)) s 1 6 (fun q => b0 ≤ q)) (F0 m 2 ls []) := by
    intro k
    induction k with
    | zero =>
      intro i w h d gp g H locs ls hik hgb hgp hfo heq hI hl
      have hgc : g ca = some (.inl (cA 3, n, .inr (.inr (.inr (.inr gc))))) := by rw [hfo ca (hv_ne hca hbx (by simp)) (hv_ne hca hpa (by simp))]; exact hca
      refine lv_iload_n hx hb d_Box_measureAlong_2 rfl (lv_at hl 1 rfl) ?_
      refine lv_aload_n hx hb d_Box_measureAlong_3 rfl (lv_at hl 0 rfl) ?_
      refine hv_get hE k_Box hI 1 (by decide) w327 hgb rfl d_Box_measureAlong_4 ?_
      refine hv_alen hE hI 3 hgc rfl (z := nI n) rfl d_Box_measureAlong_7 ?_
      refine lv_icmp_ge (tgt := 166) hx hb d_Box_measureAlong_8 (by decide) (fun c8 => ?_) (fun c8 => ?_)
      · skip
        exact hv_vret hE hr hlocks hI hK (⟨rfl, w, h, d, gp, heq.symm, hgb, hgp, hfo⟩) (by decide) (by decide) d_Box_measureAlong_166
      · skip
        exact absurd (nI_le (by omega) (by omega)) c8
    | succ k ih =>
      intro i w h d gp g H locs ls hik hgb hgp hfo heq hI hl
      have hgc : g ca = some (.inl (cA 3, n, .inr (.inr (.inr (.inr gc))))) := by rw [hfo ca (hv_ne hca hbx (by simp)) (hv_ne hca hpa (by simp))]; exact hca
      obtain ⟨q, hq1, hq2⟩ := hit i (by omega)
      rcases hiv : iv i with ⟨t, iw, ih9, id9, inn, z9⟩ | ⟨iw, a9, b9, c9, e9⟩
      · rw [hiv] at hq2
        have hgq : g q = some (.inr (2, [.int t, .int iw, .int ih9, .int id9, va_rf inn, .int z9])) := by rw [hfo q (hv_ne hq2 hbx (by simp [itE])) (hv_ne hq2 hpa (by simp [itE]))]; exact hq2
        refine lv_iload_n hx hb d_Box_measureAlong_2 rfl (lv_at hl 1 rfl) ?_
        refine lv_aload_n hx hb d_Box_measureAlong_3 rfl (lv_at hl 0 rfl) ?_
        refine hv_get hE k_Box hI 1 (by decide) w327 hgb rfl d_Box_measureAlong_4 ?_
        refine hv_alen hE hI 3 hgc rfl (z := nI n) rfl d_Box_measureAlong_7 ?_
        refine lv_icmp_ge (tgt := 166) hx hb d_Box_measureAlong_8 (by decide) (fun c8 => ?_) (fun c8 => ?_)
        · skip
          exact absurd c8 (nI_ge (by omega) (by omega))
        · skip
          refine lv_aload_n hx hb d_Box_measureAlong_11 rfl (lv_at hl 0 rfl) ?_
          refine hv_get hE k_Box hI 2 (by decide) w329 hgb rfl d_Box_measureAlong_12 ?_
          refine lv_iload_n hx hb d_Box_measureAlong_15 rfl (lv_at hl 1 rfl) ?_
          refine lv_aload_n hx hb d_Box_measureAlong_16 rfl (lv_at hl 0 rfl) ?_
          refine hv_get hE k_Box hI 5 (by decide) w335 hgb rfl d_Box_measureAlong_17 ?_
          refine hv_iast hE hI 0 hgp rfl (pk_in i n (by omega) rfl (by omega)) d_Box_measureAlong_20 (fun H locs hI => ?_)
          rw [nI_cl (by omega)] at hI
          obtain ⟨g1, eg1⟩ : ∃ z : hv_M, z = hv_up g pa (.inl (cA 0, n, .inl (upd gp i w))) := ⟨_, rfl⟩
          have hI : hv_I D CL b0 g1 s.heap H locs := by rw [eg1]; exact hI
          have h2 : g1 bx = some (.inr (1, [.int bel, .ref ca, .ref pa, .int dp, .int al, .int w, .int h, .int d, .int ex, .int od, .int to, .int ov])) := by rw [eg1]; rw [hv_up_ne _ _ (hv_ne hgb hgp (by simp))]; exact hgb
          have h3 : g1 pa = some (.inl (cA 0, n, .inl (upd gp i w))) := by rw [eg1]; exact hv_up_self _ _ _
          have h4 : g1 ca = some (.inl (cA 3, n, .inr (.inr (.inr (.inr gc))))) := by rw [eg1]; rw [hv_up_ne _ _ (hv_ne hgc hgp (by simp))]; exact hgc
          have h5 : g1 q = some (.inr (2, [.int t, .int iw, .int ih9, .int id9, va_rf inn, .int z9])) := by rw [eg1]; rw [hv_up_ne _ _ (hv_ne hgq hgp (by simp))]; exact hgq
          refine lv_aload_n hx hb d_Box_measureAlong_21 rfl (lv_at hl 0 rfl) ?_
          refine hv_get hE k_Box hI 1 (by decide) w327 h2 rfl d_Box_measureAlong_22 ?_
          refine lv_iload_n hx hb d_Box_measureAlong_25 rfl (lv_at hl 1 rfl) ?_
          refine hv_aald hE hI 3 h4 rfl (pk_in i n (by omega) rfl (by omega)) d_Box_measureAlong_26 ?_
          rw [nI_cl (by omega)]
          rw [hq1]
          refine W.eq (g2 := F0 m 27 ls [.ref q]) rfl ?_
          refine lv_astore (lv' := [(4, .ref q), (0, .ref bx), (1, .int (nI i))]) hx hb d_Box_measureAlong_27 hl (by decide) rfl (fun ls hl => ?_)
          refine lv_aload hx hb d_Box_measureAlong_29 (lv_at hl 0 rfl) ?_
          refine hv_instS hE hI h5 rfl w317 d_Box_measureAlong_31 ?_
          refine lv_if_eq (tgt := 121) hx hb d_Box_measureAlong_34 (by decide) (fun c34 => ?_) (fun c34 => ?_)
          · skip
            exact absurd c34 (by decide)
          · skip
            refine lv_aload hx hb d_Box_measureAlong_37 (lv_at hl 0 rfl) ?_
            refine hv_castS hE hI h5 rfl w317 d_Box_measureAlong_39 ?_
            refine lv_astore_n (lv' := [(2, .ref q), (4, .ref q), (0, .ref bx), (1, .int (nI i))]) hx hb d_Box_measureAlong_42 rfl hl (by decide) rfl (fun ls hl => ?_)
            refine lv_aload_n hx hb d_Box_measureAlong_43 rfl (lv_at hl 2 rfl) ?_
            refine lv_aload_n hx hb d_Box_measureAlong_44 rfl (lv_at hl 2 rfl) ?_
            refine hv_get hE k_Box hI 5 (by decide) w335 h2 rfl d_Box_measureAlong_45 ?_
            refine lv_i2l (v := w.toInt64) hx hb d_Box_measureAlong_48 rfl ?_
            refine lv_aload_n hx hb d_Box_measureAlong_49 rfl (lv_at hl 0 rfl) ?_
            refine hv_getN hE k_Solid hI 1 (by decide) w169 h5 rfl d_Box_measureAlong_50 ?_
            refine hv_SNp (As := [.int iw]) (rest := [.long w.toInt64, .ref bx]) hE hml hK hI (c_BP_known1 l hl0 b0 D cA g1 iw) cd_BP_known1 w403 w404 rfl rfl rfl hl.1 (Nat.le_of_ble_eq_true rfl) d_Box_measureAlong_53 ⟨by decide, by decide⟩ ⟨by decide, by decide⟩ (fun H locs hI => ?_)
            refine W.eq (g2 := F0 m 56 ls [.int (kn iw 0), .long w.toInt64, .ref bx]) rfl ?_
            refine lv_i2l (v := (kn iw 0).toInt64) hx hb d_Box_measureAlong_56 rfl ?_
            by_cases hz57 : sz (w.toInt64 + ((kn iw 0).toInt64)) = true
            rotate_left
            · refine hv_SN (As := [.long w.toInt64, .long ((kn iw 0).toInt64)]) (rest := [.ref bx]) hE hml hK hI (c_BP_sumX l hl0 b0 D cA g1 w.toInt64 ((kn iw 0).toInt64) hz57) cd_BP_sum w384 w385 rfl hl.1 (Nat.le_of_ble_eq_true rfl) d_Box_measureAlong_57 ⟨by decide, by decide⟩ ⟨by decide, by decide⟩ (fun v9 g9 H locs hp hI => hp.elim) (fun q9 E9 ce9 g9 H locs hp hI hce hcv hcl => ?_)
              obtain ⟨hE9, hg9, -⟩ := hp
              rw [hg9] at hI
              rw [hE9] at hcl
              exact hv_out hout hlocks hI hK hce hcv hcl (⟨rfl, by rw [← heq]; simp [alongF, hiv, jsum_f hz57], fun z z1 z2 => by rw [eg1, hv_up_ne _ _ z2]; exact hfo z z1 z2⟩) (by decide) (by decide)
            refine hv_SNp (As := [.long w.toInt64, .long ((kn iw 0).toInt64)]) (rest := [.ref bx]) hE hml hK hI (c_BP_sumR l hl0 b0 D cA g1 w.toInt64 ((kn iw 0).toInt64) hz57) cd_BP_sum w384 w385 rfl rfl rfl hl.1 (Nat.le_of_ble_eq_true rfl) d_Box_measureAlong_57 ⟨by decide, by decide⟩ ⟨by decide, by decide⟩ (fun H locs hI => ?_)
            refine W.eq (g2 := F0 m 60 ls [.int ((w.toInt64 + ((kn iw 0).toInt64)).toInt32), .ref bx]) rfl ?_
            refine hv_put hE k_Box hI 5 (by decide) w335 h2 rfl rfl rfl (Nat.le_of_ble_eq_true rfl) d_Box_measureAlong_60 (fun H locs hI => ?_)
            obtain ⟨g6, eg6⟩ : ∃ z : hv_M, z = hv_up g1 bx (.inr (1, [.int bel, .ref ca, .ref pa, .int dp, .int al, .int ((w.toInt64 + ((kn iw 0).toInt64)).toInt32), .int h, .int d, .int ex, .int od, .int to, .int ov])) := ⟨_, rfl⟩
            have hI : hv_I D CL b0 g6 s.heap H locs := by rw [eg6]; exact hI
            have h7 : g6 bx = some (.inr (1, [.int bel, .ref ca, .ref pa, .int dp, .int al, .int ((w.toInt64 + ((kn iw 0).toInt64)).toInt32), .int h, .int d, .int ex, .int od, .int to, .int ov])) := by rw [eg6]; exact hv_up_self _ _ _
            have h8 : g6 pa = some (.inl (cA 0, n, .inl (upd gp i w))) := by rw [eg6]; rw [hv_up_ne _ _ (hv_ne h3 h2 (by simp))]; exact h3
            have h9 : g6 ca = some (.inl (cA 3, n, .inr (.inr (.inr (.inr gc))))) := by rw [eg6]; rw [hv_up_ne _ _ (hv_ne h4 h2 (by simp))]; exact h4
            have h10 : g6 q = some (.inr (2, [.int t, .int iw, .int ih9, .int id9, va_rf inn, .int z9])) := by rw [eg6]; rw [hv_up_ne _ _ (hv_ne h5 h2 (by simp))]; exact h5
            refine lv_aload_n hx hb d_Box_measureAlong_63 rfl (lv_at hl 2 rfl) ?_
            refine lv_aload_n hx hb d_Box_measureAlong_64 rfl (lv_at hl 2 rfl) ?_
            refine hv_get hE k_Box hI 6 (by decide) w337 h7 rfl d_Box_measureAlong_65 ?_
            refine lv_aload_n hx hb d_Box_measureAlong_68 rfl (lv_at hl 0 rfl) ?_
            refine hv_getN hE k_Solid hI 2 (by decide) w172 h10 rfl d_Box_measureAlong_69 ?_
            refine hv_SNp (As := [.int ih9]) (rest := [.int h, .ref bx]) hE hml hK hI (c_BP_known1 l hl0 b0 D cA g6 ih9) cd_BP_known1 w403 w404 rfl rfl rfl hl.1 (Nat.le_of_ble_eq_true rfl) d_Box_measureAlong_72 ⟨by decide, by decide⟩ ⟨by decide, by decide⟩ (fun H locs hI => ?_)
            refine W.eq (g2 := F0 m 75 ls [.int (kn ih9 0), .int h, .ref bx]) rfl ?_
            refine lv_i2l (v := (kn ih9 0).toInt64) hx hb d_Box_measureAlong_75 rfl ?_
            refine lv_aload_n hx hb d_Box_measureAlong_76 rfl (lv_at hl 0 rfl) ?_
            refine hv_getN hE k_Solid hI 5 (by decide) w181 h10 rfl d_Box_measureAlong_77 ?_
            refine lv_ineg hx hb d_Box_measureAlong_80 ?_
            refine lv_i2l (v := (-z9).toInt64) hx hb d_Box_measureAlong_81 rfl ?_
            by_cases hz82 : sz (((kn ih9 0).toInt64) + ((-z9).toInt64)) = true
            rotate_left
            · refine hv_SN (As := [.long ((kn ih9 0).toInt64), .long ((-z9).toInt64)]) (rest := [.int h, .ref bx]) hE hml hK hI (c_BP_sumX l hl0 b0 D cA g6 ((kn ih9 0).toInt64) ((-z9).toInt64) hz82) cd_BP_sum w384 w385 rfl hl.1 (Nat.le_of_ble_eq_true rfl) d_Box_measureAlong_82 ⟨by decide, by decide⟩ ⟨by decide, by decide⟩ (fun v9 g9 H locs hp hI => hp.elim) (fun q9 E9 ce9 g9 H locs hp hI hce hcv hcl => ?_)
              obtain ⟨hE9, hg9, -⟩ := hp
              rw [hg9] at hI
              rw [hE9] at hcl
              exact hv_out hout hlocks hI hK hce hcv hcl (⟨rfl, by rw [← heq]; simp [alongF, hiv, jsum_t hz57, jsum_f hz82], fun z z1 z2 => by rw [eg6, hv_up_ne _ _ z1, eg1, hv_up_ne _ _ z2]; exact hfo z z1 z2⟩) (by decide) (by decide)
            refine hv_SNp (As := [.long ((kn ih9 0).toInt64), .long ((-z9).toInt64)]) (rest := [.int h, .ref bx]) hE hml hK hI (c_BP_sumR l hl0 b0 D cA g6 ((kn ih9 0).toInt64) ((-z9).toInt64) hz82) cd_BP_sum w384 w385 rfl rfl rfl hl.1 (Nat.le_of_ble_eq_true rfl) d_Box_measureAlong_82 ⟨by decide, by decide⟩ ⟨by decide, by decide⟩ (fun H locs hI => ?_)
            refine W.eq (g2 := F0 m 85 ls [.int ((((kn ih9 0).toInt64) + ((-z9).toInt64)).toInt32), .int h, .ref bx]) rfl ?_
            refine va_mmax hx hb (hml.trans hl.1.symm) hown (hts _ w318) (hts _ w319) (hts _ w14) (hts _ w320) (by decide) (Nat.le_of_ble_eq_true rfl) (by decide) (by decide) d_Box_measureAlong_85 ?_
            refine W.eq (g2 := F0 m 88 ls [.int (mx h ((((kn ih9 0).toInt64) + ((-z9).toInt64)).toInt32)), .ref bx]) rfl ?_
            refine hv_put hE k_Box hI 6 (by decide) w337 h7 rfl rfl rfl (Nat.le_of_ble_eq_true rfl) d_Box_measureAlong_88 (fun H locs hI => ?_)
            obtain ⟨g11, eg11⟩ : ∃ z : hv_M, z = hv_up g6 bx (.inr (1, [.int bel, .ref ca, .ref pa, .int dp, .int al, .int ((w.toInt64 + ((kn iw 0).toInt64)).toInt32), .int (mx h ((((kn ih9 0).toInt64) + ((-z9).toInt64)).toInt32)), .int d, .int ex, .int od, .int to, .int ov])) := ⟨_, rfl⟩
            have hI : hv_I D CL b0 g11 s.heap H locs := by rw [eg11]; exact hI
            have h12 : g11 bx = some (.inr (1, [.int bel, .ref ca, .ref pa, .int dp, .int al, .int ((w.toInt64 + ((kn iw 0).toInt64)).toInt32), .int (mx h ((((kn ih9 0).toInt64) + ((-z9).toInt64)).toInt32)), .int d, .int ex, .int od, .int to, .int ov])) := by rw [eg11]; exact hv_up_self _ _ _
            have h13 : g11 pa = some (.inl (cA 0, n, .inl (upd gp i w))) := by rw [eg11]; rw [hv_up_ne _ _ (hv_ne h8 h7 (by simp))]; exact h8
            have h14 : g11 ca = some (.inl (cA 3, n, .inr (.inr (.inr (.inr gc))))) := by rw [eg11]; rw [hv_up_ne _ _ (hv_ne h9 h7 (by simp))]; exact h9
            have h15 : g11 q = some (.inr (2, [.int t, .int iw, .int ih9, .int id9, va_rf inn, .int z9])) := by rw [eg11]; rw [hv_up_ne _ _ (hv_ne h10 h7 (by simp))]; exact h10
            refine lv_aload_n hx hb d_Box_measureAlong_91 rfl (lv_at hl 2 rfl) ?_
            refine lv_aload_n hx hb d_Box_measureAlong_92 rfl (lv_at hl 2 rfl) ?_
            refine hv_get hE k_Box hI 7 (by decide) w339 h12 rfl d_Box_measureAlong_93 ?_
            refine lv_aload_n hx hb d_Box_measureAlong_96 rfl (lv_at hl 0 rfl) ?_
            refine hv_getN hE k_Solid hI 3 (by decide) w175 h15 rfl d_Box_measureAlong_97 ?_
            refine hv_SNp (As := [.int id9]) (rest := [.int d, .ref bx]) hE hml hK hI (c_BP_known1 l hl0 b0 D cA g11 id9) cd_BP_known1 w403 w404 rfl rfl rfl hl.1 (Nat.le_of_ble_eq_true rfl) d_Box_measureAlong_100 ⟨by decide, by decide⟩ ⟨by decide, by decide⟩ (fun H locs hI => ?_)
            refine W.eq (g2 := F0 m 103 ls [.int (kn id9 0), .int d, .ref bx]) rfl ?_
            refine lv_i2l (v := (kn id9 0).toInt64) hx hb d_Box_measureAlong_103 rfl ?_
            refine lv_aload_n hx hb d_Box_measureAlong_104 rfl (lv_at hl 0 rfl) ?_
            refine hv_getN hE k_Solid hI 5 (by decide) w181 h15 rfl d_Box_measureAlong_105 ?_
            refine lv_i2l (v := z9.toInt64) hx hb d_Box_measureAlong_108 rfl ?_
            by_cases hz109 : sz (((kn id9 0).toInt64) + z9.toInt64) = true
            rotate_left
            · refine hv_SN (As := [.long ((kn id9 0).toInt64), .long z9.toInt64]) (rest := [.int d, .ref bx]) hE hml hK hI (c_BP_sumX l hl0 b0 D cA g11 ((kn id9 0).toInt64) z9.toInt64 hz109) cd_BP_sum w384 w385 rfl hl.1 (Nat.le_of_ble_eq_true rfl) d_Box_measureAlong_109 ⟨by decide, by decide⟩ ⟨by decide, by decide⟩ (fun v9 g9 H locs hp hI => hp.elim) (fun q9 E9 ce9 g9 H locs hp hI hce hcv hcl => ?_)
              obtain ⟨hE9, hg9, -⟩ := hp
              rw [hg9] at hI
              rw [hE9] at hcl
              exact hv_out hout hlocks hI hK hce hcv hcl (⟨rfl, by rw [← heq]; simp [alongF, hiv, jsum_t hz57, jsum_t hz82, jsum_f hz109], fun z z1 z2 => by rw [eg11, hv_up_ne _ _ z1, eg6, hv_up_ne _ _ z1, eg1, hv_up_ne _ _ z2]; exact hfo z z1 z2⟩) (by decide) (by decide)
            refine hv_SNp (As := [.long ((kn id9 0).toInt64), .long z9.toInt64]) (rest := [.int d, .ref bx]) hE hml hK hI (c_BP_sumR l hl0 b0 D cA g11 ((kn id9 0).toInt64) z9.toInt64 hz109) cd_BP_sum w384 w385 rfl rfl rfl hl.1 (Nat.le_of_ble_eq_true rfl) d_Box_measureAlong_109 ⟨by decide, by decide⟩ ⟨by decide, by decide⟩ (fun H locs hI => ?_)
            refine W.eq (g2 := F0 m 112 ls [.int ((((kn id9 0).toInt64) + z9.toInt64).toInt32), .int d, .ref bx]) rfl ?_
            refine va_mmax hx hb (hml.trans hl.1.symm) hown (hts _ w318) (hts _ w319) (hts _ w14) (hts _ w320) (by decide) (Nat.le_of_ble_eq_true rfl) (by decide) (by decide) d_Box_measureAlong_112 ?_
            refine W.eq (g2 := F0 m 115 ls [.int (mx d ((((kn id9 0).toInt64) + z9.toInt64).toInt32)), .ref bx]) rfl ?_
            refine hv_put hE k_Box hI 7 (by decide) w339 h12 rfl rfl rfl (Nat.le_of_ble_eq_true rfl) d_Box_measureAlong_115 (fun H locs hI => ?_)
            obtain ⟨g16, eg16⟩ : ∃ z : hv_M, z = hv_up g11 bx (.inr (1, [.int bel, .ref ca, .ref pa, .int dp, .int al, .int ((w.toInt64 + ((kn iw 0).toInt64)).toInt32), .int (mx h ((((kn ih9 0).toInt64) + ((-z9).toInt64)).toInt32)), .int (mx d ((((kn id9 0).toInt64) + z9.toInt64).toInt32)), .int ex, .int od, .int to, .int ov])) := ⟨_, rfl⟩
            have hI : hv_I D CL b0 g16 s.heap H locs := by rw [eg16]; exact hI
            have h17 : g16 bx = some (.inr (1, [.int bel, .ref ca, .ref pa, .int dp, .int al, .int ((w.toInt64 + ((kn iw 0).toInt64)).toInt32), .int (mx h ((((kn ih9 0).toInt64) + ((-z9).toInt64)).toInt32)), .int (mx d ((((kn id9 0).toInt64) + z9.toInt64).toInt32)), .int ex, .int od, .int to, .int ov])) := by rw [eg16]; exact hv_up_self _ _ _
            have h18 : g16 pa = some (.inl (cA 0, n, .inl (upd gp i w))) := by rw [eg16]; rw [hv_up_ne _ _ (hv_ne h13 h12 (by simp))]; exact h13
            have h19 : g16 ca = some (.inl (cA 3, n, .inr (.inr (.inr (.inr gc))))) := by rw [eg16]; rw [hv_up_ne _ _ (hv_ne h14 h12 (by simp))]; exact h14
            have h20 : g16 q = some (.inr (2, [.int t, .int iw, .int ih9, .int id9, va_rf inn, .int z9])) := by rw [eg16]; rw [hv_up_ne _ _ (hv_ne h15 h12 (by simp))]; exact h15
            refine lv_goto (tgt := 160) hx hb d_Box_measureAlong_118 (by decide) ?_
            obtain ⟨v21, ev21⟩ : ∃ y : Int32, y = (nI i) + 1 := ⟨_, rfl⟩
            refine lv_iinc (v := v21) (lv' := [(1, .int v21), (2, .ref q), (4, .ref q), (0, .ref bx)]) hx hb d_Box_measureAlong_160 hl (k := 3) rfl (by rw [ev21]; rfl) (by decide) rfl (fun ls hl => ?_)
            refine lv_goto (tgt := 2) hx hb d_Box_measureAlong_163 (by decide) ?_
            exact ih (i + 1) ((w.toInt64 + ((kn iw 0).toInt64)).toInt32) (mx h ((((kn ih9 0).toInt64) + ((-z9).toInt64)).toInt32)) (mx d ((((kn id9 0).toInt64) + z9.toInt64).toInt32)) _ _ _ _ ls (by omega) h17 h18 (fun z z1 z2 => by rw [eg16, hv_up_ne _ _ z1, eg11, hv_up_ne _ _ z1, eg6, hv_up_ne _ _ z1, eg1, hv_up_ne _ _ z2]; exact hfo z z1 z2) (by rw [← heq]; simp [alongF, hiv, jsum_t hz57, jsum_t hz82, jsum_t hz109]) hI (by rw [← nI_1, ← ev21]; exact lv_sub hl [3, 0] rfl)
      · rw [hiv] at hq2
        have hgq : g q = some (.inr (3, [.int iw, .int a9, .int b9, .int c9, .int e9])) := by rw [hfo q (hv_ne hq2 hbx (by simp [itE])) (hv_ne hq2 hpa (by simp [itE]))]; exact hq2
        refine lv_iload_n hx hb d_Box_measureAlong_2 rfl (lv_at hl 1 rfl) ?_
        refine lv_aload_n hx hb d_Box_measureAlong_3 rfl (lv_at hl 0 rfl) ?_
        refine hv_get hE k_Box hI 1 (by decide) w327 hgb rfl d_Box_measureAlong_4 ?_
        refine hv_alen hE hI 3 hgc rfl (z := nI n) rfl d_Box_measureAlong_7 ?_
        refine lv_icmp_ge (tgt := 166) hx hb d_Box_measureAlong_8 (by decide) (fun c8 => ?_) (fun c8 => ?_)
        · skip
          exact absurd c8 (nI_ge (by omega) (by omega))
        · skip
          refine lv_aload_n hx hb d_Box_measureAlong_11 rfl (lv_at hl 0 rfl) ?_
          refine hv_get hE k_Box hI 2 (by decide) w329 hgb rfl d_Box_measureAlong_12 ?_
          refine lv_iload_n hx hb d_Box_measureAlong_15 rfl (lv_at hl 1 rfl) ?_
          refine lv_aload_n hx hb d_Box_measureAlong_16 rfl (lv_at hl 0 rfl) ?_
          refine hv_get hE k_Box hI 5 (by decide) w335 hgb rfl d_Box_measureAlong_17 ?_
          refine hv_iast hE hI 0 hgp rfl (pk_in i n (by omega) rfl (by omega)) d_Box_measureAlong_20 (fun H locs hI => ?_)
          rw [nI_cl (by omega)] at hI
          obtain ⟨g22, eg22⟩ : ∃ z : hv_M, z = hv_up g pa (.inl (cA 0, n, .inl (upd gp i w))) := ⟨_, rfl⟩
          have hI : hv_I D CL b0 g22 s.heap H locs := by rw [eg22]; exact hI
          have h23 : g22 bx = some (.inr (1, [.int bel, .ref ca, .ref pa, .int dp, .int al, .int w, .int h, .int d, .int ex, .int od, .int to, .int ov])) := by rw [eg22]; rw [hv_up_ne _ _ (hv_ne hgb hgp (by simp))]; exact hgb
          have h24 : g22 pa = some (.inl (cA 0, n, .inl (upd gp i w))) := by rw [eg22]; exact hv_up_self _ _ _
          have h25 : g22 ca = some (.inl (cA 3, n, .inr (.inr (.inr (.inr gc))))) := by rw [eg22]; rw [hv_up_ne _ _ (hv_ne hgc hgp (by simp))]; exact hgc
          have h26 : g22 q = some (.inr (3, [.int iw, .int a9, .int b9, .int c9, .int e9])) := by rw [eg22]; rw [hv_up_ne _ _ (hv_ne hgq hgp (by simp))]; exact hgq
          refine lv_aload_n hx hb d_Box_measureAlong_21 rfl (lv_at hl 0 rfl) ?_
          refine hv_get hE k_Box hI 1 (by decide) w327 h23 rfl d_Box_measureAlong_22 ?_
          refine lv_iload_n hx hb d_Box_measureAlong_25 rfl (lv_at hl 1 rfl) ?_
          refine hv_aald hE hI 3 h25 rfl (pk_in i n (by omega) rfl (by omega)) d_Box_measureAlong_26 ?_
          rw [nI_cl (by omega)]
          rw [hq1]
          refine W.eq (g2 := F0 m 27 ls [.ref q]) rfl ?_
          refine lv_astore (lv' := [(4, .ref q), (0, .ref bx), (1, .int (nI i))]) hx hb d_Box_measureAlong_27 hl (by decide) rfl (fun ls hl => ?_)
          refine lv_aload hx hb d_Box_measureAlong_29 (lv_at hl 0 rfl) ?_
          refine hv_instN hE hI hK h26 rfl (nm := "BoxPacker$Solid") (by decide) w317 d_Box_measureAlong_31 ?_
          refine lv_if_eq (tgt := 121) hx hb d_Box_measureAlong_34 (by decide) (fun c34 => ?_) (fun c34 => ?_)
          · skip
            refine lv_aload_n hx hb d_Box_measureAlong_121 rfl (lv_at hl 1 rfl) ?_
            refine hv_get hE k_Box hI 1 (by decide) w327 h23 rfl d_Box_measureAlong_122 ?_
            refine lv_iload_n hx hb d_Box_measureAlong_125 rfl (lv_at hl 2 rfl) ?_
            refine hv_aald hE hI 3 h25 rfl (pk_in i n (by omega) rfl (by omega)) d_Box_measureAlong_126 ?_
            rw [nI_cl (by omega)]
            rw [hq1]
            refine W.eq (g2 := F0 m 127 ls [.ref q]) rfl ?_
            refine lv_astore (lv' := [(4, .ref q), (0, .ref bx), (1, .int (nI i))]) hx hb d_Box_measureAlong_127 hl (by decide) rfl (fun ls hl => ?_)
            refine lv_aload hx hb d_Box_measureAlong_129 (lv_at hl 0 rfl) ?_
            refine hv_instS hE hI h26 rfl w409 d_Box_measureAlong_131 ?_
            refine lv_if_eq (tgt := 160) hx hb d_Box_measureAlong_134 (by decide) (fun c134 => ?_) (fun c134 => ?_)
            · skip
              exact absurd c134 (by decide)
            · skip
              refine lv_aload hx hb d_Box_measureAlong_137 (lv_at hl 0 rfl) ?_
              refine hv_castS hE hI h26 rfl w409 d_Box_measureAlong_139 ?_
              refine lv_astore_n (lv' := [(3, .ref q), (4, .ref q), (0, .ref bx), (1, .int (nI i))]) hx hb d_Box_measureAlong_142 rfl hl (by decide) rfl (fun ls hl => ?_)
              refine lv_aload_n hx hb d_Box_measureAlong_143 rfl (lv_at hl 2 rfl) ?_
              refine lv_aload_n hx hb d_Box_measureAlong_144 rfl (lv_at hl 2 rfl) ?_
              refine hv_get hE k_Box hI 5 (by decide) w335 h23 rfl d_Box_measureAlong_145 ?_
              refine lv_i2l (v := w.toInt64) hx hb d_Box_measureAlong_148 rfl ?_
              refine lv_aload_n hx hb d_Box_measureAlong_149 rfl (lv_at hl 0 rfl) ?_
              refine hv_getN hE k_Space hI 0 (by decide) w248 h26 rfl d_Box_measureAlong_150 ?_
              refine lv_i2l (v := iw.toInt64) hx hb d_Box_measureAlong_153 rfl ?_
              by_cases hz154 : sz (w.toInt64 + iw.toInt64) = true
              rotate_left
              · refine hv_SN (As := [.long w.toInt64, .long iw.toInt64]) (rest := [.ref bx]) hE hml hK hI (c_BP_sumX l hl0 b0 D cA g22 w.toInt64 iw.toInt64 hz154) cd_BP_sum w384 w385 rfl hl.1 (Nat.le_of_ble_eq_true rfl) d_Box_measureAlong_154 ⟨by decide, by decide⟩ ⟨by decide, by decide⟩ (fun v9 g9 H locs hp hI => hp.elim) (fun q9 E9 ce9 g9 H locs hp hI hce hcv hcl => ?_)
                obtain ⟨hE9, hg9, -⟩ := hp
                rw [hg9] at hI
                rw [hE9] at hcl
                exact hv_out hout hlocks hI hK hce hcv hcl (⟨rfl, by rw [← heq]; simp [alongF, hiv, jsum_f hz154], fun z z1 z2 => by rw [eg22, hv_up_ne _ _ z2]; exact hfo z z1 z2⟩) (by decide) (by decide)
              refine hv_SNp (As := [.long w.toInt64, .long iw.toInt64]) (rest := [.ref bx]) hE hml hK hI (c_BP_sumR l hl0 b0 D cA g22 w.toInt64 iw.toInt64 hz154) cd_BP_sum w384 w385 rfl rfl rfl hl.1 (Nat.le_of_ble_eq_true rfl) d_Box_measureAlong_154 ⟨by decide, by decide⟩ ⟨by decide, by decide⟩ (fun H locs hI => ?_)
              refine W.eq (g2 := F0 m 157 ls [.int ((w.toInt64 + iw.toInt64).toInt32), .ref bx]) rfl ?_
              refine hv_put hE k_Box hI 5 (by decide) w335 h23 rfl rfl rfl (Nat.le_of_ble_eq_true rfl) d_Box_measureAlong_157 (fun H locs hI => ?_)
              obtain ⟨g27, eg27⟩ : ∃ z : hv_M, z = hv_up g22 bx (.inr (1, [.int bel, .ref ca, .ref pa, .int dp, .int al, .int ((w.toInt64 + iw.toInt64).toInt32), .int h, .int d, .int ex, .int od, .int to, .int ov])) := ⟨_, rfl⟩
              have hI : hv_I D CL b0 g27 s.heap H locs := by rw [eg27]; exact hI
              have h28 : g27 bx = some (.inr (1, [.int bel, .ref ca, .ref pa, .int dp, .int al, .int ((w.toInt64 + iw.toInt64).toInt32), .int h, .int d, .int ex, .int od, .int to, .int ov])) := by rw [eg27]; exact hv_up_self _ _ _
              have h29 : g27 pa = some (.inl (cA 0, n, .inl (upd gp i w))) := by rw [eg27]; rw [hv_up_ne _ _ (hv_ne h24 h23 (by simp))]; exact h24
              have h30 : g27 ca = some (.inl (cA 3, n, .inr (.inr (.inr (.inr gc))))) := by rw [eg27]; rw [hv_up_ne _ _ (hv_ne h25 h23 (by simp))]; exact h25
              have h31 : g27 q = some (.inr (3, [.int iw, .int a9, .int b9, .int c9, .int e9])) := by rw [eg27]; rw [hv_up_ne _ _ (hv_ne h26 h23 (by simp))]; exact h26
              obtain ⟨v32, ev32⟩ : ∃ y : Int32, y = (nI i) + 1 := ⟨_, rfl⟩
              refine lv_iinc (v := v32) (lv' := [(1, .int v32), (3, .ref q), (4, .ref q), (0, .ref bx)]) hx hb d_Box_measureAlong_160 hl (k := 3) rfl (by rw [ev32]; rfl) (by decide) rfl (fun ls hl => ?_)
              refine lv_goto (tgt := 2) hx hb d_Box_measureAlong_163 (by decide) ?_
              exact ih (i + 1) ((w.toInt64 + iw.toInt64).toInt32) h d _ _ _ _ ls (by omega) h28 h29 (fun z z1 z2 => by rw [eg27, hv_up_ne _ _ z1, eg22, hv_up_ne _ _ z2]; exact hfo z z1 z2) (by rw [← heq]; simp [alongF, hiv, jsum_t hz154]) hI (by rw [← nI_1, ← ev32]; exact lv_sub hl [3, 0] rfl)
          · skip
            exact absurd rfl c34
  exact loop n 0 0 0 0 gp0 f _ _ ls (by omega) hbx hpa (fun z _ _ => rfl) rfl hI (lv_sub hl [1, 0] rfl)

