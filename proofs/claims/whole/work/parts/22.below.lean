set_option maxHeartbeats 4000000 in
set_option maxRecDepth 100000 in
theorem c_Box_measureBelow (l : Launch) (hl0 : l.stackTraces = false) (b0 : Nat) (D : va_G) (cA : Nat → ClassId) (f : hv_M) (bx ca pa n : Nat) (bel dp al ex od to ov gr : Int32) (gc : Nat → Option Nat) (gp0 : Nat → Int32) (iv : Nat → It) (hbx : f bx = some (.inr (1, [.int bel, .ref ca, .ref pa, .int dp, .int al, .int 0, .int 0, .int 0, .int ex, .int od, .int to, .int ov]))) (hca : f ca = some (.inl (cA 3, n, .inr (.inr (.inr (.inr gc)))))) (hpa : f pa = some (.inl (cA 0, n, .inl gp0))) (hit : itsAt f n gc iv) (hn : n ≤ 100) : hv_Met l y_Box_measureBelow [Cond.code y_Box_measureBelow b_Box_measureBelow 6 none] (RM 3 1 6) b0 (Fa D cA) D CL [.ref bx, .int gr] f (fun v g => v = none ∧ ∃ (w h d : Int32) (gp : Nat → Int32), (belowF iv n 0 0 0 0 gp0).bind (belowE gr) = some (w, h, d, gp) ∧ g bx = some (.inr (1, [.int bel, .ref ca, .ref pa, .int dp, .int al, .int w, .int h, .int d, .int ex, .int od, .int to, .int ov])) ∧ g pa = some (.inl (cA 0, n, .inl gp)) ∧ ∀ z, z ≠ bx → z ≠ pa → g z = f z) (fun E g => E = "java/lang/IllegalStateException" ∧ (belowF iv n 0 0 0 0 gp0).bind (belowE gr) = none ∧ ∀ z, z ≠ bx → z ≠ pa → g z = f z) := by
  refine hv_Met.of (own := "BoxPacker$Box") (by decide) rfl (Nat.le_of_ble_eq_true rfl) ?_
  intro p e s m below meth c hE hml hout hr hlocks hname hK hI ls hl
  have hl : lv_has ls 6 [(0, .ref bx), (1, .int gr)] := hl
  obtain ⟨hx, hb, hown, hts, hVK⟩ := id hE
  refine lv_iconst (v := 0) hx hb d_Box_measureBelow_0 (by decide) ?_
  refine lv_istore_n (lv' := [(2, .int 0), (0, .ref bx), (1, .int gr)]) hx hb d_Box_measureBelow_1 rfl hl (by decide) rfl (fun ls hl => ?_)
  have loop : ∀ (k i : Nat) (w h d : Int32) (gp : Nat → Int32) (g : hv_M) (H : Heap) (locs : List Loc) (ls : Array Slot), i + k = n → g bx = some (.inr (1, [.int bel, .ref ca, .ref pa, .int dp, .int al, .int w, .int h, .int d, .int ex, .int od, .int to, .int ov])) → g pa = some (.inl (cA 0, n, .inl gp)) → (∀ z, z ≠ bx → z ≠ pa → g z = f z) → belowF iv k i w h d gp = belowF iv n 0 0 0 0 gp0 → hv_I D CL b0 g s.heap H locs → lv_has ls 6 [(0, .ref bx), (1, .int gr), (2, .int (nI i))] → W p l e (RM 3 1 6) s m ([.ref bx, .int gr] : List Value).toArray below meth c H locs (0) (0) (xh_MQ below (hv_Q b0 (Fa D cA) D CL (fun v g => v = none ∧ ∃ (w h d : Int32) (gp : Nat → Int32), (belowF iv n 0 0 0 0 gp0).bind (belowE gr) = some (w, h, d, gp) ∧ g bx = some (.inr (1, [.int bel, .ref ca, .ref pa, .int dp, .int al, .int w, .int h, .int d, .int ex, .int od, .int to, .int ov])) ∧ g pa = some (.inl (cA 0, n, .inl gp)) ∧ ∀ z, z ≠ bx → z ≠ pa → g z = f z) (fun E g => E = "java/lang/IllegalStateException" ∧ (belowF iv n 0 0 0 0 gp0).bind (belowE gr) = none ∧ ∀ z, z ≠ bx → z ≠ pa → g z = f z)) s 1 6 (fun q => b0 ≤ q)) (F0 m 2 ls []) := by
    intro k
    induction k with
    | zero =>
      intro i w h d gp g H locs ls hik hgb hgp hfo heq hI hl
      have hgc : g ca = some (.inl (cA 3, n, .inr (.inr (.inr (.inr gc))))) := by rw [hfo ca (hv_ne hca hbx (by simp)) (hv_ne hca hpa (by simp))]; exact hca
      refine lv_iload_n hx hb d_Box_measureBelow_2 rfl (lv_at hl 2 rfl) ?_
      refine lv_aload_n hx hb d_Box_measureBelow_3 rfl (lv_at hl 0 rfl) ?_
      refine hv_get hE k_Box hI 1 (by decide) w327 hgb rfl d_Box_measureBelow_4 ?_
      refine hv_alen hE hI 3 hgc rfl (z := nI n) rfl d_Box_measureBelow_7 ?_
      refine lv_icmp_ge (tgt := 192) hx hb d_Box_measureBelow_8 (by decide) (fun c8 => ?_) (fun c8 => ?_)
      · skip
        refine lv_aload_n hx hb d_Box_measureBelow_192 rfl (lv_at hl 0 rfl) ?_
        refine hv_get hE k_Box hI 7 (by decide) w339 hgb rfl d_Box_measureBelow_193 ?_
        refine lv_iload_n hx hb d_Box_measureBelow_196 rfl (lv_at hl 1 rfl) ?_
        refine lv_icmp_le (tgt := 225) hx hb d_Box_measureBelow_197 (by decide) (fun c197 => ?_) (fun c197 => ?_)
        · skip
          exact hv_vret hE hr hlocks hI hK (⟨rfl, w, h, d, gp, by rw [← heq]; simp only [belowF, belowE, if_pos c197, Option.bind_some, Option.bind_none], hgb, hgp, fun z z1 z2 => by exact hfo z z1 z2⟩) (by decide) (by decide) d_Box_measureBelow_225
        · skip
          refine lv_aload_n hx hb d_Box_measureBelow_200 rfl (lv_at hl 0 rfl) ?_
          refine lv_aload_n hx hb d_Box_measureBelow_201 rfl (lv_at hl 0 rfl) ?_
          refine hv_get hE k_Box hI 6 (by decide) w337 hgb rfl d_Box_measureBelow_202 ?_
          refine lv_i2l (v := h.toInt64) hx hb d_Box_measureBelow_205 rfl ?_
          refine lv_aload_n hx hb d_Box_measureBelow_206 rfl (lv_at hl 0 rfl) ?_
          refine hv_get hE k_Box hI 7 (by decide) w339 hgb rfl d_Box_measureBelow_207 ?_
          refine lv_i2l (v := d.toInt64) hx hb d_Box_measureBelow_210 rfl ?_
          refine lv_iload_n hx hb d_Box_measureBelow_211 rfl (lv_at hl 1 rfl) ?_
          refine lv_i2l (v := gr.toInt64) hx hb d_Box_measureBelow_212 rfl ?_
          refine lv_lsub hx hb d_Box_measureBelow_213 ?_
          by_cases hz214 : sz (h.toInt64 + (d.toInt64 - gr.toInt64)) = true
          rotate_left
          · refine hv_SN (As := [.long h.toInt64, .long (d.toInt64 - gr.toInt64)]) (rest := [.ref bx]) hE hml hK hI (c_BP_sumX l hl0 b0 D cA g h.toInt64 (d.toInt64 - gr.toInt64) hz214) cd_BP_sum w384 w385 rfl hl.1 (Nat.le_of_ble_eq_true rfl) d_Box_measureBelow_214 ⟨by decide, by decide⟩ ⟨by decide, by decide⟩ (fun v9 g9 H locs hp hI => hp.elim) (fun q9 E9 ce9 g9 H locs hp hI hce hcv hcl => ?_)
            obtain ⟨hE9, hg9, -⟩ := hp
            rw [hg9] at hI
            rw [hE9] at hcl
            exact hv_out hout hlocks hI hK hce hcv hcl (⟨rfl, by rw [← heq]; simp only [belowF, belowE, if_neg c197, Option.bind_some, Option.bind_none, jsum_f hz214], fun z z1 z2 => by exact hfo z z1 z2⟩) (by decide) (by decide)
          refine hv_SNp (As := [.long h.toInt64, .long (d.toInt64 - gr.toInt64)]) (rest := [.ref bx]) hE hml hK hI (c_BP_sumR l hl0 b0 D cA g h.toInt64 (d.toInt64 - gr.toInt64) hz214) cd_BP_sum w384 w385 rfl rfl rfl hl.1 (Nat.le_of_ble_eq_true rfl) d_Box_measureBelow_214 ⟨by decide, by decide⟩ ⟨by decide, by decide⟩ (fun H locs hI => ?_)
          refine W.eq (g2 := F0 m 217 ls [.int ((h.toInt64 + (d.toInt64 - gr.toInt64)).toInt32), .ref bx]) rfl ?_
          refine hv_put hE k_Box hI 6 (by decide) w337 hgb rfl rfl rfl (Nat.le_of_ble_eq_true rfl) d_Box_measureBelow_217 (fun H locs hI => ?_)
          obtain ⟨g1, eg1⟩ : ∃ z : hv_M, z = hv_up g bx (.inr (1, [.int bel, .ref ca, .ref pa, .int dp, .int al, .int w, .int ((h.toInt64 + (d.toInt64 - gr.toInt64)).toInt32), .int d, .int ex, .int od, .int to, .int ov])) := ⟨_, rfl⟩
          have hI : hv_I D CL b0 g1 s.heap H locs := by rw [eg1]; exact hI
          have h2 : g1 bx = some (.inr (1, [.int bel, .ref ca, .ref pa, .int dp, .int al, .int w, .int ((h.toInt64 + (d.toInt64 - gr.toInt64)).toInt32), .int d, .int ex, .int od, .int to, .int ov])) := by rw [eg1]; exact hv_up_self _ _ _
          have h3 : g1 pa = some (.inl (cA 0, n, .inl gp)) := by rw [eg1]; rw [hv_up_ne _ _ (hv_ne hgp hgb (by simp))]; exact hgp
          have h4 : g1 ca = some (.inl (cA 3, n, .inr (.inr (.inr (.inr gc))))) := by rw [eg1]; rw [hv_up_ne _ _ (hv_ne hgc hgb (by simp))]; exact hgc
          refine lv_aload_n hx hb d_Box_measureBelow_220 rfl (lv_at hl 0 rfl) ?_
          refine lv_iload_n hx hb d_Box_measureBelow_221 rfl (lv_at hl 1 rfl) ?_
          refine hv_put hE k_Box hI 7 (by decide) w339 h2 rfl rfl rfl (Nat.le_of_ble_eq_true rfl) d_Box_measureBelow_222 (fun H locs hI => ?_)
          obtain ⟨g5, eg5⟩ : ∃ z : hv_M, z = hv_up g1 bx (.inr (1, [.int bel, .ref ca, .ref pa, .int dp, .int al, .int w, .int ((h.toInt64 + (d.toInt64 - gr.toInt64)).toInt32), .int gr, .int ex, .int od, .int to, .int ov])) := ⟨_, rfl⟩
          have hI : hv_I D CL b0 g5 s.heap H locs := by rw [eg5]; exact hI
          have h6 : g5 bx = some (.inr (1, [.int bel, .ref ca, .ref pa, .int dp, .int al, .int w, .int ((h.toInt64 + (d.toInt64 - gr.toInt64)).toInt32), .int gr, .int ex, .int od, .int to, .int ov])) := by rw [eg5]; exact hv_up_self _ _ _
          have h7 : g5 pa = some (.inl (cA 0, n, .inl gp)) := by rw [eg5]; rw [hv_up_ne _ _ (hv_ne h3 h2 (by simp))]; exact h3
          have h8 : g5 ca = some (.inl (cA 3, n, .inr (.inr (.inr (.inr gc))))) := by rw [eg5]; rw [hv_up_ne _ _ (hv_ne h4 h2 (by simp))]; exact h4
          exact hv_vret hE hr hlocks hI hK (⟨rfl, w, (h.toInt64 + (d.toInt64 - gr.toInt64)).toInt32, gr, gp, by rw [← heq]; simp only [belowF, belowE, if_neg c197, Option.bind_some, Option.bind_none, jsum_t hz214], h6, h7, fun z z1 z2 => by rw [eg5, hv_up_ne _ _ z1, eg1, hv_up_ne _ _ z1]; exact hfo z z1 z2⟩) (by decide) (by decide) d_Box_measureBelow_225
      · skip
        exact absurd (nI_le (by omega) (by omega)) c8
    | succ k ih =>
      intro i w h d gp g H locs ls hik hgb hgp hfo heq hI hl
      have hgc : g ca = some (.inl (cA 3, n, .inr (.inr (.inr (.inr gc))))) := by rw [hfo ca (hv_ne hca hbx (by simp)) (hv_ne hca hpa (by simp))]; exact hca
      obtain ⟨q, hq1, hq2⟩ := hit i (by omega)
      rcases hiv : iv i with ⟨t, iw, ih9, id9, inn, z9⟩ | ⟨iw, a9, b9, c9, e9⟩
      · rw [hiv] at hq2
        have hgq : g q = some (.inr (2, [.int t, .int iw, .int ih9, .int id9, va_rf inn, .int z9])) := by rw [hfo q (hv_ne hq2 hbx (by simp [itE])) (hv_ne hq2 hpa (by simp [itE]))]; exact hq2
        refine lv_iload_n hx hb d_Box_measureBelow_2 rfl (lv_at hl 2 rfl) ?_
        refine lv_aload_n hx hb d_Box_measureBelow_3 rfl (lv_at hl 0 rfl) ?_
        refine hv_get hE k_Box hI 1 (by decide) w327 hgb rfl d_Box_measureBelow_4 ?_
        refine hv_alen hE hI 3 hgc rfl (z := nI n) rfl d_Box_measureBelow_7 ?_
        refine lv_icmp_ge (tgt := 192) hx hb d_Box_measureBelow_8 (by decide) (fun c8 => ?_) (fun c8 => ?_)
        · skip
          exact absurd c8 (nI_ge (by omega) (by omega))
        · skip
          refine lv_aload_n hx hb d_Box_measureBelow_11 rfl (lv_at hl 0 rfl) ?_
          refine hv_get hE k_Box hI 1 (by decide) w327 hgb rfl d_Box_measureBelow_12 ?_
          refine lv_iload_n hx hb d_Box_measureBelow_15 rfl (lv_at hl 2 rfl) ?_
          refine hv_aald hE hI 3 hgc rfl (pk_in i n (by omega) rfl (by omega)) d_Box_measureBelow_16 ?_
          rw [nI_cl (by omega)]
          rw [hq1]
          refine W.eq (g2 := F0 m 17 ls [.ref q]) rfl ?_
          refine lv_astore (lv' := [(5, .ref q), (0, .ref bx), (1, .int gr), (2, .int (nI i))]) hx hb d_Box_measureBelow_17 hl (by decide) rfl (fun ls hl => ?_)
          refine lv_aload hx hb d_Box_measureBelow_19 (lv_at hl 0 rfl) ?_
          refine hv_instS hE hI hgq rfl w317 d_Box_measureBelow_21 ?_
          refine lv_if_eq (tgt := 121) hx hb d_Box_measureBelow_24 (by decide) (fun c24 => ?_) (fun c24 => ?_)
          · skip
            exact absurd c24 (by decide)
          · skip
            refine lv_aload hx hb d_Box_measureBelow_27 (lv_at hl 0 rfl) ?_
            refine hv_castS hE hI hgq rfl w317 d_Box_measureBelow_29 ?_
            refine lv_astore_n (lv' := [(3, .ref q), (5, .ref q), (0, .ref bx), (1, .int gr), (2, .int (nI i))]) hx hb d_Box_measureBelow_32 rfl hl (by decide) rfl (fun ls hl => ?_)
            refine lv_aload_n hx hb d_Box_measureBelow_33 rfl (lv_at hl 2 rfl) ?_
            refine lv_aload_n hx hb d_Box_measureBelow_34 rfl (lv_at hl 2 rfl) ?_
            refine hv_get hE k_Box hI 6 (by decide) w337 hgb rfl d_Box_measureBelow_35 ?_
            refine lv_i2l (v := h.toInt64) hx hb d_Box_measureBelow_38 rfl ?_
            refine lv_aload_n hx hb d_Box_measureBelow_39 rfl (lv_at hl 2 rfl) ?_
            refine hv_get hE k_Box hI 7 (by decide) w339 hgb rfl d_Box_measureBelow_40 ?_
            refine lv_i2l (v := d.toInt64) hx hb d_Box_measureBelow_43 rfl ?_
            by_cases hz44 : sz (h.toInt64 + d.toInt64) = true
            rotate_left
            · refine hv_SN (As := [.long h.toInt64, .long d.toInt64]) (rest := [.ref bx]) hE hml hK hI (c_BP_sumX l hl0 b0 D cA g h.toInt64 d.toInt64 hz44) cd_BP_sum w384 w385 rfl hl.1 (Nat.le_of_ble_eq_true rfl) d_Box_measureBelow_44 ⟨by decide, by decide⟩ ⟨by decide, by decide⟩ (fun v9 g9 H locs hp hI => hp.elim) (fun q9 E9 ce9 g9 H locs hp hI hce hcv hcl => ?_)
              obtain ⟨hE9, hg9, -⟩ := hp
              rw [hg9] at hI
              rw [hE9] at hcl
              exact hv_out hout hlocks hI hK hce hcv hcl (⟨rfl, by rw [← heq]; simp only [belowF, hiv, Option.bind_some, Option.bind_none, jsum_f hz44], fun z z1 z2 => by exact hfo z z1 z2⟩) (by decide) (by decide)
            refine hv_SNp (As := [.long h.toInt64, .long d.toInt64]) (rest := [.ref bx]) hE hml hK hI (c_BP_sumR l hl0 b0 D cA g h.toInt64 d.toInt64 hz44) cd_BP_sum w384 w385 rfl rfl rfl hl.1 (Nat.le_of_ble_eq_true rfl) d_Box_measureBelow_44 ⟨by decide, by decide⟩ ⟨by decide, by decide⟩ (fun H locs hI => ?_)
            refine W.eq (g2 := F0 m 47 ls [.int ((h.toInt64 + d.toInt64).toInt32), .ref bx]) rfl ?_
            refine hv_put hE k_Box hI 6 (by decide) w337 hgb rfl rfl rfl (Nat.le_of_ble_eq_true rfl) d_Box_measureBelow_47 (fun H locs hI => ?_)
            obtain ⟨g9, eg9⟩ : ∃ z : hv_M, z = hv_up g bx (.inr (1, [.int bel, .ref ca, .ref pa, .int dp, .int al, .int w, .int ((h.toInt64 + d.toInt64).toInt32), .int d, .int ex, .int od, .int to, .int ov])) := ⟨_, rfl⟩
            have hI : hv_I D CL b0 g9 s.heap H locs := by rw [eg9]; exact hI
            have h10 : g9 bx = some (.inr (1, [.int bel, .ref ca, .ref pa, .int dp, .int al, .int w, .int ((h.toInt64 + d.toInt64).toInt32), .int d, .int ex, .int od, .int to, .int ov])) := by rw [eg9]; exact hv_up_self _ _ _
            have h11 : g9 pa = some (.inl (cA 0, n, .inl gp)) := by rw [eg9]; rw [hv_up_ne _ _ (hv_ne hgp hgb (by simp))]; exact hgp
            have h12 : g9 ca = some (.inl (cA 3, n, .inr (.inr (.inr (.inr gc))))) := by rw [eg9]; rw [hv_up_ne _ _ (hv_ne hgc hgb (by simp))]; exact hgc
            have h13 : g9 q = some (.inr (2, [.int t, .int iw, .int ih9, .int id9, va_rf inn, .int z9])) := by rw [eg9]; rw [hv_up_ne _ _ (hv_ne hgq hgb (by simp))]; exact hgq
            refine lv_aload_n hx hb d_Box_measureBelow_50 rfl (lv_at hl 2 rfl) ?_
            refine hv_get hE k_Box hI 2 (by decide) w329 h10 rfl d_Box_measureBelow_51 ?_
            refine lv_iload_n hx hb d_Box_measureBelow_54 rfl (lv_at hl 4 rfl) ?_
            refine lv_aload_n hx hb d_Box_measureBelow_55 rfl (lv_at hl 2 rfl) ?_
            refine hv_get hE k_Box hI 6 (by decide) w337 h10 rfl d_Box_measureBelow_56 ?_
            refine hv_iast hE hI 0 h11 rfl (pk_in i n (by omega) rfl (by omega)) d_Box_measureBelow_59 (fun H locs hI => ?_)
            rw [nI_cl (by omega)] at hI
            obtain ⟨g14, eg14⟩ : ∃ z : hv_M, z = hv_up g9 pa (.inl (cA 0, n, .inl (upd gp i ((h.toInt64 + d.toInt64).toInt32)))) := ⟨_, rfl⟩
            have hI : hv_I D CL b0 g14 s.heap H locs := by rw [eg14]; exact hI
            have h15 : g14 bx = some (.inr (1, [.int bel, .ref ca, .ref pa, .int dp, .int al, .int w, .int ((h.toInt64 + d.toInt64).toInt32), .int d, .int ex, .int od, .int to, .int ov])) := by rw [eg14]; rw [hv_up_ne _ _ (hv_ne h10 h11 (by simp))]; exact h10
            have h16 : g14 pa = some (.inl (cA 0, n, .inl (upd gp i ((h.toInt64 + d.toInt64).toInt32)))) := by rw [eg14]; exact hv_up_self _ _ _
            have h17 : g14 ca = some (.inl (cA 3, n, .inr (.inr (.inr (.inr gc))))) := by rw [eg14]; rw [hv_up_ne _ _ (hv_ne h12 h11 (by simp))]; exact h12
            have h18 : g14 q = some (.inr (2, [.int t, .int iw, .int ih9, .int id9, va_rf inn, .int z9])) := by rw [eg14]; rw [hv_up_ne _ _ (hv_ne h13 h11 (by simp))]; exact h13
            refine lv_aload_n hx hb d_Box_measureBelow_60 rfl (lv_at hl 2 rfl) ?_
            refine lv_aload_n hx hb d_Box_measureBelow_61 rfl (lv_at hl 2 rfl) ?_
            refine hv_get hE k_Box hI 6 (by decide) w337 h15 rfl d_Box_measureBelow_62 ?_
            refine lv_i2l (v := ((h.toInt64 + d.toInt64).toInt32).toInt64) hx hb d_Box_measureBelow_65 rfl ?_
            refine lv_aload_n hx hb d_Box_measureBelow_66 rfl (lv_at hl 0 rfl) ?_
            refine hv_getN hE k_Solid hI 2 (by decide) w172 h18 rfl d_Box_measureBelow_67 ?_
            refine hv_SNp (As := [.int ih9]) (rest := [.long (((h.toInt64 + d.toInt64).toInt32).toInt64), .ref bx]) hE hml hK hI (c_BP_known1 l hl0 b0 D cA g14 ih9) cd_BP_known1 w403 w404 rfl rfl rfl hl.1 (Nat.le_of_ble_eq_true rfl) d_Box_measureBelow_70 ⟨by decide, by decide⟩ ⟨by decide, by decide⟩ (fun H locs hI => ?_)
            refine W.eq (g2 := F0 m 73 ls [.int (kn ih9 0), .long (((h.toInt64 + d.toInt64).toInt32).toInt64), .ref bx]) rfl ?_
            refine lv_i2l (v := (kn ih9 0).toInt64) hx hb d_Box_measureBelow_73 rfl ?_
            by_cases hz74 : sz ((((h.toInt64 + d.toInt64).toInt32).toInt64) + ((kn ih9 0).toInt64)) = true
            rotate_left
            · refine hv_SN (As := [.long (((h.toInt64 + d.toInt64).toInt32).toInt64), .long ((kn ih9 0).toInt64)]) (rest := [.ref bx]) hE hml hK hI (c_BP_sumX l hl0 b0 D cA g14 (((h.toInt64 + d.toInt64).toInt32).toInt64) ((kn ih9 0).toInt64) hz74) cd_BP_sum w384 w385 rfl hl.1 (Nat.le_of_ble_eq_true rfl) d_Box_measureBelow_74 ⟨by decide, by decide⟩ ⟨by decide, by decide⟩ (fun v9 g9 H locs hp hI => hp.elim) (fun q9 E9 ce9 g9 H locs hp hI hce hcv hcl => ?_)
              obtain ⟨hE9, hg9, -⟩ := hp
              rw [hg9] at hI
              rw [hE9] at hcl
              exact hv_out hout hlocks hI hK hce hcv hcl (⟨rfl, by rw [← heq]; simp only [belowF, hiv, Option.bind_some, Option.bind_none, jsum_t hz44, jsum_f hz74], fun z z1 z2 => by rw [eg14, hv_up_ne _ _ z2, eg9, hv_up_ne _ _ z1]; exact hfo z z1 z2⟩) (by decide) (by decide)
            refine hv_SNp (As := [.long (((h.toInt64 + d.toInt64).toInt32).toInt64), .long ((kn ih9 0).toInt64)]) (rest := [.ref bx]) hE hml hK hI (c_BP_sumR l hl0 b0 D cA g14 (((h.toInt64 + d.toInt64).toInt32).toInt64) ((kn ih9 0).toInt64) hz74) cd_BP_sum w384 w385 rfl rfl rfl hl.1 (Nat.le_of_ble_eq_true rfl) d_Box_measureBelow_74 ⟨by decide, by decide⟩ ⟨by decide, by decide⟩ (fun H locs hI => ?_)
            refine W.eq (g2 := F0 m 77 ls [.int (((((h.toInt64 + d.toInt64).toInt32).toInt64) + ((kn ih9 0).toInt64)).toInt32), .ref bx]) rfl ?_
            refine hv_put hE k_Box hI 6 (by decide) w337 h15 rfl rfl rfl (Nat.le_of_ble_eq_true rfl) d_Box_measureBelow_77 (fun H locs hI => ?_)
            obtain ⟨g19, eg19⟩ : ∃ z : hv_M, z = hv_up g14 bx (.inr (1, [.int bel, .ref ca, .ref pa, .int dp, .int al, .int w, .int (((((h.toInt64 + d.toInt64).toInt32).toInt64) + ((kn ih9 0).toInt64)).toInt32), .int d, .int ex, .int od, .int to, .int ov])) := ⟨_, rfl⟩
            have hI : hv_I D CL b0 g19 s.heap H locs := by rw [eg19]; exact hI
            have h20 : g19 bx = some (.inr (1, [.int bel, .ref ca, .ref pa, .int dp, .int al, .int w, .int (((((h.toInt64 + d.toInt64).toInt32).toInt64) + ((kn ih9 0).toInt64)).toInt32), .int d, .int ex, .int od, .int to, .int ov])) := by rw [eg19]; exact hv_up_self _ _ _
            have h21 : g19 pa = some (.inl (cA 0, n, .inl (upd gp i ((h.toInt64 + d.toInt64).toInt32)))) := by rw [eg19]; rw [hv_up_ne _ _ (hv_ne h16 h15 (by simp))]; exact h16
            have h22 : g19 ca = some (.inl (cA 3, n, .inr (.inr (.inr (.inr gc))))) := by rw [eg19]; rw [hv_up_ne _ _ (hv_ne h17 h15 (by simp))]; exact h17
            have h23 : g19 q = some (.inr (2, [.int t, .int iw, .int ih9, .int id9, va_rf inn, .int z9])) := by rw [eg19]; rw [hv_up_ne _ _ (hv_ne h18 h15 (by simp))]; exact h18
            refine lv_aload_n hx hb d_Box_measureBelow_80 rfl (lv_at hl 2 rfl) ?_
            refine lv_aload_n hx hb d_Box_measureBelow_81 rfl (lv_at hl 0 rfl) ?_
            refine hv_getN hE k_Solid hI 3 (by decide) w175 h23 rfl d_Box_measureBelow_82 ?_
            refine hv_SNp (As := [.int id9]) (rest := [.ref bx]) hE hml hK hI (c_BP_known1 l hl0 b0 D cA g19 id9) cd_BP_known1 w403 w404 rfl rfl rfl hl.1 (Nat.le_of_ble_eq_true rfl) d_Box_measureBelow_85 ⟨by decide, by decide⟩ ⟨by decide, by decide⟩ (fun H locs hI => ?_)
            refine W.eq (g2 := F0 m 88 ls [.int (kn id9 0), .ref bx]) rfl ?_
            refine hv_put hE k_Box hI 7 (by decide) w339 h20 rfl rfl rfl (Nat.le_of_ble_eq_true rfl) d_Box_measureBelow_88 (fun H locs hI => ?_)
            obtain ⟨g24, eg24⟩ : ∃ z : hv_M, z = hv_up g19 bx (.inr (1, [.int bel, .ref ca, .ref pa, .int dp, .int al, .int w, .int (((((h.toInt64 + d.toInt64).toInt32).toInt64) + ((kn ih9 0).toInt64)).toInt32), .int (kn id9 0), .int ex, .int od, .int to, .int ov])) := ⟨_, rfl⟩
            have hI : hv_I D CL b0 g24 s.heap H locs := by rw [eg24]; exact hI
            have h25 : g24 bx = some (.inr (1, [.int bel, .ref ca, .ref pa, .int dp, .int al, .int w, .int (((((h.toInt64 + d.toInt64).toInt32).toInt64) + ((kn ih9 0).toInt64)).toInt32), .int (kn id9 0), .int ex, .int od, .int to, .int ov])) := by rw [eg24]; exact hv_up_self _ _ _
            have h26 : g24 pa = some (.inl (cA 0, n, .inl (upd gp i ((h.toInt64 + d.toInt64).toInt32)))) := by rw [eg24]; rw [hv_up_ne _ _ (hv_ne h21 h20 (by simp))]; exact h21
            have h27 : g24 ca = some (.inl (cA 3, n, .inr (.inr (.inr (.inr gc))))) := by rw [eg24]; rw [hv_up_ne _ _ (hv_ne h22 h20 (by simp))]; exact h22
            have h28 : g24 q = some (.inr (2, [.int t, .int iw, .int ih9, .int id9, va_rf inn, .int z9])) := by rw [eg24]; rw [hv_up_ne _ _ (hv_ne h23 h20 (by simp))]; exact h23
            refine lv_aload_n hx hb d_Box_measureBelow_91 rfl (lv_at hl 2 rfl) ?_
            refine lv_aload_n hx hb d_Box_measureBelow_92 rfl (lv_at hl 2 rfl) ?_
            refine hv_get hE k_Box hI 5 (by decide) w335 h25 rfl d_Box_measureBelow_93 ?_
            refine lv_aload_n hx hb d_Box_measureBelow_96 rfl (lv_at hl 0 rfl) ?_
            refine hv_getN hE k_Solid hI 1 (by decide) w169 h28 rfl d_Box_measureBelow_97 ?_
            refine hv_SNp (As := [.int iw]) (rest := [.int w, .ref bx]) hE hml hK hI (c_BP_known1 l hl0 b0 D cA g24 iw) cd_BP_known1 w403 w404 rfl rfl rfl hl.1 (Nat.le_of_ble_eq_true rfl) d_Box_measureBelow_100 ⟨by decide, by decide⟩ ⟨by decide, by decide⟩ (fun H locs hI => ?_)
            refine W.eq (g2 := F0 m 103 ls [.int (kn iw 0), .int w, .ref bx]) rfl ?_
            refine lv_i2l (v := (kn iw 0).toInt64) hx hb d_Box_measureBelow_103 rfl ?_
            refine lv_aload_n hx hb d_Box_measureBelow_104 rfl (lv_at hl 0 rfl) ?_
            refine hv_getN hE k_Solid hI 5 (by decide) w181 h28 rfl d_Box_measureBelow_105 ?_
            refine lv_i2l (v := z9.toInt64) hx hb d_Box_measureBelow_108 rfl ?_
            by_cases hz109 : sz (((kn iw 0).toInt64) + z9.toInt64) = true
            rotate_left
            · refine hv_SN (As := [.long ((kn iw 0).toInt64), .long z9.toInt64]) (rest := [.int w, .ref bx]) hE hml hK hI (c_BP_sumX l hl0 b0 D cA g24 ((kn iw 0).toInt64) z9.toInt64 hz109) cd_BP_sum w384 w385 rfl hl.1 (Nat.le_of_ble_eq_true rfl) d_Box_measureBelow_109 ⟨by decide, by decide⟩ ⟨by decide, by decide⟩ (fun v9 g9 H locs hp hI => hp.elim) (fun q9 E9 ce9 g9 H locs hp hI hce hcv hcl => ?_)
              obtain ⟨hE9, hg9, -⟩ := hp
              rw [hg9] at hI
              rw [hE9] at hcl
              exact hv_out hout hlocks hI hK hce hcv hcl (⟨rfl, by rw [← heq]; simp only [belowF, hiv, Option.bind_some, Option.bind_none, jsum_t hz44, jsum_t hz74, jsum_f hz109], fun z z1 z2 => by rw [eg24, hv_up_ne _ _ z1, eg19, hv_up_ne _ _ z1, eg14, hv_up_ne _ _ z2, eg9, hv_up_ne _ _ z1]; exact hfo z z1 z2⟩) (by decide) (by decide)
            refine hv_SNp (As := [.long ((kn iw 0).toInt64), .long z9.toInt64]) (rest := [.int w, .ref bx]) hE hml hK hI (c_BP_sumR l hl0 b0 D cA g24 ((kn iw 0).toInt64) z9.toInt64 hz109) cd_BP_sum w384 w385 rfl rfl rfl hl.1 (Nat.le_of_ble_eq_true rfl) d_Box_measureBelow_109 ⟨by decide, by decide⟩ ⟨by decide, by decide⟩ (fun H locs hI => ?_)
            refine W.eq (g2 := F0 m 112 ls [.int ((((kn iw 0).toInt64) + z9.toInt64).toInt32), .int w, .ref bx]) rfl ?_
            refine va_mmax hx hb (hml.trans hl.1.symm) hown (hts _ w318) (hts _ w319) (hts _ w14) (hts _ w320) (by decide) (Nat.le_of_ble_eq_true rfl) (by decide) (by decide) d_Box_measureBelow_112 ?_
            refine W.eq (g2 := F0 m 115 ls [.int (mx w ((((kn iw 0).toInt64) + z9.toInt64).toInt32)), .ref bx]) rfl ?_
            refine hv_put hE k_Box hI 5 (by decide) w335 h25 rfl rfl rfl (Nat.le_of_ble_eq_true rfl) d_Box_measureBelow_115 (fun H locs hI => ?_)
            obtain ⟨g29, eg29⟩ : ∃ z : hv_M, z = hv_up g24 bx (.inr (1, [.int bel, .ref ca, .ref pa, .int dp, .int al, .int (mx w ((((kn iw 0).toInt64) + z9.toInt64).toInt32)), .int (((((h.toInt64 + d.toInt64).toInt32).toInt64) + ((kn ih9 0).toInt64)).toInt32), .int (kn id9 0), .int ex, .int od, .int to, .int ov])) := ⟨_, rfl⟩
            have hI : hv_I D CL b0 g29 s.heap H locs := by rw [eg29]; exact hI
            have h30 : g29 bx = some (.inr (1, [.int bel, .ref ca, .ref pa, .int dp, .int al, .int (mx w ((((kn iw 0).toInt64) + z9.toInt64).toInt32)), .int (((((h.toInt64 + d.toInt64).toInt32).toInt64) + ((kn ih9 0).toInt64)).toInt32), .int (kn id9 0), .int ex, .int od, .int to, .int ov])) := by rw [eg29]; exact hv_up_self _ _ _
            have h31 : g29 pa = some (.inl (cA 0, n, .inl (upd gp i ((h.toInt64 + d.toInt64).toInt32)))) := by rw [eg29]; rw [hv_up_ne _ _ (hv_ne h26 h25 (by simp))]; exact h26
            have h32 : g29 ca = some (.inl (cA 3, n, .inr (.inr (.inr (.inr gc))))) := by rw [eg29]; rw [hv_up_ne _ _ (hv_ne h27 h25 (by simp))]; exact h27
            have h33 : g29 q = some (.inr (2, [.int t, .int iw, .int ih9, .int id9, va_rf inn, .int z9])) := by rw [eg29]; rw [hv_up_ne _ _ (hv_ne h28 h25 (by simp))]; exact h28
            refine lv_goto (tgt := 186) hx hb d_Box_measureBelow_118 (by decide) ?_
            obtain ⟨v34, ev34⟩ : ∃ y : Int32, y = (nI i) + 1 := ⟨_, rfl⟩
            refine lv_iinc (v := v34) (lv' := [(2, .int v34), (3, .ref q), (5, .ref q), (0, .ref bx), (1, .int gr)]) hx hb d_Box_measureBelow_186 hl (k := 4) rfl (by rw [ev34]; rfl) (by decide) rfl (fun ls hl => ?_)
            refine lv_goto (tgt := 2) hx hb d_Box_measureBelow_189 (by decide) ?_
            exact ih (i + 1) (mx w ((((kn iw 0).toInt64) + z9.toInt64).toInt32)) (((((h.toInt64 + d.toInt64).toInt32).toInt64) + ((kn ih9 0).toInt64)).toInt32) (kn id9 0) _ _ _ _ ls (by omega) h30 h31 (fun z z1 z2 => by rw [eg29, hv_up_ne _ _ z1, eg24, hv_up_ne _ _ z1, eg19, hv_up_ne _ _ z1, eg14, hv_up_ne _ _ z2, eg9, hv_up_ne _ _ z1]; exact hfo z z1 z2) (by rw [← heq]; simp only [belowF, hiv, Option.bind_some, Option.bind_none, jsum_t hz44, jsum_t hz74, jsum_t hz109]) hI (by rw [← nI_1, ← ev34]; exact lv_sub hl [3, 4, 0] rfl)
      · rw [hiv] at hq2
        have hgq : g q = some (.inr (3, [.int iw, .int a9, .int b9, .int c9, .int e9])) := by rw [hfo q (hv_ne hq2 hbx (by simp [itE])) (hv_ne hq2 hpa (by simp [itE]))]; exact hq2
        refine lv_iload_n hx hb d_Box_measureBelow_2 rfl (lv_at hl 2 rfl) ?_
        refine lv_aload_n hx hb d_Box_measureBelow_3 rfl (lv_at hl 0 rfl) ?_
        refine hv_get hE k_Box hI 1 (by decide) w327 hgb rfl d_Box_measureBelow_4 ?_
        refine hv_alen hE hI 3 hgc rfl (z := nI n) rfl d_Box_measureBelow_7 ?_
        refine lv_icmp_ge (tgt := 192) hx hb d_Box_measureBelow_8 (by decide) (fun c8 => ?_) (fun c8 => ?_)
        · skip
          exact absurd c8 (nI_ge (by omega) (by omega))
        · skip
          refine lv_aload_n hx hb d_Box_measureBelow_11 rfl (lv_at hl 0 rfl) ?_
          refine hv_get hE k_Box hI 1 (by decide) w327 hgb rfl d_Box_measureBelow_12 ?_
          refine lv_iload_n hx hb d_Box_measureBelow_15 rfl (lv_at hl 2 rfl) ?_
          refine hv_aald hE hI 3 hgc rfl (pk_in i n (by omega) rfl (by omega)) d_Box_measureBelow_16 ?_
          rw [nI_cl (by omega)]
          rw [hq1]
          refine W.eq (g2 := F0 m 17 ls [.ref q]) rfl ?_
          refine lv_astore (lv' := [(5, .ref q), (0, .ref bx), (1, .int gr), (2, .int (nI i))]) hx hb d_Box_measureBelow_17 hl (by decide) rfl (fun ls hl => ?_)
          refine lv_aload hx hb d_Box_measureBelow_19 (lv_at hl 0 rfl) ?_
          refine hv_instN hE hI hK hgq rfl (nm := "BoxPacker$Solid") (by decide) w317 d_Box_measureBelow_21 ?_
          refine lv_if_eq (tgt := 121) hx hb d_Box_measureBelow_24 (by decide) (fun c24 => ?_) (fun c24 => ?_)
          · skip
            refine lv_aload_n hx hb d_Box_measureBelow_121 rfl (lv_at hl 1 rfl) ?_
            refine hv_get hE k_Box hI 1 (by decide) w327 hgb rfl d_Box_measureBelow_122 ?_
            refine lv_iload_n hx hb d_Box_measureBelow_125 rfl (lv_at hl 3 rfl) ?_
            refine hv_aald hE hI 3 hgc rfl (pk_in i n (by omega) rfl (by omega)) d_Box_measureBelow_126 ?_
            rw [nI_cl (by omega)]
            rw [hq1]
            refine W.eq (g2 := F0 m 127 ls [.ref q]) rfl ?_
            refine lv_astore (lv' := [(5, .ref q), (0, .ref bx), (1, .int gr), (2, .int (nI i))]) hx hb d_Box_measureBelow_127 hl (by decide) rfl (fun ls hl => ?_)
            refine lv_aload hx hb d_Box_measureBelow_129 (lv_at hl 0 rfl) ?_
            refine hv_instS hE hI hgq rfl w409 d_Box_measureBelow_131 ?_
            refine lv_if_eq (tgt := 186) hx hb d_Box_measureBelow_134 (by decide) (fun c134 => ?_) (fun c134 => ?_)
            · skip
              exact absurd c134 (by decide)
            · skip
              refine lv_aload hx hb d_Box_measureBelow_137 (lv_at hl 0 rfl) ?_
              refine hv_castS hE hI hgq rfl w409 d_Box_measureBelow_139 ?_
              refine lv_astore (lv' := [(4, .ref q), (5, .ref q), (0, .ref bx), (1, .int gr), (2, .int (nI i))]) hx hb d_Box_measureBelow_142 hl (by decide) rfl (fun ls hl => ?_)
              refine lv_aload_n hx hb d_Box_measureBelow_144 rfl (lv_at hl 2 rfl) ?_
              refine hv_get hE k_Box hI 2 (by decide) w329 hgb rfl d_Box_measureBelow_145 ?_
              refine lv_iload_n hx hb d_Box_measureBelow_148 rfl (lv_at hl 4 rfl) ?_
              refine lv_aload_n hx hb d_Box_measureBelow_149 rfl (lv_at hl 2 rfl) ?_
              refine hv_get hE k_Box hI 6 (by decide) w337 hgb rfl d_Box_measureBelow_150 ?_
              refine hv_iast hE hI 0 hgp rfl (pk_in i n (by omega) rfl (by omega)) d_Box_measureBelow_153 (fun H locs hI => ?_)
              rw [nI_cl (by omega)] at hI
              obtain ⟨g35, eg35⟩ : ∃ z : hv_M, z = hv_up g pa (.inl (cA 0, n, .inl (upd gp i h))) := ⟨_, rfl⟩
              have hI : hv_I D CL b0 g35 s.heap H locs := by rw [eg35]; exact hI
              have h36 : g35 bx = some (.inr (1, [.int bel, .ref ca, .ref pa, .int dp, .int al, .int w, .int h, .int d, .int ex, .int od, .int to, .int ov])) := by rw [eg35]; rw [hv_up_ne _ _ (hv_ne hgb hgp (by simp))]; exact hgb
              have h37 : g35 pa = some (.inl (cA 0, n, .inl (upd gp i h))) := by rw [eg35]; exact hv_up_self _ _ _
              have h38 : g35 ca = some (.inl (cA 3, n, .inr (.inr (.inr (.inr gc))))) := by rw [eg35]; rw [hv_up_ne _ _ (hv_ne hgc hgp (by simp))]; exact hgc
              have h39 : g35 q = some (.inr (3, [.int iw, .int a9, .int b9, .int c9, .int e9])) := by rw [eg35]; rw [hv_up_ne _ _ (hv_ne hgq hgp (by simp))]; exact hgq
              refine lv_aload_n hx hb d_Box_measureBelow_154 rfl (lv_at hl 2 rfl) ?_
              refine lv_aload_n hx hb d_Box_measureBelow_155 rfl (lv_at hl 2 rfl) ?_
              refine hv_get hE k_Box hI 6 (by decide) w337 h36 rfl d_Box_measureBelow_156 ?_
              refine lv_i2l (v := h.toInt64) hx hb d_Box_measureBelow_159 rfl ?_
              refine lv_aload_n hx hb d_Box_measureBelow_160 rfl (lv_at hl 2 rfl) ?_
              refine hv_get hE k_Box hI 7 (by decide) w339 h36 rfl d_Box_measureBelow_161 ?_
              refine lv_i2l (v := d.toInt64) hx hb d_Box_measureBelow_164 rfl ?_
              by_cases hz165 : sz (h.toInt64 + d.toInt64) = true
              rotate_left
              · refine hv_SN (As := [.long h.toInt64, .long d.toInt64]) (rest := [.ref bx]) hE hml hK hI (c_BP_sumX l hl0 b0 D cA g35 h.toInt64 d.toInt64 hz165) cd_BP_sum w384 w385 rfl hl.1 (Nat.le_of_ble_eq_true rfl) d_Box_measureBelow_165 ⟨by decide, by decide⟩ ⟨by decide, by decide⟩ (fun v9 g9 H locs hp hI => hp.elim) (fun q9 E9 ce9 g9 H locs hp hI hce hcv hcl => ?_)
                obtain ⟨hE9, hg9, -⟩ := hp
                rw [hg9] at hI
                rw [hE9] at hcl
                exact hv_out hout hlocks hI hK hce hcv hcl (⟨rfl, by rw [← heq]; simp only [belowF, hiv, Option.bind_some, Option.bind_none, jsum_f hz165], fun z z1 z2 => by rw [eg35, hv_up_ne _ _ z2]; exact hfo z z1 z2⟩) (by decide) (by decide)
              refine hv_SNp (As := [.long h.toInt64, .long d.toInt64]) (rest := [.ref bx]) hE hml hK hI (c_BP_sumR l hl0 b0 D cA g35 h.toInt64 d.toInt64 hz165) cd_BP_sum w384 w385 rfl rfl rfl hl.1 (Nat.le_of_ble_eq_true rfl) d_Box_measureBelow_165 ⟨by decide, by decide⟩ ⟨by decide, by decide⟩ (fun H locs hI => ?_)
              refine W.eq (g2 := F0 m 168 ls [.int ((h.toInt64 + d.toInt64).toInt32), .ref bx]) rfl ?_
              refine lv_i2l (v := ((h.toInt64 + d.toInt64).toInt32).toInt64) hx hb d_Box_measureBelow_168 rfl ?_
              refine lv_aload hx hb d_Box_measureBelow_169 (lv_at hl 0 rfl) ?_
              refine hv_getN hE k_Space hI 0 (by decide) w248 h39 rfl d_Box_measureBelow_171 ?_
              refine lv_i2l (v := iw.toInt64) hx hb d_Box_measureBelow_174 rfl ?_
              by_cases hz175 : sz ((((h.toInt64 + d.toInt64).toInt32).toInt64) + iw.toInt64) = true
              rotate_left
              · refine hv_SN (As := [.long (((h.toInt64 + d.toInt64).toInt32).toInt64), .long iw.toInt64]) (rest := [.ref bx]) hE hml hK hI (c_BP_sumX l hl0 b0 D cA g35 (((h.toInt64 + d.toInt64).toInt32).toInt64) iw.toInt64 hz175) cd_BP_sum w384 w385 rfl hl.1 (Nat.le_of_ble_eq_true rfl) d_Box_measureBelow_175 ⟨by decide, by decide⟩ ⟨by decide, by decide⟩ (fun v9 g9 H locs hp hI => hp.elim) (fun q9 E9 ce9 g9 H locs hp hI hce hcv hcl => ?_)
                obtain ⟨hE9, hg9, -⟩ := hp
                rw [hg9] at hI
                rw [hE9] at hcl
                exact hv_out hout hlocks hI hK hce hcv hcl (⟨rfl, by rw [← heq]; simp only [belowF, hiv, Option.bind_some, Option.bind_none, jsum_t hz165, jsum_f hz175], fun z z1 z2 => by rw [eg35, hv_up_ne _ _ z2]; exact hfo z z1 z2⟩) (by decide) (by decide)
              refine hv_SNp (As := [.long (((h.toInt64 + d.toInt64).toInt32).toInt64), .long iw.toInt64]) (rest := [.ref bx]) hE hml hK hI (c_BP_sumR l hl0 b0 D cA g35 (((h.toInt64 + d.toInt64).toInt32).toInt64) iw.toInt64 hz175) cd_BP_sum w384 w385 rfl rfl rfl hl.1 (Nat.le_of_ble_eq_true rfl) d_Box_measureBelow_175 ⟨by decide, by decide⟩ ⟨by decide, by decide⟩ (fun H locs hI => ?_)
              refine W.eq (g2 := F0 m 178 ls [.int (((((h.toInt64 + d.toInt64).toInt32).toInt64) + iw.toInt64).toInt32), .ref bx]) rfl ?_
              refine hv_put hE k_Box hI 6 (by decide) w337 h36 rfl rfl rfl (Nat.le_of_ble_eq_true rfl) d_Box_measureBelow_178 (fun H locs hI => ?_)
              obtain ⟨g40, eg40⟩ : ∃ z : hv_M, z = hv_up g35 bx (.inr (1, [.int bel, .ref ca, .ref pa, .int dp, .int al, .int w, .int (((((h.toInt64 + d.toInt64).toInt32).toInt64) + iw.toInt64).toInt32), .int d, .int ex, .int od, .int to, .int ov])) := ⟨_, rfl⟩
              have hI : hv_I D CL b0 g40 s.heap H locs := by rw [eg40]; exact hI
              have h41 : g40 bx = some (.inr (1, [.int bel, .ref ca, .ref pa, .int dp, .int al, .int w, .int (((((h.toInt64 + d.toInt64).toInt32).toInt64) + iw.toInt64).toInt32), .int d, .int ex, .int od, .int to, .int ov])) := by rw [eg40]; exact hv_up_self _ _ _
              have h42 : g40 pa = some (.inl (cA 0, n, .inl (upd gp i h))) := by rw [eg40]; rw [hv_up_ne _ _ (hv_ne h37 h36 (by simp))]; exact h37
              have h43 : g40 ca = some (.inl (cA 3, n, .inr (.inr (.inr (.inr gc))))) := by rw [eg40]; rw [hv_up_ne _ _ (hv_ne h38 h36 (by simp))]; exact h38
              have h44 : g40 q = some (.inr (3, [.int iw, .int a9, .int b9, .int c9, .int e9])) := by rw [eg40]; rw [hv_up_ne _ _ (hv_ne h39 h36 (by simp))]; exact h39
              refine lv_aload_n hx hb d_Box_measureBelow_181 rfl (lv_at hl 2 rfl) ?_
              refine lv_iconst (v := 0) hx hb d_Box_measureBelow_182 (by decide) ?_
              refine hv_put hE k_Box hI 7 (by decide) w339 h41 rfl rfl rfl (Nat.le_of_ble_eq_true rfl) d_Box_measureBelow_183 (fun H locs hI => ?_)
              obtain ⟨g45, eg45⟩ : ∃ z : hv_M, z = hv_up g40 bx (.inr (1, [.int bel, .ref ca, .ref pa, .int dp, .int al, .int w, .int (((((h.toInt64 + d.toInt64).toInt32).toInt64) + iw.toInt64).toInt32), .int 0, .int ex, .int od, .int to, .int ov])) := ⟨_, rfl⟩
              have hI : hv_I D CL b0 g45 s.heap H locs := by rw [eg45]; exact hI
              have h46 : g45 bx = some (.inr (1, [.int bel, .ref ca, .ref pa, .int dp, .int al, .int w, .int (((((h.toInt64 + d.toInt64).toInt32).toInt64) + iw.toInt64).toInt32), .int 0, .int ex, .int od, .int to, .int ov])) := by rw [eg45]; exact hv_up_self _ _ _
              have h47 : g45 pa = some (.inl (cA 0, n, .inl (upd gp i h))) := by rw [eg45]; rw [hv_up_ne _ _ (hv_ne h42 h41 (by simp))]; exact h42
              have h48 : g45 ca = some (.inl (cA 3, n, .inr (.inr (.inr (.inr gc))))) := by rw [eg45]; rw [hv_up_ne _ _ (hv_ne h43 h41 (by simp))]; exact h43
              have h49 : g45 q = some (.inr (3, [.int iw, .int a9, .int b9, .int c9, .int e9])) := by rw [eg45]; rw [hv_up_ne _ _ (hv_ne h44 h41 (by simp))]; exact h44
              obtain ⟨v50, ev50⟩ : ∃ y : Int32, y = (nI i) + 1 := ⟨_, rfl⟩
              refine lv_iinc (v := v50) (lv' := [(2, .int v50), (4, .ref q), (5, .ref q), (0, .ref bx), (1, .int gr)]) hx hb d_Box_measureBelow_186 hl (k := 4) rfl (by rw [ev50]; rfl) (by decide) rfl (fun ls hl => ?_)
              refine lv_goto (tgt := 2) hx hb d_Box_measureBelow_189 (by decide) ?_
              exact ih (i + 1) w (((((h.toInt64 + d.toInt64).toInt32).toInt64) + iw.toInt64).toInt32) 0 _ _ _ _ ls (by omega) h46 h47 (fun z z1 z2 => by rw [eg45, hv_up_ne _ _ z1, eg40, hv_up_ne _ _ z1, eg35, hv_up_ne _ _ z2]; exact hfo z z1 z2) (by rw [← heq]; simp only [belowF, hiv, Option.bind_some, Option.bind_none, jsum_t hz165, jsum_t hz175]) hI (by rw [← nI_1, ← ev50]; exact lv_sub hl [3, 4, 0] rfl)
          · skip
            exact absurd rfl c24
  exact loop n 0 0 0 0 gp0 f _ _ ls (by omega) hbx hpa (fun z _ _ => rfl) rfl hI (lv_sub hl [1, 2, 0] rfl)

