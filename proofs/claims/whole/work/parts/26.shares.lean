set_option maxHeartbeats 4000000 in
set_option maxRecDepth 100000 in
theorem c_Box_addShares (l : Launch) (hl0 : l.stackTraces = false) (b0 : Nat) (D : va_G) (cA : Nat → ClassId) (f : hv_M) (bx ca pa n : Nat) (bel dp al w h d ex od to ov : Int32) (gc : Nat → Option Nat) (gp0 : Nat → Int32) (iv : Nat → It) (hbx : f bx = some (.inr (1, [.int bel, .ref ca, .ref pa, .int dp, .int al, .int w, .int h, .int d, .int ex, .int od, .int to, .int ov]))) (hca : f ca = some (.inl (cA 3, n, .inr (.inr (.inr (.inr gc)))))) (hpa : f pa = some (.inl (cA 0, n, .inl gp0))) (hit : itsAt f n gc iv) (hn : n ≤ 100) : hv_Met l y_Box_addShares [Cond.code y_Box_addShares b_Box_addShares 7 none] (RM 1 0 0) b0 (Fa D cA) D CL [.ref bx] f (fun v g => v = none ∧ g = hv_up f pa (.inl (cA 0, n, .inl (addS ex od to ov iv n gp0)))) (NX) := by
  refine hv_Met.of (own := "BoxPacker$Box") (by decide) rfl (Nat.le_of_ble_eq_true rfl) ?_
  intro p e s m below meth c hE hml hout hr hlocks hname hK hI ls hl
  have hl : lv_has ls 7 [(0, .ref bx)] := hl
  obtain ⟨hx, hb, hown, hts, hVK⟩ := id hE
  refine lv_aload_n hx hb d_Box_addShares_0 rfl (lv_at hl 0 rfl) ?_
  refine hv_get hE k_Box hI 8 (by decide) w341 hbx rfl d_Box_addShares_1 ?_
  refine lv_if_ge (tgt := 11) hx hb d_Box_addShares_4 (by decide) (fun c4 => ?_) (fun c4 => ?_)
  · skip
    refine lv_iconst (v := 0) hx hb d_Box_addShares_11 (by decide) ?_
    obtain ⟨sh, esh⟩ : ∃ z : Bool, z = false := ⟨_, rfl⟩
    refine W.eq (g2 := F0 m 12 ls [.int (b2i sh)]) (by rw [esh]; rfl) ?_
    refine lv_istore_n (lv' := [(1, .int (b2i sh)), (0, .ref bx)]) hx hb d_Box_addShares_12 rfl hl (by decide) rfl (fun ls hl => ?_)
    refine lv_aload_n hx hb d_Box_addShares_13 rfl (lv_at hl 1 rfl) ?_
    refine hv_get hE k_Box hI 11 (by decide) w347 hbx rfl d_Box_addShares_14 ?_
    refine lv_if_le (tgt := 28) hx hb d_Box_addShares_17 (by decide) (fun c17 => ?_) (fun c17 => ?_)
    · skip
      refine lv_aload_n hx hb d_Box_addShares_28 rfl (lv_at hl 1 rfl) ?_
      refine hv_get hE k_Box hI 8 (by decide) w341 hbx rfl d_Box_addShares_29 ?_
      obtain ⟨gv, egv⟩ : ∃ z : Int32, z = ex := ⟨_, rfl⟩
      refine W.eq (g2 := F0 m 32 ls [.int gv]) (by rw [egv]) ?_
      refine lv_istore_n (lv' := [(2, .int gv), (1, .int (b2i sh)), (0, .ref bx)]) hx hb d_Box_addShares_32 rfl hl (by decide) rfl (fun ls hl => ?_)
      refine lv_iconst (v := 0) hx hb d_Box_addShares_33 (by decide) ?_
      refine lv_istore_n (lv' := [(3, .int 0), (2, .int gv), (1, .int (b2i sh)), (0, .ref bx)]) hx hb d_Box_addShares_34 rfl hl (by decide) rfl (fun ls hl => ?_)
      refine lv_iconst (v := 0) hx hb d_Box_addShares_35 (by decide) ?_
      refine lv_istore (lv' := [(4, .int 0), (3, .int 0), (2, .int gv), (1, .int (b2i sh)), (0, .ref bx)]) hx hb d_Box_addShares_36 hl (by decide) rfl (fun ls hl => ?_)
      have loop : ∀ (k i : Nat) (bf : Int32) (gp : Nat → Int32) (g : hv_M) (H : Heap) (locs : List Loc) (ls : Array Slot), i + k = n → g pa = some (.inl (cA 0, n, .inl gp)) → (∀ z, z ≠ pa → g z = f z) → shareF sh od to gv iv k i bf gp = shareF sh od to gv iv n 0 0 gp0 → hv_I D CL b0 g s.heap H locs → lv_has ls 7 [(0, .ref bx), (1, .int (b2i sh)), (2, .int gv), (3, .int bf), (4, .int (nI i))] → W p l e (RM 1 0 0) s m ([.ref bx] : List Value).toArray below meth c H locs (0) (0) (xh_MQ below (hv_Q b0 (Fa D cA) D CL (fun v g => v = none ∧ g = hv_up f pa (.inl (cA 0, n, .inl (addS ex od to ov iv n gp0)))) (NX)) s 0 0 (fun q => b0 ≤ q)) (F0 m 38 ls []) := by
        intro k
        induction k with
        | zero =>
          intro i bf gp g H locs ls hik hgp hfo heq hI hl
          have hgb : g bx = some (.inr (1, [.int bel, .ref ca, .ref pa, .int dp, .int al, .int w, .int h, .int d, .int ex, .int od, .int to, .int ov])) := by rw [hfo bx (hv_ne hbx hpa (by simp))]; exact hbx
          have hgc : g ca = some (.inl (cA 3, n, .inr (.inr (.inr (.inr gc))))) := by rw [hfo ca (hv_ne hca hpa (by simp))]; exact hca
          refine lv_iload hx hb d_Box_addShares_38 (lv_at hl 4 rfl) ?_
          refine lv_aload_n hx hb d_Box_addShares_40 rfl (lv_at hl 0 rfl) ?_
          refine hv_get hE k_Box hI 1 (by decide) w327 hgb rfl d_Box_addShares_41 ?_
          refine hv_alen hE hI 3 hgc rfl (z := nI n) rfl d_Box_addShares_44 ?_
          refine lv_icmp_ge (tgt := 121) hx hb d_Box_addShares_45 (by decide) (fun c45 => ?_) (fun c45 => ?_)
          · skip
            exact hv_vret hE hr hlocks hI hK (⟨rfl, by rw [addS, show decide (ex < 0) = sh from esh ▸ decide_eq_false (Int32.not_lt.mpr c4), show (if 0 < ov then -to else ex) = gv from egv ▸ if_neg (Int32.not_lt.mpr c17), ← heq]; funext z; by_cases hz : z = pa; (rw [hz, hv_up_self]; exact hgp); (rw [hv_up_ne _ _ hz]; exact hfo z hz)⟩) (by decide) (by decide) d_Box_addShares_121
          · skip
            exact absurd (nI_le (by omega) (by omega)) c45
        | succ k ih =>
          intro i bf gp g H locs ls hik hgp hfo heq hI hl
          have hgb : g bx = some (.inr (1, [.int bel, .ref ca, .ref pa, .int dp, .int al, .int w, .int h, .int d, .int ex, .int od, .int to, .int ov])) := by rw [hfo bx (hv_ne hbx hpa (by simp))]; exact hbx
          have hgc : g ca = some (.inl (cA 3, n, .inr (.inr (.inr (.inr gc))))) := by rw [hfo ca (hv_ne hca hpa (by simp))]; exact hca
          obtain ⟨q, hq1, hq2⟩ := hit i (by omega)
          rcases hiv : iv i with ⟨t, iw, ih9, id9, inn, z9⟩ | ⟨iw, a9, b9, c9, e9⟩
          · rw [hiv] at hq2
            have hgq : g q = some (.inr (2, [.int t, .int iw, .int ih9, .int id9, va_rf inn, .int z9])) := by rw [hfo q (hv_ne hq2 hpa (by simp [itE]))]; exact hq2
            refine lv_iload hx hb d_Box_addShares_38 (lv_at hl 4 rfl) ?_
            refine lv_aload_n hx hb d_Box_addShares_40 rfl (lv_at hl 0 rfl) ?_
            refine hv_get hE k_Box hI 1 (by decide) w327 hgb rfl d_Box_addShares_41 ?_
            refine hv_alen hE hI 3 hgc rfl (z := nI n) rfl d_Box_addShares_44 ?_
            refine lv_icmp_ge (tgt := 121) hx hb d_Box_addShares_45 (by decide) (fun c45 => ?_) (fun c45 => ?_)
            · skip
              exact absurd c45 (nI_ge (by omega) (by omega))
            · skip
              refine lv_aload_n hx hb d_Box_addShares_48 rfl (lv_at hl 0 rfl) ?_
              refine hv_get hE k_Box hI 2 (by decide) w329 hgb rfl d_Box_addShares_49 ?_
              refine lv_iload hx hb d_Box_addShares_52 (lv_at hl 4 rfl) ?_
              refine lv_dup2_11 hx hb d_Box_addShares_54 rfl rfl ?_
              refine hv_iald hE hI 0 hgp rfl (pk_in i n (by omega) rfl (by omega)) d_Box_addShares_55 ?_
              rw [nI_cl (by omega)]
              refine lv_iload_n hx hb d_Box_addShares_56 rfl (lv_at hl 3 rfl) ?_
              refine lv_i2l (v := bf.toInt64) hx hb d_Box_addShares_57 rfl ?_
              refine lv_iload_n hx hb d_Box_addShares_58 rfl (lv_at hl 2 rfl) ?_
              refine lv_i2l (v := gv.toInt64) hx hb d_Box_addShares_59 rfl ?_
              refine lv_aload_n hx hb d_Box_addShares_60 rfl (lv_at hl 0 rfl) ?_
              refine hv_get hE k_Box hI 10 (by decide) w345 hgb rfl d_Box_addShares_61 ?_
              refine hv_SNp (As := [.long bf.toInt64, .long gv.toInt64, .int to]) (rest := [.int (gp i), .int (nI i), .ref pa]) hE hml hK hI (c_BP_share l hl0 b0 D cA g bf.toInt64 gv.toInt64 to) cd_BP_share w438 w439 rfl rfl rfl hl.1 (Nat.le_of_ble_eq_true rfl) d_Box_addShares_64 ⟨by decide, by decide⟩ ⟨by decide, by decide⟩ (fun H locs hI => ?_)
              refine W.eq (g2 := F0 m 67 ls [.int (shr bf.toInt64 gv.toInt64 to), .int (gp i), .int (nI i), .ref pa]) rfl ?_
              refine lv_iadd hx hb d_Box_addShares_67 ?_
              refine hv_iast hE hI 0 hgp rfl (pk_in i n (by omega) rfl (by omega)) d_Box_addShares_68 (fun H locs hI => ?_)
              rw [nI_cl (by omega)] at hI
              obtain ⟨g1, eg1⟩ : ∃ z : hv_M, z = hv_up g pa (.inl (cA 0, n, .inl (upd gp i ((gp i) + (shr bf.toInt64 gv.toInt64 to))))) := ⟨_, rfl⟩
              have hI : hv_I D CL b0 g1 s.heap H locs := by rw [eg1]; exact hI
              have h2 : g1 bx = some (.inr (1, [.int bel, .ref ca, .ref pa, .int dp, .int al, .int w, .int h, .int d, .int ex, .int od, .int to, .int ov])) := by rw [eg1]; rw [hv_up_ne _ _ (hv_ne hgb hgp (by simp))]; exact hgb
              have h3 : g1 pa = some (.inl (cA 0, n, .inl (upd gp i ((gp i) + (shr bf.toInt64 gv.toInt64 to))))) := by rw [eg1]; exact hv_up_self _ _ _
              have h4 : g1 ca = some (.inl (cA 3, n, .inr (.inr (.inr (.inr gc))))) := by rw [eg1]; rw [hv_up_ne _ _ (hv_ne hgc hgp (by simp))]; exact hgc
              have h5 : g1 q = some (.inr (2, [.int t, .int iw, .int ih9, .int id9, va_rf inn, .int z9])) := by rw [eg1]; rw [hv_up_ne _ _ (hv_ne hgq hgp (by simp))]; exact hgq
              refine lv_aload_n hx hb d_Box_addShares_69 rfl (lv_at hl 0 rfl) ?_
              refine hv_get hE k_Box hI 1 (by decide) w327 h2 rfl d_Box_addShares_70 ?_
              refine lv_iload hx hb d_Box_addShares_73 (lv_at hl 4 rfl) ?_
              refine hv_aald hE hI 3 h4 rfl (pk_in i n (by omega) rfl (by omega)) d_Box_addShares_75 ?_
              rw [nI_cl (by omega)]
              rw [hq1]
              refine W.eq (g2 := F0 m 76 ls [.ref q]) rfl ?_
              refine lv_astore (lv' := [(6, .ref q), (0, .ref bx), (1, .int (b2i sh)), (2, .int gv), (3, .int bf), (4, .int (nI i))]) hx hb d_Box_addShares_76 hl (by decide) rfl (fun ls hl => ?_)
              refine lv_aload hx hb d_Box_addShares_78 (lv_at hl 0 rfl) ?_
              refine hv_instN hE hI hK h5 rfl (nm := "BoxPacker$Space") (by decide) w409 d_Box_addShares_80 ?_
              refine lv_if_eq (tgt := 115) hx hb d_Box_addShares_83 (by decide) (fun c83 => ?_) (fun c83 => ?_)
              · skip
                obtain ⟨v6, ev6⟩ : ∃ y : Int32, y = (nI i) + 1 := ⟨_, rfl⟩
                refine lv_iinc (v := v6) (lv' := [(4, .int v6), (6, .ref q), (0, .ref bx), (1, .int (b2i sh)), (2, .int gv), (3, .int bf)]) hx hb d_Box_addShares_115 hl (k := 5) rfl (by rw [ev6]; rfl) (by decide) rfl (fun ls hl => ?_)
                refine lv_goto (tgt := 38) hx hb d_Box_addShares_118 (by decide) ?_
                exact ih (i + 1) bf _ _ _ _ ls (by omega) h3 (fun z z1 => by rw [eg1, hv_up_ne _ _ z1]; exact hfo z z1) (by rw [← heq]; simp only [shareF, hiv]) hI (by rw [← nI_1, ← ev6]; exact lv_sub hl [2, 3, 4, 5, 0] rfl)
              · skip
                exact absurd rfl c83
          · rw [hiv] at hq2
            have hgq : g q = some (.inr (3, [.int iw, .int a9, .int b9, .int c9, .int e9])) := by rw [hfo q (hv_ne hq2 hpa (by simp [itE]))]; exact hq2
            refine lv_iload hx hb d_Box_addShares_38 (lv_at hl 4 rfl) ?_
            refine lv_aload_n hx hb d_Box_addShares_40 rfl (lv_at hl 0 rfl) ?_
            refine hv_get hE k_Box hI 1 (by decide) w327 hgb rfl d_Box_addShares_41 ?_
            refine hv_alen hE hI 3 hgc rfl (z := nI n) rfl d_Box_addShares_44 ?_
            refine lv_icmp_ge (tgt := 121) hx hb d_Box_addShares_45 (by decide) (fun c45 => ?_) (fun c45 => ?_)
            · skip
              exact absurd c45 (nI_ge (by omega) (by omega))
            · skip
              refine lv_aload_n hx hb d_Box_addShares_48 rfl (lv_at hl 0 rfl) ?_
              refine hv_get hE k_Box hI 2 (by decide) w329 hgb rfl d_Box_addShares_49 ?_
              refine lv_iload hx hb d_Box_addShares_52 (lv_at hl 4 rfl) ?_
              refine lv_dup2_11 hx hb d_Box_addShares_54 rfl rfl ?_
              refine hv_iald hE hI 0 hgp rfl (pk_in i n (by omega) rfl (by omega)) d_Box_addShares_55 ?_
              rw [nI_cl (by omega)]
              refine lv_iload_n hx hb d_Box_addShares_56 rfl (lv_at hl 3 rfl) ?_
              refine lv_i2l (v := bf.toInt64) hx hb d_Box_addShares_57 rfl ?_
              refine lv_iload_n hx hb d_Box_addShares_58 rfl (lv_at hl 2 rfl) ?_
              refine lv_i2l (v := gv.toInt64) hx hb d_Box_addShares_59 rfl ?_
              refine lv_aload_n hx hb d_Box_addShares_60 rfl (lv_at hl 0 rfl) ?_
              refine hv_get hE k_Box hI 10 (by decide) w345 hgb rfl d_Box_addShares_61 ?_
              refine hv_SNp (As := [.long bf.toInt64, .long gv.toInt64, .int to]) (rest := [.int (gp i), .int (nI i), .ref pa]) hE hml hK hI (c_BP_share l hl0 b0 D cA g bf.toInt64 gv.toInt64 to) cd_BP_share w438 w439 rfl rfl rfl hl.1 (Nat.le_of_ble_eq_true rfl) d_Box_addShares_64 ⟨by decide, by decide⟩ ⟨by decide, by decide⟩ (fun H locs hI => ?_)
              refine W.eq (g2 := F0 m 67 ls [.int (shr bf.toInt64 gv.toInt64 to), .int (gp i), .int (nI i), .ref pa]) rfl ?_
              refine lv_iadd hx hb d_Box_addShares_67 ?_
              refine hv_iast hE hI 0 hgp rfl (pk_in i n (by omega) rfl (by omega)) d_Box_addShares_68 (fun H locs hI => ?_)
              rw [nI_cl (by omega)] at hI
              obtain ⟨g7, eg7⟩ : ∃ z : hv_M, z = hv_up g pa (.inl (cA 0, n, .inl (upd gp i ((gp i) + (shr bf.toInt64 gv.toInt64 to))))) := ⟨_, rfl⟩
              have hI : hv_I D CL b0 g7 s.heap H locs := by rw [eg7]; exact hI
              have h8 : g7 bx = some (.inr (1, [.int bel, .ref ca, .ref pa, .int dp, .int al, .int w, .int h, .int d, .int ex, .int od, .int to, .int ov])) := by rw [eg7]; rw [hv_up_ne _ _ (hv_ne hgb hgp (by simp))]; exact hgb
              have h9 : g7 pa = some (.inl (cA 0, n, .inl (upd gp i ((gp i) + (shr bf.toInt64 gv.toInt64 to))))) := by rw [eg7]; exact hv_up_self _ _ _
              have h10 : g7 ca = some (.inl (cA 3, n, .inr (.inr (.inr (.inr gc))))) := by rw [eg7]; rw [hv_up_ne _ _ (hv_ne hgc hgp (by simp))]; exact hgc
              have h11 : g7 q = some (.inr (3, [.int iw, .int a9, .int b9, .int c9, .int e9])) := by rw [eg7]; rw [hv_up_ne _ _ (hv_ne hgq hgp (by simp))]; exact hgq
              refine lv_aload_n hx hb d_Box_addShares_69 rfl (lv_at hl 0 rfl) ?_
              refine hv_get hE k_Box hI 1 (by decide) w327 h8 rfl d_Box_addShares_70 ?_
              refine lv_iload hx hb d_Box_addShares_73 (lv_at hl 4 rfl) ?_
              refine hv_aald hE hI 3 h10 rfl (pk_in i n (by omega) rfl (by omega)) d_Box_addShares_75 ?_
              rw [nI_cl (by omega)]
              rw [hq1]
              refine W.eq (g2 := F0 m 76 ls [.ref q]) rfl ?_
              refine lv_astore (lv' := [(6, .ref q), (0, .ref bx), (1, .int (b2i sh)), (2, .int gv), (3, .int bf), (4, .int (nI i))]) hx hb d_Box_addShares_76 hl (by decide) rfl (fun ls hl => ?_)
              refine lv_aload hx hb d_Box_addShares_78 (lv_at hl 0 rfl) ?_
              refine hv_instS hE hI h11 rfl w409 d_Box_addShares_80 ?_
              refine lv_if_eq (tgt := 115) hx hb d_Box_addShares_83 (by decide) (fun c83 => ?_) (fun c83 => ?_)
              · skip
                exact absurd c83 (by decide)
              · skip
                refine lv_aload hx hb d_Box_addShares_86 (lv_at hl 0 rfl) ?_
                refine hv_castS hE hI h11 rfl w409 d_Box_addShares_88 ?_
                refine lv_astore (lv' := [(5, .ref q), (6, .ref q), (0, .ref bx), (1, .int (b2i sh)), (2, .int gv), (3, .int bf), (4, .int (nI i))]) hx hb d_Box_addShares_91 hl (by decide) rfl (fun ls hl => ?_)
                refine lv_aload hx hb d_Box_addShares_93 (lv_at hl 0 rfl) ?_
                refine lv_iload_n hx hb d_Box_addShares_95 rfl (lv_at hl 3 rfl) ?_
                refine hv_VNp (As := [.int (b2i sh)]) (rest := []) hE hml hK hI (c_Space_giveOrder l hl0 b0 D cA g7 q iw a9 b9 c9 e9 sh h11) cd_Space_giveOrder w418 w420 ws7 h11 rfl rfl rfl rfl hl.1 (Nat.le_of_ble_eq_true rfl) d_Box_addShares_96 ⟨by decide, by decide⟩ ⟨by decide, by decide⟩ (fun H locs hI => ?_)
                refine W.eq (g2 := F0 m 99 ls [.int (gvO sh b9 e9)]) rfl ?_
                refine lv_aload_n hx hb d_Box_addShares_99 rfl (lv_at hl 2 rfl) ?_
                refine hv_get hE k_Box hI 9 (by decide) w343 h8 rfl d_Box_addShares_100 ?_
                refine lv_icmp_ne (tgt := 115) hx hb d_Box_addShares_103 (by decide) (fun c103 => ?_) (fun c103 => ?_)
                · skip
                  obtain ⟨v12, ev12⟩ : ∃ y : Int32, y = (nI i) + 1 := ⟨_, rfl⟩
                  refine lv_iinc (v := v12) (lv' := [(4, .int v12), (5, .ref q), (6, .ref q), (0, .ref bx), (1, .int (b2i sh)), (2, .int gv), (3, .int bf)]) hx hb d_Box_addShares_115 hl (k := 6) rfl (by rw [ev12]; rfl) (by decide) rfl (fun ls hl => ?_)
                  refine lv_goto (tgt := 38) hx hb d_Box_addShares_118 (by decide) ?_
                  exact ih (i + 1) bf _ _ _ _ ls (by omega) h9 (fun z z1 => by rw [eg7, hv_up_ne _ _ z1]; exact hfo z z1) (by rw [← heq]; simp only [shareF, hiv, if_neg c103]) hI (by rw [← nI_1, ← ev12]; exact lv_sub hl [3, 4, 5, 6, 0] rfl)
                · skip
                  refine lv_iload_n hx hb d_Box_addShares_106 rfl (lv_at hl 5 rfl) ?_
                  refine lv_aload hx hb d_Box_addShares_107 (lv_at hl 0 rfl) ?_
                  refine lv_iload_n hx hb d_Box_addShares_109 rfl (lv_at hl 3 rfl) ?_
                  refine hv_VNp (As := [.int (b2i sh)]) (rest := [.int bf]) hE hml hK hI (c_Space_give l hl0 b0 D cA g7 q iw a9 b9 c9 e9 sh h11) cd_Space_give w422 w424 ws8 h11 rfl rfl rfl rfl hl.1 (Nat.le_of_ble_eq_true rfl) d_Box_addShares_110 ⟨by decide, by decide⟩ ⟨by decide, by decide⟩ (fun H locs hI => ?_)
                  refine W.eq (g2 := F0 m 113 ls [.int (gvA sh a9 c9), .int bf]) rfl ?_
                  refine lv_iadd hx hb d_Box_addShares_113 ?_
                  refine lv_istore_n (lv' := [(3, .int (bf + (gvA sh a9 c9))), (5, .ref q), (6, .ref q), (0, .ref bx), (1, .int (b2i sh)), (2, .int gv), (4, .int (nI i))]) hx hb d_Box_addShares_114 rfl hl (by decide) rfl (fun ls hl => ?_)
                  obtain ⟨v13, ev13⟩ : ∃ y : Int32, y = (nI i) + 1 := ⟨_, rfl⟩
                  refine lv_iinc (v := v13) (lv' := [(4, .int v13), (3, .int (bf + (gvA sh a9 c9))), (5, .ref q), (6, .ref q), (0, .ref bx), (1, .int (b2i sh)), (2, .int gv)]) hx hb d_Box_addShares_115 hl (k := 6) rfl (by rw [ev13]; rfl) (by decide) rfl (fun ls hl => ?_)
                  refine lv_goto (tgt := 38) hx hb d_Box_addShares_118 (by decide) ?_
                  exact ih (i + 1) (bf + (gvA sh a9 c9)) _ _ _ _ ls (by omega) h9 (fun z z1 => by rw [eg7, hv_up_ne _ _ z1]; exact hfo z z1) (by rw [← heq]; simp only [shareF, hiv, if_pos c103]) hI (by rw [← nI_1, ← ev13]; exact lv_sub hl [4, 5, 6, 1, 0] rfl)
      exact loop n 0 0 gp0 f _ _ ls (by omega) hpa (fun z _ => rfl) rfl hI (lv_sub hl [4, 3, 2, 1, 0] rfl)
    · skip
      refine lv_aload_n hx hb d_Box_addShares_20 rfl (lv_at hl 1 rfl) ?_
      refine hv_get hE k_Box hI 10 (by decide) w345 hbx rfl d_Box_addShares_21 ?_
      refine lv_ineg hx hb d_Box_addShares_24 ?_
      refine lv_goto (tgt := 32) hx hb d_Box_addShares_25 (by decide) ?_
      obtain ⟨gv, egv⟩ : ∃ z : Int32, z = -to := ⟨_, rfl⟩
      refine W.eq (g2 := F0 m 32 ls [.int gv]) (by rw [egv]) ?_
      refine lv_istore_n (lv' := [(2, .int gv), (1, .int (b2i sh)), (0, .ref bx)]) hx hb d_Box_addShares_32 rfl hl (by decide) rfl (fun ls hl => ?_)
      refine lv_iconst (v := 0) hx hb d_Box_addShares_33 (by decide) ?_
      refine lv_istore_n (lv' := [(3, .int 0), (2, .int gv), (1, .int (b2i sh)), (0, .ref bx)]) hx hb d_Box_addShares_34 rfl hl (by decide) rfl (fun ls hl => ?_)
      refine lv_iconst (v := 0) hx hb d_Box_addShares_35 (by decide) ?_
      refine lv_istore (lv' := [(4, .int 0), (3, .int 0), (2, .int gv), (1, .int (b2i sh)), (0, .ref bx)]) hx hb d_Box_addShares_36 hl (by decide) rfl (fun ls hl => ?_)
      have loop : ∀ (k i : Nat) (bf : Int32) (gp : Nat → Int32) (g : hv_M) (H : Heap) (locs : List Loc) (ls : Array Slot), i + k = n → g pa = some (.inl (cA 0, n, .inl gp)) → (∀ z, z ≠ pa → g z = f z) → shareF sh od to gv iv k i bf gp = shareF sh od to gv iv n 0 0 gp0 → hv_I D CL b0 g s.heap H locs → lv_has ls 7 [(0, .ref bx), (1, .int (b2i sh)), (2, .int gv), (3, .int bf), (4, .int (nI i))] → W p l e (RM 1 0 0) s m ([.ref bx] : List Value).toArray below meth c H locs (0) (0) (xh_MQ below (hv_Q b0 (Fa D cA) D CL (fun v g => v = none ∧ g = hv_up f pa (.inl (cA 0, n, .inl (addS ex od to ov iv n gp0)))) (NX)) s 0 0 (fun q => b0 ≤ q)) (F0 m 38 ls []) := by
        intro k
        induction k with
        | zero =>
          intro i bf gp g H locs ls hik hgp hfo heq hI hl
          have hgb : g bx = some (.inr (1, [.int bel, .ref ca, .ref pa, .int dp, .int al, .int w, .int h, .int d, .int ex, .int od, .int to, .int ov])) := by rw [hfo bx (hv_ne hbx hpa (by simp))]; exact hbx
          have hgc : g ca = some (.inl (cA 3, n, .inr (.inr (.inr (.inr gc))))) := by rw [hfo ca (hv_ne hca hpa (by simp))]; exact hca
          refine lv_iload hx hb d_Box_addShares_38 (lv_at hl 4 rfl) ?_
          refine lv_aload_n hx hb d_Box_addShares_40 rfl (lv_at hl 0 rfl) ?_
          refine hv_get hE k_Box hI 1 (by decide) w327 hgb rfl d_Box_addShares_41 ?_
          refine hv_alen hE hI 3 hgc rfl (z := nI n) rfl d_Box_addShares_44 ?_
          refine lv_icmp_ge (tgt := 121) hx hb d_Box_addShares_45 (by decide) (fun c45 => ?_) (fun c45 => ?_)
          · skip
            exact hv_vret hE hr hlocks hI hK (⟨rfl, by rw [addS, show decide (ex < 0) = sh from esh ▸ decide_eq_false (Int32.not_lt.mpr c4), show (if 0 < ov then -to else ex) = gv from egv ▸ if_pos (Int32.not_le.mp c17), ← heq]; funext z; by_cases hz : z = pa; (rw [hz, hv_up_self]; exact hgp); (rw [hv_up_ne _ _ hz]; exact hfo z hz)⟩) (by decide) (by decide) d_Box_addShares_121
          · skip
            exact absurd (nI_le (by omega) (by omega)) c45
        | succ k ih =>
          intro i bf gp g H locs ls hik hgp hfo heq hI hl
          have hgb : g bx = some (.inr (1, [.int bel, .ref ca, .ref pa, .int dp, .int al, .int w, .int h, .int d, .int ex, .int od, .int to, .int ov])) := by rw [hfo bx (hv_ne hbx hpa (by simp))]; exact hbx
          have hgc : g ca = some (.inl (cA 3, n, .inr (.inr (.inr (.inr gc))))) := by rw [hfo ca (hv_ne hca hpa (by simp))]; exact hca
          obtain ⟨q, hq1, hq2⟩ := hit i (by omega)
          rcases hiv : iv i with ⟨t, iw, ih9, id9, inn, z9⟩ | ⟨iw, a9, b9, c9, e9⟩
          · rw [hiv] at hq2
            have hgq : g q = some (.inr (2, [.int t, .int iw, .int ih9, .int id9, va_rf inn, .int z9])) := by rw [hfo q (hv_ne hq2 hpa (by simp [itE]))]; exact hq2
            refine lv_iload hx hb d_Box_addShares_38 (lv_at hl 4 rfl) ?_
            refine lv_aload_n hx hb d_Box_addShares_40 rfl (lv_at hl 0 rfl) ?_
            refine hv_get hE k_Box hI 1 (by decide) w327 hgb rfl d_Box_addShares_41 ?_
            refine hv_alen hE hI 3 hgc rfl (z := nI n) rfl d_Box_addShares_44 ?_
            refine lv_icmp_ge (tgt := 121) hx hb d_Box_addShares_45 (by decide) (fun c45 => ?_) (fun c45 => ?_)
            · skip
              exact absurd c45 (nI_ge (by omega) (by omega))
            · skip
              refine lv_aload_n hx hb d_Box_addShares_48 rfl (lv_at hl 0 rfl) ?_
              refine hv_get hE k_Box hI 2 (by decide) w329 hgb rfl d_Box_addShares_49 ?_
              refine lv_iload hx hb d_Box_addShares_52 (lv_at hl 4 rfl) ?_
              refine lv_dup2_11 hx hb d_Box_addShares_54 rfl rfl ?_
              refine hv_iald hE hI 0 hgp rfl (pk_in i n (by omega) rfl (by omega)) d_Box_addShares_55 ?_
              rw [nI_cl (by omega)]
              refine lv_iload_n hx hb d_Box_addShares_56 rfl (lv_at hl 3 rfl) ?_
              refine lv_i2l (v := bf.toInt64) hx hb d_Box_addShares_57 rfl ?_
              refine lv_iload_n hx hb d_Box_addShares_58 rfl (lv_at hl 2 rfl) ?_
              refine lv_i2l (v := gv.toInt64) hx hb d_Box_addShares_59 rfl ?_
              refine lv_aload_n hx hb d_Box_addShares_60 rfl (lv_at hl 0 rfl) ?_
              refine hv_get hE k_Box hI 10 (by decide) w345 hgb rfl d_Box_addShares_61 ?_
              refine hv_SNp (As := [.long bf.toInt64, .long gv.toInt64, .int to]) (rest := [.int (gp i), .int (nI i), .ref pa]) hE hml hK hI (c_BP_share l hl0 b0 D cA g bf.toInt64 gv.toInt64 to) cd_BP_share w438 w439 rfl rfl rfl hl.1 (Nat.le_of_ble_eq_true rfl) d_Box_addShares_64 ⟨by decide, by decide⟩ ⟨by decide, by decide⟩ (fun H locs hI => ?_)
              refine W.eq (g2 := F0 m 67 ls [.int (shr bf.toInt64 gv.toInt64 to), .int (gp i), .int (nI i), .ref pa]) rfl ?_
              refine lv_iadd hx hb d_Box_addShares_67 ?_
              refine hv_iast hE hI 0 hgp rfl (pk_in i n (by omega) rfl (by omega)) d_Box_addShares_68 (fun H locs hI => ?_)
              rw [nI_cl (by omega)] at hI
              obtain ⟨g14, eg14⟩ : ∃ z : hv_M, z = hv_up g pa (.inl (cA 0, n, .inl (upd gp i ((gp i) + (shr bf.toInt64 gv.toInt64 to))))) := ⟨_, rfl⟩
              have hI : hv_I D CL b0 g14 s.heap H locs := by rw [eg14]; exact hI
              have h15 : g14 bx = some (.inr (1, [.int bel, .ref ca, .ref pa, .int dp, .int al, .int w, .int h, .int d, .int ex, .int od, .int to, .int ov])) := by rw [eg14]; rw [hv_up_ne _ _ (hv_ne hgb hgp (by simp))]; exact hgb
              have h16 : g14 pa = some (.inl (cA 0, n, .inl (upd gp i ((gp i) + (shr bf.toInt64 gv.toInt64 to))))) := by rw [eg14]; exact hv_up_self _ _ _
              have h17 : g14 ca = some (.inl (cA 3, n, .inr (.inr (.inr (.inr gc))))) := by rw [eg14]; rw [hv_up_ne _ _ (hv_ne hgc hgp (by simp))]; exact hgc
              have h18 : g14 q = some (.inr (2, [.int t, .int iw, .int ih9, .int id9, va_rf inn, .int z9])) := by rw [eg14]; rw [hv_up_ne _ _ (hv_ne hgq hgp (by simp))]; exact hgq
              refine lv_aload_n hx hb d_Box_addShares_69 rfl (lv_at hl 0 rfl) ?_
              refine hv_get hE k_Box hI 1 (by decide) w327 h15 rfl d_Box_addShares_70 ?_
              refine lv_iload hx hb d_Box_addShares_73 (lv_at hl 4 rfl) ?_
              refine hv_aald hE hI 3 h17 rfl (pk_in i n (by omega) rfl (by omega)) d_Box_addShares_75 ?_
              rw [nI_cl (by omega)]
              rw [hq1]
              refine W.eq (g2 := F0 m 76 ls [.ref q]) rfl ?_
              refine lv_astore (lv' := [(6, .ref q), (0, .ref bx), (1, .int (b2i sh)), (2, .int gv), (3, .int bf), (4, .int (nI i))]) hx hb d_Box_addShares_76 hl (by decide) rfl (fun ls hl => ?_)
              refine lv_aload hx hb d_Box_addShares_78 (lv_at hl 0 rfl) ?_
              refine hv_instN hE hI hK h18 rfl (nm := "BoxPacker$Space") (by decide) w409 d_Box_addShares_80 ?_
              refine lv_if_eq (tgt := 115) hx hb d_Box_addShares_83 (by decide) (fun c83 => ?_) (fun c83 => ?_)
              · skip
                obtain ⟨v19, ev19⟩ : ∃ y : Int32, y = (nI i) + 1 := ⟨_, rfl⟩
                refine lv_iinc (v := v19) (lv' := [(4, .int v19), (6, .ref q), (0, .ref bx), (1, .int (b2i sh)), (2, .int gv), (3, .int bf)]) hx hb d_Box_addShares_115 hl (k := 5) rfl (by rw [ev19]; rfl) (by decide) rfl (fun ls hl => ?_)
                refine lv_goto (tgt := 38) hx hb d_Box_addShares_118 (by decide) ?_
                exact ih (i + 1) bf _ _ _ _ ls (by omega) h16 (fun z z1 => by rw [eg14, hv_up_ne _ _ z1]; exact hfo z z1) (by rw [← heq]; simp only [shareF, hiv]) hI (by rw [← nI_1, ← ev19]; exact lv_sub hl [2, 3, 4, 5, 0] rfl)
              · skip
                exact absurd rfl c83
          · rw [hiv] at hq2
            have hgq : g q = some (.inr (3, [.int iw, .int a9, .int b9, .int c9, .int e9])) := by rw [hfo q (hv_ne hq2 hpa (by simp [itE]))]; exact hq2
            refine lv_iload hx hb d_Box_addShares_38 (lv_at hl 4 rfl) ?_
            refine lv_aload_n hx hb d_Box_addShares_40 rfl (lv_at hl 0 rfl) ?_
            refine hv_get hE k_Box hI 1 (by decide) w327 hgb rfl d_Box_addShares_41 ?_
            refine hv_alen hE hI 3 hgc rfl (z := nI n) rfl d_Box_addShares_44 ?_
            refine lv_icmp_ge (tgt := 121) hx hb d_Box_addShares_45 (by decide) (fun c45 => ?_) (fun c45 => ?_)
            · skip
              exact absurd c45 (nI_ge (by omega) (by omega))
            · skip
              refine lv_aload_n hx hb d_Box_addShares_48 rfl (lv_at hl 0 rfl) ?_
              refine hv_get hE k_Box hI 2 (by decide) w329 hgb rfl d_Box_addShares_49 ?_
              refine lv_iload hx hb d_Box_addShares_52 (lv_at hl 4 rfl) ?_
              refine lv_dup2_11 hx hb d_Box_addShares_54 rfl rfl ?_
              refine hv_iald hE hI 0 hgp rfl (pk_in i n (by omega) rfl (by omega)) d_Box_addShares_55 ?_
              rw [nI_cl (by omega)]
              refine lv_iload_n hx hb d_Box_addShares_56 rfl (lv_at hl 3 rfl) ?_
              refine lv_i2l (v := bf.toInt64) hx hb d_Box_addShares_57 rfl ?_
              refine lv_iload_n hx hb d_Box_addShares_58 rfl (lv_at hl 2 rfl) ?_
              refine lv_i2l (v := gv.toInt64) hx hb d_Box_addShares_59 rfl ?_
              refine lv_aload_n hx hb d_Box_addShares_60 rfl (lv_at hl 0 rfl) ?_
              refine hv_get hE k_Box hI 10 (by decide) w345 hgb rfl d_Box_addShares_61 ?_
              refine hv_SNp (As := [.long bf.toInt64, .long gv.toInt64, .int to]) (rest := [.int (gp i), .int (nI i), .ref pa]) hE hml hK hI (c_BP_share l hl0 b0 D cA g bf.toInt64 gv.toInt64 to) cd_BP_share w438 w439 rfl rfl rfl hl.1 (Nat.le_of_ble_eq_true rfl) d_Box_addShares_64 ⟨by decide, by decide⟩ ⟨by decide, by decide⟩ (fun H locs hI => ?_)
              refine W.eq (g2 := F0 m 67 ls [.int (shr bf.toInt64 gv.toInt64 to), .int (gp i), .int (nI i), .ref pa]) rfl ?_
              refine lv_iadd hx hb d_Box_addShares_67 ?_
              refine hv_iast hE hI 0 hgp rfl (pk_in i n (by omega) rfl (by omega)) d_Box_addShares_68 (fun H locs hI => ?_)
              rw [nI_cl (by omega)] at hI
              obtain ⟨g20, eg20⟩ : ∃ z : hv_M, z = hv_up g pa (.inl (cA 0, n, .inl (upd gp i ((gp i) + (shr bf.toInt64 gv.toInt64 to))))) := ⟨_, rfl⟩
              have hI : hv_I D CL b0 g20 s.heap H locs := by rw [eg20]; exact hI
              have h21 : g20 bx = some (.inr (1, [.int bel, .ref ca, .ref pa, .int dp, .int al, .int w, .int h, .int d, .int ex, .int od, .int to, .int ov])) := by rw [eg20]; rw [hv_up_ne _ _ (hv_ne hgb hgp (by simp))]; exact hgb
              have h22 : g20 pa = some (.inl (cA 0, n, .inl (upd gp i ((gp i) + (shr bf.toInt64 gv.toInt64 to))))) := by rw [eg20]; exact hv_up_self _ _ _
              have h23 : g20 ca = some (.inl (cA 3, n, .inr (.inr (.inr (.inr gc))))) := by rw [eg20]; rw [hv_up_ne _ _ (hv_ne hgc hgp (by simp))]; exact hgc
              have h24 : g20 q = some (.inr (3, [.int iw, .int a9, .int b9, .int c9, .int e9])) := by rw [eg20]; rw [hv_up_ne _ _ (hv_ne hgq hgp (by simp))]; exact hgq
              refine lv_aload_n hx hb d_Box_addShares_69 rfl (lv_at hl 0 rfl) ?_
              refine hv_get hE k_Box hI 1 (by decide) w327 h21 rfl d_Box_addShares_70 ?_
              refine lv_iload hx hb d_Box_addShares_73 (lv_at hl 4 rfl) ?_
              refine hv_aald hE hI 3 h23 rfl (pk_in i n (by omega) rfl (by omega)) d_Box_addShares_75 ?_
              rw [nI_cl (by omega)]
              rw [hq1]
              refine W.eq (g2 := F0 m 76 ls [.ref q]) rfl ?_
              refine lv_astore (lv' := [(6, .ref q), (0, .ref bx), (1, .int (b2i sh)), (2, .int gv), (3, .int bf), (4, .int (nI i))]) hx hb d_Box_addShares_76 hl (by decide) rfl (fun ls hl => ?_)
              refine lv_aload hx hb d_Box_addShares_78 (lv_at hl 0 rfl) ?_
              refine hv_instS hE hI h24 rfl w409 d_Box_addShares_80 ?_
              refine lv_if_eq (tgt := 115) hx hb d_Box_addShares_83 (by decide) (fun c83 => ?_) (fun c83 => ?_)
              · skip
                exact absurd c83 (by decide)
              · skip
                refine lv_aload hx hb d_Box_addShares_86 (lv_at hl 0 rfl) ?_
                refine hv_castS hE hI h24 rfl w409 d_Box_addShares_88 ?_
                refine lv_astore (lv' := [(5, .ref q), (6, .ref q), (0, .ref bx), (1, .int (b2i sh)), (2, .int gv), (3, .int bf), (4, .int (nI i))]) hx hb d_Box_addShares_91 hl (by decide) rfl (fun ls hl => ?_)
                refine lv_aload hx hb d_Box_addShares_93 (lv_at hl 0 rfl) ?_
                refine lv_iload_n hx hb d_Box_addShares_95 rfl (lv_at hl 3 rfl) ?_
                refine hv_VNp (As := [.int (b2i sh)]) (rest := []) hE hml hK hI (c_Space_giveOrder l hl0 b0 D cA g20 q iw a9 b9 c9 e9 sh h24) cd_Space_giveOrder w418 w420 ws7 h24 rfl rfl rfl rfl hl.1 (Nat.le_of_ble_eq_true rfl) d_Box_addShares_96 ⟨by decide, by decide⟩ ⟨by decide, by decide⟩ (fun H locs hI => ?_)
                refine W.eq (g2 := F0 m 99 ls [.int (gvO sh b9 e9)]) rfl ?_
                refine lv_aload_n hx hb d_Box_addShares_99 rfl (lv_at hl 2 rfl) ?_
                refine hv_get hE k_Box hI 9 (by decide) w343 h21 rfl d_Box_addShares_100 ?_
                refine lv_icmp_ne (tgt := 115) hx hb d_Box_addShares_103 (by decide) (fun c103 => ?_) (fun c103 => ?_)
                · skip
                  obtain ⟨v25, ev25⟩ : ∃ y : Int32, y = (nI i) + 1 := ⟨_, rfl⟩
                  refine lv_iinc (v := v25) (lv' := [(4, .int v25), (5, .ref q), (6, .ref q), (0, .ref bx), (1, .int (b2i sh)), (2, .int gv), (3, .int bf)]) hx hb d_Box_addShares_115 hl (k := 6) rfl (by rw [ev25]; rfl) (by decide) rfl (fun ls hl => ?_)
                  refine lv_goto (tgt := 38) hx hb d_Box_addShares_118 (by decide) ?_
                  exact ih (i + 1) bf _ _ _ _ ls (by omega) h22 (fun z z1 => by rw [eg20, hv_up_ne _ _ z1]; exact hfo z z1) (by rw [← heq]; simp only [shareF, hiv, if_neg c103]) hI (by rw [← nI_1, ← ev25]; exact lv_sub hl [3, 4, 5, 6, 0] rfl)
                · skip
                  refine lv_iload_n hx hb d_Box_addShares_106 rfl (lv_at hl 5 rfl) ?_
                  refine lv_aload hx hb d_Box_addShares_107 (lv_at hl 0 rfl) ?_
                  refine lv_iload_n hx hb d_Box_addShares_109 rfl (lv_at hl 3 rfl) ?_
                  refine hv_VNp (As := [.int (b2i sh)]) (rest := [.int bf]) hE hml hK hI (c_Space_give l hl0 b0 D cA g20 q iw a9 b9 c9 e9 sh h24) cd_Space_give w422 w424 ws8 h24 rfl rfl rfl rfl hl.1 (Nat.le_of_ble_eq_true rfl) d_Box_addShares_110 ⟨by decide, by decide⟩ ⟨by decide, by decide⟩ (fun H locs hI => ?_)
                  refine W.eq (g2 := F0 m 113 ls [.int (gvA sh a9 c9), .int bf]) rfl ?_
                  refine lv_iadd hx hb d_Box_addShares_113 ?_
                  refine lv_istore_n (lv' := [(3, .int (bf + (gvA sh a9 c9))), (5, .ref q), (6, .ref q), (0, .ref bx), (1, .int (b2i sh)), (2, .int gv), (4, .int (nI i))]) hx hb d_Box_addShares_114 rfl hl (by decide) rfl (fun ls hl => ?_)
                  obtain ⟨v26, ev26⟩ : ∃ y : Int32, y = (nI i) + 1 := ⟨_, rfl⟩
                  refine lv_iinc (v := v26) (lv' := [(4, .int v26), (3, .int (bf + (gvA sh a9 c9))), (5, .ref q), (6, .ref q), (0, .ref bx), (1, .int (b2i sh)), (2, .int gv)]) hx hb d_Box_addShares_115 hl (k := 6) rfl (by rw [ev26]; rfl) (by decide) rfl (fun ls hl => ?_)
                  refine lv_goto (tgt := 38) hx hb d_Box_addShares_118 (by decide) ?_
                  exact ih (i + 1) (bf + (gvA sh a9 c9)) _ _ _ _ ls (by omega) h22 (fun z z1 => by rw [eg20, hv_up_ne _ _ z1]; exact hfo z z1) (by rw [← heq]; simp only [shareF, hiv, if_pos c103]) hI (by rw [← nI_1, ← ev26]; exact lv_sub hl [4, 5, 6, 1, 0] rfl)
      exact loop n 0 0 gp0 f _ _ ls (by omega) hpa (fun z _ => rfl) rfl hI (lv_sub hl [4, 3, 2, 1, 0] rfl)
  · skip
    refine lv_iconst (v := 1) hx hb d_Box_addShares_7 (by decide) ?_
    refine lv_goto (tgt := 12) hx hb d_Box_addShares_8 (by decide) ?_
    obtain ⟨sh, esh⟩ : ∃ z : Bool, z = true := ⟨_, rfl⟩
    refine W.eq (g2 := F0 m 12 ls [.int (b2i sh)]) (by rw [esh]; rfl) ?_
    refine lv_istore_n (lv' := [(1, .int (b2i sh)), (0, .ref bx)]) hx hb d_Box_addShares_12 rfl hl (by decide) rfl (fun ls hl => ?_)
    refine lv_aload_n hx hb d_Box_addShares_13 rfl (lv_at hl 1 rfl) ?_
    refine hv_get hE k_Box hI 11 (by decide) w347 hbx rfl d_Box_addShares_14 ?_
    refine lv_if_le (tgt := 28) hx hb d_Box_addShares_17 (by decide) (fun c17 => ?_) (fun c17 => ?_)
    · skip
      refine lv_aload_n hx hb d_Box_addShares_28 rfl (lv_at hl 1 rfl) ?_
      refine hv_get hE k_Box hI 8 (by decide) w341 hbx rfl d_Box_addShares_29 ?_
      obtain ⟨gv, egv⟩ : ∃ z : Int32, z = ex := ⟨_, rfl⟩
      refine W.eq (g2 := F0 m 32 ls [.int gv]) (by rw [egv]) ?_
      refine lv_istore_n (lv' := [(2, .int gv), (1, .int (b2i sh)), (0, .ref bx)]) hx hb d_Box_addShares_32 rfl hl (by decide) rfl (fun ls hl => ?_)
      refine lv_iconst (v := 0) hx hb d_Box_addShares_33 (by decide) ?_
      refine lv_istore_n (lv' := [(3, .int 0), (2, .int gv), (1, .int (b2i sh)), (0, .ref bx)]) hx hb d_Box_addShares_34 rfl hl (by decide) rfl (fun ls hl => ?_)
      refine lv_iconst (v := 0) hx hb d_Box_addShares_35 (by decide) ?_
      refine lv_istore (lv' := [(4, .int 0), (3, .int 0), (2, .int gv), (1, .int (b2i sh)), (0, .ref bx)]) hx hb d_Box_addShares_36 hl (by decide) rfl (fun ls hl => ?_)
      have loop : ∀ (k i : Nat) (bf : Int32) (gp : Nat → Int32) (g : hv_M) (H : Heap) (locs : List Loc) (ls : Array Slot), i + k = n → g pa = some (.inl (cA 0, n, .inl gp)) → (∀ z, z ≠ pa → g z = f z) → shareF sh od to gv iv k i bf gp = shareF sh od to gv iv n 0 0 gp0 → hv_I D CL b0 g s.heap H locs → lv_has ls 7 [(0, .ref bx), (1, .int (b2i sh)), (2, .int gv), (3, .int bf), (4, .int (nI i))] → W p l e (RM 1 0 0) s m ([.ref bx] : List Value).toArray below meth c H locs (0) (0) (xh_MQ below (hv_Q b0 (Fa D cA) D CL (fun v g => v = none ∧ g = hv_up f pa (.inl (cA 0, n, .inl (addS ex od to ov iv n gp0)))) (NX)) s 0 0 (fun q => b0 ≤ q)) (F0 m 38 ls []) := by
        intro k
        induction k with
        | zero =>
          intro i bf gp g H locs ls hik hgp hfo heq hI hl
          have hgb : g bx = some (.inr (1, [.int bel, .ref ca, .ref pa, .int dp, .int al, .int w, .int h, .int d, .int ex, .int od, .int to, .int ov])) := by rw [hfo bx (hv_ne hbx hpa (by simp))]; exact hbx
          have hgc : g ca = some (.inl (cA 3, n, .inr (.inr (.inr (.inr gc))))) := by rw [hfo ca (hv_ne hca hpa (by simp))]; exact hca
          refine lv_iload hx hb d_Box_addShares_38 (lv_at hl 4 rfl) ?_
          refine lv_aload_n hx hb d_Box_addShares_40 rfl (lv_at hl 0 rfl) ?_
          refine hv_get hE k_Box hI 1 (by decide) w327 hgb rfl d_Box_addShares_41 ?_
          refine hv_alen hE hI 3 hgc rfl (z := nI n) rfl d_Box_addShares_44 ?_
          refine lv_icmp_ge (tgt := 121) hx hb d_Box_addShares_45 (by decide) (fun c45 => ?_) (fun c45 => ?_)
          · skip
            exact hv_vret hE hr hlocks hI hK (⟨rfl, by rw [addS, show decide (ex < 0) = sh from esh ▸ decide_eq_true (Int32.not_le.mp c4), show (if 0 < ov then -to else ex) = gv from egv ▸ if_neg (Int32.not_lt.mpr c17), ← heq]; funext z; by_cases hz : z = pa; (rw [hz, hv_up_self]; exact hgp); (rw [hv_up_ne _ _ hz]; exact hfo z hz)⟩) (by decide) (by decide) d_Box_addShares_121
          · skip
            exact absurd (nI_le (by omega) (by omega)) c45
        | succ k ih =>
          intro i bf gp g H locs ls hik hgp hfo heq hI hl
          have hgb : g bx = some (.inr (1, [.int bel, .ref ca, .ref pa, .int dp, .int al, .int w, .int h, .int d, .int ex, .int od, .int to, .int ov])) := by rw [hfo bx (hv_ne hbx hpa (by simp))]; exact hbx
          have hgc : g ca = some (.inl (cA 3, n, .inr (.inr (.inr (.inr gc))))) := by rw [hfo ca (hv_ne hca hpa (by simp))]; exact hca
          obtain ⟨q, hq1, hq2⟩ := hit i (by omega)
          rcases hiv : iv i with ⟨t, iw, ih9, id9, inn, z9⟩ | ⟨iw, a9, b9, c9, e9⟩
          · rw [hiv] at hq2
            have hgq : g q = some (.inr (2, [.int t, .int iw, .int ih9, .int id9, va_rf inn, .int z9])) := by rw [hfo q (hv_ne hq2 hpa (by simp [itE]))]; exact hq2
            refine lv_iload hx hb d_Box_addShares_38 (lv_at hl 4 rfl) ?_
            refine lv_aload_n hx hb d_Box_addShares_40 rfl (lv_at hl 0 rfl) ?_
            refine hv_get hE k_Box hI 1 (by decide) w327 hgb rfl d_Box_addShares_41 ?_
            refine hv_alen hE hI 3 hgc rfl (z := nI n) rfl d_Box_addShares_44 ?_
            refine lv_icmp_ge (tgt := 121) hx hb d_Box_addShares_45 (by decide) (fun c45 => ?_) (fun c45 => ?_)
            · skip
              exact absurd c45 (nI_ge (by omega) (by omega))
            · skip
              refine lv_aload_n hx hb d_Box_addShares_48 rfl (lv_at hl 0 rfl) ?_
              refine hv_get hE k_Box hI 2 (by decide) w329 hgb rfl d_Box_addShares_49 ?_
              refine lv_iload hx hb d_Box_addShares_52 (lv_at hl 4 rfl) ?_
              refine lv_dup2_11 hx hb d_Box_addShares_54 rfl rfl ?_
              refine hv_iald hE hI 0 hgp rfl (pk_in i n (by omega) rfl (by omega)) d_Box_addShares_55 ?_
              rw [nI_cl (by omega)]
              refine lv_iload_n hx hb d_Box_addShares_56 rfl (lv_at hl 3 rfl) ?_
              refine lv_i2l (v := bf.toInt64) hx hb d_Box_addShares_57 rfl ?_
              refine lv_iload_n hx hb d_Box_addShares_58 rfl (lv_at hl 2 rfl) ?_
              refine lv_i2l (v := gv.toInt64) hx hb d_Box_addShares_59 rfl ?_
              refine lv_aload_n hx hb d_Box_addShares_60 rfl (lv_at hl 0 rfl) ?_
              refine hv_get hE k_Box hI 10 (by decide) w345 hgb rfl d_Box_addShares_61 ?_
              refine hv_SNp (As := [.long bf.toInt64, .long gv.toInt64, .int to]) (rest := [.int (gp i), .int (nI i), .ref pa]) hE hml hK hI (c_BP_share l hl0 b0 D cA g bf.toInt64 gv.toInt64 to) cd_BP_share w438 w439 rfl rfl rfl hl.1 (Nat.le_of_ble_eq_true rfl) d_Box_addShares_64 ⟨by decide, by decide⟩ ⟨by decide, by decide⟩ (fun H locs hI => ?_)
              refine W.eq (g2 := F0 m 67 ls [.int (shr bf.toInt64 gv.toInt64 to), .int (gp i), .int (nI i), .ref pa]) rfl ?_
              refine lv_iadd hx hb d_Box_addShares_67 ?_
              refine hv_iast hE hI 0 hgp rfl (pk_in i n (by omega) rfl (by omega)) d_Box_addShares_68 (fun H locs hI => ?_)
              rw [nI_cl (by omega)] at hI
              obtain ⟨g27, eg27⟩ : ∃ z : hv_M, z = hv_up g pa (.inl (cA 0, n, .inl (upd gp i ((gp i) + (shr bf.toInt64 gv.toInt64 to))))) := ⟨_, rfl⟩
              have hI : hv_I D CL b0 g27 s.heap H locs := by rw [eg27]; exact hI
              have h28 : g27 bx = some (.inr (1, [.int bel, .ref ca, .ref pa, .int dp, .int al, .int w, .int h, .int d, .int ex, .int od, .int to, .int ov])) := by rw [eg27]; rw [hv_up_ne _ _ (hv_ne hgb hgp (by simp))]; exact hgb
              have h29 : g27 pa = some (.inl (cA 0, n, .inl (upd gp i ((gp i) + (shr bf.toInt64 gv.toInt64 to))))) := by rw [eg27]; exact hv_up_self _ _ _
              have h30 : g27 ca = some (.inl (cA 3, n, .inr (.inr (.inr (.inr gc))))) := by rw [eg27]; rw [hv_up_ne _ _ (hv_ne hgc hgp (by simp))]; exact hgc
              have h31 : g27 q = some (.inr (2, [.int t, .int iw, .int ih9, .int id9, va_rf inn, .int z9])) := by rw [eg27]; rw [hv_up_ne _ _ (hv_ne hgq hgp (by simp))]; exact hgq
              refine lv_aload_n hx hb d_Box_addShares_69 rfl (lv_at hl 0 rfl) ?_
              refine hv_get hE k_Box hI 1 (by decide) w327 h28 rfl d_Box_addShares_70 ?_
              refine lv_iload hx hb d_Box_addShares_73 (lv_at hl 4 rfl) ?_
              refine hv_aald hE hI 3 h30 rfl (pk_in i n (by omega) rfl (by omega)) d_Box_addShares_75 ?_
              rw [nI_cl (by omega)]
              rw [hq1]
              refine W.eq (g2 := F0 m 76 ls [.ref q]) rfl ?_
              refine lv_astore (lv' := [(6, .ref q), (0, .ref bx), (1, .int (b2i sh)), (2, .int gv), (3, .int bf), (4, .int (nI i))]) hx hb d_Box_addShares_76 hl (by decide) rfl (fun ls hl => ?_)
              refine lv_aload hx hb d_Box_addShares_78 (lv_at hl 0 rfl) ?_
              refine hv_instN hE hI hK h31 rfl (nm := "BoxPacker$Space") (by decide) w409 d_Box_addShares_80 ?_
              refine lv_if_eq (tgt := 115) hx hb d_Box_addShares_83 (by decide) (fun c83 => ?_) (fun c83 => ?_)
              · skip
                obtain ⟨v32, ev32⟩ : ∃ y : Int32, y = (nI i) + 1 := ⟨_, rfl⟩
                refine lv_iinc (v := v32) (lv' := [(4, .int v32), (6, .ref q), (0, .ref bx), (1, .int (b2i sh)), (2, .int gv), (3, .int bf)]) hx hb d_Box_addShares_115 hl (k := 5) rfl (by rw [ev32]; rfl) (by decide) rfl (fun ls hl => ?_)
                refine lv_goto (tgt := 38) hx hb d_Box_addShares_118 (by decide) ?_
                exact ih (i + 1) bf _ _ _ _ ls (by omega) h29 (fun z z1 => by rw [eg27, hv_up_ne _ _ z1]; exact hfo z z1) (by rw [← heq]; simp only [shareF, hiv]) hI (by rw [← nI_1, ← ev32]; exact lv_sub hl [2, 3, 4, 5, 0] rfl)
              · skip
                exact absurd rfl c83
          · rw [hiv] at hq2
            have hgq : g q = some (.inr (3, [.int iw, .int a9, .int b9, .int c9, .int e9])) := by rw [hfo q (hv_ne hq2 hpa (by simp [itE]))]; exact hq2
            refine lv_iload hx hb d_Box_addShares_38 (lv_at hl 4 rfl) ?_
            refine lv_aload_n hx hb d_Box_addShares_40 rfl (lv_at hl 0 rfl) ?_
            refine hv_get hE k_Box hI 1 (by decide) w327 hgb rfl d_Box_addShares_41 ?_
            refine hv_alen hE hI 3 hgc rfl (z := nI n) rfl d_Box_addShares_44 ?_
            refine lv_icmp_ge (tgt := 121) hx hb d_Box_addShares_45 (by decide) (fun c45 => ?_) (fun c45 => ?_)
            · skip
              exact absurd c45 (nI_ge (by omega) (by omega))
            · skip
              refine lv_aload_n hx hb d_Box_addShares_48 rfl (lv_at hl 0 rfl) ?_
              refine hv_get hE k_Box hI 2 (by decide) w329 hgb rfl d_Box_addShares_49 ?_
              refine lv_iload hx hb d_Box_addShares_52 (lv_at hl 4 rfl) ?_
              refine lv_dup2_11 hx hb d_Box_addShares_54 rfl rfl ?_
              refine hv_iald hE hI 0 hgp rfl (pk_in i n (by omega) rfl (by omega)) d_Box_addShares_55 ?_
              rw [nI_cl (by omega)]
              refine lv_iload_n hx hb d_Box_addShares_56 rfl (lv_at hl 3 rfl) ?_
              refine lv_i2l (v := bf.toInt64) hx hb d_Box_addShares_57 rfl ?_
              refine lv_iload_n hx hb d_Box_addShares_58 rfl (lv_at hl 2 rfl) ?_
              refine lv_i2l (v := gv.toInt64) hx hb d_Box_addShares_59 rfl ?_
              refine lv_aload_n hx hb d_Box_addShares_60 rfl (lv_at hl 0 rfl) ?_
              refine hv_get hE k_Box hI 10 (by decide) w345 hgb rfl d_Box_addShares_61 ?_
              refine hv_SNp (As := [.long bf.toInt64, .long gv.toInt64, .int to]) (rest := [.int (gp i), .int (nI i), .ref pa]) hE hml hK hI (c_BP_share l hl0 b0 D cA g bf.toInt64 gv.toInt64 to) cd_BP_share w438 w439 rfl rfl rfl hl.1 (Nat.le_of_ble_eq_true rfl) d_Box_addShares_64 ⟨by decide, by decide⟩ ⟨by decide, by decide⟩ (fun H locs hI => ?_)
              refine W.eq (g2 := F0 m 67 ls [.int (shr bf.toInt64 gv.toInt64 to), .int (gp i), .int (nI i), .ref pa]) rfl ?_
              refine lv_iadd hx hb d_Box_addShares_67 ?_
              refine hv_iast hE hI 0 hgp rfl (pk_in i n (by omega) rfl (by omega)) d_Box_addShares_68 (fun H locs hI => ?_)
              rw [nI_cl (by omega)] at hI
              obtain ⟨g33, eg33⟩ : ∃ z : hv_M, z = hv_up g pa (.inl (cA 0, n, .inl (upd gp i ((gp i) + (shr bf.toInt64 gv.toInt64 to))))) := ⟨_, rfl⟩
              have hI : hv_I D CL b0 g33 s.heap H locs := by rw [eg33]; exact hI
              have h34 : g33 bx = some (.inr (1, [.int bel, .ref ca, .ref pa, .int dp, .int al, .int w, .int h, .int d, .int ex, .int od, .int to, .int ov])) := by rw [eg33]; rw [hv_up_ne _ _ (hv_ne hgb hgp (by simp))]; exact hgb
              have h35 : g33 pa = some (.inl (cA 0, n, .inl (upd gp i ((gp i) + (shr bf.toInt64 gv.toInt64 to))))) := by rw [eg33]; exact hv_up_self _ _ _
              have h36 : g33 ca = some (.inl (cA 3, n, .inr (.inr (.inr (.inr gc))))) := by rw [eg33]; rw [hv_up_ne _ _ (hv_ne hgc hgp (by simp))]; exact hgc
              have h37 : g33 q = some (.inr (3, [.int iw, .int a9, .int b9, .int c9, .int e9])) := by rw [eg33]; rw [hv_up_ne _ _ (hv_ne hgq hgp (by simp))]; exact hgq
              refine lv_aload_n hx hb d_Box_addShares_69 rfl (lv_at hl 0 rfl) ?_
              refine hv_get hE k_Box hI 1 (by decide) w327 h34 rfl d_Box_addShares_70 ?_
              refine lv_iload hx hb d_Box_addShares_73 (lv_at hl 4 rfl) ?_
              refine hv_aald hE hI 3 h36 rfl (pk_in i n (by omega) rfl (by omega)) d_Box_addShares_75 ?_
              rw [nI_cl (by omega)]
              rw [hq1]
              refine W.eq (g2 := F0 m 76 ls [.ref q]) rfl ?_
              refine lv_astore (lv' := [(6, .ref q), (0, .ref bx), (1, .int (b2i sh)), (2, .int gv), (3, .int bf), (4, .int (nI i))]) hx hb d_Box_addShares_76 hl (by decide) rfl (fun ls hl => ?_)
              refine lv_aload hx hb d_Box_addShares_78 (lv_at hl 0 rfl) ?_
              refine hv_instS hE hI h37 rfl w409 d_Box_addShares_80 ?_
              refine lv_if_eq (tgt := 115) hx hb d_Box_addShares_83 (by decide) (fun c83 => ?_) (fun c83 => ?_)
              · skip
                exact absurd c83 (by decide)
              · skip
                refine lv_aload hx hb d_Box_addShares_86 (lv_at hl 0 rfl) ?_
                refine hv_castS hE hI h37 rfl w409 d_Box_addShares_88 ?_
                refine lv_astore (lv' := [(5, .ref q), (6, .ref q), (0, .ref bx), (1, .int (b2i sh)), (2, .int gv), (3, .int bf), (4, .int (nI i))]) hx hb d_Box_addShares_91 hl (by decide) rfl (fun ls hl => ?_)
                refine lv_aload hx hb d_Box_addShares_93 (lv_at hl 0 rfl) ?_
                refine lv_iload_n hx hb d_Box_addShares_95 rfl (lv_at hl 3 rfl) ?_
                refine hv_VNp (As := [.int (b2i sh)]) (rest := []) hE hml hK hI (c_Space_giveOrder l hl0 b0 D cA g33 q iw a9 b9 c9 e9 sh h37) cd_Space_giveOrder w418 w420 ws7 h37 rfl rfl rfl rfl hl.1 (Nat.le_of_ble_eq_true rfl) d_Box_addShares_96 ⟨by decide, by decide⟩ ⟨by decide, by decide⟩ (fun H locs hI => ?_)
                refine W.eq (g2 := F0 m 99 ls [.int (gvO sh b9 e9)]) rfl ?_
                refine lv_aload_n hx hb d_Box_addShares_99 rfl (lv_at hl 2 rfl) ?_
                refine hv_get hE k_Box hI 9 (by decide) w343 h34 rfl d_Box_addShares_100 ?_
                refine lv_icmp_ne (tgt := 115) hx hb d_Box_addShares_103 (by decide) (fun c103 => ?_) (fun c103 => ?_)
                · skip
                  obtain ⟨v38, ev38⟩ : ∃ y : Int32, y = (nI i) + 1 := ⟨_, rfl⟩
                  refine lv_iinc (v := v38) (lv' := [(4, .int v38), (5, .ref q), (6, .ref q), (0, .ref bx), (1, .int (b2i sh)), (2, .int gv), (3, .int bf)]) hx hb d_Box_addShares_115 hl (k := 6) rfl (by rw [ev38]; rfl) (by decide) rfl (fun ls hl => ?_)
                  refine lv_goto (tgt := 38) hx hb d_Box_addShares_118 (by decide) ?_
                  exact ih (i + 1) bf _ _ _ _ ls (by omega) h35 (fun z z1 => by rw [eg33, hv_up_ne _ _ z1]; exact hfo z z1) (by rw [← heq]; simp only [shareF, hiv, if_neg c103]) hI (by rw [← nI_1, ← ev38]; exact lv_sub hl [3, 4, 5, 6, 0] rfl)
                · skip
                  refine lv_iload_n hx hb d_Box_addShares_106 rfl (lv_at hl 5 rfl) ?_
                  refine lv_aload hx hb d_Box_addShares_107 (lv_at hl 0 rfl) ?_
                  refine lv_iload_n hx hb d_Box_addShares_109 rfl (lv_at hl 3 rfl) ?_
                  refine hv_VNp (As := [.int (b2i sh)]) (rest := [.int bf]) hE hml hK hI (c_Space_give l hl0 b0 D cA g33 q iw a9 b9 c9 e9 sh h37) cd_Space_give w422 w424 ws8 h37 rfl rfl rfl rfl hl.1 (Nat.le_of_ble_eq_true rfl) d_Box_addShares_110 ⟨by decide, by decide⟩ ⟨by decide, by decide⟩ (fun H locs hI => ?_)
                  refine W.eq (g2 := F0 m 113 ls [.int (gvA sh a9 c9), .int bf]) rfl ?_
                  refine lv_iadd hx hb d_Box_addShares_113 ?_
                  refine lv_istore_n (lv' := [(3, .int (bf + (gvA sh a9 c9))), (5, .ref q), (6, .ref q), (0, .ref bx), (1, .int (b2i sh)), (2, .int gv), (4, .int (nI i))]) hx hb d_Box_addShares_114 rfl hl (by decide) rfl (fun ls hl => ?_)
                  obtain ⟨v39, ev39⟩ : ∃ y : Int32, y = (nI i) + 1 := ⟨_, rfl⟩
                  refine lv_iinc (v := v39) (lv' := [(4, .int v39), (3, .int (bf + (gvA sh a9 c9))), (5, .ref q), (6, .ref q), (0, .ref bx), (1, .int (b2i sh)), (2, .int gv)]) hx hb d_Box_addShares_115 hl (k := 6) rfl (by rw [ev39]; rfl) (by decide) rfl (fun ls hl => ?_)
                  refine lv_goto (tgt := 38) hx hb d_Box_addShares_118 (by decide) ?_
                  exact ih (i + 1) (bf + (gvA sh a9 c9)) _ _ _ _ ls (by omega) h35 (fun z z1 => by rw [eg33, hv_up_ne _ _ z1]; exact hfo z z1) (by rw [← heq]; simp only [shareF, hiv, if_pos c103]) hI (by rw [← nI_1, ← ev39]; exact lv_sub hl [4, 5, 6, 1, 0] rfl)
      exact loop n 0 0 gp0 f _ _ ls (by omega) hpa (fun z _ => rfl) rfl hI (lv_sub hl [4, 3, 2, 1, 0] rfl)
    · skip
      refine lv_aload_n hx hb d_Box_addShares_20 rfl (lv_at hl 1 rfl) ?_
      refine hv_get hE k_Box hI 10 (by decide) w345 hbx rfl d_Box_addShares_21 ?_
      refine lv_ineg hx hb d_Box_addShares_24 ?_
      refine lv_goto (tgt := 32) hx hb d_Box_addShares_25 (by decide) ?_
      obtain ⟨gv, egv⟩ : ∃ z : Int32, z = -to := ⟨_, rfl⟩
      refine W.eq (g2 := F0 m 32 ls [.int gv]) (by rw [egv]) ?_
      refine lv_istore_n (lv' := [(2, .int gv), (1, .int (b2i sh)), (0, .ref bx)]) hx hb d_Box_addShares_32 rfl hl (by decide) rfl (fun ls hl => ?_)
      refine lv_iconst (v := 0) hx hb d_Box_addShares_33 (by decide) ?_
      refine lv_istore_n (lv' := [(3, .int 0), (2, .int gv), (1, .int (b2i sh)), (0, .ref bx)]) hx hb d_Box_addShares_34 rfl hl (by decide) rfl (fun ls hl => ?_)
      refine lv_iconst (v := 0) hx hb d_Box_addShares_35 (by decide) ?_
      refine lv_istore (lv' := [(4, .int 0), (3, .int 0), (2, .int gv), (1, .int (b2i sh)), (0, .ref bx)]) hx hb d_Box_addShares_36 hl (by decide) rfl (fun ls hl => ?_)
      have loop : ∀ (k i : Nat) (bf : Int32) (gp : Nat → Int32) (g : hv_M) (H : Heap) (locs : List Loc) (ls : Array Slot), i + k = n → g pa = some (.inl (cA 0, n, .inl gp)) → (∀ z, z ≠ pa → g z = f z) → shareF sh od to gv iv k i bf gp = shareF sh od to gv iv n 0 0 gp0 → hv_I D CL b0 g s.heap H locs → lv_has ls 7 [(0, .ref bx), (1, .int (b2i sh)), (2, .int gv), (3, .int bf), (4, .int (nI i))] → W p l e (RM 1 0 0) s m ([.ref bx] : List Value).toArray below meth c H locs (0) (0) (xh_MQ below (hv_Q b0 (Fa D cA) D CL (fun v g => v = none ∧ g = hv_up f pa (.inl (cA 0, n, .inl (addS ex od to ov iv n gp0)))) (NX)) s 0 0 (fun q => b0 ≤ q)) (F0 m 38 ls []) := by
        intro k
        induction k with
        | zero =>
          intro i bf gp g H locs ls hik hgp hfo heq hI hl
          have hgb : g bx = some (.inr (1, [.int bel, .ref ca, .ref pa, .int dp, .int al, .int w, .int h, .int d, .int ex, .int od, .int to, .int ov])) := by rw [hfo bx (hv_ne hbx hpa (by simp))]; exact hbx
          have hgc : g ca = some (.inl (cA 3, n, .inr (.inr (.inr (.inr gc))))) := by rw [hfo ca (hv_ne hca hpa (by simp))]; exact hca
          refine lv_iload hx hb d_Box_addShares_38 (lv_at hl 4 rfl) ?_
          refine lv_aload_n hx hb d_Box_addShares_40 rfl (lv_at hl 0 rfl) ?_
          refine hv_get hE k_Box hI 1 (by decide) w327 hgb rfl d_Box_addShares_41 ?_
          refine hv_alen hE hI 3 hgc rfl (z := nI n) rfl d_Box_addShares_44 ?_
          refine lv_icmp_ge (tgt := 121) hx hb d_Box_addShares_45 (by decide) (fun c45 => ?_) (fun c45 => ?_)
          · skip
            exact hv_vret hE hr hlocks hI hK (⟨rfl, by rw [addS, show decide (ex < 0) = sh from esh ▸ decide_eq_true (Int32.not_le.mp c4), show (if 0 < ov then -to else ex) = gv from egv ▸ if_pos (Int32.not_le.mp c17), ← heq]; funext z; by_cases hz : z = pa; (rw [hz, hv_up_self]; exact hgp); (rw [hv_up_ne _ _ hz]; exact hfo z hz)⟩) (by decide) (by decide) d_Box_addShares_121
          · skip
            exact absurd (nI_le (by omega) (by omega)) c45
        | succ k ih =>
          intro i bf gp g H locs ls hik hgp hfo heq hI hl
          have hgb : g bx = some (.inr (1, [.int bel, .ref ca, .ref pa, .int dp, .int al, .int w, .int h, .int d, .int ex, .int od, .int to, .int ov])) := by rw [hfo bx (hv_ne hbx hpa (by simp))]; exact hbx
          have hgc : g ca = some (.inl (cA 3, n, .inr (.inr (.inr (.inr gc))))) := by rw [hfo ca (hv_ne hca hpa (by simp))]; exact hca
          obtain ⟨q, hq1, hq2⟩ := hit i (by omega)
          rcases hiv : iv i with ⟨t, iw, ih9, id9, inn, z9⟩ | ⟨iw, a9, b9, c9, e9⟩
          · rw [hiv] at hq2
            have hgq : g q = some (.inr (2, [.int t, .int iw, .int ih9, .int id9, va_rf inn, .int z9])) := by rw [hfo q (hv_ne hq2 hpa (by simp [itE]))]; exact hq2
            refine lv_iload hx hb d_Box_addShares_38 (lv_at hl 4 rfl) ?_
            refine lv_aload_n hx hb d_Box_addShares_40 rfl (lv_at hl 0 rfl) ?_
            refine hv_get hE k_Box hI 1 (by decide) w327 hgb rfl d_Box_addShares_41 ?_
            refine hv_alen hE hI 3 hgc rfl (z := nI n) rfl d_Box_addShares_44 ?_
            refine lv_icmp_ge (tgt := 121) hx hb d_Box_addShares_45 (by decide) (fun c45 => ?_) (fun c45 => ?_)
            · skip
              exact absurd c45 (nI_ge (by omega) (by omega))
            · skip
              refine lv_aload_n hx hb d_Box_addShares_48 rfl (lv_at hl 0 rfl) ?_
              refine hv_get hE k_Box hI 2 (by decide) w329 hgb rfl d_Box_addShares_49 ?_
              refine lv_iload hx hb d_Box_addShares_52 (lv_at hl 4 rfl) ?_
              refine lv_dup2_11 hx hb d_Box_addShares_54 rfl rfl ?_
              refine hv_iald hE hI 0 hgp rfl (pk_in i n (by omega) rfl (by omega)) d_Box_addShares_55 ?_
              rw [nI_cl (by omega)]
              refine lv_iload_n hx hb d_Box_addShares_56 rfl (lv_at hl 3 rfl) ?_
              refine lv_i2l (v := bf.toInt64) hx hb d_Box_addShares_57 rfl ?_
              refine lv_iload_n hx hb d_Box_addShares_58 rfl (lv_at hl 2 rfl) ?_
              refine lv_i2l (v := gv.toInt64) hx hb d_Box_addShares_59 rfl ?_
              refine lv_aload_n hx hb d_Box_addShares_60 rfl (lv_at hl 0 rfl) ?_
              refine hv_get hE k_Box hI 10 (by decide) w345 hgb rfl d_Box_addShares_61 ?_
              refine hv_SNp (As := [.long bf.toInt64, .long gv.toInt64, .int to]) (rest := [.int (gp i), .int (nI i), .ref pa]) hE hml hK hI (c_BP_share l hl0 b0 D cA g bf.toInt64 gv.toInt64 to) cd_BP_share w438 w439 rfl rfl rfl hl.1 (Nat.le_of_ble_eq_true rfl) d_Box_addShares_64 ⟨by decide, by decide⟩ ⟨by decide, by decide⟩ (fun H locs hI => ?_)
              refine W.eq (g2 := F0 m 67 ls [.int (shr bf.toInt64 gv.toInt64 to), .int (gp i), .int (nI i), .ref pa]) rfl ?_
              refine lv_iadd hx hb d_Box_addShares_67 ?_
              refine hv_iast hE hI 0 hgp rfl (pk_in i n (by omega) rfl (by omega)) d_Box_addShares_68 (fun H locs hI => ?_)
              rw [nI_cl (by omega)] at hI
              obtain ⟨g40, eg40⟩ : ∃ z : hv_M, z = hv_up g pa (.inl (cA 0, n, .inl (upd gp i ((gp i) + (shr bf.toInt64 gv.toInt64 to))))) := ⟨_, rfl⟩
              have hI : hv_I D CL b0 g40 s.heap H locs := by rw [eg40]; exact hI
              have h41 : g40 bx = some (.inr (1, [.int bel, .ref ca, .ref pa, .int dp, .int al, .int w, .int h, .int d, .int ex, .int od, .int to, .int ov])) := by rw [eg40]; rw [hv_up_ne _ _ (hv_ne hgb hgp (by simp))]; exact hgb
              have h42 : g40 pa = some (.inl (cA 0, n, .inl (upd gp i ((gp i) + (shr bf.toInt64 gv.toInt64 to))))) := by rw [eg40]; exact hv_up_self _ _ _
              have h43 : g40 ca = some (.inl (cA 3, n, .inr (.inr (.inr (.inr gc))))) := by rw [eg40]; rw [hv_up_ne _ _ (hv_ne hgc hgp (by simp))]; exact hgc
              have h44 : g40 q = some (.inr (2, [.int t, .int iw, .int ih9, .int id9, va_rf inn, .int z9])) := by rw [eg40]; rw [hv_up_ne _ _ (hv_ne hgq hgp (by simp))]; exact hgq
              refine lv_aload_n hx hb d_Box_addShares_69 rfl (lv_at hl 0 rfl) ?_
              refine hv_get hE k_Box hI 1 (by decide) w327 h41 rfl d_Box_addShares_70 ?_
              refine lv_iload hx hb d_Box_addShares_73 (lv_at hl 4 rfl) ?_
              refine hv_aald hE hI 3 h43 rfl (pk_in i n (by omega) rfl (by omega)) d_Box_addShares_75 ?_
              rw [nI_cl (by omega)]
              rw [hq1]
              refine W.eq (g2 := F0 m 76 ls [.ref q]) rfl ?_
              refine lv_astore (lv' := [(6, .ref q), (0, .ref bx), (1, .int (b2i sh)), (2, .int gv), (3, .int bf), (4, .int (nI i))]) hx hb d_Box_addShares_76 hl (by decide) rfl (fun ls hl => ?_)
              refine lv_aload hx hb d_Box_addShares_78 (lv_at hl 0 rfl) ?_
              refine hv_instN hE hI hK h44 rfl (nm := "BoxPacker$Space") (by decide) w409 d_Box_addShares_80 ?_
              refine lv_if_eq (tgt := 115) hx hb d_Box_addShares_83 (by decide) (fun c83 => ?_) (fun c83 => ?_)
              · skip
                obtain ⟨v45, ev45⟩ : ∃ y : Int32, y = (nI i) + 1 := ⟨_, rfl⟩
                refine lv_iinc (v := v45) (lv' := [(4, .int v45), (6, .ref q), (0, .ref bx), (1, .int (b2i sh)), (2, .int gv), (3, .int bf)]) hx hb d_Box_addShares_115 hl (k := 5) rfl (by rw [ev45]; rfl) (by decide) rfl (fun ls hl => ?_)
                refine lv_goto (tgt := 38) hx hb d_Box_addShares_118 (by decide) ?_
                exact ih (i + 1) bf _ _ _ _ ls (by omega) h42 (fun z z1 => by rw [eg40, hv_up_ne _ _ z1]; exact hfo z z1) (by rw [← heq]; simp only [shareF, hiv]) hI (by rw [← nI_1, ← ev45]; exact lv_sub hl [2, 3, 4, 5, 0] rfl)
              · skip
                exact absurd rfl c83
          · rw [hiv] at hq2
            have hgq : g q = some (.inr (3, [.int iw, .int a9, .int b9, .int c9, .int e9])) := by rw [hfo q (hv_ne hq2 hpa (by simp [itE]))]; exact hq2
            refine lv_iload hx hb d_Box_addShares_38 (lv_at hl 4 rfl) ?_
            refine lv_aload_n hx hb d_Box_addShares_40 rfl (lv_at hl 0 rfl) ?_
            refine hv_get hE k_Box hI 1 (by decide) w327 hgb rfl d_Box_addShares_41 ?_
            refine hv_alen hE hI 3 hgc rfl (z := nI n) rfl d_Box_addShares_44 ?_
            refine lv_icmp_ge (tgt := 121) hx hb d_Box_addShares_45 (by decide) (fun c45 => ?_) (fun c45 => ?_)
            · skip
              exact absurd c45 (nI_ge (by omega) (by omega))
            · skip
              refine lv_aload_n hx hb d_Box_addShares_48 rfl (lv_at hl 0 rfl) ?_
              refine hv_get hE k_Box hI 2 (by decide) w329 hgb rfl d_Box_addShares_49 ?_
              refine lv_iload hx hb d_Box_addShares_52 (lv_at hl 4 rfl) ?_
              refine lv_dup2_11 hx hb d_Box_addShares_54 rfl rfl ?_
              refine hv_iald hE hI 0 hgp rfl (pk_in i n (by omega) rfl (by omega)) d_Box_addShares_55 ?_
              rw [nI_cl (by omega)]
              refine lv_iload_n hx hb d_Box_addShares_56 rfl (lv_at hl 3 rfl) ?_
              refine lv_i2l (v := bf.toInt64) hx hb d_Box_addShares_57 rfl ?_
              refine lv_iload_n hx hb d_Box_addShares_58 rfl (lv_at hl 2 rfl) ?_
              refine lv_i2l (v := gv.toInt64) hx hb d_Box_addShares_59 rfl ?_
              refine lv_aload_n hx hb d_Box_addShares_60 rfl (lv_at hl 0 rfl) ?_
              refine hv_get hE k_Box hI 10 (by decide) w345 hgb rfl d_Box_addShares_61 ?_
              refine hv_SNp (As := [.long bf.toInt64, .long gv.toInt64, .int to]) (rest := [.int (gp i), .int (nI i), .ref pa]) hE hml hK hI (c_BP_share l hl0 b0 D cA g bf.toInt64 gv.toInt64 to) cd_BP_share w438 w439 rfl rfl rfl hl.1 (Nat.le_of_ble_eq_true rfl) d_Box_addShares_64 ⟨by decide, by decide⟩ ⟨by decide, by decide⟩ (fun H locs hI => ?_)
              refine W.eq (g2 := F0 m 67 ls [.int (shr bf.toInt64 gv.toInt64 to), .int (gp i), .int (nI i), .ref pa]) rfl ?_
              refine lv_iadd hx hb d_Box_addShares_67 ?_
              refine hv_iast hE hI 0 hgp rfl (pk_in i n (by omega) rfl (by omega)) d_Box_addShares_68 (fun H locs hI => ?_)
              rw [nI_cl (by omega)] at hI
              obtain ⟨g46, eg46⟩ : ∃ z : hv_M, z = hv_up g pa (.inl (cA 0, n, .inl (upd gp i ((gp i) + (shr bf.toInt64 gv.toInt64 to))))) := ⟨_, rfl⟩
              have hI : hv_I D CL b0 g46 s.heap H locs := by rw [eg46]; exact hI
              have h47 : g46 bx = some (.inr (1, [.int bel, .ref ca, .ref pa, .int dp, .int al, .int w, .int h, .int d, .int ex, .int od, .int to, .int ov])) := by rw [eg46]; rw [hv_up_ne _ _ (hv_ne hgb hgp (by simp))]; exact hgb
              have h48 : g46 pa = some (.inl (cA 0, n, .inl (upd gp i ((gp i) + (shr bf.toInt64 gv.toInt64 to))))) := by rw [eg46]; exact hv_up_self _ _ _
              have h49 : g46 ca = some (.inl (cA 3, n, .inr (.inr (.inr (.inr gc))))) := by rw [eg46]; rw [hv_up_ne _ _ (hv_ne hgc hgp (by simp))]; exact hgc
              have h50 : g46 q = some (.inr (3, [.int iw, .int a9, .int b9, .int c9, .int e9])) := by rw [eg46]; rw [hv_up_ne _ _ (hv_ne hgq hgp (by simp))]; exact hgq
              refine lv_aload_n hx hb d_Box_addShares_69 rfl (lv_at hl 0 rfl) ?_
              refine hv_get hE k_Box hI 1 (by decide) w327 h47 rfl d_Box_addShares_70 ?_
              refine lv_iload hx hb d_Box_addShares_73 (lv_at hl 4 rfl) ?_
              refine hv_aald hE hI 3 h49 rfl (pk_in i n (by omega) rfl (by omega)) d_Box_addShares_75 ?_
              rw [nI_cl (by omega)]
              rw [hq1]
              refine W.eq (g2 := F0 m 76 ls [.ref q]) rfl ?_
              refine lv_astore (lv' := [(6, .ref q), (0, .ref bx), (1, .int (b2i sh)), (2, .int gv), (3, .int bf), (4, .int (nI i))]) hx hb d_Box_addShares_76 hl (by decide) rfl (fun ls hl => ?_)
              refine lv_aload hx hb d_Box_addShares_78 (lv_at hl 0 rfl) ?_
              refine hv_instS hE hI h50 rfl w409 d_Box_addShares_80 ?_
              refine lv_if_eq (tgt := 115) hx hb d_Box_addShares_83 (by decide) (fun c83 => ?_) (fun c83 => ?_)
              · skip
                exact absurd c83 (by decide)
              · skip
                refine lv_aload hx hb d_Box_addShares_86 (lv_at hl 0 rfl) ?_
                refine hv_castS hE hI h50 rfl w409 d_Box_addShares_88 ?_
                refine lv_astore (lv' := [(5, .ref q), (6, .ref q), (0, .ref bx), (1, .int (b2i sh)), (2, .int gv), (3, .int bf), (4, .int (nI i))]) hx hb d_Box_addShares_91 hl (by decide) rfl (fun ls hl => ?_)
                refine lv_aload hx hb d_Box_addShares_93 (lv_at hl 0 rfl) ?_
                refine lv_iload_n hx hb d_Box_addShares_95 rfl (lv_at hl 3 rfl) ?_
                refine hv_VNp (As := [.int (b2i sh)]) (rest := []) hE hml hK hI (c_Space_giveOrder l hl0 b0 D cA g46 q iw a9 b9 c9 e9 sh h50) cd_Space_giveOrder w418 w420 ws7 h50 rfl rfl rfl rfl hl.1 (Nat.le_of_ble_eq_true rfl) d_Box_addShares_96 ⟨by decide, by decide⟩ ⟨by decide, by decide⟩ (fun H locs hI => ?_)
                refine W.eq (g2 := F0 m 99 ls [.int (gvO sh b9 e9)]) rfl ?_
                refine lv_aload_n hx hb d_Box_addShares_99 rfl (lv_at hl 2 rfl) ?_
                refine hv_get hE k_Box hI 9 (by decide) w343 h47 rfl d_Box_addShares_100 ?_
                refine lv_icmp_ne (tgt := 115) hx hb d_Box_addShares_103 (by decide) (fun c103 => ?_) (fun c103 => ?_)
                · skip
                  obtain ⟨v51, ev51⟩ : ∃ y : Int32, y = (nI i) + 1 := ⟨_, rfl⟩
                  refine lv_iinc (v := v51) (lv' := [(4, .int v51), (5, .ref q), (6, .ref q), (0, .ref bx), (1, .int (b2i sh)), (2, .int gv), (3, .int bf)]) hx hb d_Box_addShares_115 hl (k := 6) rfl (by rw [ev51]; rfl) (by decide) rfl (fun ls hl => ?_)
                  refine lv_goto (tgt := 38) hx hb d_Box_addShares_118 (by decide) ?_
                  exact ih (i + 1) bf _ _ _ _ ls (by omega) h48 (fun z z1 => by rw [eg46, hv_up_ne _ _ z1]; exact hfo z z1) (by rw [← heq]; simp only [shareF, hiv, if_neg c103]) hI (by rw [← nI_1, ← ev51]; exact lv_sub hl [3, 4, 5, 6, 0] rfl)
                · skip
                  refine lv_iload_n hx hb d_Box_addShares_106 rfl (lv_at hl 5 rfl) ?_
                  refine lv_aload hx hb d_Box_addShares_107 (lv_at hl 0 rfl) ?_
                  refine lv_iload_n hx hb d_Box_addShares_109 rfl (lv_at hl 3 rfl) ?_
                  refine hv_VNp (As := [.int (b2i sh)]) (rest := [.int bf]) hE hml hK hI (c_Space_give l hl0 b0 D cA g46 q iw a9 b9 c9 e9 sh h50) cd_Space_give w422 w424 ws8 h50 rfl rfl rfl rfl hl.1 (Nat.le_of_ble_eq_true rfl) d_Box_addShares_110 ⟨by decide, by decide⟩ ⟨by decide, by decide⟩ (fun H locs hI => ?_)
                  refine W.eq (g2 := F0 m 113 ls [.int (gvA sh a9 c9), .int bf]) rfl ?_
                  refine lv_iadd hx hb d_Box_addShares_113 ?_
                  refine lv_istore_n (lv' := [(3, .int (bf + (gvA sh a9 c9))), (5, .ref q), (6, .ref q), (0, .ref bx), (1, .int (b2i sh)), (2, .int gv), (4, .int (nI i))]) hx hb d_Box_addShares_114 rfl hl (by decide) rfl (fun ls hl => ?_)
                  obtain ⟨v52, ev52⟩ : ∃ y : Int32, y = (nI i) + 1 := ⟨_, rfl⟩
                  refine lv_iinc (v := v52) (lv' := [(4, .int v52), (3, .int (bf + (gvA sh a9 c9))), (5, .ref q), (6, .ref q), (0, .ref bx), (1, .int (b2i sh)), (2, .int gv)]) hx hb d_Box_addShares_115 hl (k := 6) rfl (by rw [ev52]; rfl) (by decide) rfl (fun ls hl => ?_)
                  refine lv_goto (tgt := 38) hx hb d_Box_addShares_118 (by decide) ?_
                  exact ih (i + 1) (bf + (gvA sh a9 c9)) _ _ _ _ ls (by omega) h48 (fun z z1 => by rw [eg46, hv_up_ne _ _ z1]; exact hfo z z1) (by rw [← heq]; simp only [shareF, hiv, if_pos c103]) hI (by rw [← nI_1, ← ev52]; exact lv_sub hl [4, 5, 6, 1, 0] rfl)
      exact loop n 0 0 gp0 f _ _ ls (by omega) hpa (fun z _ => rfl) rfl hI (lv_sub hl [4, 3, 2, 1, 0] rfl)

