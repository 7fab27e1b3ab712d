set_option maxHeartbeats 4000000 in
set_option maxRecDepth 100000 in
theorem c_Box_gives (l : Launch) (hl0 : l.stackTraces = false) (b0 : Nat) (D : va_G) (cA : Nat → ClassId) (f : hv_M) (bx ca pa n : Nat) (bel dp al w h d ex od to ov : Int32) (sh : Bool) (gc : Nat → Option Nat) (iv : Nat → It) (hbx : f bx = some (.inr (1, [.int bel, .ref ca, .ref pa, .int dp, .int al, .int w, .int h, .int d, .int ex, .int od, .int to, .int ov]))) (hca : f ca = some (.inl (cA 3, n, .inr (.inr (.inr (.inr gc)))))) (hit : itsAt f n gc iv) (hor : ordsIn n iv) (hn : n ≤ 100) : hv_Met l y_Box_gives [Cond.code y_Box_gives b_Box_gives 6 (some (FieldType.array FieldType.int))] (RM 3 2 10) b0 (Fa D cA) D CL [.ref bx, .int (b2i sh)] f (fun v g => ∃ (qs : Nat) (gs : Nat → Int32), v = some (.ref qs) ∧ f qs = none ∧ givesF sh iv n 0 (fun _ => 0) = some gs ∧ g = hv_up f qs (.inl (cA 0, 4, .inl gs))) (fun E g => E = "java/lang/IllegalStateException" ∧ givesF sh iv n 0 (fun _ => 0) = none ∧ ∀ z x, f z = some x → g z = some x) := by
  refine hv_Met.of (own := "BoxPacker$Box") (by decide) rfl (Nat.le_of_ble_eq_true rfl) ?_
  intro p e s m below meth c hE hml hout hr hlocks hname hK hI ls hl
  have hl : lv_has ls 6 [(0, .ref bx), (1, .int (b2i sh))] := hl
  obtain ⟨hx, hb, hown, hts, hVK⟩ := id hE
  refine lv_iconst (v := 4) hx hb d_Box_gives_0 (by decide) ?_
  refine hv_newI hE hI 0 rfl w374 (n := 4) (by decide) (by decide) (by decide) (by decide) (by decide) d_Box_gives_1 (fun q1 H hnq1 hI => ?_)
  obtain ⟨g2, eg2⟩ : ∃ z : hv_M, z = hv_up f q1 (.inl (cA 0, 4, .inl (fun _ => 0))) := ⟨_, rfl⟩
  have hI : hv_I D CL b0 g2 s.heap H [] := by rw [eg2]; exact hI
  have h3 : g2 q1 = some (.inl (cA 0, 4, .inl (fun _ => 0))) := by rw [eg2]; exact hv_up_self _ _ _
  refine lv_astore_n (lv' := [(2, .ref q1), (0, .ref bx), (1, .int (b2i sh))]) hx hb d_Box_gives_3 rfl hl (by decide) rfl (fun ls hl => ?_)
  refine lv_iconst (v := 0) hx hb d_Box_gives_4 (by decide) ?_
  refine lv_istore_n (lv' := [(3, .int 0), (2, .ref q1), (0, .ref bx), (1, .int (b2i sh))]) hx hb d_Box_gives_5 rfl hl (by decide) rfl (fun ls hl => ?_)
  have loop : ∀ (k i : Nat) (gs : Nat → Int32) (g : hv_M) (H : Heap) (locs : List Loc) (ls : Array Slot), i + k = n → g q1 = some (.inl (cA 0, 4, .inl gs)) → (∀ z, z ≠ q1 → g z = f z) → givesF sh iv k i gs = givesF sh iv n 0 (fun _ => 0) → hv_I D CL b0 g s.heap H locs → lv_has ls 6 [(0, .ref bx), (1, .int (b2i sh)), (2, .ref q1), (3, .int (nI i))] → W p l e (RM 3 2 10) s m ([.ref bx, .int (b2i sh)] : List Value).toArray below meth c H locs (0 + 1) (0 + 4) (xh_MQ below (hv_Q b0 (Fa D cA) D CL (fun v g => ∃ (qs : Nat) (gs : Nat → Int32), v = some (.ref qs) ∧ f qs = none ∧ givesF sh iv n 0 (fun _ => 0) = some gs ∧ g = hv_up f qs (.inl (cA 0, 4, .inl gs))) (fun E g => E = "java/lang/IllegalStateException" ∧ givesF sh iv n 0 (fun _ => 0) = none ∧ ∀ z x, f z = some x → g z = some x)) s 2 10 (fun q => b0 ≤ q)) (F0 m 6 ls []) := by
    intro k
    induction k with
    | zero =>
      intro i gs g H locs ls hik hgs hfo heq hI hl
      have hgb : g bx = some (.inr (1, [.int bel, .ref ca, .ref pa, .int dp, .int al, .int w, .int h, .int d, .int ex, .int od, .int to, .int ov])) := by rw [hfo bx (hv_nn hbx hnq1)]; exact hbx
      have hgc : g ca = some (.inl (cA 3, n, .inr (.inr (.inr (.inr gc))))) := by rw [hfo ca (hv_nn hca hnq1)]; exact hca
      refine lv_iload_n hx hb d_Box_gives_6 rfl (lv_at hl 3 rfl) ?_
      refine lv_aload_n hx hb d_Box_gives_7 rfl (lv_at hl 0 rfl) ?_
      refine hv_get hE k_Box hI 1 (by decide) w327 hgb rfl d_Box_gives_8 ?_
      refine hv_alen hE hI 3 hgc rfl (z := nI n) rfl d_Box_gives_11 ?_
      refine lv_icmp_ge (tgt := 71) hx hb d_Box_gives_12 (by decide) (fun c12 => ?_) (fun c12 => ?_)
      · skip
        refine lv_aload_n hx hb d_Box_gives_71 rfl (lv_at hl 2 rfl) ?_
        exact hv_aret hE hr (Or.inr ⟨_, rfl⟩) hlocks hI hK (v := .ref q1) (Or.inr ⟨_, rfl⟩) (⟨q1, gs, rfl, hnq1, heq.symm, by funext z; by_cases hz : z = q1; (rw [hz, hv_up_self]; exact hgs); (rw [hv_up_ne _ _ hz]; exact hfo z hz)⟩) (by decide) (by decide) d_Box_gives_72
      · skip
        exact absurd (nI_le (by omega) (by omega)) c12
    | succ k ih =>
      intro i gs g H locs ls hik hgs hfo heq hI hl
      have hgb : g bx = some (.inr (1, [.int bel, .ref ca, .ref pa, .int dp, .int al, .int w, .int h, .int d, .int ex, .int od, .int to, .int ov])) := by rw [hfo bx (hv_nn hbx hnq1)]; exact hbx
      have hgc : g ca = some (.inl (cA 3, n, .inr (.inr (.inr (.inr gc))))) := by rw [hfo ca (hv_nn hca hnq1)]; exact hca
      obtain ⟨q, hq1, hq2⟩ := hit i (by omega)
      rcases hiv : iv i with ⟨t, iw, ih9, id9, inn, z9⟩ | ⟨iw, a9, b9, c9, e9⟩
      · rw [hiv] at hq2
        have hgq : g q = some (.inr (2, [.int t, .int iw, .int ih9, .int id9, va_rf inn, .int z9])) := by rw [hfo q (hv_nn hq2 hnq1)]; exact hq2
        refine lv_iload_n hx hb d_Box_gives_6 rfl (lv_at hl 3 rfl) ?_
        refine lv_aload_n hx hb d_Box_gives_7 rfl (lv_at hl 0 rfl) ?_
        refine hv_get hE k_Box hI 1 (by decide) w327 hgb rfl d_Box_gives_8 ?_
        refine hv_alen hE hI 3 hgc rfl (z := nI n) rfl d_Box_gives_11 ?_
        refine lv_icmp_ge (tgt := 71) hx hb d_Box_gives_12 (by decide) (fun c12 => ?_) (fun c12 => ?_)
        · skip
          exact absurd c12 (nI_ge (by omega) (by omega))
        · skip
          refine lv_aload_n hx hb d_Box_gives_15 rfl (lv_at hl 0 rfl) ?_
          refine hv_get hE k_Box hI 1 (by decide) w327 hgb rfl d_Box_gives_16 ?_
          refine lv_iload_n hx hb d_Box_gives_19 rfl (lv_at hl 3 rfl) ?_
          refine hv_aald hE hI 3 hgc rfl (pk_in i n (by omega) rfl (by omega)) d_Box_gives_20 ?_
          rw [nI_cl (by omega)]
          rw [hq1]
          refine W.eq (g2 := F0 m 21 ls [.ref q]) rfl ?_
          refine lv_astore (lv' := [(5, .ref q), (0, .ref bx), (1, .int (b2i sh)), (2, .ref q1), (3, .int (nI i))]) hx hb d_Box_gives_21 hl (by decide) rfl (fun ls hl => ?_)
          refine lv_aload hx hb d_Box_gives_23 (lv_at hl 0 rfl) ?_
          refine hv_instN hE hI hK hgq rfl (nm := "BoxPacker$Space") (by decide) w409 d_Box_gives_25 ?_
          refine lv_if_eq (tgt := 65) hx hb d_Box_gives_28 (by decide) (fun c28 => ?_) (fun c28 => ?_)
          · skip
            obtain ⟨v4, ev4⟩ : ∃ y : Int32, y = (nI i) + 1 := ⟨_, rfl⟩
            refine lv_iinc (v := v4) (lv' := [(3, .int v4), (5, .ref q), (0, .ref bx), (1, .int (b2i sh)), (2, .ref q1)]) hx hb d_Box_gives_65 hl (k := 4) rfl (by rw [ev4]; rfl) (by decide) rfl (fun ls hl => ?_)
            refine lv_goto (tgt := 6) hx hb d_Box_gives_68 (by decide) ?_
            exact ih (i + 1) _ _ _ _ ls (by omega) hgs (fun z z1 => by exact hfo z z1) (by rw [← heq]; simp only [givesF, hiv, Option.bind_some, Option.bind_none]) hI (by rw [← nI_1, ← ev4]; exact lv_sub hl [2, 3, 4, 0] rfl)
          · skip
            exact absurd rfl c28
      · rw [hiv] at hq2
        have hgq : g q = some (.inr (3, [.int iw, .int a9, .int b9, .int c9, .int e9])) := by rw [hfo q (hv_nn hq2 hnq1)]; exact hq2
        refine lv_iload_n hx hb d_Box_gives_6 rfl (lv_at hl 3 rfl) ?_
        refine lv_aload_n hx hb d_Box_gives_7 rfl (lv_at hl 0 rfl) ?_
        refine hv_get hE k_Box hI 1 (by decide) w327 hgb rfl d_Box_gives_8 ?_
        refine hv_alen hE hI 3 hgc rfl (z := nI n) rfl d_Box_gives_11 ?_
        refine lv_icmp_ge (tgt := 71) hx hb d_Box_gives_12 (by decide) (fun c12 => ?_) (fun c12 => ?_)
        · skip
          exact absurd c12 (nI_ge (by omega) (by omega))
        · skip
          refine lv_aload_n hx hb d_Box_gives_15 rfl (lv_at hl 0 rfl) ?_
          refine hv_get hE k_Box hI 1 (by decide) w327 hgb rfl d_Box_gives_16 ?_
          refine lv_iload_n hx hb d_Box_gives_19 rfl (lv_at hl 3 rfl) ?_
          refine hv_aald hE hI 3 hgc rfl (pk_in i n (by omega) rfl (by omega)) d_Box_gives_20 ?_
          rw [nI_cl (by omega)]
          rw [hq1]
          refine W.eq (g2 := F0 m 21 ls [.ref q]) rfl ?_
          refine lv_astore (lv' := [(5, .ref q), (0, .ref bx), (1, .int (b2i sh)), (2, .ref q1), (3, .int (nI i))]) hx hb d_Box_gives_21 hl (by decide) rfl (fun ls hl => ?_)
          refine lv_aload hx hb d_Box_gives_23 (lv_at hl 0 rfl) ?_
          refine hv_instS hE hI hgq rfl w409 d_Box_gives_25 ?_
          refine lv_if_eq (tgt := 65) hx hb d_Box_gives_28 (by decide) (fun c28 => ?_) (fun c28 => ?_)
          · skip
            exact absurd c28 (by decide)
          · skip
            refine lv_aload hx hb d_Box_gives_31 (lv_at hl 0 rfl) ?_
            refine hv_castS hE hI hgq rfl w409 d_Box_gives_33 ?_
            refine lv_astore (lv' := [(4, .ref q), (5, .ref q), (0, .ref bx), (1, .int (b2i sh)), (2, .ref q1), (3, .int (nI i))]) hx hb d_Box_gives_36 hl (by decide) rfl (fun ls hl => ?_)
            refine lv_aload hx hb d_Box_gives_38 (lv_at hl 0 rfl) ?_
            refine lv_iload_n hx hb d_Box_gives_40 rfl (lv_at hl 3 rfl) ?_
            refine hv_VNp (As := [.int (b2i sh)]) (rest := []) hE hml hK hI (c_Space_giveOrder l hl0 b0 D cA g q iw a9 b9 c9 e9 sh hgq) cd_Space_giveOrder w418 w420 ws7 hgq rfl rfl rfl rfl hl.1 (Nat.le_of_ble_eq_true rfl) d_Box_gives_41 ⟨by decide, by decide⟩ ⟨by decide, by decide⟩ (fun H locs hI => ?_)
            refine W.eq (g2 := F0 m 44 ls [.int (gvO sh b9 e9)]) rfl ?_
            refine lv_istore (lv' := [(5, .int (gvO sh b9 e9)), (4, .ref q), (0, .ref bx), (1, .int (b2i sh)), (2, .ref q1), (3, .int (nI i))]) hx hb d_Box_gives_44 hl (by decide) rfl (fun ls hl => ?_)
            refine lv_aload_n hx hb d_Box_gives_46 rfl (lv_at hl 4 rfl) ?_
            refine lv_iload hx hb d_Box_gives_47 (lv_at hl 0 rfl) ?_
            refine lv_aload_n hx hb d_Box_gives_49 rfl (lv_at hl 4 rfl) ?_
            refine lv_iload hx hb d_Box_gives_50 (lv_at hl 0 rfl) ?_
            refine hv_iald hE hI 0 hgs rfl (gvO_in hor (by omega) hiv sh) d_Box_gives_52 ?_
            refine lv_i2l (v := (gs (gvO sh b9 e9).toNatClampNeg).toInt64) hx hb d_Box_gives_53 rfl ?_
            refine lv_aload hx hb d_Box_gives_54 (lv_at hl 1 rfl) ?_
            refine lv_iload_n hx hb d_Box_gives_56 rfl (lv_at hl 3 rfl) ?_
            refine hv_VNp (As := [.int (b2i sh)]) (rest := [.long ((gs (gvO sh b9 e9).toNatClampNeg).toInt64), .int (gvO sh b9 e9), .ref q1]) hE hml hK hI (c_Space_give l hl0 b0 D cA g q iw a9 b9 c9 e9 sh hgq) cd_Space_give w422 w424 ws8 hgq rfl rfl rfl rfl hl.1 (Nat.le_of_ble_eq_true rfl) d_Box_gives_57 ⟨by decide, by decide⟩ ⟨by decide, by decide⟩ (fun H locs hI => ?_)
            refine W.eq (g2 := F0 m 60 ls [.int (gvA sh a9 c9), .long ((gs (gvO sh b9 e9).toNatClampNeg).toInt64), .int (gvO sh b9 e9), .ref q1]) rfl ?_
            refine lv_i2l (v := (gvA sh a9 c9).toInt64) hx hb d_Box_gives_60 rfl ?_
            by_cases hz61 : sz (((gs (gvO sh b9 e9).toNatClampNeg).toInt64) + ((gvA sh a9 c9).toInt64)) = true
            rotate_left
            · refine hv_SN (As := [.long ((gs (gvO sh b9 e9).toNatClampNeg).toInt64), .long ((gvA sh a9 c9).toInt64)]) (rest := [.int (gvO sh b9 e9), .ref q1]) hE hml hK hI (c_BP_sumX l hl0 b0 D cA g ((gs (gvO sh b9 e9).toNatClampNeg).toInt64) ((gvA sh a9 c9).toInt64) hz61) cd_BP_sum w384 w385 rfl hl.1 (Nat.le_of_ble_eq_true rfl) d_Box_gives_61 ⟨by decide, by decide⟩ ⟨by decide, by decide⟩ (fun v9 g9 H locs hp hI => hp.elim) (fun q9 E9 ce9 g9 H locs hp hI hce hcv hcl => ?_)
              obtain ⟨hE9, hg9, -⟩ := hp
              rw [hg9] at hI
              rw [hE9] at hcl
              exact hv_out hout hlocks hI hK hce hcv hcl (⟨rfl, by rw [← heq]; simp only [givesF, hiv, Option.bind_some, Option.bind_none, jsum_f hz61], fun z x hz => by have z1 : z ≠ q1 := hv_nn hz hnq1; rw [show g z = f z from by exact hfo z z1]; exact hz⟩) (by decide) (by decide)
            refine hv_SNp (As := [.long ((gs (gvO sh b9 e9).toNatClampNeg).toInt64), .long ((gvA sh a9 c9).toInt64)]) (rest := [.int (gvO sh b9 e9), .ref q1]) hE hml hK hI (c_BP_sumR l hl0 b0 D cA g ((gs (gvO sh b9 e9).toNatClampNeg).toInt64) ((gvA sh a9 c9).toInt64) hz61) cd_BP_sum w384 w385 rfl rfl rfl hl.1 (Nat.le_of_ble_eq_true rfl) d_Box_gives_61 ⟨by decide, by decide⟩ ⟨by decide, by decide⟩ (fun H locs hI => ?_)
            refine W.eq (g2 := F0 m 64 ls [.int ((((gs (gvO sh b9 e9).toNatClampNeg).toInt64) + ((gvA sh a9 c9).toInt64)).toInt32), .int (gvO sh b9 e9), .ref q1]) rfl ?_
            refine hv_iast hE hI 0 hgs rfl (gvO_in hor (by omega) hiv sh) d_Box_gives_64 (fun H locs hI => ?_)
            obtain ⟨g5, eg5⟩ : ∃ z : hv_M, z = hv_up g q1 (.inl (cA 0, 4, .inl (upd gs (gvO sh b9 e9).toNatClampNeg ((((gs (gvO sh b9 e9).toNatClampNeg).toInt64) + ((gvA sh a9 c9).toInt64)).toInt32)))) := ⟨_, rfl⟩
            have hI : hv_I D CL b0 g5 s.heap H locs := by rw [eg5]; exact hI
            have h6 : g5 bx = some (.inr (1, [.int bel, .ref ca, .ref pa, .int dp, .int al, .int w, .int h, .int d, .int ex, .int od, .int to, .int ov])) := by rw [eg5]; rw [hv_up_ne _ _ (hv_ne hgb hgs (by simp))]; exact hgb
            have h7 : g5 q1 = some (.inl (cA 0, 4, .inl (upd gs (gvO sh b9 e9).toNatClampNeg ((((gs (gvO sh b9 e9).toNatClampNeg).toInt64) + ((gvA sh a9 c9).toInt64)).toInt32)))) := by rw [eg5]; exact hv_up_self _ _ _
            have h8 : g5 ca = some (.inl (cA 3, n, .inr (.inr (.inr (.inr gc))))) := by rw [eg5]; rw [hv_up_ne _ _ (hv_ne hgc hgs (by simp))]; exact hgc
            have h9 : g5 q = some (.inr (3, [.int iw, .int a9, .int b9, .int c9, .int e9])) := by rw [eg5]; rw [hv_up_ne _ _ (hv_ne hgq hgs (by simp))]; exact hgq
            obtain ⟨v10, ev10⟩ : ∃ y : Int32, y = (nI i) + 1 := ⟨_, rfl⟩
            refine lv_iinc (v := v10) (lv' := [(3, .int v10), (5, .int (gvO sh b9 e9)), (4, .ref q), (0, .ref bx), (1, .int (b2i sh)), (2, .ref q1)]) hx hb d_Box_gives_65 hl (k := 5) rfl (by rw [ev10]; rfl) (by decide) rfl (fun ls hl => ?_)
            refine lv_goto (tgt := 6) hx hb d_Box_gives_68 (by decide) ?_
            exact ih (i + 1) _ _ _ _ ls (by omega) h7 (fun z z1 => by rw [eg5, hv_up_ne _ _ z1]; exact hfo z z1) (by rw [← heq]; simp only [givesF, hiv, Option.bind_some, Option.bind_none, jsum_t hz61]) hI (by rw [← nI_1, ← ev10]; exact lv_sub hl [3, 4, 5, 0] rfl)
  exact loop n 0 (fun _ => 0) _ _ _ ls (by omega) h3 (fun z z1 => by rw [eg2, hv_up_ne _ _ z1]) rfl hI (lv_sub hl [2, 3, 1, 0] rfl)

set_option maxHeartbeats 4000000 in
set_option maxRecDepth 100000 in
theorem c_Box_findTotal (l : Launch) (hl0 : l.stackTraces = false) (b0 : Nat) (D : va_G) (cA : Nat → ClassId) (f : hv_M) (bx ca pa qa : Nat) (bel dp al w h d ex od to ov : Int32) (gs : Nat → Int32) (hbx : f bx = some (.inr (1, [.int bel, .ref ca, .ref pa, .int dp, .int al, .int w, .int h, .int d, .int ex, .int od, .int to, .int ov]))) (hqa : f qa = some (.inl (cA 0, 4, .inl gs))) : hv_Met l y_Box_findTotal [Cond.code y_Box_findTotal b_Box_findTotal 3 none] (RM 0 0 0) b0 (Fa D cA) D CL [.ref bx, .ref qa] f (fun v g => v = none ∧ ∃ o t : Int32, findF gs 4 0 od to = (o, t) ∧ g = hv_up f bx (.inr (1, [.int bel, .ref ca, .ref pa, .int dp, .int al, .int w, .int h, .int d, .int ex, .int o, .int t, .int ov]))) (NX) := by
  refine hv_Met.of (own := "BoxPacker$Box") (by decide) rfl (Nat.le_of_ble_eq_true rfl) ?_
  intro p e s m below meth c hE hml hout hr hlocks hname hK hI ls hl
  have hl : lv_has ls 3 [(0, .ref bx), (1, .ref qa)] := hl
  obtain ⟨hx, hb, hown, hts, hVK⟩ := id hE
  refine lv_iconst (v := 0) hx hb d_Box_findTotal_0 (by decide) ?_
  refine lv_istore_n (lv' := [(2, .int 0), (0, .ref bx), (1, .ref qa)]) hx hb d_Box_findTotal_1 rfl hl (by decide) rfl (fun ls hl => ?_)
  have loop : ∀ (k i : Nat) (o t : Int32) (g : hv_M) (H : Heap) (locs : List Loc) (ls : Array Slot), i + k = 4 → g bx = some (.inr (1, [.int bel, .ref ca, .ref pa, .int dp, .int al, .int w, .int h, .int d, .int ex, .int o, .int t, .int ov])) → (∀ z, z ≠ bx → g z = f z) → findF gs k i o t = findF gs 4 0 od to → hv_I D CL b0 g s.heap H locs → lv_has ls 3 [(0, .ref bx), (1, .ref qa), (2, .int (nI i))] → W p l e (RM 0 0 0) s m ([.ref bx, .ref qa] : List Value).toArray below meth c H locs (0) (0) (xh_MQ below (hv_Q b0 (Fa D cA) D CL (fun v g => v = none ∧ ∃ o t : Int32, findF gs 4 0 od to = (o, t) ∧ g = hv_up f bx (.inr (1, [.int bel, .ref ca, .ref pa, .int dp, .int al, .int w, .int h, .int d, .int ex, .int o, .int t, .int ov]))) (NX)) s 0 0 (fun q => b0 ≤ q)) (F0 m 2 ls []) := by
    intro k
    induction k with
    | zero =>
      intro i o t g H locs ls hik hgb hfo heq hI hl
      have hga : g qa = some (.inl (cA 0, 4, .inl gs)) := by rw [hfo qa (hv_ne hqa hbx (by simp))]; exact hqa
      refine lv_iload_n hx hb d_Box_findTotal_2 rfl (lv_at hl 2 rfl) ?_
      refine lv_aload_n hx hb d_Box_findTotal_3 rfl (lv_at hl 1 rfl) ?_
      refine hv_alen hE hI 0 hga rfl (z := 4) rfl d_Box_findTotal_4 ?_
      refine lv_icmp_ge (tgt := 32) hx hb d_Box_findTotal_5 (by decide) (fun c5 => ?_) (fun c5 => ?_)
      · skip
        exact hv_vret hE hr hlocks hI hK (⟨rfl, o, t, heq.symm, by funext z; by_cases hz : z = bx; (rw [hz, hv_up_self]; exact hgb); (rw [hv_up_ne _ _ hz]; exact hfo z hz)⟩) (by decide) (by decide) d_Box_findTotal_32
      · skip
        exact absurd (show (4 : Int32) ≤ nI i from nI_le (a := 4) (by omega) (by omega)) c5
    | succ k ih =>
      intro i o t g H locs ls hik hgb hfo heq hI hl
      have hga : g qa = some (.inl (cA 0, 4, .inl gs)) := by rw [hfo qa (hv_ne hqa hbx (by simp))]; exact hqa
      refine lv_iload_n hx hb d_Box_findTotal_2 rfl (lv_at hl 2 rfl) ?_
      refine lv_aload_n hx hb d_Box_findTotal_3 rfl (lv_at hl 1 rfl) ?_
      refine hv_alen hE hI 0 hga rfl (z := 4) rfl d_Box_findTotal_4 ?_
      refine lv_icmp_ge (tgt := 32) hx hb d_Box_findTotal_5 (by decide) (fun c5 => ?_) (fun c5 => ?_)
      · skip
        exact absurd c5 (nI_ge (b := 4) (by omega) (by omega))
      · skip
        refine lv_aload_n hx hb d_Box_findTotal_8 rfl (lv_at hl 1 rfl) ?_
        refine lv_iload_n hx hb d_Box_findTotal_9 rfl (lv_at hl 2 rfl) ?_
        refine hv_iald hE hI 0 hga rfl (pk_in i 4 (by omega) rfl (by omega)) d_Box_findTotal_10 ?_
        rw [nI_cl (by omega)]
        refine lv_if_eq (tgt := 26) hx hb d_Box_findTotal_11 (by decide) (fun c11 => ?_) (fun c11 => ?_)
        · skip
          obtain ⟨v1, ev1⟩ : ∃ y : Int32, y = (nI i) + 1 := ⟨_, rfl⟩
          refine lv_iinc (v := v1) (lv' := [(2, .int v1), (0, .ref bx), (1, .ref qa)]) hx hb d_Box_findTotal_26 hl (k := 2) rfl (by rw [ev1]; rfl) (by decide) rfl (fun ls hl => ?_)
          refine lv_goto (tgt := 2) hx hb d_Box_findTotal_29 (by decide) ?_
          exact ih (i + 1) o t _ _ _ ls (by omega) hgb (fun z z1 => by exact hfo z z1) (by rw [← heq, findF, if_pos c11]) hI (by rw [← nI_1, ← ev1]; exact lv_sub hl [1, 2, 0] rfl)
        · skip
          refine lv_aload_n hx hb d_Box_findTotal_14 rfl (lv_at hl 0 rfl) ?_
          refine lv_iload_n hx hb d_Box_findTotal_15 rfl (lv_at hl 2 rfl) ?_
          refine hv_put hE k_Box hI 9 (by decide) w343 hgb rfl rfl rfl (Nat.le_of_ble_eq_true rfl) d_Box_findTotal_16 (fun H locs hI => ?_)
          obtain ⟨g2, eg2⟩ : ∃ z : hv_M, z = hv_up g bx (.inr (1, [.int bel, .ref ca, .ref pa, .int dp, .int al, .int w, .int h, .int d, .int ex, .int (nI i), .int t, .int ov])) := ⟨_, rfl⟩
          have hI : hv_I D CL b0 g2 s.heap H locs := by rw [eg2]; exact hI
          have h3 : g2 bx = some (.inr (1, [.int bel, .ref ca, .ref pa, .int dp, .int al, .int w, .int h, .int d, .int ex, .int (nI i), .int t, .int ov])) := by rw [eg2]; exact hv_up_self _ _ _
          have h4 : g2 qa = some (.inl (cA 0, 4, .inl gs)) := by rw [eg2]; rw [hv_up_ne _ _ (hv_ne hga hgb (by simp))]; exact hga
          refine lv_aload_n hx hb d_Box_findTotal_19 rfl (lv_at hl 0 rfl) ?_
          refine lv_aload_n hx hb d_Box_findTotal_20 rfl (lv_at hl 1 rfl) ?_
          refine lv_iload_n hx hb d_Box_findTotal_21 rfl (lv_at hl 2 rfl) ?_
          refine hv_iald hE hI 0 h4 rfl (pk_in i 4 (by omega) rfl (by omega)) d_Box_findTotal_22 ?_
          rw [nI_cl (by omega)]
          refine hv_put hE k_Box hI 10 (by decide) w345 h3 rfl rfl rfl (Nat.le_of_ble_eq_true rfl) d_Box_findTotal_23 (fun H locs hI => ?_)
          obtain ⟨g5, eg5⟩ : ∃ z : hv_M, z = hv_up g2 bx (.inr (1, [.int bel, .ref ca, .ref pa, .int dp, .int al, .int w, .int h, .int d, .int ex, .int (nI i), .int (gs i), .int ov])) := ⟨_, rfl⟩
          have hI : hv_I D CL b0 g5 s.heap H locs := by rw [eg5]; exact hI
          have h6 : g5 bx = some (.inr (1, [.int bel, .ref ca, .ref pa, .int dp, .int al, .int w, .int h, .int d, .int ex, .int (nI i), .int (gs i), .int ov])) := by rw [eg5]; exact hv_up_self _ _ _
          have h7 : g5 qa = some (.inl (cA 0, 4, .inl gs)) := by rw [eg5]; rw [hv_up_ne _ _ (hv_ne h4 h3 (by simp))]; exact h4
          obtain ⟨v8, ev8⟩ : ∃ y : Int32, y = (nI i) + 1 := ⟨_, rfl⟩
          refine lv_iinc (v := v8) (lv' := [(2, .int v8), (0, .ref bx), (1, .ref qa)]) hx hb d_Box_findTotal_26 hl (k := 2) rfl (by rw [ev8]; rfl) (by decide) rfl (fun ls hl => ?_)
          refine lv_goto (tgt := 2) hx hb d_Box_findTotal_29 (by decide) ?_
          exact ih (i + 1) (nI i) (gs i) _ _ _ ls (by omega) h6 (fun z z1 => by rw [eg5, hv_up_ne _ _ z1, eg2, hv_up_ne _ _ z1]; exact hfo z z1) (by rw [← heq, findF, if_neg c11]) hI (by rw [← nI_1, ← ev8]; exact lv_sub hl [1, 2, 0] rfl)
  exact loop 4 0 od to f _ _ ls (by omega) hbx (fun z _ => rfl) rfl hI (lv_sub hl [1, 2, 0] rfl)

