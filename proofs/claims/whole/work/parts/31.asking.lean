/-! ===== questions ===== -/
theorem sw_nat {x : Int32} {n : Nat} (h : ¬ (x.toInt < 0 ∨ (n : Int) < x.toInt)) : ∃ j, j ≤ n ∧ x = nI j := by
  have h0 : ¬ x < 0 := fun q => h (Or.inl (by have := Int32.lt_iff_toInt_lt.mp q; simpa using this))
  obtain ⟨j, hj, e⟩ := nI_of h0
  refine ⟨j, ?_, e⟩
  have h1 : x.toInt = j := by rw [e, nI, Int32.toInt_ofNat_of_lt hj]
  omega
theorem sw_out {x : Int32} {n : Nat} (hn : n < 2 ^ 31) (h : x.toInt < 0 ∨ (n : Int) < x.toInt) : isBx x (n + 1) = false := by
  cases hb : isBx x (n + 1) with
  | false => rfl
  | true =>
    simp only [isBx, Bool.and_eq_true, Bool.not_eq_true', decide_eq_false_iff_not, decide_eq_true_eq] at hb
    obtain ⟨j, hj, e⟩ := nI_of hb.1
    have h1 : x.toInt = j := by rw [e, nI, Int32.toInt_ofNat_of_lt hj]
    have h2 := hb.2
    by_cases hn1 : n + 1 < 2 ^ 31
    · rw [e] at h2
      have := (nI_ltI hj hn1).mp h2
      omega
    · omega
/-- of: the eleven numbers -/
def ofV (w h d ex od to ov dp al : Int32) (cn j : Nat) : Int32 := [w, h, d, ex, od, to, badF ex od to ov, ov, dp, nI cn, al].getD j 0

set_option maxHeartbeats 4000000 in
set_option maxRecDepth 100000 in
theorem c_BP_of (l : Launch) (hl0 : l.stackTraces = false) (b0 : Nat) (D : va_G) (cA : Nat → ClassId) (f : hv_M) (x la ma mk n bn : Nat) (k wh : Int32) (cn : Nat) (gc : Nat → Option Nat) (gb : Nat → Option Nat) (ad : Nat → Nat) (ca pa : Nat) (b9 dp al w h d ex od to ov : Int32) (hx0 : f x = some (.inr (0, [.ref la, .int (nI n), .ref ma, .int (nI bn), .ref mk]))) (hma : f ma = some (.inl (cA 4, 100, .inr (.inr (.inr (.inr gb)))))) (had : ∀ j, j < bn → gb j = some (ad j)) (hbn : bn ≤ 100) (hin : isBx k bn = true → f (ad k.toNatClampNeg) = some (.inr (1, [.int b9, .ref ca, .ref pa, .int dp, .int al, .int w, .int h, .int d, .int ex, .int od, .int to, .int ov]))) (hic : isBx k bn = true → f ca = some (.inl (cA 3, cn, .inr (.inr (.inr (.inr gc)))))) : hv_Met l y_BP_of [Cond.code y_BP_of b_BP_of 4 (some FieldType.int)] (RM 3 2 12) b0 (Fa D cA) D CL [.ref x, .int k, .int wh] f (fun v g => g = f ∧ isBx k bn = true ∧ ∃ j, j < 11 ∧ wh = nI j ∧ v = some (.int (ofV w h d ex od to ov dp al cn j))) (fun E g => E = "java/lang/IndexOutOfBoundsException" ∧ g = f ∧ (isBx k bn = false ∨ (isBx k bn = true ∧ isBx wh 11 = false))) := by
  refine hv_Met.of (own := "BoxPacker") (by decide) rfl (Nat.le_of_ble_eq_true rfl) ?_
  intro p e s m below meth c hE hml hout hr hlocks hname hK hI ls hl
  have hl : lv_has ls 4 [(0, .ref x), (1, .int k), (2, .int wh)] := hl
  obtain ⟨hx, hb, hown, hts, hVK⟩ := id hE
  refine lv_aload_n hx hb d_BP_of_0 rfl (lv_at hl 0 rfl) ?_
  refine lv_iload_n hx hb d_BP_of_1 rfl (lv_at hl 1 rfl) ?_
  obtain ⟨aj, eaj⟩ : ∃ z : Nat, z = ad k.toNatClampNeg := ⟨_, rfl⟩
  refine hv_V (As := [.int k]) (rest := []) hE hml hK hI (c_BP_boxNumbered l hl0 b0 D cA f x la ma mk n bn k gb ad hx0 hma had hbn) cd_BP_boxNumbered w279 w281 ws2 hx0 rfl rfl hl.1 (Nat.le_of_ble_eq_true rfl) d_BP_of_2 ⟨by decide, by decide⟩ ⟨by decide, by decide⟩ (fun v9 g1 H locs hp hI => ?_) (fun q9 E9 ce9 g9 H locs hp hI hce hcv hcl => ?_)
  rotate_left
  · skip
    obtain ⟨hE9, hg9, hc9⟩ := hp
    rw [hE9] at hcl
    rw [hg9] at hI
    exact hv_out hout hlocks hI hK hce hcv hcl (⟨rfl, rfl, Or.inl hc9⟩) (by decide) (by decide)
  obtain ⟨hv, hk, hg9⟩ := hp
  rw [hv, ← eaj]
  rw [hg9] at hI
  refine W.eq (g2 := F0 m 5 ls [.ref aj]) rfl ?_
  have hgj : f aj = some (.inr (1, [.int b9, .ref ca, .ref pa, .int dp, .int al, .int w, .int h, .int d, .int ex, .int od, .int to, .int ov])) := by rw [eaj]; exact hin hk
  have hgca := hic hk
  refine lv_astore_n (lv' := [(3, .ref aj), (0, .ref x), (1, .int k), (2, .int wh)]) hx hb d_BP_of_5 rfl hl (by decide) rfl (fun ls hl => ?_)
  refine lv_iload_n hx hb d_BP_of_6 rfl (lv_at hl 3 rfl) ?_
  by_cases hsw : (wh).toInt < 0 ∨ 10 < (wh).toInt
  · refine lv_tableOut (tgt := 120) hx hb d_BP_of_7 hsw (by decide) ?_
    exact hv_throw hE hl0 (cls := "java/lang/IndexOutOfBoundsException") (text := "what is not 0 .. 10") (names := NMS) (by decide) (by decide) hI hK (hv_thr tw_IOB (by decide)) (by rw [hml]; exact hl.1) d_BP_of_120 d_BP_of_123 d_BP_of_124 d_BP_of_126 d_BP_of_129 hout (by decide) (by decide) hlocks (⟨rfl, rfl, Or.inr ⟨hk, sw_out (n := 10) (by decide) hsw⟩⟩) (by decide) (by decide) (by decide) (by decide)
  obtain ⟨j9, hj9, ej9⟩ := sw_nat (n := 10) hsw
  rcases (show j9 = 0 ∨ j9 = 1 ∨ j9 = 2 ∨ j9 = 3 ∨ j9 = 4 ∨ j9 = 5 ∨ j9 = 6 ∨ j9 = 7 ∨ j9 = 8 ∨ j9 = 9 ∨ j9 = 10 by omega) with e9 | e9 | e9 | e9 | e9 | e9 | e9 | e9 | e9 | e9 | e9
  · rw [e9] at ej9
    refine lv_tableIn (tgt := 64) hx hb d_BP_of_7 (by rw [ej9]; decide) (by rw [ej9]; decide) (by rw [ej9]; rfl) (by decide) ?_
    refine lv_aload_n hx hb d_BP_of_64 rfl (lv_at hl 0 rfl) ?_
    refine hv_getN hE k_Box hI 5 (by decide) w336 hgj rfl d_BP_of_65 ?_
    exact hv_iret hE hr hlocks hI hK (v := w) (⟨rfl, hk, 0, by decide, ej9, rfl⟩) (by decide) (by decide) d_BP_of_68
  · rw [e9] at ej9
    refine lv_tableIn (tgt := 69) hx hb d_BP_of_7 (by rw [ej9]; decide) (by rw [ej9]; decide) (by rw [ej9]; rfl) (by decide) ?_
    refine lv_aload_n hx hb d_BP_of_69 rfl (lv_at hl 0 rfl) ?_
    refine hv_getN hE k_Box hI 6 (by decide) w338 hgj rfl d_BP_of_70 ?_
    exact hv_iret hE hr hlocks hI hK (v := h) (⟨rfl, hk, 1, by decide, ej9, rfl⟩) (by decide) (by decide) d_BP_of_73
  · rw [e9] at ej9
    refine lv_tableIn (tgt := 74) hx hb d_BP_of_7 (by rw [ej9]; decide) (by rw [ej9]; decide) (by rw [ej9]; rfl) (by decide) ?_
    refine lv_aload_n hx hb d_BP_of_74 rfl (lv_at hl 0 rfl) ?_
    refine hv_getN hE k_Box hI 7 (by decide) w340 hgj rfl d_BP_of_75 ?_
    exact hv_iret hE hr hlocks hI hK (v := d) (⟨rfl, hk, 2, by decide, ej9, rfl⟩) (by decide) (by decide) d_BP_of_78
  · rw [e9] at ej9
    refine lv_tableIn (tgt := 79) hx hb d_BP_of_7 (by rw [ej9]; decide) (by rw [ej9]; decide) (by rw [ej9]; rfl) (by decide) ?_
    refine lv_aload_n hx hb d_BP_of_79 rfl (lv_at hl 0 rfl) ?_
    refine hv_getN hE k_Box hI 8 (by decide) w342 hgj rfl d_BP_of_80 ?_
    exact hv_iret hE hr hlocks hI hK (v := ex) (⟨rfl, hk, 3, by decide, ej9, rfl⟩) (by decide) (by decide) d_BP_of_83
  · rw [e9] at ej9
    refine lv_tableIn (tgt := 84) hx hb d_BP_of_7 (by rw [ej9]; decide) (by rw [ej9]; decide) (by rw [ej9]; rfl) (by decide) ?_
    refine lv_aload_n hx hb d_BP_of_84 rfl (lv_at hl 0 rfl) ?_
    refine hv_getN hE k_Box hI 9 (by decide) w344 hgj rfl d_BP_of_85 ?_
    exact hv_iret hE hr hlocks hI hK (v := od) (⟨rfl, hk, 4, by decide, ej9, rfl⟩) (by decide) (by decide) d_BP_of_88
  · rw [e9] at ej9
    refine lv_tableIn (tgt := 89) hx hb d_BP_of_7 (by rw [ej9]; decide) (by rw [ej9]; decide) (by rw [ej9]; rfl) (by decide) ?_
    refine lv_aload_n hx hb d_BP_of_89 rfl (lv_at hl 0 rfl) ?_
    refine hv_getN hE k_Box hI 10 (by decide) w346 hgj rfl d_BP_of_90 ?_
    exact hv_iret hE hr hlocks hI hK (v := to) (⟨rfl, hk, 5, by decide, ej9, rfl⟩) (by decide) (by decide) d_BP_of_93
  · rw [e9] at ej9
    refine lv_tableIn (tgt := 94) hx hb d_BP_of_7 (by rw [ej9]; decide) (by rw [ej9]; decide) (by rw [ej9]; rfl) (by decide) ?_
    refine lv_aload_n hx hb d_BP_of_94 rfl (lv_at hl 0 rfl) ?_
    refine hv_VNp (As := []) (rest := []) hE hml hK hI (c_Box_badness l hl0 b0 D cA f aj ca pa b9 dp al w h d ex od to ov hgj) cd_Box_badness w452 w454 ws12 hgj rfl rfl rfl rfl hl.1 (Nat.le_of_ble_eq_true rfl) d_BP_of_95 ⟨by decide, by decide⟩ ⟨by decide, by decide⟩ (fun H locs hI => ?_)
    refine W.eq (g2 := F0 m 98 ls [.int (badF ex od to ov)]) rfl ?_
    exact hv_iret hE hr hlocks hI hK (v := badF ex od to ov) (⟨rfl, hk, 6, by decide, ej9, rfl⟩) (by decide) (by decide) d_BP_of_98
  · rw [e9] at ej9
    refine lv_tableIn (tgt := 99) hx hb d_BP_of_7 (by rw [ej9]; decide) (by rw [ej9]; decide) (by rw [ej9]; rfl) (by decide) ?_
    refine lv_aload_n hx hb d_BP_of_99 rfl (lv_at hl 0 rfl) ?_
    refine hv_getN hE k_Box hI 11 (by decide) w348 hgj rfl d_BP_of_100 ?_
    exact hv_iret hE hr hlocks hI hK (v := ov) (⟨rfl, hk, 7, by decide, ej9, rfl⟩) (by decide) (by decide) d_BP_of_103
  · rw [e9] at ej9
    refine lv_tableIn (tgt := 104) hx hb d_BP_of_7 (by rw [ej9]; decide) (by rw [ej9]; decide) (by rw [ej9]; rfl) (by decide) ?_
    refine lv_aload_n hx hb d_BP_of_104 rfl (lv_at hl 0 rfl) ?_
    refine hv_getN hE k_Box hI 3 (by decide) w332 hgj rfl d_BP_of_105 ?_
    exact hv_iret hE hr hlocks hI hK (v := dp) (⟨rfl, hk, 8, by decide, ej9, rfl⟩) (by decide) (by decide) d_BP_of_108
  · rw [e9] at ej9
    refine lv_tableIn (tgt := 109) hx hb d_BP_of_7 (by rw [ej9]; decide) (by rw [ej9]; decide) (by rw [ej9]; rfl) (by decide) ?_
    refine lv_aload_n hx hb d_BP_of_109 rfl (lv_at hl 0 rfl) ?_
    refine hv_getN hE k_Box hI 1 (by decide) w328 hgj rfl d_BP_of_110 ?_
    refine hv_alen hE hI 3 hgca rfl (z := nI cn) rfl d_BP_of_113 ?_
    exact hv_iret hE hr hlocks hI hK (v := nI cn) (⟨rfl, hk, 9, by decide, ej9, rfl⟩) (by decide) (by decide) d_BP_of_114
  · rw [e9] at ej9
    refine lv_tableIn (tgt := 115) hx hb d_BP_of_7 (by rw [ej9]; decide) (by rw [ej9]; decide) (by rw [ej9]; rfl) (by decide) ?_
    refine lv_aload_n hx hb d_BP_of_115 rfl (lv_at hl 0 rfl) ?_
    refine hv_getN hE k_Box hI 4 (by decide) w334 hgj rfl d_BP_of_116 ?_
    exact hv_iret hE hr hlocks hI hK (v := al) (⟨rfl, hk, 10, by decide, ej9, rfl⟩) (by decide) (by decide) d_BP_of_119

set_option maxHeartbeats 4000000 in
set_option maxRecDepth 100000 in
theorem c_BP_place (l : Launch) (hl0 : l.stackTraces = false) (b0 : Nat) (D : va_G) (cA : Nat → ClassId) (f : hv_M) (x la ma mk n bn : Nat) (k i : Int32) (cn : Nat) (gp : Nat → Int32) (gb : Nat → Option Nat) (ad : Nat → Nat) (ca pa : Nat) (b9 dp al w h d ex od to ov : Int32) (hx0 : f x = some (.inr (0, [.ref la, .int (nI n), .ref ma, .int (nI bn), .ref mk]))) (hma : f ma = some (.inl (cA 4, 100, .inr (.inr (.inr (.inr gb)))))) (had : ∀ j, j < bn → gb j = some (ad j)) (hbn : bn ≤ 100) (hin : isBx k bn = true → f (ad k.toNatClampNeg) = some (.inr (1, [.int b9, .ref ca, .ref pa, .int dp, .int al, .int w, .int h, .int d, .int ex, .int od, .int to, .int ov]))) (hip : isBx k bn = true → f pa = some (.inl (cA 0, cn, .inl gp))) (hcn : cn ≤ 100) : hv_Met l y_BP_place [Cond.code y_BP_place b_BP_place 4 (some FieldType.int)] (RM 3 2 12) b0 (Fa D cA) D CL [.ref x, .int k, .int i] f (fun v g => g = f ∧ isBx k bn = true ∧ isBx i cn = true ∧ v = some (.int (gp i.toNatClampNeg))) (fun E g => E = "java/lang/IndexOutOfBoundsException" ∧ g = f ∧ (isBx k bn = false ∨ (isBx k bn = true ∧ isBx i cn = false))) := by
  refine hv_Met.of (own := "BoxPacker") (by decide) rfl (Nat.le_of_ble_eq_true rfl) ?_
  intro p e s m below meth c hE hml hout hr hlocks hname hK hI ls hl
  have hl : lv_has ls 4 [(0, .ref x), (1, .int k), (2, .int i)] := hl
  obtain ⟨hx, hb, hown, hts, hVK⟩ := id hE
  refine lv_aload_n hx hb d_BP_place_0 rfl (lv_at hl 0 rfl) ?_
  refine lv_iload_n hx hb d_BP_place_1 rfl (lv_at hl 1 rfl) ?_
  obtain ⟨aj, eaj⟩ : ∃ z : Nat, z = ad k.toNatClampNeg := ⟨_, rfl⟩
  refine hv_V (As := [.int k]) (rest := []) hE hml hK hI (c_BP_boxNumbered l hl0 b0 D cA f x la ma mk n bn k gb ad hx0 hma had hbn) cd_BP_boxNumbered w279 w281 ws2 hx0 rfl rfl hl.1 (Nat.le_of_ble_eq_true rfl) d_BP_place_2 ⟨by decide, by decide⟩ ⟨by decide, by decide⟩ (fun v9 g1 H locs hp hI => ?_) (fun q9 E9 ce9 g9 H locs hp hI hce hcv hcl => ?_)
  rotate_left
  · skip
    obtain ⟨hE9, hg9, hc9⟩ := hp
    rw [hE9] at hcl
    rw [hg9] at hI
    exact hv_out hout hlocks hI hK hce hcv hcl (⟨rfl, rfl, Or.inl hc9⟩) (by decide) (by decide)
  obtain ⟨hv, hk, hg9⟩ := hp
  rw [hv, ← eaj]
  rw [hg9] at hI
  refine W.eq (g2 := F0 m 5 ls [.ref aj]) rfl ?_
  have hgj : f aj = some (.inr (1, [.int b9, .ref ca, .ref pa, .int dp, .int al, .int w, .int h, .int d, .int ex, .int od, .int to, .int ov])) := by rw [eaj]; exact hin hk
  have hgpa := hip hk
  refine lv_astore_n (lv' := [(3, .ref aj), (0, .ref x), (1, .int k), (2, .int i)]) hx hb d_BP_place_5 rfl hl (by decide) rfl (fun ls hl => ?_)
  refine lv_iload_n hx hb d_BP_place_6 rfl (lv_at hl 3 rfl) ?_
  refine lv_if_lt (tgt := 19) hx hb d_BP_place_7 (by decide) (fun c7 => ?_) (fun c7 => ?_)
  · skip
    exact hv_throw hE hl0 (cls := "java/lang/IndexOutOfBoundsException") (text := "there is no such item") (names := NMS) (by decide) (by decide) hI hK (hv_thr tw_IOB (by decide)) (by rw [hml]; exact hl.1) d_BP_place_19 d_BP_place_22 d_BP_place_23 d_BP_place_25 d_BP_place_28 hout (by decide) (by decide) hlocks (⟨rfl, rfl, Or.inr ⟨hk, by simp [isBx, c7]⟩⟩) (by decide) (by decide) (by decide) (by decide)
  · skip
    refine lv_iload_n hx hb d_BP_place_10 rfl (lv_at hl 3 rfl) ?_
    refine lv_aload_n hx hb d_BP_place_11 rfl (lv_at hl 0 rfl) ?_
    refine hv_getN hE k_Box hI 2 (by decide) w330 hgj rfl d_BP_place_12 ?_
    refine hv_alen hE hI 0 hgpa rfl (z := nI cn) rfl d_BP_place_15 ?_
    refine lv_icmp_lt (tgt := 29) hx hb d_BP_place_16 (by decide) (fun c16 => ?_) (fun c16 => ?_)
    · skip
      have hi9 : isBx i cn = true := by simp [isBx, c7, c16]
      refine lv_aload_n hx hb d_BP_place_29 rfl (lv_at hl 0 rfl) ?_
      refine hv_getN hE k_Box hI 2 (by decide) w330 hgj rfl d_BP_place_30 ?_
      refine lv_iload_n hx hb d_BP_place_33 rfl (lv_at hl 3 rfl) ?_
      refine hv_iald hE hI 0 hgpa rfl (pk_in i.toNatClampNeg cn (isBx_nat hi9 hcn).1 (isBx_nat hi9 hcn).2) d_BP_place_34 ?_
      exact hv_iret hE hr hlocks hI hK (v := gp (i).toNatClampNeg) (⟨rfl, hk, hi9, rfl⟩) (by decide) (by decide) d_BP_place_35
    · skip
      exact hv_throw hE hl0 (cls := "java/lang/IndexOutOfBoundsException") (text := "there is no such item") (names := NMS) (by decide) (by decide) hI hK (hv_thr tw_IOB (by decide)) (by rw [hml]; exact hl.1) d_BP_place_19 d_BP_place_22 d_BP_place_23 d_BP_place_25 d_BP_place_28 hout (by decide) (by decide) hlocks (⟨rfl, rfl, Or.inr ⟨hk, by simp [isBx, c7, c16]⟩⟩) (by decide) (by decide) (by decide) (by decide)

theorem mk_ix {i wh : Int32} {md : Nat} (hi : isBx i md = true) (hw : isBx wh 6 = true) (hm : md ≤ 1000) : i * 6 + wh = nI (6 * i.toNatClampNeg + wh.toNatClampNeg) := by
  simp only [isBx, Bool.and_eq_true, Bool.not_eq_true', decide_eq_false_iff_not, decide_eq_true_eq] at hi hw
  obtain ⟨j, hj, e⟩ := nI_of hi.1
  obtain ⟨k, hk, e2⟩ := nI_of hw.1
  subst e e2
  rw [nI_clamp hj, nI_clamp hk]
  have h1 := (nI_ltI hj (by omega)).mp hi.2
  have h2 := (nI_ltI (b := 6) hk (by omega)).mp hw.2
  rw [show (6 : Int32) = nI 6 from rfl]
  simp only [nI]
  rw [← Int32.ofNat_mul, ← Int32.ofNat_add, Nat.mul_comm]
theorem mk_lt {i wh : Int32} {md : Nat} (hi : isBx i md = true) (hw : isBx wh 6 = true) (hm : md ≤ 1000) : 6 * i.toNatClampNeg + wh.toNatClampNeg < 6000 := by
  simp only [isBx, Bool.and_eq_true, Bool.not_eq_true', decide_eq_false_iff_not, decide_eq_true_eq] at hi hw
  obtain ⟨j, hj, e⟩ := nI_of hi.1
  obtain ⟨k, hk, e2⟩ := nI_of hw.1
  subst e e2
  rw [nI_clamp hj, nI_clamp hk]
  have h1 := (nI_ltI hj (by omega)).mp hi.2
  have h2 := (nI_ltI (b := 6) hk (by omega)).mp hw.2
  omega

set_option maxHeartbeats 4000000 in
set_option maxRecDepth 100000 in
theorem c_BP_mark (l : Launch) (hl0 : l.stackTraces = false) (b0 : Nat) (D : va_G) (cA : Nat → ClassId) (f : hv_M) (x la ma mk n bn : Nat) (rw9 md : Nat) (i wh : Int32) (row : Nat → Int64) (hx0 : f x = some (.inr (0, [.ref la, .int (nI n), .ref ma, .int (nI bn), .ref mk]))) (hmk : f mk = some (.inr (4, [.ref rw9, .int (nI md)]))) (hrw : f rw9 = some (.inl (cA 1, 6000, .inr (.inl row)))) (hmd : md ≤ 1000) : hv_Met l y_BP_mark [Cond.code y_BP_mark b_BP_mark 3 (some FieldType.long)] (RM 1 1 6) b0 (Fa D cA) D CL [.ref x, .int i, .int wh] f (fun v g => g = f ∧ isBx i md = true ∧ isBx wh 6 = true ∧ v = some (.long (row (6 * i.toNatClampNeg + wh.toNatClampNeg)))) (fun E g => E = "java/lang/IndexOutOfBoundsException" ∧ g = f ∧ (isBx i md = false ∨ (isBx i md = true ∧ isBx wh 6 = false))) := by
  refine hv_Met.of (own := "BoxPacker") (by decide) rfl (Nat.le_of_ble_eq_true rfl) ?_
  intro p e s m below meth c hE hml hout hr hlocks hname hK hI ls hl
  have hl : lv_has ls 3 [(0, .ref x), (1, .int i), (2, .int wh)] := hl
  obtain ⟨hx, hb, hown, hts, hVK⟩ := id hE
  refine lv_iload_n hx hb d_BP_mark_0 rfl (lv_at hl 1 rfl) ?_
  refine lv_if_lt (tgt := 15) hx hb d_BP_mark_1 (by decide) (fun c1 => ?_) (fun c1 => ?_)
  · skip
    exact hv_throw hE hl0 (cls := "java/lang/IndexOutOfBoundsException") (text := "there is no such mark") (names := NMS) (by decide) (by decide) hI hK (hv_thr tw_IOB (by decide)) (by rw [hml]; exact hl.1) d_BP_mark_15 d_BP_mark_18 d_BP_mark_19 d_BP_mark_21 d_BP_mark_24 hout (by decide) (by decide) hlocks (⟨rfl, rfl, Or.inl (by simp [isBx, c1])⟩) (by decide) (by decide) (by decide) (by decide)
  · skip
    refine lv_iload_n hx hb d_BP_mark_4 rfl (lv_at hl 1 rfl) ?_
    refine lv_aload_n hx hb d_BP_mark_5 rfl (lv_at hl 0 rfl) ?_
    refine hv_get hE k_BP hI 4 (by decide) w48 hx0 rfl d_BP_mark_6 ?_
    refine hv_getN hE k_Marks hI 1 (by decide) w37 hmk rfl d_BP_mark_9 ?_
    refine lv_icmp_lt (tgt := 25) hx hb d_BP_mark_12 (by decide) (fun c12 => ?_) (fun c12 => ?_)
    · skip
      have hi9 : isBx i md = true := by simp [isBx, c1, c12]
      refine lv_iload_n hx hb d_BP_mark_25 rfl (lv_at hl 2 rfl) ?_
      refine lv_if_lt (tgt := 35) hx hb d_BP_mark_26 (by decide) (fun c26 => ?_) (fun c26 => ?_)
      · skip
        exact hv_throw hE hl0 (cls := "java/lang/IndexOutOfBoundsException") (text := "what is not 0 .. 5") (names := NMS) (by decide) (by decide) hI hK (hv_thr tw_IOB (by decide)) (by rw [hml]; exact hl.1) d_BP_mark_35 d_BP_mark_38 d_BP_mark_39 d_BP_mark_41 d_BP_mark_44 hout (by decide) (by decide) hlocks (⟨rfl, rfl, Or.inr ⟨hi9, by simp [isBx, c26]⟩⟩) (by decide) (by decide) (by decide) (by decide)
      · skip
        refine lv_iload_n hx hb d_BP_mark_29 rfl (lv_at hl 2 rfl) ?_
        refine lv_bipush (v := 6) hx hb d_BP_mark_30 (by decide) ?_
        refine lv_icmp_lt (tgt := 45) hx hb d_BP_mark_32 (by decide) (fun c32 => ?_) (fun c32 => ?_)
        · skip
          have hw9 : isBx wh 6 = true := by simp [isBx, c26, show wh < nI 6 from c32]
          refine lv_aload_n hx hb d_BP_mark_45 rfl (lv_at hl 0 rfl) ?_
          refine hv_get hE k_BP hI 4 (by decide) w48 hx0 rfl d_BP_mark_46 ?_
          refine hv_getN hE k_Marks hI 0 (by decide) w35 hmk rfl d_BP_mark_49 ?_
          refine lv_iload_n hx hb d_BP_mark_52 rfl (lv_at hl 1 rfl) ?_
          refine lv_bipush (v := 6) hx hb d_BP_mark_53 (by decide) ?_
          refine lv_imul hx hb d_BP_mark_55 ?_
          refine lv_iload_n hx hb d_BP_mark_56 rfl (lv_at hl 2 rfl) ?_
          refine lv_iadd hx hb d_BP_mark_57 ?_
          refine hv_lald hE hI 1 hrw rfl (by rw [mk_ix hi9 hw9 hmd]; exact pk_in _ 6000 (mk_lt hi9 hw9 hmd) rfl (by omega)) d_BP_mark_58 ?_
          rw [mk_ix hi9 hw9 hmd, nI_cl (Nat.lt_trans (mk_lt hi9 hw9 hmd) (by decide))]
          exact hv_lret hE hr hlocks hI hK (v := row (6 * i.toNatClampNeg + wh.toNatClampNeg)) (⟨rfl, hi9, hw9, rfl⟩) (by decide) (by decide) d_BP_mark_59
        · skip
          exact hv_throw hE hl0 (cls := "java/lang/IndexOutOfBoundsException") (text := "what is not 0 .. 5") (names := NMS) (by decide) (by decide) hI hK (hv_thr tw_IOB (by decide)) (by rw [hml]; exact hl.1) d_BP_mark_35 d_BP_mark_38 d_BP_mark_39 d_BP_mark_41 d_BP_mark_44 hout (by decide) (by decide) hlocks (⟨rfl, rfl, Or.inr ⟨hi9, by simp [isBx, c26, show ¬ wh < nI 6 from c32]⟩⟩) (by decide) (by decide) (by decide) (by decide)
    · skip
      exact hv_throw hE hl0 (cls := "java/lang/IndexOutOfBoundsException") (text := "there is no such mark") (names := NMS) (by decide) (by decide) hI hK (hv_thr tw_IOB (by decide)) (by rw [hml]; exact hl.1) d_BP_mark_15 d_BP_mark_18 d_BP_mark_19 d_BP_mark_21 d_BP_mark_24 hout (by decide) (by decide) hlocks (⟨rfl, rfl, Or.inl (by simp [isBx, c1, c12])⟩) (by decide) (by decide) (by decide) (by decide)

