/-! ===== boxes by their numbers ===== -/
def isBx (k : Int32) (bn : Nat) : Bool := !decide (k < 0) && decide (k < nI bn)
theorem isBx_nat {k : Int32} {bn : Nat} (h : isBx k bn = true) (hb : bn ≤ 100) : k.toNatClampNeg < bn ∧ k = nI k.toNatClampNeg := by
  simp only [isBx, Bool.and_eq_true, Bool.not_eq_true', decide_eq_false_iff_not, decide_eq_true_eq] at h
  obtain ⟨j, hj, e⟩ := nI_of h.1
  subst e
  rw [nI_clamp hj]
  exact ⟨(nI_ltI hj (by omega)).mp h.2, rfl⟩

set_option maxHeartbeats 4000000 in
set_option maxRecDepth 100000 in
theorem c_BP_boxNumbered (l : Launch) (hl0 : l.stackTraces = false) (b0 : Nat) (D : va_G) (cA : Nat → ClassId) (f : hv_M) (x la ma mk n bn : Nat) (k : Int32) (gb : Nat → Option Nat) (ad : Nat → Nat) (hx0 : f x = some (.inr (0, [.ref la, .int (nI n), .ref ma, .int (nI bn), .ref mk]))) (hma : f ma = some (.inl (cA 4, 100, .inr (.inr (.inr (.inr gb)))))) (had : ∀ j, j < bn → gb j = some (ad j)) (hbn : bn ≤ 100) : hv_Met l y_BP_boxNumbered [Cond.code y_BP_boxNumbered b_BP_boxNumbered 2 (some (FieldType.object "BoxPacker$Box"))] (RM 1 1 6) b0 (Fa D cA) D CL [.ref x, .int k] f (fun v g => v = some (.ref (ad k.toNatClampNeg)) ∧ isBx k bn = true ∧ g = f) (TX1 "java/lang/IndexOutOfBoundsException" f (isBx k bn = false)) := by
  refine hv_Met.of (own := "BoxPacker") (by decide) rfl (Nat.le_of_ble_eq_true rfl) ?_
  intro p e s m below meth c hE hml hout hr hlocks hname hK hI ls hl
  have hl : lv_has ls 2 [(0, .ref x), (1, .int k)] := hl
  obtain ⟨hx, hb, hown, hts, hVK⟩ := id hE
  refine lv_iload_n hx hb d_BP_boxNumbered_0 rfl (lv_at hl 1 rfl) ?_
  refine lv_if_lt (tgt := 12) hx hb d_BP_boxNumbered_1 (by decide) (fun c1 => ?_) (fun c1 => ?_)
  · skip
    exact hv_throw hE hl0 (cls := "java/lang/IndexOutOfBoundsException") (text := "there is no such box") (names := NMS) (by decide) (by decide) hI hK (hv_thr tw_IOB (by decide)) (by rw [hml]; exact hl.1) d_BP_boxNumbered_12 d_BP_boxNumbered_15 d_BP_boxNumbered_16 d_BP_boxNumbered_18 d_BP_boxNumbered_21 hout (by decide) (by decide) hlocks (⟨rfl, rfl, by simp [isBx, c1]⟩) (by decide) (by decide) (by decide) (by decide)
  · skip
    refine lv_iload_n hx hb d_BP_boxNumbered_4 rfl (lv_at hl 1 rfl) ?_
    refine lv_aload_n hx hb d_BP_boxNumbered_5 rfl (lv_at hl 0 rfl) ?_
    refine hv_get hE k_BP hI 3 (by decide) w47 hx0 rfl d_BP_boxNumbered_6 ?_
    refine lv_icmp_lt (tgt := 22) hx hb d_BP_boxNumbered_9 (by decide) (fun c9 => ?_) (fun c9 => ?_)
    · skip
      have hk : isBx k bn = true := by simp [isBx, c1, c9]
      refine lv_aload_n hx hb d_BP_boxNumbered_22 rfl (lv_at hl 0 rfl) ?_
      refine hv_get hE k_BP hI 2 (by decide) w46 hx0 rfl d_BP_boxNumbered_23 ?_
      refine lv_iload_n hx hb d_BP_boxNumbered_26 rfl (lv_at hl 1 rfl) ?_
      refine hv_aald hE hI 4 hma rfl (pk_in k.toNatClampNeg 100 (Nat.lt_of_lt_of_le (isBx_nat hk hbn).1 hbn) (isBx_nat hk hbn).2) d_BP_boxNumbered_27 ?_
      rw [had _ (isBx_nat hk hbn).1]
      refine W.eq (g2 := F0 m 28 ls [.ref (ad k.toNatClampNeg)]) rfl ?_
      exact hv_aret hE hr (Or.inl ⟨_, rfl⟩) hlocks hI hK (v := .ref (ad k.toNatClampNeg)) (Or.inr ⟨_, rfl⟩) (⟨rfl, hk, rfl⟩) (by decide) (by decide) d_BP_boxNumbered_28
    · skip
      exact hv_throw hE hl0 (cls := "java/lang/IndexOutOfBoundsException") (text := "there is no such box") (names := NMS) (by decide) (by decide) hI hK (hv_thr tw_IOB (by decide)) (by rw [hml]; exact hl.1) d_BP_boxNumbered_12 d_BP_boxNumbered_15 d_BP_boxNumbered_16 d_BP_boxNumbered_18 d_BP_boxNumbered_21 hout (by decide) (by decide) hlocks (⟨rfl, rfl, by simp [isBx, c1, c9]⟩) (by decide) (by decide) (by decide) (by decide)

set_option maxHeartbeats 4000000 in
set_option maxRecDepth 100000 in
theorem c_BP_box (l : Launch) (hl0 : l.stackTraces = false) (b0 : Nat) (D : va_G) (cA : Nat → ClassId) (f : hv_M) (x la ma mk n bn : Nat) (k z : Int32) (gl : Nat → Option Nat) (gb : Nat → Option Nat) (ad : Nat → Nat) (ca pa : Nat) (dp al w h d ex od to ov b9 : Int32) (hx0 : f x = some (.inr (0, [.ref la, .int (nI n), .ref ma, .int (nI bn), .ref mk]))) (hla : f la = some (.inl (cA 3, 100, .inr (.inr (.inr (.inr gl)))))) (hn : n < 2 ^ 31) (hma : f ma = some (.inl (cA 4, 100, .inr (.inr (.inr (.inr gb)))))) (had : ∀ j, j < bn → gb j = some (ad j)) (hbn : bn ≤ 100) (hin : isBx k bn = true → f (ad k.toNatClampNeg) = some (.inr (1, [.int b9, .ref ca, .ref pa, .int dp, .int al, .int w, .int h, .int d, .int ex, .int od, .int to, .int ov]))) : hv_Met l y_BP_box [Cond.code y_BP_box b_BP_box 4 (some FieldType.int)] (RM 4 3 18) b0 (Fa D cA) D CL [.ref x, .int k, .int z] f (fun v g => v = some (.int (nI n)) ∧ isBx k bn = true ∧ sz z.toInt64 = true ∧ n < 100 ∧ addedI cA f g x la ma mk n bn gl (itE (.inl (-1, w, h, d, some (ad k.toNatClampNeg), z)))) (fun E g => (E = "java/lang/IndexOutOfBoundsException" ∧ isBx k bn = false ∧ g = f) ∨ (E = "java/lang/IllegalArgumentException" ∧ isBx k bn = true ∧ sz z.toInt64 = false ∧ g = f) ∨ (E = "java/lang/UnsupportedOperationException" ∧ isBx k bn = true ∧ sz z.toInt64 = true ∧ 100 ≤ n ∧ g = f)) := by
  refine hv_Met.of (own := "BoxPacker") (by decide) rfl (Nat.le_of_ble_eq_true rfl) ?_
  intro p e s m below meth c hE hml hout hr hlocks hname hK hI ls hl
  have hl : lv_has ls 4 [(0, .ref x), (1, .int k), (2, .int z)] := hl
  obtain ⟨hx, hb, hown, hts, hVK⟩ := id hE
  refine lv_aload_n hx hb d_BP_box_0 rfl (lv_at hl 0 rfl) ?_
  refine lv_iload_n hx hb d_BP_box_1 rfl (lv_at hl 1 rfl) ?_
  obtain ⟨aj, eaj⟩ : ∃ z : Nat, z = ad k.toNatClampNeg := ⟨_, rfl⟩
  refine hv_V (As := [.int k]) (rest := []) hE hml hK hI (c_BP_boxNumbered l hl0 b0 D cA f x la ma mk n bn k gb ad hx0 hma had hbn) cd_BP_boxNumbered w279 w281 ws2 hx0 rfl rfl hl.1 (Nat.le_of_ble_eq_true rfl) d_BP_box_2 ⟨by decide, by decide⟩ ⟨by decide, by decide⟩ (fun v9 g1 H locs hp hI => ?_) (fun q9 E9 ce9 g9 H locs hp hI hce hcv hcl => ?_)
  rotate_left
  · skip
    obtain ⟨hE9, hg9, hc9⟩ := hp
    rw [hE9] at hcl
    rw [hg9] at hI
    exact hv_out hout hlocks hI hK hce hcv hcl (Or.inl ⟨rfl, hc9, rfl⟩) (by decide) (by decide)
  obtain ⟨hv, hk, hg9⟩ := hp
  rw [hv, ← eaj]
  rw [hg9] at hI
  refine W.eq (g2 := F0 m 5 ls [.ref aj]) rfl ?_
  have hgj : f aj = some (.inr (1, [.int b9, .ref ca, .ref pa, .int dp, .int al, .int w, .int h, .int d, .int ex, .int od, .int to, .int ov])) := by rw [eaj]; exact hin hk
  refine lv_astore_n (lv' := [(3, .ref aj), (0, .ref x), (1, .int k), (2, .int z)]) hx hb d_BP_box_5 rfl hl (by decide) rfl (fun ls hl => ?_)
  refine lv_iload_n hx hb d_BP_box_6 rfl (lv_at hl 3 rfl) ?_
  refine lv_i2l (v := z.toInt64) hx hb d_BP_box_7 rfl ?_
  refine hv_Sp (As := [.long z.toInt64]) (rest := []) hE hml hK hI (c_BP_isSize l hl0 b0 D cA f z.toInt64) cd_BP_isSize w151 w152 rfl rfl rfl hl.1 (Nat.le_of_ble_eq_true rfl) d_BP_box_8 ⟨by decide, by decide⟩ ⟨by decide, by decide⟩ (fun H locs hI => ?_)
  refine W.eq (g2 := F0 m 11 ls [.int (b2i (sz z.toInt64))]) rfl ?_
  refine lv_if_ne (tgt := 24) hx hb d_BP_box_11 (by decide) (fun c11 => ?_) (fun c11 => ?_)
  · skip
    have k11 := b2i_t c11
    refine lv_aload_n hx hb d_BP_box_24 rfl (lv_at hl 1 rfl) ?_
    refine hv_new hE k_Solid hI w157 w158 w9 (fs := [.int 0, .int 0, .int 0, .int 0, .null, .int 0]) (by decide +kernel) (by decide) (by decide) d_BP_box_25 (fun q2 H hnq2 hI => ?_)
    obtain ⟨g3, eg3⟩ : ∃ z : hv_M, z = hv_up f q2 (.inr (2, [.int 0, .int 0, .int 0, .int 0, .null, .int 0])) := ⟨_, rfl⟩
    have hI : hv_I D CL b0 g3 s.heap H locs := by rw [eg3]; exact hI
    have h4 : g3 x = some (.inr (0, [.ref la, .int (nI n), .ref ma, .int (nI bn), .ref mk])) := by rw [eg3]; rw [hv_up_ne _ _ (hv_nn hx0 hnq2)]; exact hx0
    have h5 : g3 la = some (.inl (cA 3, 100, .inr (.inr (.inr (.inr gl))))) := by rw [eg3]; rw [hv_up_ne _ _ (hv_nn hla hnq2)]; exact hla
    have h6 : g3 ma = some (.inl (cA 4, 100, .inr (.inr (.inr (.inr gb))))) := by rw [eg3]; rw [hv_up_ne _ _ (hv_nn hma hnq2)]; exact hma
    have h7 : g3 aj = some (.inr (1, [.int b9, .ref ca, .ref pa, .int dp, .int al, .int w, .int h, .int d, .int ex, .int od, .int to, .int ov])) := by rw [eg3]; rw [hv_up_ne _ _ (hv_nn hgj hnq2)]; exact hgj
    have h8 : g3 q2 = some (.inr (2, [.int 0, .int 0, .int 0, .int 0, .null, .int 0])) := by rw [eg3]; exact hv_up_self _ _ _
    refine lv_dup hx hb d_BP_box_28 rfl ?_
    refine lv_iconst (v := (-1)) hx hb d_BP_box_29 (by decide) ?_
    refine lv_aload_n hx hb d_BP_box_30 rfl (lv_at hl 0 rfl) ?_
    refine hv_getN hE k_Box hI 5 (by decide) w336 h7 rfl d_BP_box_31 ?_
    refine lv_aload_n hx hb d_BP_box_34 rfl (lv_at hl 0 rfl) ?_
    refine hv_getN hE k_Box hI 6 (by decide) w338 h7 rfl d_BP_box_35 ?_
    refine lv_aload_n hx hb d_BP_box_38 rfl (lv_at hl 0 rfl) ?_
    refine hv_getN hE k_Box hI 7 (by decide) w340 h7 rfl d_BP_box_39 ?_
    refine lv_aload_n hx hb d_BP_box_42 rfl (lv_at hl 0 rfl) ?_
    refine lv_iload_n hx hb d_BP_box_43 rfl (lv_at hl 3 rfl) ?_
    have hfq : f q2 = none := hnq2
    have hfo : ∀ z, z ≠ x → z ≠ la → z ≠ q2 → g3 z = f z := fun z z1 z2 z3 => by rw [eg3, hv_up_ne _ _ z3]
    have hlo : ∀ z, z ≠ q2 → g3 z = f z := fun z z3 => by rw [eg3, hv_up_ne _ _ z3]
    refine hv_CN (As := [.int (-1), .int w, .int h, .int d, .ref aj, .int z]) (rest := [.ref q2, .ref x]) hE hml hK hI (c_Solid_initB l hl0 b0 D cA g3 q2 (-1) w h d z aj h8) cd_Solid_init rfl w159 w160 rfl hl.1 (Nat.le_of_ble_eq_true rfl) d_BP_box_44 ⟨by decide, by decide⟩ ⟨by decide, by decide⟩ (fun v9 g9 H locs hp hI => ?_) (fun q9 E9 ce9 g9 H locs hp => hp.elim)
    obtain ⟨hv, egs⟩ := hp
    rw [hv]
    refine W.eq (g2 := F0 m 47 ls [.ref q2, .ref x]) rfl ?_
    have hgs : g9 q2 = some (.inr (2, [.int (-1), .int w, .int h, .int d, .ref aj, .int z])) := by rw [egs]; exact hv_up_self _ _ _
    have hfo : ∀ z, z ≠ x → z ≠ la → z ≠ q2 → g9 z = f z := fun z z1 z2 z3 => by rw [egs, hv_up_ne _ _ z3]; exact hfo z z1 z2 z3
    have hlo : ∀ z, z ≠ q2 → g9 z = f z := fun z z3 => by rw [egs, hv_up_ne _ _ z3]; exact hlo z z3
    have h10 : g9 x = some (.inr (0, [.ref la, .int (nI n), .ref ma, .int (nI bn), .ref mk])) := by rw [egs, hv_up_ne _ _ (hv_ne h4 h8 (by simp))]; exact h4
    have h11 : g9 la = some (.inl (cA 3, 100, .inr (.inr (.inr (.inr gl))))) := by rw [egs, hv_up_ne _ _ (hv_ne h5 h8 (by simp))]; exact h5
    have h12 : g9 ma = some (.inl (cA 4, 100, .inr (.inr (.inr (.inr gb))))) := by rw [egs, hv_up_ne _ _ (hv_ne h6 h8 (by simp))]; exact h6
    have h13 : g9 aj = some (.inr (1, [.int b9, .ref ca, .ref pa, .int dp, .int al, .int w, .int h, .int d, .int ex, .int od, .int to, .int ov])) := by rw [egs, hv_up_ne _ _ (hv_ne h7 h8 (by simp))]; exact h7
    refine hv_V (As := [.ref q2]) (rest := []) hE hml hK hI (c_BP_appendS l hl0 b0 D cA g9 x la ma mk n bn q2 gl [.int (-1), .int w, .int h, .int d, .ref aj, .int z] h10 h11 hgs hn) cd_BP_append w196 w198 ws1 h10 rfl rfl hl.1 (Nat.le_of_ble_eq_true rfl) d_BP_box_47 ⟨by decide, by decide⟩ ⟨by decide, by decide⟩ (fun v9 g14 H locs hp hI => ?_) (fun q9 E9 ce9 g9 H locs hp hI hce hcv hcl => ?_)
    rotate_left
    · skip
      obtain ⟨hE9, hg9, hc9⟩ := hp
      rw [hE9] at hcl
      rw [hg9] at hI
      have hI := hI.less (f := f) (fun z y hz => (hlo z (hv_nn hz hfq)).trans hz)
      exact hv_out hout hlocks hI hK hce hcv hcl (Or.inr (Or.inr ⟨rfl, hk, k11, hc9, rfl⟩)) (by decide) (by decide)
    obtain ⟨hv, hn1, ega⟩ := hp
    rw [hv]
    refine W.eq (g2 := F0 m 50 ls [.int (nI n)]) rfl ?_
    have hg1 : g14 x = some (bpE la ma mk (n + 1) bn) := by rw [ega]; exact hv_up_self _ _ _
    have hg2 : g14 la = some (.inl (cA 3, 100, .inr (.inr (.inr (.inr (va_up gl n (some q2))))))) := by rw [ega, hv_up_ne _ _ (hv_ne h11 h10 (by simp))]; exact hv_up_self _ _ _
    have hg3 : g14 q2 = some (.inr (2, [.int (-1), .int w, .int h, .int d, .ref aj, .int z])) := by rw [ega, hv_up_ne _ _ (hv_ne hgs h10 (by simp)), hv_up_ne _ _ (hv_ne hgs h11 (by simp))]; exact hgs
    have hfo : ∀ z, z ≠ x → z ≠ la → z ≠ q2 → g14 z = f z := fun z z1 z2 z3 => by rw [ega, hv_up_ne _ _ z1, hv_up_ne _ _ z2]; exact hfo z z1 z2 z3
    exact hv_iret hE hr hlocks hI hK (v := nI n) (⟨rfl, hk, k11, hn1, q2, hfq, hg1, hg2, hg3, hfo⟩) (by decide) (by decide) d_BP_box_50
  · skip
    have k11 := b2i_f c11
    exact hv_throw hE hl0 (cls := "java/lang/IllegalArgumentException") (text := "the shift is no size") (names := NMS) (by decide) (by decide) hI hK (hv_thr tw_IAE (by decide)) (by rw [hml]; exact hl.1) d_BP_box_14 d_BP_box_17 d_BP_box_18 d_BP_box_20 d_BP_box_23 hout (by decide) (by decide) hlocks (Or.inr (Or.inl ⟨rfl, hk, k11, rfl⟩)) (by decide) (by decide) (by decide) (by decide)

set_option maxHeartbeats 4000000 in
set_option maxRecDepth 100000 in
theorem c_BP_init (l : Launch) (hl0 : l.stackTraces = false) (b0 : Nat) (D : va_G) (cA : Nat → ClassId) (f : hv_M) (x : Nat) (hx0 : f x = some (.inr (0, [.null, .int 0, .null, .int 0, .null]))) : hv_Met l y_BP_init [Cond.code y_BP_init b_BP_init 1 none] (RM 3 4 6202) b0 (Fa D cA) D CL [.ref x] f (fun v g => v = none ∧ ∃ (la ma mk rw9 : Nat), la ≠ ma ∧ g x = some (.inr (0, [.ref la, .int 0, .ref ma, .int 0, .ref mk])) ∧ g la = some (.inl (cA 3, 100, .inr (.inr (.inr (.inr (fun _ => none)))))) ∧ g ma = some (.inl (cA 4, 100, .inr (.inr (.inr (.inr (fun _ => none)))))) ∧ g mk = some (.inr (4, [.ref rw9, .int 0])) ∧ g rw9 = some (.inl (cA 1, 6000, .inr (.inl (fun _ => 0)))) ∧ ∀ z y, z ≠ x → f z = some y → g z = some y) (NX) := by
  refine hv_Met.of (own := "BoxPacker") (by decide) rfl (Nat.le_of_ble_eq_true rfl) ?_
  intro p e s m below meth c hE hml hout hr hlocks hname hK hI ls hl
  have hl : lv_has ls 1 [(0, .ref x)] := hl
  obtain ⟨hx, hb, hown, hts, hVK⟩ := id hE
  refine lv_aload_n hx hb d_BP_init_0 rfl (lv_at hl 0 rfl) ?_
  refine W.objInit hx hb hown (hts _ w21) (hts _ w22) (hts _ w23) rfl (by rw [hml]; exact hl.1) rfl d_BP_init_1 (by decide) (Nat.le_of_ble_eq_true rfl) ?_
  refine W.eq (g2 := F0 m 4 ls []) rfl ?_
  refine lv_aload_n hx hb d_BP_init_4 rfl (lv_at hl 0 rfl) ?_
  refine lv_bipush (v := 100) hx hb d_BP_init_5 (by decide) ?_
  refine hv_newQ hE hI 3 rfl w24 w25 (n := 100) (by decide) (by decide) (by decide) (by decide) (by decide) d_BP_init_7 (fun q1 H hnq1 hI => ?_)
  obtain ⟨g2, eg2⟩ : ∃ z : hv_M, z = hv_up f q1 (.inl (cA 3, 100, .inr (.inr (.inr (.inr (fun _ => none)))))) := ⟨_, rfl⟩
  have hI : hv_I D CL b0 g2 s.heap H [] := by rw [eg2]; exact hI
  have h3 : g2 x = some (.inr (0, [.null, .int 0, .null, .int 0, .null])) := by rw [eg2]; rw [hv_up_ne _ _ (hv_nn hx0 hnq1)]; exact hx0
  have h4 : g2 q1 = some (.inl (cA 3, 100, .inr (.inr (.inr (.inr (fun _ => none)))))) := by rw [eg2]; exact hv_up_self _ _ _
  refine hv_putF hE k_BP hI hname 0 (by decide) w44 h3 rfl rfl rfl rfl (Nat.le_of_ble_eq_true rfl) d_BP_init_10 (fun H locs hI => ?_)
  obtain ⟨g5, eg5⟩ : ∃ z : hv_M, z = hv_up g2 x (.inr (0, [.ref q1, .int 0, .null, .int 0, .null])) := ⟨_, rfl⟩
  have hI : hv_I D CL b0 g5 s.heap H locs := by rw [eg5]; exact hI
  have h6 : g5 x = some (.inr (0, [.ref q1, .int 0, .null, .int 0, .null])) := by rw [eg5]; exact hv_up_self _ _ _
  have h7 : g5 q1 = some (.inl (cA 3, 100, .inr (.inr (.inr (.inr (fun _ => none)))))) := by rw [eg5]; rw [hv_up_ne _ _ (hv_ne h4 h3 (by simp))]; exact h4
  refine lv_aload_n hx hb d_BP_init_13 rfl (lv_at hl 0 rfl) ?_
  refine lv_iconst (v := 0) hx hb d_BP_init_14 (by decide) ?_
  refine hv_put hE k_BP hI 1 (by decide) w45 h6 rfl rfl rfl (Nat.le_of_ble_eq_true rfl) d_BP_init_15 (fun H locs hI => ?_)
  obtain ⟨g8, eg8⟩ : ∃ z : hv_M, z = hv_up g5 x (.inr (0, [.ref q1, .int 0, .null, .int 0, .null])) := ⟨_, rfl⟩
  have hI : hv_I D CL b0 g8 s.heap H locs := by rw [eg8]; exact hI
  have h9 : g8 x = some (.inr (0, [.ref q1, .int 0, .null, .int 0, .null])) := by rw [eg8]; exact hv_up_self _ _ _
  have h10 : g8 q1 = some (.inl (cA 3, 100, .inr (.inr (.inr (.inr (fun _ => none)))))) := by rw [eg8]; rw [hv_up_ne _ _ (hv_ne h7 h6 (by simp))]; exact h7
  refine lv_aload_n hx hb d_BP_init_18 rfl (lv_at hl 0 rfl) ?_
  refine lv_bipush (v := 100) hx hb d_BP_init_19 (by decide) ?_
  refine hv_newQ hE hI 4 rfl w26 w27 (n := 100) (by decide) (by decide) (by decide) (by decide) (by decide) d_BP_init_21 (fun q11 H hnq11 hI => ?_)
  obtain ⟨g12, eg12⟩ : ∃ z : hv_M, z = hv_up g8 q11 (.inl (cA 4, 100, .inr (.inr (.inr (.inr (fun _ => none)))))) := ⟨_, rfl⟩
  have hI : hv_I D CL b0 g12 s.heap H locs := by rw [eg12]; exact hI
  have h13 : g12 x = some (.inr (0, [.ref q1, .int 0, .null, .int 0, .null])) := by rw [eg12]; rw [hv_up_ne _ _ (hv_nn h9 hnq11)]; exact h9
  have h14 : g12 q1 = some (.inl (cA 3, 100, .inr (.inr (.inr (.inr (fun _ => none)))))) := by rw [eg12]; rw [hv_up_ne _ _ (hv_nn h10 hnq11)]; exact h10
  have h15 : g12 q11 = some (.inl (cA 4, 100, .inr (.inr (.inr (.inr (fun _ => none)))))) := by rw [eg12]; exact hv_up_self _ _ _
  refine hv_putF hE k_BP hI hname 2 (by decide) w46 h13 rfl rfl rfl rfl (Nat.le_of_ble_eq_true rfl) d_BP_init_24 (fun H locs hI => ?_)
  obtain ⟨g16, eg16⟩ : ∃ z : hv_M, z = hv_up g12 x (.inr (0, [.ref q1, .int 0, .ref q11, .int 0, .null])) := ⟨_, rfl⟩
  have hI : hv_I D CL b0 g16 s.heap H locs := by rw [eg16]; exact hI
  have h17 : g16 x = some (.inr (0, [.ref q1, .int 0, .ref q11, .int 0, .null])) := by rw [eg16]; exact hv_up_self _ _ _
  have h18 : g16 q1 = some (.inl (cA 3, 100, .inr (.inr (.inr (.inr (fun _ => none)))))) := by rw [eg16]; rw [hv_up_ne _ _ (hv_ne h14 h13 (by simp))]; exact h14
  have h19 : g16 q11 = some (.inl (cA 4, 100, .inr (.inr (.inr (.inr (fun _ => none)))))) := by rw [eg16]; rw [hv_up_ne _ _ (hv_ne h15 h13 (by simp))]; exact h15
  refine lv_aload_n hx hb d_BP_init_27 rfl (lv_at hl 0 rfl) ?_
  refine lv_iconst (v := 0) hx hb d_BP_init_28 (by decide) ?_
  refine hv_put hE k_BP hI 3 (by decide) w47 h17 rfl rfl rfl (Nat.le_of_ble_eq_true rfl) d_BP_init_29 (fun H locs hI => ?_)
  obtain ⟨g20, eg20⟩ : ∃ z : hv_M, z = hv_up g16 x (.inr (0, [.ref q1, .int 0, .ref q11, .int 0, .null])) := ⟨_, rfl⟩
  have hI : hv_I D CL b0 g20 s.heap H locs := by rw [eg20]; exact hI
  have h21 : g20 x = some (.inr (0, [.ref q1, .int 0, .ref q11, .int 0, .null])) := by rw [eg20]; exact hv_up_self _ _ _
  have h22 : g20 q1 = some (.inl (cA 3, 100, .inr (.inr (.inr (.inr (fun _ => none)))))) := by rw [eg20]; rw [hv_up_ne _ _ (hv_ne h18 h17 (by simp))]; exact h18
  have h23 : g20 q11 = some (.inl (cA 4, 100, .inr (.inr (.inr (.inr (fun _ => none)))))) := by rw [eg20]; rw [hv_up_ne _ _ (hv_ne h19 h17 (by simp))]; exact h19
  refine lv_aload_n hx hb d_BP_init_32 rfl (lv_at hl 0 rfl) ?_
  refine hv_new hE k_Marks hI w28 w29 w2 (fs := [.null, .int 0]) (by decide +kernel) (by decide) (by decide) d_BP_init_33 (fun q24 H hnq24 hI => ?_)
  obtain ⟨g25, eg25⟩ : ∃ z : hv_M, z = hv_up g20 q24 (.inr (4, [.null, .int 0])) := ⟨_, rfl⟩
  have hI : hv_I D CL b0 g25 s.heap H locs := by rw [eg25]; exact hI
  have h26 : g25 x = some (.inr (0, [.ref q1, .int 0, .ref q11, .int 0, .null])) := by rw [eg25]; rw [hv_up_ne _ _ (hv_nn h21 hnq24)]; exact h21
  have h27 : g25 q1 = some (.inl (cA 3, 100, .inr (.inr (.inr (.inr (fun _ => none)))))) := by rw [eg25]; rw [hv_up_ne _ _ (hv_nn h22 hnq24)]; exact h22
  have h28 : g25 q11 = some (.inl (cA 4, 100, .inr (.inr (.inr (.inr (fun _ => none)))))) := by rw [eg25]; rw [hv_up_ne _ _ (hv_nn h23 hnq24)]; exact h23
  have h29 : g25 q24 = some (.inr (4, [.null, .int 0])) := by rw [eg25]; exact hv_up_self _ _ _
  refine lv_dup hx hb d_BP_init_36 rfl ?_
  refine hv_CN (As := []) (rest := [.ref q24, .ref x]) hE hml hK hI (c_Marks_init l hl0 b0 D cA g25 q24 h29) cd_Marks_init rfl w30 w31 rfl hl.1 (Nat.le_of_ble_eq_true rfl) d_BP_init_37 ⟨by decide, by decide⟩ ⟨by decide, by decide⟩ (fun v9 g30 H locs hp hI => ?_) (fun q9 E9 ce9 g9 H locs hp => hp.elim)
  obtain ⟨hv, rw9, hnr, egm⟩ := hp
  rw [hv]
  refine W.eq (g2 := F0 m 40 ls [.ref q24, .ref x]) rfl ?_
  have hgk : g30 q24 = some (.inr (4, [.ref rw9, .int 0])) := by rw [egm]; exact hv_up_self _ _ _
  have hgr : g30 rw9 = some (.inl (cA 1, 6000, .inr (.inl (fun _ => 0)))) := by rw [egm, hv_up_ne _ _ (Ne.symm (hv_nn h29 hnr))]; exact hv_up_self _ _ _
  have h31 : g30 x = some (.inr (0, [.ref q1, .int 0, .ref q11, .int 0, .null])) := by rw [egm, hv_up_ne _ _ (hv_ne h26 h29 (by simp)), hv_up_ne _ _ (hv_nn h26 hnr)]; exact h26
  have h32 : g30 q1 = some (.inl (cA 3, 100, .inr (.inr (.inr (.inr (fun _ => none)))))) := by rw [egm, hv_up_ne _ _ (hv_ne h27 h29 (by simp)), hv_up_ne _ _ (hv_nn h27 hnr)]; exact h27
  have h33 : g30 q11 = some (.inl (cA 4, 100, .inr (.inr (.inr (.inr (fun _ => none)))))) := by rw [egm, hv_up_ne _ _ (hv_ne h28 h29 (by simp)), hv_up_ne _ _ (hv_nn h28 hnr)]; exact h28
  refine hv_putF hE k_BP hI hname 4 (by decide) w48 h31 rfl rfl rfl rfl (Nat.le_of_ble_eq_true rfl) d_BP_init_40 (fun H locs hI => ?_)
  obtain ⟨g34, eg34⟩ : ∃ z : hv_M, z = hv_up g30 x (.inr (0, [.ref q1, .int 0, .ref q11, .int 0, .ref q24])) := ⟨_, rfl⟩
  have hI : hv_I D CL b0 g34 s.heap H locs := by rw [eg34]; exact hI
  have h35 : g34 x = some (.inr (0, [.ref q1, .int 0, .ref q11, .int 0, .ref q24])) := by rw [eg34]; exact hv_up_self _ _ _
  have h36 : g34 q1 = some (.inl (cA 3, 100, .inr (.inr (.inr (.inr (fun _ => none)))))) := by rw [eg34]; rw [hv_up_ne _ _ (hv_ne h32 h31 (by simp))]; exact h32
  have h37 : g34 q11 = some (.inl (cA 4, 100, .inr (.inr (.inr (.inr (fun _ => none)))))) := by rw [eg34]; rw [hv_up_ne _ _ (hv_ne h33 h31 (by simp))]; exact h33
  have h38 : g34 q24 = some (.inr (4, [.ref rw9, .int 0])) := by rw [eg34]; rw [hv_up_ne _ _ (hv_ne hgk h31 (by simp))]; exact hgk
  have h39 : g34 rw9 = some (.inl (cA 1, 6000, .inr (.inl (fun _ => 0)))) := by rw [eg34]; rw [hv_up_ne _ _ (hv_ne hgr h31 (by simp))]; exact hgr
  have keep9 : ∀ z y, z ≠ x → f z = some y → f z = some y := fun _ _ _ h => h
  have keep9 : ∀ z y, z ≠ x → f z = some y → g2 z = some y := fun z y z1 hz => by rw [eg2, hv_up_ne _ _ (hv_nn (keep9 z y z1 hz) hnq1)]; exact keep9 z y z1 hz
  have keep9 : ∀ z y, z ≠ x → f z = some y → g5 z = some y := fun z y z1 hz => by rw [eg5, hv_up_ne _ _ z1]; exact keep9 z y z1 hz
  have keep9 : ∀ z y, z ≠ x → f z = some y → g8 z = some y := fun z y z1 hz => by rw [eg8, hv_up_ne _ _ z1]; exact keep9 z y z1 hz
  have keep9 : ∀ z y, z ≠ x → f z = some y → g12 z = some y := fun z y z1 hz => by rw [eg12, hv_up_ne _ _ (hv_nn (keep9 z y z1 hz) hnq11)]; exact keep9 z y z1 hz
  have keep9 : ∀ z y, z ≠ x → f z = some y → g16 z = some y := fun z y z1 hz => by rw [eg16, hv_up_ne _ _ z1]; exact keep9 z y z1 hz
  have keep9 : ∀ z y, z ≠ x → f z = some y → g20 z = some y := fun z y z1 hz => by rw [eg20, hv_up_ne _ _ z1]; exact keep9 z y z1 hz
  have keepq := keep9
  have keep9 : ∀ z y, z ≠ x → f z = some y → g25 z = some y := fun z y z1 hz => by rw [eg25, hv_up_ne _ _ (hv_nn (keep9 z y z1 hz) hnq24)]; exact keep9 z y z1 hz
  have keep9 : ∀ z y, z ≠ x → f z = some y → g30 z = some y := fun z y z1 hz => by rw [egm, hv_up_ne _ _ (fun q9 => by have h9 := keepq z y z1 hz; rw [q9] at h9; rw [hnq24] at h9; cases h9), hv_up_ne _ _ (hv_nn (keep9 z y z1 hz) hnr)]; exact keep9 z y z1 hz
  have keep9 : ∀ z y, z ≠ x → f z = some y → g34 z = some y := fun z y z1 hz => by rw [eg34, hv_up_ne _ _ z1]; exact keep9 z y z1 hz
  exact hv_vret hE hr hlocks hI hK (⟨rfl, q1, q11, q24, rw9, (hv_nn h10 hnq11), h35, h36, h37, h38, h39, keep9⟩) (by decide) (by decide) d_BP_init_43

