theorem hv_I.less {D : va_G} {cl : List vw_C} {b0 : Nat} {f g : hv_M} {H0 H : Heap} {locs : List Loc} (h : hv_I D cl b0 g H0 H locs) (hfg : ∀ z y, f z = some y → g z = some y) : hv_I D cl b0 f H0 H locs :=
  ⟨fun a x ha => h.1 a x (hfg a x ha), fun a x ha => h.2.1 a x (hfg a x ha), h.2.2⟩

set_option maxHeartbeats 4000000 in
set_option maxRecDepth 100000 in
theorem c_BP_appendS (l : Launch) (hl0 : l.stackTraces = false) (b0 : Nat) (D : va_G) (cA : Nat → ClassId) (f : hv_M) (x la ma mk n bn : Nat) (it : Nat) (gl : Nat → Option Nat) (vs : List Value) (hx0 : f x = some (.inr (0, [.ref la, .int (nI n), .ref ma, .int (nI bn), .ref mk]))) (hla : f la = some (.inl (cA 3, 100, .inr (.inr (.inr (.inr gl)))))) (hit : f it = some (.inr (2, vs))) (hn : n < 2 ^ 31) : hv_Met l y_BP_append [Cond.code y_BP_append b_BP_append 3 (some FieldType.int)] (RM 1 1 6) b0 (Fa D cA) D CL [.ref x, .ref it] f (fun v g => v = some (.int (nI n)) ∧ n < 100 ∧ g = hv_up (hv_up f la (.inl (cA 3, 100, .inr (.inr (.inr (.inr (va_up gl n (some it)))))))) x (.inr (0, [.ref la, .int (nI (n + 1)), .ref ma, .int (nI bn), .ref mk]))) (TX1 "java/lang/UnsupportedOperationException" f (100 ≤ n)) := by
  refine hv_Met.of (own := "BoxPacker") (by decide) rfl (Nat.le_of_ble_eq_true rfl) ?_
  intro p e s m below meth c hE hml hout hr hlocks hname hK hI ls hl
  have hl : lv_has ls 3 [(0, .ref x), (1, .ref it)] := hl
  obtain ⟨hx, hb, hown, hts, hVK⟩ := id hE
  refine lv_aload_n hx hb d_BP_append_0 rfl (lv_at hl 0 rfl) ?_
  refine hv_get hE k_BP hI 1 (by decide) w45 hx0 rfl d_BP_append_1 ?_
  refine lv_bipush (v := 100) hx hb d_BP_append_4 (by decide) ?_
  refine lv_icmp_lt (tgt := 19) hx hb d_BP_append_6 (by decide) (fun c6 => ?_) (fun c6 => ?_)
  · skip
    have hn1 : n < 100 := (nI_lt100 hn).mp c6
    refine lv_aload_n hx hb d_BP_append_19 rfl (lv_at hl 0 rfl) ?_
    refine hv_get hE k_BP hI 1 (by decide) w45 hx0 rfl d_BP_append_20 ?_
    refine lv_istore_n (lv' := [(2, .int (nI n)), (0, .ref x), (1, .ref it)]) hx hb d_BP_append_23 rfl hl (by decide) rfl (fun ls hl => ?_)
    refine lv_aload_n hx hb d_BP_append_24 rfl (lv_at hl 1 rfl) ?_
    refine hv_get hE k_BP hI 0 (by decide) w44 hx0 rfl d_BP_append_25 ?_
    refine lv_iload_n hx hb d_BP_append_28 rfl (lv_at hl 0 rfl) ?_
    refine lv_aload_n hx hb d_BP_append_29 rfl (lv_at hl 2 rfl) ?_
    refine hv_aast hE hI 3 hla rfl hit rfl w761 (pk_in n 100 hn1) d_BP_append_30 (fun H locs hI => ?_)
    obtain ⟨g1, eg1⟩ : ∃ z : hv_M, z = hv_up f la (.inl (cA 3, 100, .inr (.inr (.inr (.inr (va_up gl (nI n).toNatClampNeg (some it))))))) := ⟨_, rfl⟩
    have hI : hv_I D CL b0 g1 s.heap H locs := by rw [eg1]; exact hI
    have h2 : g1 x = some (.inr (0, [.ref la, .int (nI n), .ref ma, .int (nI bn), .ref mk])) := by rw [eg1]; rw [hv_up_ne _ _ (hv_ne hx0 hla (by simp))]; exact hx0
    have h3 : g1 la = some (.inl (cA 3, 100, .inr (.inr (.inr (.inr (va_up gl (nI n).toNatClampNeg (some it))))))) := by rw [eg1]; exact hv_up_self _ _ _
    have h4 : g1 it = some (.inr (2, vs)) := by rw [eg1]; rw [hv_up_ne _ _ (hv_ne hit hla (by simp))]; exact hit
    refine lv_aload_n hx hb d_BP_append_31 rfl (lv_at hl 1 rfl) ?_
    refine lv_dup hx hb d_BP_append_32 rfl ?_
    refine hv_get hE k_BP hI 1 (by decide) w45 h2 rfl d_BP_append_33 ?_
    refine lv_iconst (v := 1) hx hb d_BP_append_36 (by decide) ?_
    refine lv_iadd hx hb d_BP_append_37 ?_
    refine hv_put hE k_BP hI 1 (by decide) w45 h2 rfl rfl rfl (Nat.le_of_ble_eq_true rfl) d_BP_append_38 (fun H locs hI => ?_)
    obtain ⟨g5, eg5⟩ : ∃ z : hv_M, z = hv_up g1 x (.inr (0, [.ref la, .int ((nI n) + 1), .ref ma, .int (nI bn), .ref mk])) := ⟨_, rfl⟩
    have hI : hv_I D CL b0 g5 s.heap H locs := by rw [eg5]; exact hI
    have h6 : g5 x = some (.inr (0, [.ref la, .int ((nI n) + 1), .ref ma, .int (nI bn), .ref mk])) := by rw [eg5]; exact hv_up_self _ _ _
    have h7 : g5 la = some (.inl (cA 3, 100, .inr (.inr (.inr (.inr (va_up gl (nI n).toNatClampNeg (some it))))))) := by rw [eg5]; rw [hv_up_ne _ _ (hv_ne h3 h2 (by simp))]; exact h3
    have h8 : g5 it = some (.inr (2, vs)) := by rw [eg5]; rw [hv_up_ne _ _ (hv_ne h4 h2 (by simp))]; exact h4
    refine lv_iload_n hx hb d_BP_append_41 rfl (lv_at hl 0 rfl) ?_
    exact hv_iret hE hr hlocks hI hK (v := nI n) (⟨rfl, hn1, by rw [eg5, eg1, nI_cl (by omega), nI_1]⟩) (by decide) (by decide) d_BP_append_42
  · skip
    exact hv_throw hE hl0 (cls := "java/lang/UnsupportedOperationException") (text := "there are 100 items") (names := NMS) (by decide) (by decide) hI hK (hv_thr tw_UOE (by decide)) (by rw [hml]; exact hl.1) d_BP_append_9 d_BP_append_12 d_BP_append_13 d_BP_append_15 d_BP_append_18 hout (by decide) (by decide) hlocks (⟨rfl, rfl, Nat.le_of_not_lt (fun q => c6 ((nI_lt100 hn).mpr q))⟩) (by decide) (by decide) (by decide) (by decide)

set_option maxHeartbeats 4000000 in
set_option maxRecDepth 100000 in
theorem c_BP_appendP (l : Launch) (hl0 : l.stackTraces = false) (b0 : Nat) (D : va_G) (cA : Nat → ClassId) (f : hv_M) (x la ma mk n bn : Nat) (it : Nat) (gl : Nat → Option Nat) (vs : List Value) (hx0 : f x = some (.inr (0, [.ref la, .int (nI n), .ref ma, .int (nI bn), .ref mk]))) (hla : f la = some (.inl (cA 3, 100, .inr (.inr (.inr (.inr gl)))))) (hit : f it = some (.inr (3, vs))) (hn : n < 2 ^ 31) : hv_Met l y_BP_append [Cond.code y_BP_append b_BP_append 3 (some FieldType.int)] (RM 1 1 6) b0 (Fa D cA) D CL [.ref x, .ref it] f (fun v g => v = some (.int (nI n)) ∧ n < 100 ∧ g = hv_up (hv_up f la (.inl (cA 3, 100, .inr (.inr (.inr (.inr (va_up gl n (some it)))))))) x (.inr (0, [.ref la, .int (nI (n + 1)), .ref ma, .int (nI bn), .ref mk]))) (TX1 "java/lang/UnsupportedOperationException" f (100 ≤ n)) := by
  refine hv_Met.of (own := "BoxPacker") (by decide) rfl (Nat.le_of_ble_eq_true rfl) ?_
  intro p e s m below meth c hE hml hout hr hlocks hname hK hI ls hl
  have hl : lv_has ls 3 [(0, .ref x), (1, .ref it)] := hl
  obtain ⟨hx, hb, hown, hts, hVK⟩ := id hE
  refine lv_aload_n hx hb d_BP_append_0 rfl (lv_at hl 0 rfl) ?_
  refine hv_get hE k_BP hI 1 (by decide) w45 hx0 rfl d_BP_append_1 ?_
  refine lv_bipush (v := 100) hx hb d_BP_append_4 (by decide) ?_
  refine lv_icmp_lt (tgt := 19) hx hb d_BP_append_6 (by decide) (fun c6 => ?_) (fun c6 => ?_)
  · skip
    have hn1 : n < 100 := (nI_lt100 hn).mp c6
    refine lv_aload_n hx hb d_BP_append_19 rfl (lv_at hl 0 rfl) ?_
    refine hv_get hE k_BP hI 1 (by decide) w45 hx0 rfl d_BP_append_20 ?_
    refine lv_istore_n (lv' := [(2, .int (nI n)), (0, .ref x), (1, .ref it)]) hx hb d_BP_append_23 rfl hl (by decide) rfl (fun ls hl => ?_)
    refine lv_aload_n hx hb d_BP_append_24 rfl (lv_at hl 1 rfl) ?_
    refine hv_get hE k_BP hI 0 (by decide) w44 hx0 rfl d_BP_append_25 ?_
    refine lv_iload_n hx hb d_BP_append_28 rfl (lv_at hl 0 rfl) ?_
    refine lv_aload_n hx hb d_BP_append_29 rfl (lv_at hl 2 rfl) ?_
    refine hv_aast hE hI 3 hla rfl hit rfl w762 (pk_in n 100 hn1) d_BP_append_30 (fun H locs hI => ?_)
    obtain ⟨g1, eg1⟩ : ∃ z : hv_M, z = hv_up f la (.inl (cA 3, 100, .inr (.inr (.inr (.inr (va_up gl (nI n).toNatClampNeg (some it))))))) := ⟨_, rfl⟩
    have hI : hv_I D CL b0 g1 s.heap H locs := by rw [eg1]; exact hI
    have h2 : g1 x = some (.inr (0, [.ref la, .int (nI n), .ref ma, .int (nI bn), .ref mk])) := by rw [eg1]; rw [hv_up_ne _ _ (hv_ne hx0 hla (by simp))]; exact hx0
    have h3 : g1 la = some (.inl (cA 3, 100, .inr (.inr (.inr (.inr (va_up gl (nI n).toNatClampNeg (some it))))))) := by rw [eg1]; exact hv_up_self _ _ _
    have h4 : g1 it = some (.inr (3, vs)) := by rw [eg1]; rw [hv_up_ne _ _ (hv_ne hit hla (by simp))]; exact hit
    refine lv_aload_n hx hb d_BP_append_31 rfl (lv_at hl 1 rfl) ?_
    refine lv_dup hx hb d_BP_append_32 rfl ?_
    refine hv_get hE k_BP hI 1 (by decide) w45 h2 rfl d_BP_append_33 ?_
    refine lv_iconst (v := 1) hx hb d_BP_append_36 (by decide) ?_
    refine lv_iadd hx hb d_BP_append_37 ?_
    refine hv_put hE k_BP hI 1 (by decide) w45 h2 rfl rfl rfl (Nat.le_of_ble_eq_true rfl) d_BP_append_38 (fun H locs hI => ?_)
    obtain ⟨g5, eg5⟩ : ∃ z : hv_M, z = hv_up g1 x (.inr (0, [.ref la, .int ((nI n) + 1), .ref ma, .int (nI bn), .ref mk])) := ⟨_, rfl⟩
    have hI : hv_I D CL b0 g5 s.heap H locs := by rw [eg5]; exact hI
    have h6 : g5 x = some (.inr (0, [.ref la, .int ((nI n) + 1), .ref ma, .int (nI bn), .ref mk])) := by rw [eg5]; exact hv_up_self _ _ _
    have h7 : g5 la = some (.inl (cA 3, 100, .inr (.inr (.inr (.inr (va_up gl (nI n).toNatClampNeg (some it))))))) := by rw [eg5]; rw [hv_up_ne _ _ (hv_ne h3 h2 (by simp))]; exact h3
    have h8 : g5 it = some (.inr (3, vs)) := by rw [eg5]; rw [hv_up_ne _ _ (hv_ne h4 h2 (by simp))]; exact h4
    refine lv_iload_n hx hb d_BP_append_41 rfl (lv_at hl 0 rfl) ?_
    exact hv_iret hE hr hlocks hI hK (v := nI n) (⟨rfl, hn1, by rw [eg5, eg1, nI_cl (by omega), nI_1]⟩) (by decide) (by decide) d_BP_append_42
  · skip
    exact hv_throw hE hl0 (cls := "java/lang/UnsupportedOperationException") (text := "there are 100 items") (names := NMS) (by decide) (by decide) hI hK (hv_thr tw_UOE (by decide)) (by rw [hml]; exact hl.1) d_BP_append_9 d_BP_append_12 d_BP_append_13 d_BP_append_15 d_BP_append_18 hout (by decide) (by decide) hlocks (⟨rfl, rfl, Nat.le_of_not_lt (fun q => c6 ((nI_lt100 hn).mpr q))⟩) (by decide) (by decide) (by decide) (by decide)

