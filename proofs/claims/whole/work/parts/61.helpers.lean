/-! ===== the law: its helpers ===== -/
theorem cd_Law_leaf : hv_cdH y_Law_leaf b_Law_leaf 7 (some FieldType.int) [(0, 14, 17, 13), (0, 14, 21, 15)] 6 := ⟨w74, w0, by decide, by decide, by decide +kernel⟩
theorem cd_Law_rule : hv_cdH y_Law_rule b_Law_rule 6 (some FieldType.int) [(0, 12, 15, 13), (0, 12, 19, 15)] 5 := ⟨w218, w0, by decide, by decide, by decide +kernel⟩
theorem cd_Law_glue : hv_cdH y_Law_glue b_Law_glue 8 (some FieldType.int) [(0, 16, 19, 13), (0, 16, 23, 15)] 7 := ⟨w230, w0, by decide, by decide, by decide +kernel⟩
theorem cd_Law_kern : hv_cdH y_Law_kern b_Law_kern 4 (some FieldType.int) [(0, 9, 12, 13), (0, 9, 15, 15)] 3 := ⟨w266, w0, by decide, by decide, by decide +kernel⟩
theorem cd_Law_box : hv_cdH y_Law_box b_Law_box 5 (some FieldType.int) [(0, 10, 13, 33), (0, 10, 17, 13), (0, 10, 21, 15)] 4 := ⟨w273, w0, by decide, by decide, by decide +kernel⟩
theorem cd_Law_pack : hv_cdH y_Law_pack b_Law_pack 7 (some FieldType.int) [(0, 14, 17, 13), (0, 14, 21, 15), (0, 14, 25, 39)] 6 := ⟨w302, w0, by decide, by decide, by decide +kernel⟩
theorem cd_Law_of : hv_cdH y_Law_of b_Law_of 5 (some FieldType.int) [(0, 10, 13, 33)] 4 := ⟨w447, w0, by decide, by decide, by decide +kernel⟩
theorem cd_Law_place : hv_cdH y_Law_place b_Law_place 5 (some FieldType.int) [(0, 10, 13, 33)] 4 := ⟨w469, w0, by decide, by decide, by decide +kernel⟩
theorem cd_Law_lay : hv_cdH y_Law_lay b_Law_lay 6 (some FieldType.int) [(0, 12, 15, 33), (0, 12, 19, 13)] 5 := ⟨w477, w0, by decide, by decide, by decide +kernel⟩
theorem cd_Law_mark : hv_cdH y_Law_mark b_Law_mark 5 (some FieldType.int) [(0, 9, 12, 33)] 4 := ⟨w502, w0, by decide, by decide, by decide +kernel⟩
set_option maxHeartbeats 4000000 in
set_option maxRecDepth 100000 in
theorem c_Law_leaf (l : Launch) (b0 : Nat) (D : va_G) (cA : Nat → ClassId) (f : hv_M) (x o : Nat) (p0 p1 p2 p3 : Int32) (ow : Nat → Int64) (fs : List Value) (P : Option Value → hv_M → Prop) (T : String → hv_M → Prop) (hx0 : f x = some (.inr (0, fs))) (hM : hv_Met l y_BP_leaf [Cond.code y_BP_leaf b_BP_leaf 5 (some FieldType.int)] (RM 4 3 18) b0 (Fa D cA) D CL [.ref x, .int p0, .int p1, .int p2, .int p3] f P T) (hP : ∀ v g, P v g → (∃ z, v = some (.int z)) ∧ g o = some (outE cA ow)) (hT : ∀ E g, T E g → E = "java/lang/IllegalArgumentException" ∨ E = "java/lang/UnsupportedOperationException") : hv_Met l y_Law_leaf [Cond.codeWith y_Law_leaf b_Law_leaf 7 (some FieldType.int) [(0, 14, 17, 13), (0, 14, 21, 15)]] (RM 5 3 18) b0 (Fa D cA) D CL [.ref x, .int p0, .int p1, .int p2, .int p3, .ref o] f (fun v g => ∃ k : Int32, v = some (.int k) ∧ HPi P T cA o ow [("java/lang/IllegalArgumentException", 1), ("java/lang/UnsupportedOperationException", 2)] k g) (NX) := by
  refine hv_Met.ofH (own := "BoxPackerLaw") (by decide) rfl (Nat.le_of_ble_eq_true rfl) ?_
  intro p e s m below meth c hE hml hout hr hlocks hK hI ls hl
  have hl : lv_has ls 7 [(0, .ref x), (1, .int p0), (2, .int p1), (3, .int p2), (4, .int p3), (5, .ref o)] := hl
  obtain ⟨hx, hb, hown, hts, hVK⟩ := id hE
  refine lv_aload hx hb d_Law_leaf_0 (lv_at hl 5 rfl) ?_
  refine lv_iconst (v := 0) hx hb d_Law_leaf_2 (by decide) ?_
  refine lv_aload_n hx hb d_Law_leaf_3 rfl (lv_at hl 0 rfl) ?_
  refine lv_iload_n hx hb d_Law_leaf_4 rfl (lv_at hl 1 rfl) ?_
  refine lv_iload_n hx hb d_Law_leaf_5 rfl (lv_at hl 2 rfl) ?_
  refine lv_iload_n hx hb d_Law_leaf_6 rfl (lv_at hl 3 rfl) ?_
  refine lv_iload hx hb d_Law_leaf_7 (lv_at hl 4 rfl) ?_
  refine hv_V (As := [.int p0, .int p1, .int p2, .int p3]) (rest := [.int 0, .ref o]) hE hml hK hI hM cd_BP_leaf w77 w78 w79 hx0 rfl rfl hl.1 (Nat.le_of_ble_eq_true rfl) d_Law_leaf_9 ⟨by decide, by decide⟩ ⟨by decide, by decide⟩ (fun v9 g9 H locs hp hI => ?_) (fun q9 E9 ce9 g9 H locs hp hI hce hcv hcl => ?_)
  rotate_left
  · skip
    rcases hT E9 g9 hp with e9 | e9
    · skip
      subst e9
      refine hv_catch hE hK [] ⟨0, 14, 17, 13⟩ [⟨0, 14, 21, 15⟩] (by rw [hout]; rfl) (fun z hz => absurd hz List.not_mem_nil) (by decide) (by decide) w75 w84 hce hcv hcl ?_
      refine W.eq (g2 := F0 m 17 ls [.ref q9]) rfl ?_
      refine lv_astore (lv' := [(6, .ref q9), (0, .ref x), (1, .int p0), (2, .int p1), (3, .int p2), (4, .int p3), (5, .ref o)]) hx hb d_Law_leaf_17 hl (by decide) rfl (fun ls hl => ?_)
      refine lv_iconst (v := 1) hx hb d_Law_leaf_19 (by decide) ?_
      exact hv_iret hE hr hlocks hI hK (v := 1) (⟨1, rfl, Or.inr ⟨_, hp, by simp⟩⟩) (by decide) (by decide) d_Law_leaf_20
    · skip
      subst e9
      refine hv_catch hE hK [⟨0, 14, 17, 13⟩] ⟨0, 14, 21, 15⟩ [] (by rw [hout]; rfl) (fun z hz => by rw [List.mem_singleton.mp hz]; exact ⟨by decide, by decide, "java/lang/IllegalArgumentException", w75, by decide⟩) (by decide) (by decide) w76 w202 hce hcv hcl ?_
      refine W.eq (g2 := F0 m 21 ls [.ref q9]) rfl ?_
      refine lv_astore (lv' := [(6, .ref q9), (0, .ref x), (1, .int p0), (2, .int p1), (3, .int p2), (4, .int p3), (5, .ref o)]) hx hb d_Law_leaf_21 hl (by decide) rfl (fun ls hl => ?_)
      refine lv_iconst (v := 2) hx hb d_Law_leaf_23 (by decide) ?_
      exact hv_iret hE hr hlocks hI hK (v := 2) (⟨2, rfl, Or.inr ⟨_, hp, by simp⟩⟩) (by decide) (by decide) d_Law_leaf_24
  obtain ⟨⟨z9, hv9⟩, ho9⟩ := hP v9 g9 hp
  rw [hv9] at hp
  rw [hv9]
  refine W.eq (g2 := F0 m 12 ls [.int z9, .int 0, .ref o]) rfl ?_
  refine lv_i2l (v := z9.toInt64) hx hb d_Law_leaf_12 rfl ?_
  refine hv_last hE hI 1 ho9 rfl (pk_in 0 1 (by decide) rfl) d_Law_leaf_13 (fun H locs hI => ?_)
  rw [show (0 : Int32).toNatClampNeg = 0 from by decide] at hI
  refine lv_goto (tgt := 25) hx hb d_Law_leaf_14 (by decide) ?_
  refine lv_iconst (v := 0) hx hb d_Law_leaf_25 (by decide) ?_
  exact hv_iret hE hr hlocks hI hK (v := 0) (⟨0, rfl, Or.inl ⟨z9, g9, hp, rfl, rfl⟩⟩) (by decide) (by decide) d_Law_leaf_26

set_option maxHeartbeats 4000000 in
set_option maxRecDepth 100000 in
theorem c_Law_rule (l : Launch) (b0 : Nat) (D : va_G) (cA : Nat → ClassId) (f : hv_M) (x o : Nat) (p0 p1 p2 : Int32) (ow : Nat → Int64) (fs : List Value) (P : Option Value → hv_M → Prop) (T : String → hv_M → Prop) (hx0 : f x = some (.inr (0, fs))) (hM : hv_Met l y_BP_rule [Cond.code y_BP_rule b_BP_rule 4 (some FieldType.int)] (RM 4 3 18) b0 (Fa D cA) D CL [.ref x, .int p0, .int p1, .int p2] f P T) (hP : ∀ v g, P v g → (∃ z, v = some (.int z)) ∧ g o = some (outE cA ow)) (hT : ∀ E g, T E g → E = "java/lang/IllegalArgumentException" ∨ E = "java/lang/UnsupportedOperationException") : hv_Met l y_Law_rule [Cond.codeWith y_Law_rule b_Law_rule 6 (some FieldType.int) [(0, 12, 15, 13), (0, 12, 19, 15)]] (RM 5 3 18) b0 (Fa D cA) D CL [.ref x, .int p0, .int p1, .int p2, .ref o] f (fun v g => ∃ k : Int32, v = some (.int k) ∧ HPi P T cA o ow [("java/lang/IllegalArgumentException", 1), ("java/lang/UnsupportedOperationException", 2)] k g) (NX) := by
  refine hv_Met.ofH (own := "BoxPackerLaw") (by decide) rfl (Nat.le_of_ble_eq_true rfl) ?_
  intro p e s m below meth c hE hml hout hr hlocks hK hI ls hl
  have hl : lv_has ls 6 [(0, .ref x), (1, .int p0), (2, .int p1), (3, .int p2), (4, .ref o)] := hl
  obtain ⟨hx, hb, hown, hts, hVK⟩ := id hE
  refine lv_aload hx hb d_Law_rule_0 (lv_at hl 4 rfl) ?_
  refine lv_iconst (v := 0) hx hb d_Law_rule_2 (by decide) ?_
  refine lv_aload_n hx hb d_Law_rule_3 rfl (lv_at hl 0 rfl) ?_
  refine lv_iload_n hx hb d_Law_rule_4 rfl (lv_at hl 1 rfl) ?_
  refine lv_iload_n hx hb d_Law_rule_5 rfl (lv_at hl 2 rfl) ?_
  refine lv_iload_n hx hb d_Law_rule_6 rfl (lv_at hl 3 rfl) ?_
  refine hv_V (As := [.int p0, .int p1, .int p2]) (rest := [.int 0, .ref o]) hE hml hK hI hM cd_BP_rule w219 w220 w221 hx0 rfl rfl hl.1 (Nat.le_of_ble_eq_true rfl) d_Law_rule_7 ⟨by decide, by decide⟩ ⟨by decide, by decide⟩ (fun v9 g9 H locs hp hI => ?_) (fun q9 E9 ce9 g9 H locs hp hI hce hcv hcl => ?_)
  rotate_left
  · skip
    rcases hT E9 g9 hp with e9 | e9
    · skip
      subst e9
      refine hv_catch hE hK [] ⟨0, 12, 15, 13⟩ [⟨0, 12, 19, 15⟩] (by rw [hout]; rfl) (fun z hz => absurd hz List.not_mem_nil) (by decide) (by decide) w75 w84 hce hcv hcl ?_
      refine W.eq (g2 := F0 m 15 ls [.ref q9]) rfl ?_
      refine lv_astore (lv' := [(5, .ref q9), (0, .ref x), (1, .int p0), (2, .int p1), (3, .int p2), (4, .ref o)]) hx hb d_Law_rule_15 hl (by decide) rfl (fun ls hl => ?_)
      refine lv_iconst (v := 1) hx hb d_Law_rule_17 (by decide) ?_
      exact hv_iret hE hr hlocks hI hK (v := 1) (⟨1, rfl, Or.inr ⟨_, hp, by simp⟩⟩) (by decide) (by decide) d_Law_rule_18
    · skip
      subst e9
      refine hv_catch hE hK [⟨0, 12, 15, 13⟩] ⟨0, 12, 19, 15⟩ [] (by rw [hout]; rfl) (fun z hz => by rw [List.mem_singleton.mp hz]; exact ⟨by decide, by decide, "java/lang/IllegalArgumentException", w75, by decide⟩) (by decide) (by decide) w76 w202 hce hcv hcl ?_
      refine W.eq (g2 := F0 m 19 ls [.ref q9]) rfl ?_
      refine lv_astore (lv' := [(5, .ref q9), (0, .ref x), (1, .int p0), (2, .int p1), (3, .int p2), (4, .ref o)]) hx hb d_Law_rule_19 hl (by decide) rfl (fun ls hl => ?_)
      refine lv_iconst (v := 2) hx hb d_Law_rule_21 (by decide) ?_
      exact hv_iret hE hr hlocks hI hK (v := 2) (⟨2, rfl, Or.inr ⟨_, hp, by simp⟩⟩) (by decide) (by decide) d_Law_rule_22
  obtain ⟨⟨z9, hv9⟩, ho9⟩ := hP v9 g9 hp
  rw [hv9] at hp
  rw [hv9]
  refine W.eq (g2 := F0 m 10 ls [.int z9, .int 0, .ref o]) rfl ?_
  refine lv_i2l (v := z9.toInt64) hx hb d_Law_rule_10 rfl ?_
  refine hv_last hE hI 1 ho9 rfl (pk_in 0 1 (by decide) rfl) d_Law_rule_11 (fun H locs hI => ?_)
  rw [show (0 : Int32).toNatClampNeg = 0 from by decide] at hI
  refine lv_goto (tgt := 23) hx hb d_Law_rule_12 (by decide) ?_
  refine lv_iconst (v := 0) hx hb d_Law_rule_23 (by decide) ?_
  exact hv_iret hE hr hlocks hI hK (v := 0) (⟨0, rfl, Or.inl ⟨z9, g9, hp, rfl, rfl⟩⟩) (by decide) (by decide) d_Law_rule_24

set_option maxHeartbeats 4000000 in
set_option maxRecDepth 100000 in
theorem c_Law_glue (l : Launch) (b0 : Nat) (D : va_G) (cA : Nat → ClassId) (f : hv_M) (x o : Nat) (p0 p1 p2 p3 p4 : Int32) (ow : Nat → Int64) (fs : List Value) (P : Option Value → hv_M → Prop) (T : String → hv_M → Prop) (hx0 : f x = some (.inr (0, fs))) (hM : hv_Met l y_BP_glue [Cond.code y_BP_glue b_BP_glue 6 (some FieldType.int)] (RM 4 3 18) b0 (Fa D cA) D CL [.ref x, .int p0, .int p1, .int p2, .int p3, .int p4] f P T) (hP : ∀ v g, P v g → (∃ z, v = some (.int z)) ∧ g o = some (outE cA ow)) (hT : ∀ E g, T E g → E = "java/lang/IllegalArgumentException" ∨ E = "java/lang/UnsupportedOperationException") : hv_Met l y_Law_glue [Cond.codeWith y_Law_glue b_Law_glue 8 (some FieldType.int) [(0, 16, 19, 13), (0, 16, 23, 15)]] (RM 5 3 18) b0 (Fa D cA) D CL [.ref x, .int p0, .int p1, .int p2, .int p3, .int p4, .ref o] f (fun v g => ∃ k : Int32, v = some (.int k) ∧ HPi P T cA o ow [("java/lang/IllegalArgumentException", 1), ("java/lang/UnsupportedOperationException", 2)] k g) (NX) := by
  refine hv_Met.ofH (own := "BoxPackerLaw") (by decide) rfl (Nat.le_of_ble_eq_true rfl) ?_
  intro p e s m below meth c hE hml hout hr hlocks hK hI ls hl
  have hl : lv_has ls 8 [(0, .ref x), (1, .int p0), (2, .int p1), (3, .int p2), (4, .int p3), (5, .int p4), (6, .ref o)] := hl
  obtain ⟨hx, hb, hown, hts, hVK⟩ := id hE
  refine lv_aload hx hb d_Law_glue_0 (lv_at hl 6 rfl) ?_
  refine lv_iconst (v := 0) hx hb d_Law_glue_2 (by decide) ?_
  refine lv_aload_n hx hb d_Law_glue_3 rfl (lv_at hl 0 rfl) ?_
  refine lv_iload_n hx hb d_Law_glue_4 rfl (lv_at hl 1 rfl) ?_
  refine lv_iload_n hx hb d_Law_glue_5 rfl (lv_at hl 2 rfl) ?_
  refine lv_iload_n hx hb d_Law_glue_6 rfl (lv_at hl 3 rfl) ?_
  refine lv_iload hx hb d_Law_glue_7 (lv_at hl 4 rfl) ?_
  refine lv_iload hx hb d_Law_glue_9 (lv_at hl 5 rfl) ?_
  refine hv_V (As := [.int p0, .int p1, .int p2, .int p3, .int p4]) (rest := [.int 0, .ref o]) hE hml hK hI hM cd_BP_glue w231 w232 w233 hx0 rfl rfl hl.1 (Nat.le_of_ble_eq_true rfl) d_Law_glue_11 ⟨by decide, by decide⟩ ⟨by decide, by decide⟩ (fun v9 g9 H locs hp hI => ?_) (fun q9 E9 ce9 g9 H locs hp hI hce hcv hcl => ?_)
  rotate_left
  · skip
    rcases hT E9 g9 hp with e9 | e9
    · skip
      subst e9
      refine hv_catch hE hK [] ⟨0, 16, 19, 13⟩ [⟨0, 16, 23, 15⟩] (by rw [hout]; rfl) (fun z hz => absurd hz List.not_mem_nil) (by decide) (by decide) w75 w84 hce hcv hcl ?_
      refine W.eq (g2 := F0 m 19 ls [.ref q9]) rfl ?_
      refine lv_astore (lv' := [(7, .ref q9), (0, .ref x), (1, .int p0), (2, .int p1), (3, .int p2), (4, .int p3), (5, .int p4), (6, .ref o)]) hx hb d_Law_glue_19 hl (by decide) rfl (fun ls hl => ?_)
      refine lv_iconst (v := 1) hx hb d_Law_glue_21 (by decide) ?_
      exact hv_iret hE hr hlocks hI hK (v := 1) (⟨1, rfl, Or.inr ⟨_, hp, by simp⟩⟩) (by decide) (by decide) d_Law_glue_22
    · skip
      subst e9
      refine hv_catch hE hK [⟨0, 16, 19, 13⟩] ⟨0, 16, 23, 15⟩ [] (by rw [hout]; rfl) (fun z hz => by rw [List.mem_singleton.mp hz]; exact ⟨by decide, by decide, "java/lang/IllegalArgumentException", w75, by decide⟩) (by decide) (by decide) w76 w202 hce hcv hcl ?_
      refine W.eq (g2 := F0 m 23 ls [.ref q9]) rfl ?_
      refine lv_astore (lv' := [(7, .ref q9), (0, .ref x), (1, .int p0), (2, .int p1), (3, .int p2), (4, .int p3), (5, .int p4), (6, .ref o)]) hx hb d_Law_glue_23 hl (by decide) rfl (fun ls hl => ?_)
      refine lv_iconst (v := 2) hx hb d_Law_glue_25 (by decide) ?_
      exact hv_iret hE hr hlocks hI hK (v := 2) (⟨2, rfl, Or.inr ⟨_, hp, by simp⟩⟩) (by decide) (by decide) d_Law_glue_26
  obtain ⟨⟨z9, hv9⟩, ho9⟩ := hP v9 g9 hp
  rw [hv9] at hp
  rw [hv9]
  refine W.eq (g2 := F0 m 14 ls [.int z9, .int 0, .ref o]) rfl ?_
  refine lv_i2l (v := z9.toInt64) hx hb d_Law_glue_14 rfl ?_
  refine hv_last hE hI 1 ho9 rfl (pk_in 0 1 (by decide) rfl) d_Law_glue_15 (fun H locs hI => ?_)
  rw [show (0 : Int32).toNatClampNeg = 0 from by decide] at hI
  refine lv_goto (tgt := 27) hx hb d_Law_glue_16 (by decide) ?_
  refine lv_iconst (v := 0) hx hb d_Law_glue_27 (by decide) ?_
  exact hv_iret hE hr hlocks hI hK (v := 0) (⟨0, rfl, Or.inl ⟨z9, g9, hp, rfl, rfl⟩⟩) (by decide) (by decide) d_Law_glue_28

set_option maxHeartbeats 4000000 in
set_option maxRecDepth 100000 in
theorem c_Law_kern (l : Launch) (b0 : Nat) (D : va_G) (cA : Nat → ClassId) (f : hv_M) (x o : Nat) (p0 : Int32) (ow : Nat → Int64) (fs : List Value) (P : Option Value → hv_M → Prop) (T : String → hv_M → Prop) (hx0 : f x = some (.inr (0, fs))) (hM : hv_Met l y_BP_kern [Cond.code y_BP_kern b_BP_kern 2 (some FieldType.int)] (RM 4 3 18) b0 (Fa D cA) D CL [.ref x, .int p0] f P T) (hP : ∀ v g, P v g → (∃ z, v = some (.int z)) ∧ g o = some (outE cA ow)) (hT : ∀ E g, T E g → E = "java/lang/IllegalArgumentException" ∨ E = "java/lang/UnsupportedOperationException") : hv_Met l y_Law_kern [Cond.codeWith y_Law_kern b_Law_kern 4 (some FieldType.int) [(0, 9, 12, 13), (0, 9, 15, 15)]] (RM 5 3 18) b0 (Fa D cA) D CL [.ref x, .int p0, .ref o] f (fun v g => ∃ k : Int32, v = some (.int k) ∧ HPi P T cA o ow [("java/lang/IllegalArgumentException", 1), ("java/lang/UnsupportedOperationException", 2)] k g) (NX) := by
  refine hv_Met.ofH (own := "BoxPackerLaw") (by decide) rfl (Nat.le_of_ble_eq_true rfl) ?_
  intro p e s m below meth c hE hml hout hr hlocks hK hI ls hl
  have hl : lv_has ls 4 [(0, .ref x), (1, .int p0), (2, .ref o)] := hl
  obtain ⟨hx, hb, hown, hts, hVK⟩ := id hE
  refine lv_aload_n hx hb d_Law_kern_0 rfl (lv_at hl 2 rfl) ?_
  refine lv_iconst (v := 0) hx hb d_Law_kern_1 (by decide) ?_
  refine lv_aload_n hx hb d_Law_kern_2 rfl (lv_at hl 0 rfl) ?_
  refine lv_iload_n hx hb d_Law_kern_3 rfl (lv_at hl 1 rfl) ?_
  refine hv_V (As := [.int p0]) (rest := [.int 0, .ref o]) hE hml hK hI hM cd_BP_kern w267 w268 w269 hx0 rfl rfl hl.1 (Nat.le_of_ble_eq_true rfl) d_Law_kern_4 ⟨by decide, by decide⟩ ⟨by decide, by decide⟩ (fun v9 g9 H locs hp hI => ?_) (fun q9 E9 ce9 g9 H locs hp hI hce hcv hcl => ?_)
  rotate_left
  · skip
    rcases hT E9 g9 hp with e9 | e9
    · skip
      subst e9
      refine hv_catch hE hK [] ⟨0, 9, 12, 13⟩ [⟨0, 9, 15, 15⟩] (by rw [hout]; rfl) (fun z hz => absurd hz List.not_mem_nil) (by decide) (by decide) w75 w84 hce hcv hcl ?_
      refine W.eq (g2 := F0 m 12 ls [.ref q9]) rfl ?_
      refine lv_astore_n (lv' := [(3, .ref q9), (0, .ref x), (1, .int p0), (2, .ref o)]) hx hb d_Law_kern_12 rfl hl (by decide) rfl (fun ls hl => ?_)
      refine lv_iconst (v := 1) hx hb d_Law_kern_13 (by decide) ?_
      exact hv_iret hE hr hlocks hI hK (v := 1) (⟨1, rfl, Or.inr ⟨_, hp, by simp⟩⟩) (by decide) (by decide) d_Law_kern_14
    · skip
      subst e9
      refine hv_catch hE hK [⟨0, 9, 12, 13⟩] ⟨0, 9, 15, 15⟩ [] (by rw [hout]; rfl) (fun z hz => by rw [List.mem_singleton.mp hz]; exact ⟨by decide, by decide, "java/lang/IllegalArgumentException", w75, by decide⟩) (by decide) (by decide) w76 w202 hce hcv hcl ?_
      refine W.eq (g2 := F0 m 15 ls [.ref q9]) rfl ?_
      refine lv_astore_n (lv' := [(3, .ref q9), (0, .ref x), (1, .int p0), (2, .ref o)]) hx hb d_Law_kern_15 rfl hl (by decide) rfl (fun ls hl => ?_)
      refine lv_iconst (v := 2) hx hb d_Law_kern_16 (by decide) ?_
      exact hv_iret hE hr hlocks hI hK (v := 2) (⟨2, rfl, Or.inr ⟨_, hp, by simp⟩⟩) (by decide) (by decide) d_Law_kern_17
  obtain ⟨⟨z9, hv9⟩, ho9⟩ := hP v9 g9 hp
  rw [hv9] at hp
  rw [hv9]
  refine W.eq (g2 := F0 m 7 ls [.int z9, .int 0, .ref o]) rfl ?_
  refine lv_i2l (v := z9.toInt64) hx hb d_Law_kern_7 rfl ?_
  refine hv_last hE hI 1 ho9 rfl (pk_in 0 1 (by decide) rfl) d_Law_kern_8 (fun H locs hI => ?_)
  rw [show (0 : Int32).toNatClampNeg = 0 from by decide] at hI
  refine lv_goto (tgt := 18) hx hb d_Law_kern_9 (by decide) ?_
  refine lv_iconst (v := 0) hx hb d_Law_kern_18 (by decide) ?_
  exact hv_iret hE hr hlocks hI hK (v := 0) (⟨0, rfl, Or.inl ⟨z9, g9, hp, rfl, rfl⟩⟩) (by decide) (by decide) d_Law_kern_19

set_option maxHeartbeats 4000000 in
set_option maxRecDepth 100000 in
theorem c_Law_box (l : Launch) (b0 : Nat) (D : va_G) (cA : Nat → ClassId) (f : hv_M) (x o : Nat) (p0 p1 : Int32) (ow : Nat → Int64) (fs : List Value) (P : Option Value → hv_M → Prop) (T : String → hv_M → Prop) (hx0 : f x = some (.inr (0, fs))) (hM : hv_Met l y_BP_box [Cond.code y_BP_box b_BP_box 4 (some FieldType.int)] (RM 4 3 18) b0 (Fa D cA) D CL [.ref x, .int p0, .int p1] f P T) (hP : ∀ v g, P v g → (∃ z, v = some (.int z)) ∧ g o = some (outE cA ow)) (hT : ∀ E g, T E g → E = "java/lang/IndexOutOfBoundsException" ∨ E = "java/lang/IllegalArgumentException" ∨ E = "java/lang/UnsupportedOperationException") : hv_Met l y_Law_box [Cond.codeWith y_Law_box b_Law_box 5 (some FieldType.int) [(0, 10, 13, 33), (0, 10, 17, 13), (0, 10, 21, 15)]] (RM 5 3 18) b0 (Fa D cA) D CL [.ref x, .int p0, .int p1, .ref o] f (fun v g => ∃ k : Int32, v = some (.int k) ∧ HPi P T cA o ow [("java/lang/IndexOutOfBoundsException", 1), ("java/lang/IllegalArgumentException", 2), ("java/lang/UnsupportedOperationException", 3)] k g) (NX) := by
  refine hv_Met.ofH (own := "BoxPackerLaw") (by decide) rfl (Nat.le_of_ble_eq_true rfl) ?_
  intro p e s m below meth c hE hml hout hr hlocks hK hI ls hl
  have hl : lv_has ls 5 [(0, .ref x), (1, .int p0), (2, .int p1), (3, .ref o)] := hl
  obtain ⟨hx, hb, hown, hts, hVK⟩ := id hE
  refine lv_aload_n hx hb d_Law_box_0 rfl (lv_at hl 3 rfl) ?_
  refine lv_iconst (v := 0) hx hb d_Law_box_1 (by decide) ?_
  refine lv_aload_n hx hb d_Law_box_2 rfl (lv_at hl 0 rfl) ?_
  refine lv_iload_n hx hb d_Law_box_3 rfl (lv_at hl 1 rfl) ?_
  refine lv_iload_n hx hb d_Law_box_4 rfl (lv_at hl 2 rfl) ?_
  refine hv_V (As := [.int p0, .int p1]) (rest := [.int 0, .ref o]) hE hml hK hI hM cd_BP_box w275 w276 w277 hx0 rfl rfl hl.1 (Nat.le_of_ble_eq_true rfl) d_Law_box_5 ⟨by decide, by decide⟩ ⟨by decide, by decide⟩ (fun v9 g9 H locs hp hI => ?_) (fun q9 E9 ce9 g9 H locs hp hI hce hcv hcl => ?_)
  rotate_left
  · skip
    rcases hT E9 g9 hp with e9 | e9 | e9
    · skip
      subst e9
      refine hv_catch hE hK [] ⟨0, 10, 13, 33⟩ [⟨0, 10, 17, 13⟩, ⟨0, 10, 21, 15⟩] (by rw [hout]; rfl) (fun z hz => absurd hz List.not_mem_nil) (by decide) (by decide) w274 w285 hce hcv hcl ?_
      refine W.eq (g2 := F0 m 13 ls [.ref q9]) rfl ?_
      refine lv_astore (lv' := [(4, .ref q9), (0, .ref x), (1, .int p0), (2, .int p1), (3, .ref o)]) hx hb d_Law_box_13 hl (by decide) rfl (fun ls hl => ?_)
      refine lv_iconst (v := 1) hx hb d_Law_box_15 (by decide) ?_
      exact hv_iret hE hr hlocks hI hK (v := 1) (⟨1, rfl, Or.inr ⟨_, hp, by simp⟩⟩) (by decide) (by decide) d_Law_box_16
    · skip
      subst e9
      refine hv_catch hE hK [⟨0, 10, 13, 33⟩] ⟨0, 10, 17, 13⟩ [⟨0, 10, 21, 15⟩] (by rw [hout]; rfl) (fun z hz => by rw [List.mem_singleton.mp hz]; exact ⟨by decide, by decide, "java/lang/IndexOutOfBoundsException", w274, by decide⟩) (by decide) (by decide) w75 w84 hce hcv hcl ?_
      refine W.eq (g2 := F0 m 17 ls [.ref q9]) rfl ?_
      refine lv_astore (lv' := [(4, .ref q9), (0, .ref x), (1, .int p0), (2, .int p1), (3, .ref o)]) hx hb d_Law_box_17 hl (by decide) rfl (fun ls hl => ?_)
      refine lv_iconst (v := 2) hx hb d_Law_box_19 (by decide) ?_
      exact hv_iret hE hr hlocks hI hK (v := 2) (⟨2, rfl, Or.inr ⟨_, hp, by simp⟩⟩) (by decide) (by decide) d_Law_box_20
    · skip
      subst e9
      refine hv_catch hE hK [⟨0, 10, 13, 33⟩, ⟨0, 10, 17, 13⟩] ⟨0, 10, 21, 15⟩ [] (by rw [hout]; rfl) (fun z hz => (List.mem_cons.mp hz).elim (fun e8 => by rw [e8]; exact ⟨by decide, by decide, "java/lang/IndexOutOfBoundsException", w274, by decide⟩) (fun e8 => by rw [List.mem_singleton.mp e8]; exact ⟨by decide, by decide, "java/lang/IllegalArgumentException", w75, by decide⟩)) (by decide) (by decide) w76 w202 hce hcv hcl ?_
      refine W.eq (g2 := F0 m 21 ls [.ref q9]) rfl ?_
      refine lv_astore (lv' := [(4, .ref q9), (0, .ref x), (1, .int p0), (2, .int p1), (3, .ref o)]) hx hb d_Law_box_21 hl (by decide) rfl (fun ls hl => ?_)
      refine lv_iconst (v := 3) hx hb d_Law_box_23 (by decide) ?_
      exact hv_iret hE hr hlocks hI hK (v := 3) (⟨3, rfl, Or.inr ⟨_, hp, by simp⟩⟩) (by decide) (by decide) d_Law_box_24
  obtain ⟨⟨z9, hv9⟩, ho9⟩ := hP v9 g9 hp
  rw [hv9] at hp
  rw [hv9]
  refine W.eq (g2 := F0 m 8 ls [.int z9, .int 0, .ref o]) rfl ?_
  refine lv_i2l (v := z9.toInt64) hx hb d_Law_box_8 rfl ?_
  refine hv_last hE hI 1 ho9 rfl (pk_in 0 1 (by decide) rfl) d_Law_box_9 (fun H locs hI => ?_)
  rw [show (0 : Int32).toNatClampNeg = 0 from by decide] at hI
  refine lv_goto (tgt := 25) hx hb d_Law_box_10 (by decide) ?_
  refine lv_iconst (v := 0) hx hb d_Law_box_25 (by decide) ?_
  exact hv_iret hE hr hlocks hI hK (v := 0) (⟨0, rfl, Or.inl ⟨z9, g9, hp, rfl, rfl⟩⟩) (by decide) (by decide) d_Law_box_26

set_option maxHeartbeats 4000000 in
set_option maxRecDepth 100000 in
theorem c_Law_pack (l : Launch) (b0 : Nat) (D : va_G) (cA : Nat → ClassId) (f : hv_M) (x o : Nat) (p0 p1 p2 p3 : Int32) (ow : Nat → Int64) (fs : List Value) (P : Option Value → hv_M → Prop) (T : String → hv_M → Prop) (hx0 : f x = some (.inr (0, fs))) (hM : hv_Met l y_BP_pack [Cond.code y_BP_pack b_BP_pack 7 (some FieldType.int)] (RM 5 12 300) b0 (Fa D cA) D CL [.ref x, .int p0, .int p1, .int p2, .int p3] f P T) (hP : ∀ v g, P v g → (∃ z, v = some (.int z)) ∧ g o = some (outE cA ow)) (hT : ∀ E g, T E g → E = "java/lang/IllegalArgumentException" ∨ E = "java/lang/UnsupportedOperationException" ∨ E = "java/lang/IllegalStateException") : hv_Met l y_Law_pack [Cond.codeWith y_Law_pack b_Law_pack 7 (some FieldType.int) [(0, 14, 17, 13), (0, 14, 21, 15), (0, 14, 25, 39)]] (RM 6 12 300) b0 (Fa D cA) D CL [.ref x, .int p0, .int p1, .int p2, .int p3, .ref o] f (fun v g => ∃ k : Int32, v = some (.int k) ∧ HPi P T cA o ow [("java/lang/IllegalArgumentException", 1), ("java/lang/UnsupportedOperationException", 2), ("java/lang/IllegalStateException", 3)] k g) (NX) := by
  refine hv_Met.ofH (own := "BoxPackerLaw") (by decide) rfl (Nat.le_of_ble_eq_true rfl) ?_
  intro p e s m below meth c hE hml hout hr hlocks hK hI ls hl
  have hl : lv_has ls 7 [(0, .ref x), (1, .int p0), (2, .int p1), (3, .int p2), (4, .int p3), (5, .ref o)] := hl
  obtain ⟨hx, hb, hown, hts, hVK⟩ := id hE
  refine lv_aload hx hb d_Law_pack_0 (lv_at hl 5 rfl) ?_
  refine lv_iconst (v := 0) hx hb d_Law_pack_2 (by decide) ?_
  refine lv_aload_n hx hb d_Law_pack_3 rfl (lv_at hl 0 rfl) ?_
  refine lv_iload_n hx hb d_Law_pack_4 rfl (lv_at hl 1 rfl) ?_
  refine lv_iload_n hx hb d_Law_pack_5 rfl (lv_at hl 2 rfl) ?_
  refine lv_iload_n hx hb d_Law_pack_6 rfl (lv_at hl 3 rfl) ?_
  refine lv_iload hx hb d_Law_pack_7 (lv_at hl 4 rfl) ?_
  refine hv_V (As := [.int p0, .int p1, .int p2, .int p3]) (rest := [.int 0, .ref o]) hE hml hK hI hM cd_BP_pack w304 w305 w306 hx0 rfl rfl hl.1 (Nat.le_of_ble_eq_true rfl) d_Law_pack_9 ⟨by decide, by decide⟩ ⟨by decide, by decide⟩ (fun v9 g9 H locs hp hI => ?_) (fun q9 E9 ce9 g9 H locs hp hI hce hcv hcl => ?_)
  rotate_left
  · skip
    rcases hT E9 g9 hp with e9 | e9 | e9
    · skip
      subst e9
      refine hv_catch hE hK [] ⟨0, 14, 17, 13⟩ [⟨0, 14, 21, 15⟩, ⟨0, 14, 25, 39⟩] (by rw [hout]; rfl) (fun z hz => absurd hz List.not_mem_nil) (by decide) (by decide) w75 w84 hce hcv hcl ?_
      refine W.eq (g2 := F0 m 17 ls [.ref q9]) rfl ?_
      refine lv_astore (lv' := [(6, .ref q9), (0, .ref x), (1, .int p0), (2, .int p1), (3, .int p2), (4, .int p3), (5, .ref o)]) hx hb d_Law_pack_17 hl (by decide) rfl (fun ls hl => ?_)
      refine lv_iconst (v := 1) hx hb d_Law_pack_19 (by decide) ?_
      exact hv_iret hE hr hlocks hI hK (v := 1) (⟨1, rfl, Or.inr ⟨_, hp, by simp⟩⟩) (by decide) (by decide) d_Law_pack_20
    · skip
      subst e9
      refine hv_catch hE hK [⟨0, 14, 17, 13⟩] ⟨0, 14, 21, 15⟩ [⟨0, 14, 25, 39⟩] (by rw [hout]; rfl) (fun z hz => by rw [List.mem_singleton.mp hz]; exact ⟨by decide, by decide, "java/lang/IllegalArgumentException", w75, by decide⟩) (by decide) (by decide) w76 w202 hce hcv hcl ?_
      refine W.eq (g2 := F0 m 21 ls [.ref q9]) rfl ?_
      refine lv_astore (lv' := [(6, .ref q9), (0, .ref x), (1, .int p0), (2, .int p1), (3, .int p2), (4, .int p3), (5, .ref o)]) hx hb d_Law_pack_21 hl (by decide) rfl (fun ls hl => ?_)
      refine lv_iconst (v := 2) hx hb d_Law_pack_23 (by decide) ?_
      exact hv_iret hE hr hlocks hI hK (v := 2) (⟨2, rfl, Or.inr ⟨_, hp, by simp⟩⟩) (by decide) (by decide) d_Law_pack_24
    · skip
      subst e9
      refine hv_catch hE hK [⟨0, 14, 17, 13⟩, ⟨0, 14, 21, 15⟩] ⟨0, 14, 25, 39⟩ [] (by rw [hout]; rfl) (fun z hz => (List.mem_cons.mp hz).elim (fun e8 => by rw [e8]; exact ⟨by decide, by decide, "java/lang/IllegalArgumentException", w75, by decide⟩) (fun e8 => by rw [List.mem_singleton.mp e8]; exact ⟨by decide, by decide, "java/lang/UnsupportedOperationException", w76, by decide⟩)) (by decide) (by decide) w303 w389 hce hcv hcl ?_
      refine W.eq (g2 := F0 m 25 ls [.ref q9]) rfl ?_
      refine lv_astore (lv' := [(6, .ref q9), (0, .ref x), (1, .int p0), (2, .int p1), (3, .int p2), (4, .int p3), (5, .ref o)]) hx hb d_Law_pack_25 hl (by decide) rfl (fun ls hl => ?_)
      refine lv_iconst (v := 3) hx hb d_Law_pack_27 (by decide) ?_
      exact hv_iret hE hr hlocks hI hK (v := 3) (⟨3, rfl, Or.inr ⟨_, hp, by simp⟩⟩) (by decide) (by decide) d_Law_pack_28
  obtain ⟨⟨z9, hv9⟩, ho9⟩ := hP v9 g9 hp
  rw [hv9] at hp
  rw [hv9]
  refine W.eq (g2 := F0 m 12 ls [.int z9, .int 0, .ref o]) rfl ?_
  refine lv_i2l (v := z9.toInt64) hx hb d_Law_pack_12 rfl ?_
  refine hv_last hE hI 1 ho9 rfl (pk_in 0 1 (by decide) rfl) d_Law_pack_13 (fun H locs hI => ?_)
  rw [show (0 : Int32).toNatClampNeg = 0 from by decide] at hI
  refine lv_goto (tgt := 29) hx hb d_Law_pack_14 (by decide) ?_
  refine lv_iconst (v := 0) hx hb d_Law_pack_29 (by decide) ?_
  exact hv_iret hE hr hlocks hI hK (v := 0) (⟨0, rfl, Or.inl ⟨z9, g9, hp, rfl, rfl⟩⟩) (by decide) (by decide) d_Law_pack_30

set_option maxHeartbeats 4000000 in
set_option maxRecDepth 100000 in
theorem c_Law_of (l : Launch) (b0 : Nat) (D : va_G) (cA : Nat → ClassId) (f : hv_M) (x o : Nat) (p0 p1 : Int32) (ow : Nat → Int64) (fs : List Value) (P : Option Value → hv_M → Prop) (T : String → hv_M → Prop) (hx0 : f x = some (.inr (0, fs))) (hM : hv_Met l y_BP_of [Cond.code y_BP_of b_BP_of 4 (some FieldType.int)] (RM 3 2 12) b0 (Fa D cA) D CL [.ref x, .int p0, .int p1] f P T) (hP : ∀ v g, P v g → (∃ z, v = some (.int z)) ∧ g o = some (outE cA ow)) (hT : ∀ E g, T E g → E = "java/lang/IndexOutOfBoundsException") : hv_Met l y_Law_of [Cond.codeWith y_Law_of b_Law_of 5 (some FieldType.int) [(0, 10, 13, 33)]] (RM 4 2 12) b0 (Fa D cA) D CL [.ref x, .int p0, .int p1, .ref o] f (fun v g => ∃ k : Int32, v = some (.int k) ∧ HPi P T cA o ow [("java/lang/IndexOutOfBoundsException", 1)] k g) (NX) := by
  refine hv_Met.ofH (own := "BoxPackerLaw") (by decide) rfl (Nat.le_of_ble_eq_true rfl) ?_
  intro p e s m below meth c hE hml hout hr hlocks hK hI ls hl
  have hl : lv_has ls 5 [(0, .ref x), (1, .int p0), (2, .int p1), (3, .ref o)] := hl
  obtain ⟨hx, hb, hown, hts, hVK⟩ := id hE
  refine lv_aload_n hx hb d_Law_of_0 rfl (lv_at hl 3 rfl) ?_
  refine lv_iconst (v := 0) hx hb d_Law_of_1 (by decide) ?_
  refine lv_aload_n hx hb d_Law_of_2 rfl (lv_at hl 0 rfl) ?_
  refine lv_iload_n hx hb d_Law_of_3 rfl (lv_at hl 1 rfl) ?_
  refine lv_iload_n hx hb d_Law_of_4 rfl (lv_at hl 2 rfl) ?_
  refine hv_V (As := [.int p0, .int p1]) (rest := [.int 0, .ref o]) hE hml hK hI hM cd_BP_of w448 w449 w450 hx0 rfl rfl hl.1 (Nat.le_of_ble_eq_true rfl) d_Law_of_5 ⟨by decide, by decide⟩ ⟨by decide, by decide⟩ (fun v9 g9 H locs hp hI => ?_) (fun q9 E9 ce9 g9 H locs hp hI hce hcv hcl => ?_)
  rotate_left
  · skip
    have e9 := hT E9 g9 hp
    subst e9
    refine hv_catch hE hK [] ⟨0, 10, 13, 33⟩ [] (by rw [hout]; rfl) (fun z hz => absurd hz List.not_mem_nil) (by decide) (by decide) w274 w285 hce hcv hcl ?_
    refine W.eq (g2 := F0 m 13 ls [.ref q9]) rfl ?_
    refine lv_astore (lv' := [(4, .ref q9), (0, .ref x), (1, .int p0), (2, .int p1), (3, .ref o)]) hx hb d_Law_of_13 hl (by decide) rfl (fun ls hl => ?_)
    refine lv_iconst (v := 1) hx hb d_Law_of_15 (by decide) ?_
    exact hv_iret hE hr hlocks hI hK (v := 1) (⟨1, rfl, Or.inr ⟨_, hp, by simp⟩⟩) (by decide) (by decide) d_Law_of_16
  obtain ⟨⟨z9, hv9⟩, ho9⟩ := hP v9 g9 hp
  rw [hv9] at hp
  rw [hv9]
  refine W.eq (g2 := F0 m 8 ls [.int z9, .int 0, .ref o]) rfl ?_
  refine lv_i2l (v := z9.toInt64) hx hb d_Law_of_8 rfl ?_
  refine hv_last hE hI 1 ho9 rfl (pk_in 0 1 (by decide) rfl) d_Law_of_9 (fun H locs hI => ?_)
  rw [show (0 : Int32).toNatClampNeg = 0 from by decide] at hI
  refine lv_goto (tgt := 17) hx hb d_Law_of_10 (by decide) ?_
  refine lv_iconst (v := 0) hx hb d_Law_of_17 (by decide) ?_
  exact hv_iret hE hr hlocks hI hK (v := 0) (⟨0, rfl, Or.inl ⟨z9, g9, hp, rfl, rfl⟩⟩) (by decide) (by decide) d_Law_of_18

set_option maxHeartbeats 4000000 in
set_option maxRecDepth 100000 in
theorem c_Law_place (l : Launch) (b0 : Nat) (D : va_G) (cA : Nat → ClassId) (f : hv_M) (x o : Nat) (p0 p1 : Int32) (ow : Nat → Int64) (fs : List Value) (P : Option Value → hv_M → Prop) (T : String → hv_M → Prop) (hx0 : f x = some (.inr (0, fs))) (hM : hv_Met l y_BP_place [Cond.code y_BP_place b_BP_place 4 (some FieldType.int)] (RM 3 2 12) b0 (Fa D cA) D CL [.ref x, .int p0, .int p1] f P T) (hP : ∀ v g, P v g → (∃ z, v = some (.int z)) ∧ g o = some (outE cA ow)) (hT : ∀ E g, T E g → E = "java/lang/IndexOutOfBoundsException") : hv_Met l y_Law_place [Cond.codeWith y_Law_place b_Law_place 5 (some FieldType.int) [(0, 10, 13, 33)]] (RM 4 2 12) b0 (Fa D cA) D CL [.ref x, .int p0, .int p1, .ref o] f (fun v g => ∃ k : Int32, v = some (.int k) ∧ HPi P T cA o ow [("java/lang/IndexOutOfBoundsException", 1)] k g) (NX) := by
  refine hv_Met.ofH (own := "BoxPackerLaw") (by decide) rfl (Nat.le_of_ble_eq_true rfl) ?_
  intro p e s m below meth c hE hml hout hr hlocks hK hI ls hl
  have hl : lv_has ls 5 [(0, .ref x), (1, .int p0), (2, .int p1), (3, .ref o)] := hl
  obtain ⟨hx, hb, hown, hts, hVK⟩ := id hE
  refine lv_aload_n hx hb d_Law_place_0 rfl (lv_at hl 3 rfl) ?_
  refine lv_iconst (v := 0) hx hb d_Law_place_1 (by decide) ?_
  refine lv_aload_n hx hb d_Law_place_2 rfl (lv_at hl 0 rfl) ?_
  refine lv_iload_n hx hb d_Law_place_3 rfl (lv_at hl 1 rfl) ?_
  refine lv_iload_n hx hb d_Law_place_4 rfl (lv_at hl 2 rfl) ?_
  refine hv_V (As := [.int p0, .int p1]) (rest := [.int 0, .ref o]) hE hml hK hI hM cd_BP_place w470 w471 w472 hx0 rfl rfl hl.1 (Nat.le_of_ble_eq_true rfl) d_Law_place_5 ⟨by decide, by decide⟩ ⟨by decide, by decide⟩ (fun v9 g9 H locs hp hI => ?_) (fun q9 E9 ce9 g9 H locs hp hI hce hcv hcl => ?_)
  rotate_left
  · skip
    have e9 := hT E9 g9 hp
    subst e9
    refine hv_catch hE hK [] ⟨0, 10, 13, 33⟩ [] (by rw [hout]; rfl) (fun z hz => absurd hz List.not_mem_nil) (by decide) (by decide) w274 w285 hce hcv hcl ?_
    refine W.eq (g2 := F0 m 13 ls [.ref q9]) rfl ?_
    refine lv_astore (lv' := [(4, .ref q9), (0, .ref x), (1, .int p0), (2, .int p1), (3, .ref o)]) hx hb d_Law_place_13 hl (by decide) rfl (fun ls hl => ?_)
    refine lv_iconst (v := 1) hx hb d_Law_place_15 (by decide) ?_
    exact hv_iret hE hr hlocks hI hK (v := 1) (⟨1, rfl, Or.inr ⟨_, hp, by simp⟩⟩) (by decide) (by decide) d_Law_place_16
  obtain ⟨⟨z9, hv9⟩, ho9⟩ := hP v9 g9 hp
  rw [hv9] at hp
  rw [hv9]
  refine W.eq (g2 := F0 m 8 ls [.int z9, .int 0, .ref o]) rfl ?_
  refine lv_i2l (v := z9.toInt64) hx hb d_Law_place_8 rfl ?_
  refine hv_last hE hI 1 ho9 rfl (pk_in 0 1 (by decide) rfl) d_Law_place_9 (fun H locs hI => ?_)
  rw [show (0 : Int32).toNatClampNeg = 0 from by decide] at hI
  refine lv_goto (tgt := 17) hx hb d_Law_place_10 (by decide) ?_
  refine lv_iconst (v := 0) hx hb d_Law_place_17 (by decide) ?_
  exact hv_iret hE hr hlocks hI hK (v := 0) (⟨0, rfl, Or.inl ⟨z9, g9, hp, rfl, rfl⟩⟩) (by decide) (by decide) d_Law_place_18

set_option maxHeartbeats 4000000 in
set_option maxRecDepth 100000 in
theorem c_Law_lay (l : Launch) (b0 : Nat) (D : va_G) (cA : Nat → ClassId) (f : hv_M) (x o : Nat) (p0 p1 p2 : Int32) (ow : Nat → Int64) (fs : List Value) (P : Option Value → hv_M → Prop) (T : String → hv_M → Prop) (hx0 : f x = some (.inr (0, fs))) (hM : hv_Met l y_BP_lay [Cond.code y_BP_lay b_BP_lay 5 (some FieldType.int)] (RM 23 2 12) b0 (Fa D cA) D CL [.ref x, .int p0, .int p1, .int p2] f P T) (hP : ∀ v g, P v g → (∃ z, v = some (.int z)) ∧ g o = some (outE cA ow)) (hT : ∀ E g, T E g → E = "java/lang/IndexOutOfBoundsException" ∨ E = "java/lang/IllegalArgumentException") : hv_Met l y_Law_lay [Cond.codeWith y_Law_lay b_Law_lay 6 (some FieldType.int) [(0, 12, 15, 33), (0, 12, 19, 13)]] (RM 24 2 12) b0 (Fa D cA) D CL [.ref x, .int p0, .int p1, .int p2, .ref o] f (fun v g => ∃ k : Int32, v = some (.int k) ∧ HPi P T cA o ow [("java/lang/IndexOutOfBoundsException", 1), ("java/lang/IllegalArgumentException", 2)] k g) (NX) := by
  refine hv_Met.ofH (own := "BoxPackerLaw") (by decide) rfl (Nat.le_of_ble_eq_true rfl) ?_
  intro p e s m below meth c hE hml hout hr hlocks hK hI ls hl
  have hl : lv_has ls 6 [(0, .ref x), (1, .int p0), (2, .int p1), (3, .int p2), (4, .ref o)] := hl
  obtain ⟨hx, hb, hown, hts, hVK⟩ := id hE
  refine lv_aload hx hb d_Law_lay_0 (lv_at hl 4 rfl) ?_
  refine lv_iconst (v := 0) hx hb d_Law_lay_2 (by decide) ?_
  refine lv_aload_n hx hb d_Law_lay_3 rfl (lv_at hl 0 rfl) ?_
  refine lv_iload_n hx hb d_Law_lay_4 rfl (lv_at hl 1 rfl) ?_
  refine lv_iload_n hx hb d_Law_lay_5 rfl (lv_at hl 2 rfl) ?_
  refine lv_iload_n hx hb d_Law_lay_6 rfl (lv_at hl 3 rfl) ?_
  refine hv_V (As := [.int p0, .int p1, .int p2]) (rest := [.int 0, .ref o]) hE hml hK hI hM cd_BP_lay w478 w479 w480 hx0 rfl rfl hl.1 (Nat.le_of_ble_eq_true rfl) d_Law_lay_7 ⟨by decide, by decide⟩ ⟨by decide, by decide⟩ (fun v9 g9 H locs hp hI => ?_) (fun q9 E9 ce9 g9 H locs hp hI hce hcv hcl => ?_)
  rotate_left
  · skip
    rcases hT E9 g9 hp with e9 | e9
    · skip
      subst e9
      refine hv_catch hE hK [] ⟨0, 12, 15, 33⟩ [⟨0, 12, 19, 13⟩] (by rw [hout]; rfl) (fun z hz => absurd hz List.not_mem_nil) (by decide) (by decide) w274 w285 hce hcv hcl ?_
      refine W.eq (g2 := F0 m 15 ls [.ref q9]) rfl ?_
      refine lv_astore (lv' := [(5, .ref q9), (0, .ref x), (1, .int p0), (2, .int p1), (3, .int p2), (4, .ref o)]) hx hb d_Law_lay_15 hl (by decide) rfl (fun ls hl => ?_)
      refine lv_iconst (v := 1) hx hb d_Law_lay_17 (by decide) ?_
      exact hv_iret hE hr hlocks hI hK (v := 1) (⟨1, rfl, Or.inr ⟨_, hp, by simp⟩⟩) (by decide) (by decide) d_Law_lay_18
    · skip
      subst e9
      refine hv_catch hE hK [⟨0, 12, 15, 33⟩] ⟨0, 12, 19, 13⟩ [] (by rw [hout]; rfl) (fun z hz => by rw [List.mem_singleton.mp hz]; exact ⟨by decide, by decide, "java/lang/IndexOutOfBoundsException", w274, by decide⟩) (by decide) (by decide) w75 w84 hce hcv hcl ?_
      refine W.eq (g2 := F0 m 19 ls [.ref q9]) rfl ?_
      refine lv_astore (lv' := [(5, .ref q9), (0, .ref x), (1, .int p0), (2, .int p1), (3, .int p2), (4, .ref o)]) hx hb d_Law_lay_19 hl (by decide) rfl (fun ls hl => ?_)
      refine lv_iconst (v := 2) hx hb d_Law_lay_21 (by decide) ?_
      exact hv_iret hE hr hlocks hI hK (v := 2) (⟨2, rfl, Or.inr ⟨_, hp, by simp⟩⟩) (by decide) (by decide) d_Law_lay_22
  obtain ⟨⟨z9, hv9⟩, ho9⟩ := hP v9 g9 hp
  rw [hv9] at hp
  rw [hv9]
  refine W.eq (g2 := F0 m 10 ls [.int z9, .int 0, .ref o]) rfl ?_
  refine lv_i2l (v := z9.toInt64) hx hb d_Law_lay_10 rfl ?_
  refine hv_last hE hI 1 ho9 rfl (pk_in 0 1 (by decide) rfl) d_Law_lay_11 (fun H locs hI => ?_)
  rw [show (0 : Int32).toNatClampNeg = 0 from by decide] at hI
  refine lv_goto (tgt := 23) hx hb d_Law_lay_12 (by decide) ?_
  refine lv_iconst (v := 0) hx hb d_Law_lay_23 (by decide) ?_
  exact hv_iret hE hr hlocks hI hK (v := 0) (⟨0, rfl, Or.inl ⟨z9, g9, hp, rfl, rfl⟩⟩) (by decide) (by decide) d_Law_lay_24

set_option maxHeartbeats 4000000 in
set_option maxRecDepth 100000 in
theorem c_Law_mark (l : Launch) (b0 : Nat) (D : va_G) (cA : Nat → ClassId) (f : hv_M) (x o : Nat) (p0 p1 : Int32) (ow : Nat → Int64) (fs : List Value) (P : Option Value → hv_M → Prop) (T : String → hv_M → Prop) (hx0 : f x = some (.inr (0, fs))) (hM : hv_Met l y_BP_mark [Cond.code y_BP_mark b_BP_mark 3 (some FieldType.long)] (RM 1 1 6) b0 (Fa D cA) D CL [.ref x, .int p0, .int p1] f P T) (hP : ∀ v g, P v g → (∃ z, v = some (.long z)) ∧ g o = some (outE cA ow)) (hT : ∀ E g, T E g → E = "java/lang/IndexOutOfBoundsException") : hv_Met l y_Law_mark [Cond.codeWith y_Law_mark b_Law_mark 5 (some FieldType.int) [(0, 9, 12, 33)]] (RM 2 1 6) b0 (Fa D cA) D CL [.ref x, .int p0, .int p1, .ref o] f (fun v g => ∃ k : Int32, v = some (.int k) ∧ HPl P T cA o ow [("java/lang/IndexOutOfBoundsException", 1)] k g) (NX) := by
  refine hv_Met.ofH (own := "BoxPackerLaw") (by decide) rfl (Nat.le_of_ble_eq_true rfl) ?_
  intro p e s m below meth c hE hml hout hr hlocks hK hI ls hl
  have hl : lv_has ls 5 [(0, .ref x), (1, .int p0), (2, .int p1), (3, .ref o)] := hl
  obtain ⟨hx, hb, hown, hts, hVK⟩ := id hE
  refine lv_aload_n hx hb d_Law_mark_0 rfl (lv_at hl 3 rfl) ?_
  refine lv_iconst (v := 0) hx hb d_Law_mark_1 (by decide) ?_
  refine lv_aload_n hx hb d_Law_mark_2 rfl (lv_at hl 0 rfl) ?_
  refine lv_iload_n hx hb d_Law_mark_3 rfl (lv_at hl 1 rfl) ?_
  refine lv_iload_n hx hb d_Law_mark_4 rfl (lv_at hl 2 rfl) ?_
  refine hv_V (As := [.int p0, .int p1]) (rest := [.int 0, .ref o]) hE hml hK hI hM cd_BP_mark w503 w504 w505 hx0 rfl rfl hl.1 (Nat.le_of_ble_eq_true rfl) d_Law_mark_5 ⟨by decide, by decide⟩ ⟨by decide, by decide⟩ (fun v9 g9 H locs hp hI => ?_) (fun q9 E9 ce9 g9 H locs hp hI hce hcv hcl => ?_)
  rotate_left
  · skip
    have e9 := hT E9 g9 hp
    subst e9
    refine hv_catch hE hK [] ⟨0, 9, 12, 33⟩ [] (by rw [hout]; rfl) (fun z hz => absurd hz List.not_mem_nil) (by decide) (by decide) w274 w285 hce hcv hcl ?_
    refine W.eq (g2 := F0 m 12 ls [.ref q9]) rfl ?_
    refine lv_astore (lv' := [(4, .ref q9), (0, .ref x), (1, .int p0), (2, .int p1), (3, .ref o)]) hx hb d_Law_mark_12 hl (by decide) rfl (fun ls hl => ?_)
    refine lv_iconst (v := 1) hx hb d_Law_mark_14 (by decide) ?_
    exact hv_iret hE hr hlocks hI hK (v := 1) (⟨1, rfl, Or.inr ⟨_, hp, by simp⟩⟩) (by decide) (by decide) d_Law_mark_15
  obtain ⟨⟨z9, hv9⟩, ho9⟩ := hP v9 g9 hp
  rw [hv9] at hp
  rw [hv9]
  refine W.eq (g2 := F0 m 8 ls [.long z9, .int 0, .ref o]) rfl ?_
  refine hv_last hE hI 1 ho9 rfl (pk_in 0 1 (by decide) rfl) d_Law_mark_8 (fun H locs hI => ?_)
  rw [show (0 : Int32).toNatClampNeg = 0 from by decide] at hI
  refine lv_goto (tgt := 16) hx hb d_Law_mark_9 (by decide) ?_
  refine lv_iconst (v := 0) hx hb d_Law_mark_16 (by decide) ?_
  exact hv_iret hE hr hlocks hI hK (v := 0) (⟨0, rfl, Or.inl ⟨z9, g9, hp, rfl, rfl⟩⟩) (by decide) (by decide) d_Law_mark_17

