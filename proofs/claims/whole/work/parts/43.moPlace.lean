/-! ===== the reference: deepest, countAll, placeOf ===== -/
theorem upd_self (f : Nat → Int32) (i : Nat) (x : Int32) : upd f i x i = x := by simp [upd]
theorem upd2 (f : Nat → Int32) (i : Nat) (x y : Int32) : upd (upd f i x) i y = upd f i y := by
  funext j
  by_cases h : j = i <;> simp [upd, h]

set_option maxHeartbeats 4000000 in
set_option maxRecDepth 100000 in
theorem c_Mo_deepest (l : Launch) (hl0 : l.stackTraces = false) (b0 : Nat) (D : va_G) (cA : Nat → ClassId) (f : hv_M) (mo : Nat) (a : Nat → Nat) (th : Int32) (s9 e9 : Nat) (ct : Int32) (gd : Bool) (ln bf ac un : Int64) (md : Int32) (V : Wd) (hmo : f mo = some (moE a th (nI s9) (nI e9) ct gd ln bf ac un md)) (hnj : moN mo a) (h0 : f (a 0) = some (.inl (cA 0, 10200, .inl (wK V)))) (hN : f (a 1) = some (.inl (cA 0, 51000, .inl V.2.1))) (hj : f (a 12) = some (.inl (cA 0, 100, .inl (wA V 8)))) (hse : s9 ≤ e9) (he9 : e9 < 10200) (hit : ∀ i, i < e9 - s9 → wK V (s9 + i) = 4 → wI V (s9 + i) < 100 ∧ wN V (s9 + i) 0 = nI (wI V (s9 + i))) : hv_Met l y_Mo_deepest [Cond.code y_Mo_deepest b_Mo_deepest 4 (some FieldType.int)] (RM 1 0 0) b0 (Fa D cA) D CL [.ref mo] f (PV f (some (.int (dL V s9 (e9 - s9))))) (NX) := by
  refine hv_Met.of (own := "BoxPackerModel") (by decide) rfl (Nat.le_of_ble_eq_true rfl) ?_
  intro p e s m below meth c hE hml hout hr hlocks hname hK hI ls hl
  have hl : lv_has ls 4 [(0, .ref mo)] := hl
  obtain ⟨hx, hb, hown, hts, hVK⟩ := id hE
  refine lv_iconst (v := 0) hx hb d_Mo_deepest_0 (by decide) ?_
  refine lv_istore_n (lv' := [(1, .int 0), (0, .ref mo)]) hx hb d_Mo_deepest_1 rfl hl (by decide) rfl (fun ls hl => ?_)
  refine lv_aload_n hx hb d_Mo_deepest_2 rfl (lv_at hl 1 rfl) ?_
  refine hv_get hE k_Mo hI 3 (by decide) w519 hmo rfl d_Mo_deepest_3 ?_
  refine lv_istore_n (lv' := [(2, .int (nI s9)), (1, .int 0), (0, .ref mo)]) hx hb d_Mo_deepest_6 rfl hl (by decide) rfl (fun ls hl => ?_)
  have loop : ∀ (k i : Nat)  (g : hv_M) (H : Heap) (locs : List Loc) (ls : Array Slot), i + k = e9 - s9 → f = g → hv_I D CL b0 g s.heap H locs → lv_has ls 4 [(0, .ref mo), (1, .int (dL V s9 i)), (2, .int (nI (s9 + i)))] → W p l e (RM 1 0 0) s m ([.ref mo] : List Value).toArray below meth c H locs (0) (0) (xh_MQ below (hv_Q b0 (Fa D cA) D CL (PV f (some (.int (dL V s9 (e9 - s9))))) (NX)) s 0 0 (fun q => b0 ≤ q)) (F0 m 7 ls []) := by
    intro k
    induction k with
    | zero =>
      intro i  g H locs ls hik hgf hI hl
      subst hgf
      have ei : i = e9 - s9 := by omega
      subst ei
      refine lv_iload_n hx hb d_Mo_deepest_7 rfl (lv_at hl 2 rfl) ?_
      refine lv_aload_n hx hb d_Mo_deepest_8 rfl (lv_at hl 0 rfl) ?_
      refine hv_get hE k_Mo hI 4 (by decide) w520 hmo rfl d_Mo_deepest_9 ?_
      refine lv_icmp_ge (tgt := 58) hx hb d_Mo_deepest_12 (by decide) (fun c12 => ?_) (fun c12 => ?_)
      · skip
        have n12 := Int32.not_lt.mpr c12
        refine lv_iload_n hx hb d_Mo_deepest_58 rfl (lv_at hl 1 rfl) ?_
        exact hv_iret hE hr hlocks hI hK (v := dL V s9 (e9 - s9)) (⟨rfl, rfl⟩) (by decide) (by decide) d_Mo_deepest_59
      · skip
        have n12 := Int32.not_le.mp c12
        exact absurd (nI_le (by omega) (by omega)) c12
    | succ k ih =>
      intro i  g H locs ls hik hgf hI hl
      subst hgf
      refine lv_iload_n hx hb d_Mo_deepest_7 rfl (lv_at hl 2 rfl) ?_
      refine lv_aload_n hx hb d_Mo_deepest_8 rfl (lv_at hl 0 rfl) ?_
      refine hv_get hE k_Mo hI 4 (by decide) w520 hmo rfl d_Mo_deepest_9 ?_
      refine lv_icmp_ge (tgt := 58) hx hb d_Mo_deepest_12 (by decide) (fun c12 => ?_) (fun c12 => ?_)
      · skip
        have n12 := Int32.not_lt.mpr c12
        exact absurd c12 (nI_ge (by omega) (by omega))
      · skip
        have n12 := Int32.not_le.mp c12
        refine lv_aload_n hx hb d_Mo_deepest_15 rfl (lv_at hl 0 rfl) ?_
        refine hv_get hE k_Mo hI 1 (by decide) w517 hmo rfl d_Mo_deepest_16 ?_
        refine lv_iload_n hx hb d_Mo_deepest_19 rfl (lv_at hl 2 rfl) ?_
        refine hv_iald hE hI 0 h0 rfl (pk_in (s9 + i) 10200 (by omega) rfl (by omega)) d_Mo_deepest_20 ?_
        rw [nI_cl (by omega)]
        refine W.eq (g2 := F0 m 21 ls [.int (wK V (s9 + i))]) rfl ?_
        refine lv_iconst (v := 4) hx hb d_Mo_deepest_21 (by decide) ?_
        refine lv_icmp_ne (tgt := 39) hx hb d_Mo_deepest_22 (by decide) (fun c22 => ?_) (fun c22 => ?_)
        · skip
          refine lv_iconst (v := 0) hx hb d_Mo_deepest_39 (by decide) ?_
          refine lv_istore_n (lv' := [(3, .int 0), (0, .ref mo), (1, .int (dL V s9 i)), (2, .int (nI (s9 + i)))]) hx hb d_Mo_deepest_40 rfl hl (by decide) rfl (fun ls hl => ?_)
          refine lv_iload_n hx hb d_Mo_deepest_41 rfl (lv_at hl 0 rfl) ?_
          refine lv_iload_n hx hb d_Mo_deepest_42 rfl (lv_at hl 2 rfl) ?_
          refine lv_icmp_le (tgt := 50) hx hb d_Mo_deepest_43 (by decide) (fun c43 => ?_) (fun c43 => ?_)
          · skip
            have n43 := Int32.not_lt.mpr c43
            refine lv_iload_n hx hb d_Mo_deepest_50 rfl (lv_at hl 2 rfl) ?_
            refine lv_istore_n (lv' := [(1, .int (dL V s9 i)), (3, .int 0), (0, .ref mo), (2, .int (nI (s9 + i)))]) hx hb d_Mo_deepest_51 rfl hl (by decide) rfl (fun ls hl => ?_)
            obtain ⟨v1, ev1⟩ : ∃ y : Int32, y = (nI (s9 + i)) + 1 := ⟨_, rfl⟩
            refine lv_iinc (v := v1) (lv' := [(2, .int v1), (1, .int (dL V s9 i)), (3, .int 0), (0, .ref mo)]) hx hb d_Mo_deepest_52 hl (k := 3) rfl (by rw [ev1]; rfl) (by decide) rfl (fun ls hl => ?_)
            refine lv_goto (tgt := 7) hx hb d_Mo_deepest_55 (by decide) ?_
            exact ih (i + 1) f _ _ ls (by omega) rfl hI (by rw [show dL V s9 (i + 1) = dL V s9 i from by simp only [dL, c22, n43, if_true, if_false], show nI (s9 + (i + 1)) = v1 from by rw [ev1, nI_1]; rfl]; exact lv_sub hl [3, 1, 0] rfl)
          · skip
            have n43 := Int32.not_le.mp c43
            refine lv_iload_n hx hb d_Mo_deepest_46 rfl (lv_at hl 0 rfl) ?_
            refine lv_goto (tgt := 51) hx hb d_Mo_deepest_47 (by decide) ?_
            refine lv_istore_n (lv' := [(1, .int 0), (3, .int 0), (0, .ref mo), (2, .int (nI (s9 + i)))]) hx hb d_Mo_deepest_51 rfl hl (by decide) rfl (fun ls hl => ?_)
            obtain ⟨v2, ev2⟩ : ∃ y : Int32, y = (nI (s9 + i)) + 1 := ⟨_, rfl⟩
            refine lv_iinc (v := v2) (lv' := [(2, .int v2), (1, .int 0), (3, .int 0), (0, .ref mo)]) hx hb d_Mo_deepest_52 hl (k := 3) rfl (by rw [ev2]; rfl) (by decide) rfl (fun ls hl => ?_)
            refine lv_goto (tgt := 7) hx hb d_Mo_deepest_55 (by decide) ?_
            exact ih (i + 1) f _ _ ls (by omega) rfl hI (by rw [show dL V s9 (i + 1) = 0 from by simp only [dL, c22, n43, if_true, if_false], show nI (s9 + (i + 1)) = v2 from by rw [ev2, nI_1]; rfl]; exact lv_sub hl [3, 1, 0] rfl)
        · skip
          refine lv_aload_n hx hb d_Mo_deepest_25 rfl (lv_at hl 0 rfl) ?_
          refine hv_get hE k_Mo hI 16 (by decide) w532 hmo rfl d_Mo_deepest_26 ?_
          refine lv_aload_n hx hb d_Mo_deepest_29 rfl (lv_at hl 0 rfl) ?_
          refine lv_iload_n hx hb d_Mo_deepest_30 rfl (lv_at hl 2 rfl) ?_
          refine lv_iconst (v := 0) hx hb d_Mo_deepest_31 (by decide) ?_
          refine hv_Vp (As := [.int (nI (s9 + i)), .int 0]) (rest := [.ref (a 12)]) hE hml hK hI (c_Mo_number l hl0 b0 D cA f mo a th (nI s9) (nI e9) ct gd ln bf ac un md V (s9 + i) 0 hmo hnj hN (by omega) (by omega)) cd_Mo_number w664 w666 ws21 hmo rfl rfl rfl rfl hl.1 (Nat.le_of_ble_eq_true rfl) d_Mo_deepest_32 ⟨by decide, by decide⟩ ⟨by decide, by decide⟩ (fun H locs hI => ?_)
          refine W.eq (g2 := F0 m 35 ls [.int (wN V (s9 + i) 0), .ref (a 12)]) rfl ?_
          refine hv_iald hE hI 0 hj rfl (by rw [(hit i (by omega) c22).2]; exact pk_in _ 100 (hit i (by omega) c22).1 rfl (by omega)) d_Mo_deepest_35 ?_
          refine W.eq (g2 := F0 m 36 ls [.int (wA V 8 (wI V (s9 + i)))]) rfl ?_
          refine lv_goto (tgt := 40) hx hb d_Mo_deepest_36 (by decide) ?_
          refine lv_istore_n (lv' := [(3, .int (wA V 8 (wI V (s9 + i)))), (0, .ref mo), (1, .int (dL V s9 i)), (2, .int (nI (s9 + i)))]) hx hb d_Mo_deepest_40 rfl hl (by decide) rfl (fun ls hl => ?_)
          refine lv_iload_n hx hb d_Mo_deepest_41 rfl (lv_at hl 0 rfl) ?_
          refine lv_iload_n hx hb d_Mo_deepest_42 rfl (lv_at hl 2 rfl) ?_
          refine lv_icmp_le (tgt := 50) hx hb d_Mo_deepest_43 (by decide) (fun c43 => ?_) (fun c43 => ?_)
          · skip
            have n43 := Int32.not_lt.mpr c43
            refine lv_iload_n hx hb d_Mo_deepest_50 rfl (lv_at hl 2 rfl) ?_
            refine lv_istore_n (lv' := [(1, .int (dL V s9 i)), (3, .int (wA V 8 (wI V (s9 + i)))), (0, .ref mo), (2, .int (nI (s9 + i)))]) hx hb d_Mo_deepest_51 rfl hl (by decide) rfl (fun ls hl => ?_)
            obtain ⟨v3, ev3⟩ : ∃ y : Int32, y = (nI (s9 + i)) + 1 := ⟨_, rfl⟩
            refine lv_iinc (v := v3) (lv' := [(2, .int v3), (1, .int (dL V s9 i)), (3, .int (wA V 8 (wI V (s9 + i)))), (0, .ref mo)]) hx hb d_Mo_deepest_52 hl (k := 3) rfl (by rw [ev3]; rfl) (by decide) rfl (fun ls hl => ?_)
            refine lv_goto (tgt := 7) hx hb d_Mo_deepest_55 (by decide) ?_
            exact ih (i + 1) f _ _ ls (by omega) rfl hI (by rw [show dL V s9 (i + 1) = dL V s9 i from by simp only [dL, c22, n43, if_true, if_false], show nI (s9 + (i + 1)) = v3 from by rw [ev3, nI_1]; rfl]; exact lv_sub hl [3, 1, 0] rfl)
          · skip
            have n43 := Int32.not_le.mp c43
            refine lv_iload_n hx hb d_Mo_deepest_46 rfl (lv_at hl 0 rfl) ?_
            refine lv_goto (tgt := 51) hx hb d_Mo_deepest_47 (by decide) ?_
            refine lv_istore_n (lv' := [(1, .int (wA V 8 (wI V (s9 + i)))), (3, .int (wA V 8 (wI V (s9 + i)))), (0, .ref mo), (2, .int (nI (s9 + i)))]) hx hb d_Mo_deepest_51 rfl hl (by decide) rfl (fun ls hl => ?_)
            obtain ⟨v4, ev4⟩ : ∃ y : Int32, y = (nI (s9 + i)) + 1 := ⟨_, rfl⟩
            refine lv_iinc (v := v4) (lv' := [(2, .int v4), (1, .int (wA V 8 (wI V (s9 + i)))), (3, .int (wA V 8 (wI V (s9 + i)))), (0, .ref mo)]) hx hb d_Mo_deepest_52 hl (k := 3) rfl (by rw [ev4]; rfl) (by decide) rfl (fun ls hl => ?_)
            refine lv_goto (tgt := 7) hx hb d_Mo_deepest_55 (by decide) ?_
            exact ih (i + 1) f _ _ ls (by omega) rfl hI (by rw [show dL V s9 (i + 1) = wA V 8 (wI V (s9 + i)) from by simp only [dL, c22, n43, if_true, if_false], show nI (s9 + (i + 1)) = v4 from by rw [ev4, nI_1]; rfl]; exact lv_sub hl [3, 1, 0] rfl)
  exact loop (e9 - s9) 0 f _ _ ls (by omega) rfl hI (lv_sub hl [2, 1, 0] rfl)

set_option maxHeartbeats 4000000 in
set_option maxRecDepth 100000 in
theorem c_Mo_countAll (l : Launch) (hl0 : l.stackTraces = false) (b0 : Nat) (D : va_G) (cA : Nat → ClassId) (f : hv_M) (mo : Nat) (a : Nat → Nat) (th : Int32) (s9 e9 : Nat) (ct : Int32) (gd : Bool) (ln bf ac un : Int64) (md : Int32) (V : Wd) (hmo : f mo = some (moE a th (nI s9) (nI e9) ct gd ln bf ac un md)) (hnj : moN mo a) (h0 : f (a 0) = some (.inl (cA 0, 10200, .inl (wK V)))) (hN : f (a 1) = some (.inl (cA 0, 51000, .inl V.2.1))) (hj : f (a 13) = some (.inl (cA 0, 100, .inl (wA V 9)))) (hse : s9 ≤ e9) (he9 : e9 < 10200) (hit : ∀ i, i < e9 - s9 → wK V (s9 + i) = 4 → wI V (s9 + i) < 100 ∧ wN V (s9 + i) 0 = nI (wI V (s9 + i))) : hv_Met l y_Mo_countAll [Cond.code y_Mo_countAll b_Mo_countAll 4 (some FieldType.int)] (RM 1 0 0) b0 (Fa D cA) D CL [.ref mo] f (PV f (some (.int (cA9 V s9 (e9 - s9))))) (NX) := by
  refine hv_Met.of (own := "BoxPackerModel") (by decide) rfl (Nat.le_of_ble_eq_true rfl) ?_
  intro p e s m below meth c hE hml hout hr hlocks hname hK hI ls hl
  have hl : lv_has ls 4 [(0, .ref mo)] := hl
  obtain ⟨hx, hb, hown, hts, hVK⟩ := id hE
  refine lv_aload_n hx hb d_Mo_countAll_0 rfl (lv_at hl 0 rfl) ?_
  refine hv_get hE k_Mo hI 4 (by decide) w520 hmo rfl d_Mo_countAll_1 ?_
  refine lv_aload_n hx hb d_Mo_countAll_4 rfl (lv_at hl 0 rfl) ?_
  refine hv_get hE k_Mo hI 3 (by decide) w519 hmo rfl d_Mo_countAll_5 ?_
  refine lv_isub hx hb d_Mo_countAll_8 ?_
  refine lv_i2l (v := ((nI e9) - (nI s9)).toInt64) hx hb d_Mo_countAll_9 rfl ?_
  refine lv_lstore_n (lv' := [(1, .long (((nI e9) - (nI s9)).toInt64)), (0, .ref mo)]) hx hb d_Mo_countAll_10 rfl hl (by decide) rfl (fun ls hl => ?_)
  refine lv_aload_n hx hb d_Mo_countAll_11 rfl (lv_at hl 1 rfl) ?_
  refine hv_get hE k_Mo hI 3 (by decide) w519 hmo rfl d_Mo_countAll_12 ?_
  refine lv_istore_n (lv' := [(3, .int (nI s9)), (1, .long (((nI e9) - (nI s9)).toInt64)), (0, .ref mo)]) hx hb d_Mo_countAll_15 rfl hl (by decide) rfl (fun ls hl => ?_)
  have loop : ∀ (k i : Nat)  (g : hv_M) (H : Heap) (locs : List Loc) (ls : Array Slot), i + k = e9 - s9 → f = g → hv_I D CL b0 g s.heap H locs → lv_has ls 4 [(0, .ref mo), (1, .long (cL V s9 (e9 - s9) i)), (3, .int (nI (s9 + i)))] → W p l e (RM 1 0 0) s m ([.ref mo] : List Value).toArray below meth c H locs (0) (0) (xh_MQ below (hv_Q b0 (Fa D cA) D CL (PV f (some (.int (cA9 V s9 (e9 - s9))))) (NX)) s 0 0 (fun q => b0 ≤ q)) (F0 m 16 ls []) := by
    intro k
    induction k with
    | zero =>
      intro i  g H locs ls hik hgf hI hl
      subst hgf
      have ei : i = e9 - s9 := by omega
      subst ei
      refine lv_iload_n hx hb d_Mo_countAll_16 rfl (lv_at hl 2 rfl) ?_
      refine lv_aload_n hx hb d_Mo_countAll_17 rfl (lv_at hl 0 rfl) ?_
      refine hv_get hE k_Mo hI 4 (by decide) w520 hmo rfl d_Mo_countAll_18 ?_
      refine lv_icmp_ge (tgt := 59) hx hb d_Mo_countAll_21 (by decide) (fun c21 => ?_) (fun c21 => ?_)
      · skip
        have n21 := Int32.not_lt.mpr c21
        refine lv_lload_n hx hb d_Mo_countAll_59 rfl (lv_at hl 1 rfl) ?_
        refine lv_ldc2 (v := 1000000) hx hb hown (hts _ w718) d_Mo_countAll_60 ?_
        refine W.lcmp hx hb d_Mo_countAll_63 ?_
        refine lv_if_le (tgt := 72) hx hb d_Mo_countAll_64 (by decide) (fun c64 => ?_) (fun c64 => ?_)
        · skip
          have m64 := (lg_cmp_le _ _).mp c64
          have n64 := Int64.not_lt.mpr m64
          refine lv_lload_n hx hb d_Mo_countAll_72 rfl (lv_at hl 1 rfl) ?_
          refine lv_l2i (v := (cL V s9 (e9 - s9) (e9 - s9)).toInt32) hx hb d_Mo_countAll_73 rfl ?_
          exact hv_iret hE hr hlocks hI hK (v := (cL V s9 (e9 - s9) (e9 - s9)).toInt32) (⟨by rw [cA9, if_neg n64], rfl⟩) (by decide) (by decide) d_Mo_countAll_74
        · skip
          have m64 : ¬ _ := fun q => c64 ((lg_cmp_le _ _).mpr q)
          have n64 := Int64.not_le.mp m64
          refine lv_ldc (v := 1000000) hx hb hown (hts _ w704) d_Mo_countAll_67 ?_
          refine lv_goto (tgt := 74) hx hb d_Mo_countAll_69 (by decide) ?_
          exact hv_iret hE hr hlocks hI hK (v := 1000000) (⟨by rw [cA9, if_pos n64], rfl⟩) (by decide) (by decide) d_Mo_countAll_74
      · skip
        have n21 := Int32.not_le.mp c21
        exact absurd (nI_le (by omega) (by omega)) c21
    | succ k ih =>
      intro i  g H locs ls hik hgf hI hl
      subst hgf
      refine lv_iload_n hx hb d_Mo_countAll_16 rfl (lv_at hl 2 rfl) ?_
      refine lv_aload_n hx hb d_Mo_countAll_17 rfl (lv_at hl 0 rfl) ?_
      refine hv_get hE k_Mo hI 4 (by decide) w520 hmo rfl d_Mo_countAll_18 ?_
      refine lv_icmp_ge (tgt := 59) hx hb d_Mo_countAll_21 (by decide) (fun c21 => ?_) (fun c21 => ?_)
      · skip
        have n21 := Int32.not_lt.mpr c21
        exact absurd c21 (nI_ge (by omega) (by omega))
      · skip
        have n21 := Int32.not_le.mp c21
        refine lv_aload_n hx hb d_Mo_countAll_24 rfl (lv_at hl 0 rfl) ?_
        refine hv_get hE k_Mo hI 1 (by decide) w517 hmo rfl d_Mo_countAll_25 ?_
        refine lv_iload_n hx hb d_Mo_countAll_28 rfl (lv_at hl 2 rfl) ?_
        refine hv_iald hE hI 0 h0 rfl (pk_in (s9 + i) 10200 (by omega) rfl (by omega)) d_Mo_countAll_29 ?_
        rw [nI_cl (by omega)]
        refine W.eq (g2 := F0 m 30 ls [.int (wK V (s9 + i))]) rfl ?_
        refine lv_iconst (v := 4) hx hb d_Mo_countAll_30 (by decide) ?_
        refine lv_icmp_ne (tgt := 51) hx hb d_Mo_countAll_31 (by decide) (fun c31 => ?_) (fun c31 => ?_)
        · skip
          refine lv_lload_n hx hb d_Mo_countAll_51 rfl (lv_at hl 1 rfl) ?_
          refine lv_lstore_n (lv' := [(1, .long (cL V s9 (e9 - s9) i)), (0, .ref mo), (3, .int (nI (s9 + i)))]) hx hb d_Mo_countAll_52 rfl hl (by decide) rfl (fun ls hl => ?_)
          obtain ⟨v1, ev1⟩ : ∃ y : Int32, y = (nI (s9 + i)) + 1 := ⟨_, rfl⟩
          refine lv_iinc (v := v1) (lv' := [(3, .int v1), (1, .long (cL V s9 (e9 - s9) i)), (0, .ref mo)]) hx hb d_Mo_countAll_53 hl (k := 2) rfl (by rw [ev1]; rfl) (by decide) rfl (fun ls hl => ?_)
          refine lv_goto (tgt := 16) hx hb d_Mo_countAll_56 (by decide) ?_
          exact ih (i + 1) f _ _ ls (by omega) rfl hI (by rw [show cL V s9 (e9 - s9) (i + 1) = cL V s9 (e9 - s9) i from by simp only [cL, c31, if_true, if_false], show nI (s9 + (i + 1)) = v1 from by rw [ev1, nI_1]; rfl]; exact lv_sub hl [2, 1, 0] rfl)
        · skip
          refine lv_lload_n hx hb d_Mo_countAll_34 rfl (lv_at hl 1 rfl) ?_
          refine lv_aload_n hx hb d_Mo_countAll_35 rfl (lv_at hl 0 rfl) ?_
          refine hv_get hE k_Mo hI 17 (by decide) w533 hmo rfl d_Mo_countAll_36 ?_
          refine lv_aload_n hx hb d_Mo_countAll_39 rfl (lv_at hl 0 rfl) ?_
          refine lv_iload_n hx hb d_Mo_countAll_40 rfl (lv_at hl 2 rfl) ?_
          refine lv_iconst (v := 0) hx hb d_Mo_countAll_41 (by decide) ?_
          refine hv_Vp (As := [.int (nI (s9 + i)), .int 0]) (rest := [.ref (a 13), .long (cL V s9 (e9 - s9) i)]) hE hml hK hI (c_Mo_number l hl0 b0 D cA f mo a th (nI s9) (nI e9) ct gd ln bf ac un md V (s9 + i) 0 hmo hnj hN (by omega) (by omega)) cd_Mo_number w664 w666 ws21 hmo rfl rfl rfl rfl hl.1 (Nat.le_of_ble_eq_true rfl) d_Mo_countAll_42 ⟨by decide, by decide⟩ ⟨by decide, by decide⟩ (fun H locs hI => ?_)
          refine W.eq (g2 := F0 m 45 ls [.int (wN V (s9 + i) 0), .ref (a 13), .long (cL V s9 (e9 - s9) i)]) rfl ?_
          refine hv_iald hE hI 0 hj rfl (by rw [(hit i (by omega) c31).2]; exact pk_in _ 100 (hit i (by omega) c31).1 rfl (by omega)) d_Mo_countAll_45 ?_
          refine W.eq (g2 := F0 m 46 ls [.int (wA V 9 (wI V (s9 + i))), .long (cL V s9 (e9 - s9) i)]) rfl ?_
          refine lv_i2l (v := (wA V 9 (wI V (s9 + i))).toInt64) hx hb d_Mo_countAll_46 rfl ?_
          refine lv_ladd hx hb d_Mo_countAll_47 ?_
          refine lv_goto (tgt := 52) hx hb d_Mo_countAll_48 (by decide) ?_
          refine lv_lstore_n (lv' := [(1, .long ((cL V s9 (e9 - s9) i) + ((wA V 9 (wI V (s9 + i))).toInt64))), (0, .ref mo), (3, .int (nI (s9 + i)))]) hx hb d_Mo_countAll_52 rfl hl (by decide) rfl (fun ls hl => ?_)
          obtain ⟨v2, ev2⟩ : ∃ y : Int32, y = (nI (s9 + i)) + 1 := ⟨_, rfl⟩
          refine lv_iinc (v := v2) (lv' := [(3, .int v2), (1, .long ((cL V s9 (e9 - s9) i) + ((wA V 9 (wI V (s9 + i))).toInt64))), (0, .ref mo)]) hx hb d_Mo_countAll_53 hl (k := 2) rfl (by rw [ev2]; rfl) (by decide) rfl (fun ls hl => ?_)
          refine lv_goto (tgt := 16) hx hb d_Mo_countAll_56 (by decide) ?_
          exact ih (i + 1) f _ _ ls (by omega) rfl hI (by rw [show cL V s9 (e9 - s9) (i + 1) = (cL V s9 (e9 - s9) i) + ((wA V 9 (wI V (s9 + i))).toInt64) from by simp only [cL, c31, if_true, if_false], show nI (s9 + (i + 1)) = v2 from by rw [ev2, nI_1]; rfl]; exact lv_sub hl [2, 1, 0] rfl)
  exact loop (e9 - s9) 0 f _ _ ls (by omega) rfl hI (by rw [show cL V s9 (e9 - s9) 0 = (nI e9 - nI s9).toInt64 from by rw [nI_sub hse]; rfl]; exact lv_sub hl [2, 1, 0] rfl)

theorem i64_ne {x : Int32} (h : ¬ x = 0) : ¬ x.toInt64 = 0 := fun q => h (Int32.toInt_inj.mp (by
  have := congrArg Int64.toInt q
  rw [Int32.toInt_toInt64, show (0 : Int64).toInt = 0 by decide] at this
  rw [this]; decide))

set_option maxHeartbeats 4000000 in
set_option maxRecDepth 100000 in
theorem c_Mo_placeOf (l : Launch) (hl0 : l.stackTraces = false) (b0 : Nat) (D : va_G) (cA : Nat → ClassId) (f : hv_M) (mo : Nat) (a : Nat → Nat) (th st en ct : Int32) (gd : Bool) (ln bf ac un : Int64) (md : Int32) (V : Wd) (s1 s2 : Nat → Int64) (b i9 : Nat) (hmo : f mo = some (moE a th st en ct gd ln bf ac un md)) (hnj : moN mo a) (hA : moA cA f a V) (h14 : f (a 14) = some (.inl (cA 1, 4, .inr (.inl s1)))) (h15 : f (a 15) = some (.inl (cA 1, 4, .inr (.inl s2)))) (hb9 : b < 100) (hi9 : wF V b + i9 < 10200) (hit : ∀ j, j < i9 → (wK V (wF V b + j) = 4 → wI V (wF V b + j) < 100 ∧ wN V (wF V b + j) 0 = nI (wI V (wF V b + j))) ∧ (wK V (wF V b + j) = 2 → vp_in (wN V (wF V b + j) 2) 4 ∧ vp_in (wN V (wF V b + j) 4) 4)) : hv_Met l y_Mo_placeOf [Cond.code y_Mo_placeOf b_Mo_placeOf 10 (some FieldType.long)] (RM 5 0 0) b0 (Fa D cA) D CL [.ref mo, .int (nI b), .int (nI i9)] f (fun v g => v = some (.long (plF V b i9)) ∧ (∃ (gd9 : Bool) (v9 : Vl), scr cA g mo a th st en ct md gd9 v9) ∧ ∀ z, z ≠ mo → z ≠ a 14 → z ≠ a 15 → g z = f z) (NX) := by
  refine hv_Met.of (own := "BoxPackerModel") (by decide) rfl (Nat.le_of_ble_eq_true rfl) ?_
  intro p e s m below meth c hE hml hout hr hlocks hname hK hI ls hl
  have hl : lv_has ls 10 [(0, .ref mo), (1, .int (nI b)), (2, .int (nI i9))] := hl
  obtain ⟨hx, hb, hown, hts, hVK⟩ := id hE
  refine lv_aload_n hx hb d_Mo_placeOf_0 rfl (lv_at hl 0 rfl) ?_
  refine hv_V (As := []) (rest := []) hE hml hK hI (c_Mo_clear l hl0 b0 D cA f mo a th st en ct gd ln bf ac un md s1 s2 hmo hnj h14 h15) cd_Mo_clear w668 w670 ws22 hmo rfl rfl hl.1 (Nat.le_of_ble_eq_true rfl) d_Mo_placeOf_1 ⟨by decide, by decide⟩ ⟨by decide, by decide⟩ (fun v9 g2 H locs hp hI => ?_) (fun q9 E9 ce9 g9 H locs hp => hp.elim)
  obtain ⟨hv, hs1, ho91⟩ := hp
  rw [hv]
  refine W.eq (g2 := F0 m 4 ls []) rfl ?_
  refine lv_lconst (v := 0) hx hb d_Mo_placeOf_4 (by decide) ?_
  refine lv_lstore_n (lv' := [(3, .long 0), (0, .ref mo), (1, .int (nI b)), (2, .int (nI i9))]) hx hb d_Mo_placeOf_5 rfl hl (by decide) rfl (fun ls hl => ?_)
  refine lv_aload_n hx hb d_Mo_placeOf_6 rfl (lv_at hl 1 rfl) ?_
  refine hv_get hE k_Mo hI 6 (by decide) w522 hs1.1 rfl d_Mo_placeOf_7 ?_
  refine lv_iload_n hx hb d_Mo_placeOf_10 rfl (lv_at hl 2 rfl) ?_
  have hq3 : g2 (a 2) = some (.inl (cA 0, 101, .inl (fun b => nI (wF V b)))) := by rw [ho91 _ (hnj.2 2 (by decide)) (hnj.1 2 14 (by decide) (by decide) (by decide)) (hnj.1 2 15 (by decide) (by decide) (by decide))]; exact hA.2.2.1
  refine hv_iald hE hI 0 hq3 rfl (pk_in b 101 (by omega) rfl (by omega)) d_Mo_placeOf_11 ?_
  rw [nI_cl (by omega)]
  refine W.eq (g2 := F0 m 12 ls [.int (nI (wF V b))]) rfl ?_
  refine lv_iload_n hx hb d_Mo_placeOf_12 rfl (lv_at hl 3 rfl) ?_
  refine lv_iadd hx hb d_Mo_placeOf_13 ?_
  refine lv_istore (lv' := [(5, .int ((nI (wF V b)) + (nI i9))), (3, .long 0), (0, .ref mo), (1, .int (nI b)), (2, .int (nI i9))]) hx hb d_Mo_placeOf_14 hl (by decide) rfl (fun ls hl => ?_)
  refine lv_aload_n hx hb d_Mo_placeOf_16 rfl (lv_at hl 2 rfl) ?_
  refine hv_get hE k_Mo hI 6 (by decide) w522 hs1.1 rfl d_Mo_placeOf_17 ?_
  refine lv_iload_n hx hb d_Mo_placeOf_20 rfl (lv_at hl 3 rfl) ?_
  refine hv_iald hE hI 0 hq3 rfl (pk_in b 101 (by omega) rfl (by omega)) d_Mo_placeOf_21 ?_
  rw [nI_cl (by omega)]
  refine W.eq (g2 := F0 m 22 ls [.int (nI (wF V b))]) rfl ?_
  refine lv_istore (lv' := [(6, .int (nI (wF V b))), (5, .int ((nI (wF V b)) + (nI i9))), (3, .long 0), (0, .ref mo), (1, .int (nI b)), (2, .int (nI i9))]) hx hb d_Mo_placeOf_22 hl (by decide) rfl (fun ls hl => ?_)
  have loop : ∀ (k i : Nat) (gd9 : Bool) (g : hv_M) (H : Heap) (locs : List Loc) (ls : Array Slot), i + k = i9 → scr cA g mo a th st en ct md gd9 (fL V (wB V b) (wF V b) i) → (∀ z, z ≠ mo → z ≠ a 14 → z ≠ a 15 → g z = f z) → hv_I D CL b0 g s.heap H locs → lv_has ls 10 [(0, .ref mo), (1, .int (nI b)), (3, .long (pL V b i)), (5, .int (nI (wF V b + i9))), (6, .int (nI (wF V b + i)))] → W p l e (RM 5 0 0) s m ([.ref mo, .int (nI b), .int (nI i9)] : List Value).toArray below meth c H locs (0) (0) (xh_MQ below (hv_Q b0 (Fa D cA) D CL (fun v g => v = some (.long (plF V b i9)) ∧ (∃ (gd9 : Bool) (v9 : Vl), scr cA g mo a th st en ct md gd9 v9) ∧ ∀ z, z ≠ mo → z ≠ a 14 → z ≠ a 15 → g z = f z) (NX)) s 0 0 (fun q => b0 ≤ q)) (F0 m 24 ls []) := by
    intro k
    induction k with
    | zero =>
      intro i gd9 g H locs ls hik hs hfo hI hl
      have hAg : moA cA g a V := ⟨by rw [hfo _ (hnj.2 0 (by decide)) (hnj.1 0 14 (by decide) (by decide) (by decide)) (hnj.1 0 15 (by decide) (by decide) (by decide))]; exact hA.1, by rw [hfo _ (hnj.2 1 (by decide)) (hnj.1 1 14 (by decide) (by decide) (by decide)) (hnj.1 1 15 (by decide) (by decide) (by decide))]; exact hA.2.1, by rw [hfo _ (hnj.2 2 (by decide)) (hnj.1 2 14 (by decide) (by decide) (by decide)) (hnj.1 2 15 (by decide) (by decide) (by decide))]; exact hA.2.2.1, by rw [hfo _ (hnj.2 3 (by decide)) (hnj.1 3 14 (by decide) (by decide) (by decide)) (hnj.1 3 15 (by decide) (by decide) (by decide))]; exact hA.2.2.2.1, fun j9 hj9 => by rw [hfo _ (hnj.2 (4 + j9) (by omega)) (hnj.1 (4 + j9) 14 (by omega) (by decide) (by omega)) (hnj.1 (4 + j9) 15 (by omega) (by decide) (by omega))]; exact hA.2.2.2.2 j9 hj9⟩
      have ei : i = i9 := by omega
      subst ei
      refine lv_iload hx hb d_Mo_placeOf_24 (lv_at hl 4 rfl) ?_
      refine lv_iload hx hb d_Mo_placeOf_26 (lv_at hl 3 rfl) ?_
      refine lv_icmp_ge (tgt := 113) hx hb d_Mo_placeOf_28 (by decide) (fun c28 => ?_) (fun c28 => ?_)
      · skip
        have n28 := Int32.not_lt.mpr c28
        refine lv_aload_n hx hb d_Mo_placeOf_113 rfl (lv_at hl 0 rfl) ?_
        refine hv_get hE k_Mo hI 15 (by decide) w531 hs.1 rfl d_Mo_placeOf_114 ?_
        refine lv_iload_n hx hb d_Mo_placeOf_117 rfl (lv_at hl 1 rfl) ?_
        refine hv_iald hE hI 0 (hAg.2.2.2.2 7 (by decide)) rfl (pk_in b 100 hb9 rfl (by omega)) d_Mo_placeOf_118 ?_
        rw [nI_cl (by omega)]
        refine W.eq (g2 := F0 m 119 ls [.int (wA V 7 b)]) rfl ?_
        refine lv_if_le (tgt := 133) hx hb d_Mo_placeOf_119 (by decide) (fun c119 => ?_) (fun c119 => ?_)
        · skip
          have n119 := Int32.not_lt.mpr c119
          refine lv_aload_n hx hb d_Mo_placeOf_133 rfl (lv_at hl 0 rfl) ?_
          refine hv_get hE k_Mo hI 11 (by decide) w527 hs.1 rfl d_Mo_placeOf_134 ?_
          refine lv_iload_n hx hb d_Mo_placeOf_137 rfl (lv_at hl 1 rfl) ?_
          refine hv_iald hE hI 0 (hAg.2.2.2.2 3 (by decide)) rfl (pk_in b 100 hb9 rfl (by omega)) d_Mo_placeOf_138 ?_
          rw [nI_cl (by omega)]
          refine W.eq (g2 := F0 m 139 ls [.int (wA V 3 b)]) rfl ?_
          refine lv_i2l (v := (wA V 3 b).toInt64) hx hb d_Mo_placeOf_139 rfl ?_
          refine lv_lstore (lv' := [(6, .long ((wA V 3 b).toInt64)), (0, .ref mo), (1, .int (nI b)), (3, .long (pL V b i)), (5, .int (nI (wF V b + i)))]) hx hb d_Mo_placeOf_140 hl (by decide) rfl (fun ls hl => ?_)
          refine lv_aload_n hx hb d_Mo_placeOf_142 rfl (lv_at hl 1 rfl) ?_
          refine hv_get hE k_Mo hI 13 (by decide) w529 hs.1 rfl d_Mo_placeOf_143 ?_
          refine lv_iload_n hx hb d_Mo_placeOf_146 rfl (lv_at hl 2 rfl) ?_
          refine hv_iald hE hI 0 (hAg.2.2.2.2 5 (by decide)) rfl (pk_in b 100 hb9 rfl (by omega)) d_Mo_placeOf_147 ?_
          rw [nI_cl (by omega)]
          refine W.eq (g2 := F0 m 148 ls [.int (wA V 5 b)]) rfl ?_
          refine lv_if_ne (tgt := 155) hx hb d_Mo_placeOf_148 (by decide) (fun c148 => ?_) (fun c148 => ?_)
          · skip
            refine lv_lload_n hx hb d_Mo_placeOf_155 rfl (lv_at hl 3 rfl) ?_
            refine lv_lload hx hb d_Mo_placeOf_156 (lv_at hl 0 rfl) ?_
            refine lv_lmul hx hb d_Mo_placeOf_158 ?_
            refine lv_aload_n hx hb d_Mo_placeOf_159 rfl (lv_at hl 1 rfl) ?_
            refine hv_get hE k_Mo hI 13 (by decide) w529 hs.1 rfl d_Mo_placeOf_160 ?_
            refine lv_iload_n hx hb d_Mo_placeOf_163 rfl (lv_at hl 2 rfl) ?_
            refine hv_iald hE hI 0 (hAg.2.2.2.2 5 (by decide)) rfl (pk_in b 100 hb9 rfl (by omega)) d_Mo_placeOf_164 ?_
            rw [nI_cl (by omega)]
            refine W.eq (g2 := F0 m 165 ls [.int (wA V 5 b), .long ((pL V b i) * ((wA V 3 b).toInt64))]) rfl ?_
            refine lv_i2l (v := (wA V 5 b).toInt64) hx hb d_Mo_placeOf_165 rfl ?_
            refine hv_Sp (As := [.long ((pL V b i) * ((wA V 3 b).toInt64)), .long ((wA V 5 b).toInt64)]) (rest := []) hE hml hK hI (c_Mo_nearest l hl0 b0 D cA g ((pL V b i) * ((wA V 3 b).toInt64)) ((wA V 5 b).toInt64) (i64_ne c148)) cd_Mo_nearest w735 w736 rfl rfl rfl hl.1 (Nat.le_of_ble_eq_true rfl) d_Mo_placeOf_166 ⟨by decide, by decide⟩ ⟨by decide, by decide⟩ (fun H locs hI => ?_)
            refine W.eq (g2 := F0 m 169 ls [.long (nearF ((pL V b i) * ((wA V 3 b).toInt64)) ((wA V 5 b).toInt64))]) rfl ?_
            refine lv_lstore (lv' := [(8, .long (nearF ((pL V b i) * ((wA V 3 b).toInt64)) ((wA V 5 b).toInt64))), (6, .long ((wA V 3 b).toInt64)), (0, .ref mo), (1, .int (nI b)), (3, .long (pL V b i)), (5, .int (nI (wF V b + i)))]) hx hb d_Mo_placeOf_169 hl (by decide) rfl (fun ls hl => ?_)
            refine lv_aload_n hx hb d_Mo_placeOf_171 rfl (lv_at hl 2 rfl) ?_
            refine hv_get hE k_Mo hI 19 (by decide) w535 hs.1 rfl d_Mo_placeOf_172 ?_
            refine lv_aload_n hx hb d_Mo_placeOf_175 rfl (lv_at hl 2 rfl) ?_
            refine hv_get hE k_Mo hI 7 (by decide) w523 hs.1 rfl d_Mo_placeOf_176 ?_
            refine lv_iload_n hx hb d_Mo_placeOf_179 rfl (lv_at hl 3 rfl) ?_
            refine hv_zald hE hI 2 hAg.2.2.2.1 rfl (pk_in b 100 hb9 rfl (by omega)) d_Mo_placeOf_180 ?_
            rw [nI_cl (by omega)]
            refine W.eq (g2 := F0 m 181 ls [.int (b2i (wB V b)), .long ((fL V (wB V b) (wF V b) i).1)]) rfl ?_
            refine lv_if_eq (tgt := 200) hx hb d_Mo_placeOf_181 (by decide) (fun c181 => ?_) (fun c181 => ?_)
            · skip
              have k181 := b2i_f c181
              refine lv_lconst (v := 0) hx hb d_Mo_placeOf_200 (by decide) ?_
              refine lv_ladd hx hb d_Mo_placeOf_201 ?_
              refine lv_lload hx hb d_Mo_placeOf_202 (lv_at hl 0 rfl) ?_
              refine lv_ladd hx hb d_Mo_placeOf_204 ?_
              exact hv_lret hE hr hlocks hI hK (v := (((fL V (wB V b) (wF V b) i).1) + 0) + (nearF ((pL V b i) * ((wA V 3 b).toInt64)) ((wA V 5 b).toInt64))) (⟨congrArg (fun z => some (Value.long z)) (Eq.symm (show plF V b i = _ from by simp only [plF, usF, c119, n119, c148, k181, if_true, if_false, and_self, and_false, false_and, Bool.false_eq_true])), ⟨gd9, _, hs⟩, hfo⟩) (by decide) (by decide) d_Mo_placeOf_205
            · skip
              have k181 := b2i_t c181
              refine lv_aload_n hx hb d_Mo_placeOf_184 rfl (lv_at hl 2 rfl) ?_
              refine lv_iload hx hb d_Mo_placeOf_185 (lv_at hl 5 rfl) ?_
              refine hv_Vp (As := [.int (nI (wF V b + i))]) (rest := [.long ((fL V (wB V b) (wF V b) i).1)]) hE hml hK hI (c_Mo_isSolid l hl0 b0 D cA g mo a th st en ct gd9 ((fL V (wB V b) (wF V b) i).1) ((fL V (wB V b) (wF V b) i).2.1) ((fL V (wB V b) (wF V b) i).2.2.1) ((fL V (wB V b) (wF V b) i).2.2.2.1) md V (wF V b + i) hs.1 hnj hAg (by omega)) cd_Mo_isSolid w676 w678 ws24 hs.1 rfl rfl rfl rfl hl.1 (Nat.le_of_ble_eq_true rfl) d_Mo_placeOf_187 ⟨by decide, by decide⟩ ⟨by decide, by decide⟩ (fun H locs hI => ?_)
              refine W.eq (g2 := F0 m 190 ls [.int (b2i (isSo V (wF V b + i))), .long ((fL V (wB V b) (wF V b) i).1)]) rfl ?_
              refine lv_if_eq (tgt := 200) hx hb d_Mo_placeOf_190 (by decide) (fun c190 => ?_) (fun c190 => ?_)
              · skip
                have k190 := b2i_f c190
                refine lv_lconst (v := 0) hx hb d_Mo_placeOf_200 (by decide) ?_
                refine lv_ladd hx hb d_Mo_placeOf_201 ?_
                refine lv_lload hx hb d_Mo_placeOf_202 (lv_at hl 0 rfl) ?_
                refine lv_ladd hx hb d_Mo_placeOf_204 ?_
                exact hv_lret hE hr hlocks hI hK (v := (((fL V (wB V b) (wF V b) i).1) + 0) + (nearF ((pL V b i) * ((wA V 3 b).toInt64)) ((wA V 5 b).toInt64))) (⟨congrArg (fun z => some (Value.long z)) (Eq.symm (show plF V b i = _ from by simp only [plF, usF, c119, n119, c148, k181, k190, if_true, if_false, and_self, and_false, false_and, Bool.false_eq_true])), ⟨gd9, _, hs⟩, hfo⟩) (by decide) (by decide) d_Mo_placeOf_205
              · skip
                have k190 := b2i_t c190
                refine lv_aload_n hx hb d_Mo_placeOf_193 rfl (lv_at hl 2 rfl) ?_
                refine hv_get hE k_Mo hI 20 (by decide) w536 hs.1 rfl d_Mo_placeOf_194 ?_
                refine lv_goto (tgt := 201) hx hb d_Mo_placeOf_197 (by decide) ?_
                refine lv_ladd hx hb d_Mo_placeOf_201 ?_
                refine lv_lload hx hb d_Mo_placeOf_202 (lv_at hl 0 rfl) ?_
                refine lv_ladd hx hb d_Mo_placeOf_204 ?_
                exact hv_lret hE hr hlocks hI hK (v := (((fL V (wB V b) (wF V b) i).1) + ((fL V (wB V b) (wF V b) i).2.1)) + (nearF ((pL V b i) * ((wA V 3 b).toInt64)) ((wA V 5 b).toInt64))) (⟨congrArg (fun z => some (Value.long z)) (Eq.symm (show plF V b i = _ from by simp only [plF, usF, c119, n119, c148, k181, k190, if_true, if_false, and_self, and_false, false_and, Bool.false_eq_true])), ⟨gd9, _, hs⟩, hfo⟩) (by decide) (by decide) d_Mo_placeOf_205
          · skip
            refine lv_lconst (v := 0) hx hb d_Mo_placeOf_151 (by decide) ?_
            refine lv_goto (tgt := 169) hx hb d_Mo_placeOf_152 (by decide) ?_
            refine lv_lstore (lv' := [(8, .long 0), (6, .long ((wA V 3 b).toInt64)), (0, .ref mo), (1, .int (nI b)), (3, .long (pL V b i)), (5, .int (nI (wF V b + i)))]) hx hb d_Mo_placeOf_169 hl (by decide) rfl (fun ls hl => ?_)
            refine lv_aload_n hx hb d_Mo_placeOf_171 rfl (lv_at hl 2 rfl) ?_
            refine hv_get hE k_Mo hI 19 (by decide) w535 hs.1 rfl d_Mo_placeOf_172 ?_
            refine lv_aload_n hx hb d_Mo_placeOf_175 rfl (lv_at hl 2 rfl) ?_
            refine hv_get hE k_Mo hI 7 (by decide) w523 hs.1 rfl d_Mo_placeOf_176 ?_
            refine lv_iload_n hx hb d_Mo_placeOf_179 rfl (lv_at hl 3 rfl) ?_
            refine hv_zald hE hI 2 hAg.2.2.2.1 rfl (pk_in b 100 hb9 rfl (by omega)) d_Mo_placeOf_180 ?_
            rw [nI_cl (by omega)]
            refine W.eq (g2 := F0 m 181 ls [.int (b2i (wB V b)), .long ((fL V (wB V b) (wF V b) i).1)]) rfl ?_
            refine lv_if_eq (tgt := 200) hx hb d_Mo_placeOf_181 (by decide) (fun c181 => ?_) (fun c181 => ?_)
            · skip
              have k181 := b2i_f c181
              refine lv_lconst (v := 0) hx hb d_Mo_placeOf_200 (by decide) ?_
              refine lv_ladd hx hb d_Mo_placeOf_201 ?_
              refine lv_lload hx hb d_Mo_placeOf_202 (lv_at hl 0 rfl) ?_
              refine lv_ladd hx hb d_Mo_placeOf_204 ?_
              exact hv_lret hE hr hlocks hI hK (v := (((fL V (wB V b) (wF V b) i).1) + 0) + 0) (⟨congrArg (fun z => some (Value.long z)) (Eq.symm (show plF V b i = _ from by simp only [plF, usF, c119, n119, c148, k181, if_true, if_false, and_self, and_false, false_and, Bool.false_eq_true])), ⟨gd9, _, hs⟩, hfo⟩) (by decide) (by decide) d_Mo_placeOf_205
            · skip
              have k181 := b2i_t c181
              refine lv_aload_n hx hb d_Mo_placeOf_184 rfl (lv_at hl 2 rfl) ?_
              refine lv_iload hx hb d_Mo_placeOf_185 (lv_at hl 5 rfl) ?_
              refine hv_Vp (As := [.int (nI (wF V b + i))]) (rest := [.long ((fL V (wB V b) (wF V b) i).1)]) hE hml hK hI (c_Mo_isSolid l hl0 b0 D cA g mo a th st en ct gd9 ((fL V (wB V b) (wF V b) i).1) ((fL V (wB V b) (wF V b) i).2.1) ((fL V (wB V b) (wF V b) i).2.2.1) ((fL V (wB V b) (wF V b) i).2.2.2.1) md V (wF V b + i) hs.1 hnj hAg (by omega)) cd_Mo_isSolid w676 w678 ws24 hs.1 rfl rfl rfl rfl hl.1 (Nat.le_of_ble_eq_true rfl) d_Mo_placeOf_187 ⟨by decide, by decide⟩ ⟨by decide, by decide⟩ (fun H locs hI => ?_)
              refine W.eq (g2 := F0 m 190 ls [.int (b2i (isSo V (wF V b + i))), .long ((fL V (wB V b) (wF V b) i).1)]) rfl ?_
              refine lv_if_eq (tgt := 200) hx hb d_Mo_placeOf_190 (by decide) (fun c190 => ?_) (fun c190 => ?_)
              · skip
                have k190 := b2i_f c190
                refine lv_lconst (v := 0) hx hb d_Mo_placeOf_200 (by decide) ?_
                refine lv_ladd hx hb d_Mo_placeOf_201 ?_
                refine lv_lload hx hb d_Mo_placeOf_202 (lv_at hl 0 rfl) ?_
                refine lv_ladd hx hb d_Mo_placeOf_204 ?_
                exact hv_lret hE hr hlocks hI hK (v := (((fL V (wB V b) (wF V b) i).1) + 0) + 0) (⟨congrArg (fun z => some (Value.long z)) (Eq.symm (show plF V b i = _ from by simp only [plF, usF, c119, n119, c148, k181, k190, if_true, if_false, and_self, and_false, false_and, Bool.false_eq_true])), ⟨gd9, _, hs⟩, hfo⟩) (by decide) (by decide) d_Mo_placeOf_205
              · skip
                have k190 := b2i_t c190
                refine lv_aload_n hx hb d_Mo_placeOf_193 rfl (lv_at hl 2 rfl) ?_
                refine hv_get hE k_Mo hI 20 (by decide) w536 hs.1 rfl d_Mo_placeOf_194 ?_
                refine lv_goto (tgt := 201) hx hb d_Mo_placeOf_197 (by decide) ?_
                refine lv_ladd hx hb d_Mo_placeOf_201 ?_
                refine lv_lload hx hb d_Mo_placeOf_202 (lv_at hl 0 rfl) ?_
                refine lv_ladd hx hb d_Mo_placeOf_204 ?_
                exact hv_lret hE hr hlocks hI hK (v := (((fL V (wB V b) (wF V b) i).1) + ((fL V (wB V b) (wF V b) i).2.1)) + 0) (⟨congrArg (fun z => some (Value.long z)) (Eq.symm (show plF V b i = _ from by simp only [plF, usF, c119, n119, c148, k181, k190, if_true, if_false, and_self, and_false, false_and, Bool.false_eq_true])), ⟨gd9, _, hs⟩, hfo⟩) (by decide) (by decide) d_Mo_placeOf_205
        · skip
          have n119 := Int32.not_le.mp c119
          refine lv_aload_n hx hb d_Mo_placeOf_122 rfl (lv_at hl 0 rfl) ?_
          refine hv_get hE k_Mo hI 13 (by decide) w529 hs.1 rfl d_Mo_placeOf_123 ?_
          refine lv_iload_n hx hb d_Mo_placeOf_126 rfl (lv_at hl 1 rfl) ?_
          refine hv_iald hE hI 0 (hAg.2.2.2.2 5 (by decide)) rfl (pk_in b 100 hb9 rfl (by omega)) d_Mo_placeOf_127 ?_
          rw [nI_cl (by omega)]
          refine W.eq (g2 := F0 m 128 ls [.int (wA V 5 b)]) rfl ?_
          refine lv_ineg hx hb d_Mo_placeOf_128 ?_
          refine lv_i2l (v := (-(wA V 5 b)).toInt64) hx hb d_Mo_placeOf_129 rfl ?_
          refine lv_goto (tgt := 140) hx hb d_Mo_placeOf_130 (by decide) ?_
          refine lv_lstore (lv' := [(6, .long ((-(wA V 5 b)).toInt64)), (0, .ref mo), (1, .int (nI b)), (3, .long (pL V b i)), (5, .int (nI (wF V b + i)))]) hx hb d_Mo_placeOf_140 hl (by decide) rfl (fun ls hl => ?_)
          refine lv_aload_n hx hb d_Mo_placeOf_142 rfl (lv_at hl 1 rfl) ?_
          refine hv_get hE k_Mo hI 13 (by decide) w529 hs.1 rfl d_Mo_placeOf_143 ?_
          refine lv_iload_n hx hb d_Mo_placeOf_146 rfl (lv_at hl 2 rfl) ?_
          refine hv_iald hE hI 0 (hAg.2.2.2.2 5 (by decide)) rfl (pk_in b 100 hb9 rfl (by omega)) d_Mo_placeOf_147 ?_
          rw [nI_cl (by omega)]
          refine W.eq (g2 := F0 m 148 ls [.int (wA V 5 b)]) rfl ?_
          refine lv_if_ne (tgt := 155) hx hb d_Mo_placeOf_148 (by decide) (fun c148 => ?_) (fun c148 => ?_)
          · skip
            refine lv_lload_n hx hb d_Mo_placeOf_155 rfl (lv_at hl 3 rfl) ?_
            refine lv_lload hx hb d_Mo_placeOf_156 (lv_at hl 0 rfl) ?_
            refine lv_lmul hx hb d_Mo_placeOf_158 ?_
            refine lv_aload_n hx hb d_Mo_placeOf_159 rfl (lv_at hl 1 rfl) ?_
            refine hv_get hE k_Mo hI 13 (by decide) w529 hs.1 rfl d_Mo_placeOf_160 ?_
            refine lv_iload_n hx hb d_Mo_placeOf_163 rfl (lv_at hl 2 rfl) ?_
            refine hv_iald hE hI 0 (hAg.2.2.2.2 5 (by decide)) rfl (pk_in b 100 hb9 rfl (by omega)) d_Mo_placeOf_164 ?_
            rw [nI_cl (by omega)]
            refine W.eq (g2 := F0 m 165 ls [.int (wA V 5 b), .long ((pL V b i) * ((-(wA V 5 b)).toInt64))]) rfl ?_
            refine lv_i2l (v := (wA V 5 b).toInt64) hx hb d_Mo_placeOf_165 rfl ?_
            refine hv_Sp (As := [.long ((pL V b i) * ((-(wA V 5 b)).toInt64)), .long ((wA V 5 b).toInt64)]) (rest := []) hE hml hK hI (c_Mo_nearest l hl0 b0 D cA g ((pL V b i) * ((-(wA V 5 b)).toInt64)) ((wA V 5 b).toInt64) (i64_ne c148)) cd_Mo_nearest w735 w736 rfl rfl rfl hl.1 (Nat.le_of_ble_eq_true rfl) d_Mo_placeOf_166 ⟨by decide, by decide⟩ ⟨by decide, by decide⟩ (fun H locs hI => ?_)
            refine W.eq (g2 := F0 m 169 ls [.long (nearF ((pL V b i) * ((-(wA V 5 b)).toInt64)) ((wA V 5 b).toInt64))]) rfl ?_
            refine lv_lstore (lv' := [(8, .long (nearF ((pL V b i) * ((-(wA V 5 b)).toInt64)) ((wA V 5 b).toInt64))), (6, .long ((-(wA V 5 b)).toInt64)), (0, .ref mo), (1, .int (nI b)), (3, .long (pL V b i)), (5, .int (nI (wF V b + i)))]) hx hb d_Mo_placeOf_169 hl (by decide) rfl (fun ls hl => ?_)
            refine lv_aload_n hx hb d_Mo_placeOf_171 rfl (lv_at hl 2 rfl) ?_
            refine hv_get hE k_Mo hI 19 (by decide) w535 hs.1 rfl d_Mo_placeOf_172 ?_
            refine lv_aload_n hx hb d_Mo_placeOf_175 rfl (lv_at hl 2 rfl) ?_
            refine hv_get hE k_Mo hI 7 (by decide) w523 hs.1 rfl d_Mo_placeOf_176 ?_
            refine lv_iload_n hx hb d_Mo_placeOf_179 rfl (lv_at hl 3 rfl) ?_
            refine hv_zald hE hI 2 hAg.2.2.2.1 rfl (pk_in b 100 hb9 rfl (by omega)) d_Mo_placeOf_180 ?_
            rw [nI_cl (by omega)]
            refine W.eq (g2 := F0 m 181 ls [.int (b2i (wB V b)), .long ((fL V (wB V b) (wF V b) i).1)]) rfl ?_
            refine lv_if_eq (tgt := 200) hx hb d_Mo_placeOf_181 (by decide) (fun c181 => ?_) (fun c181 => ?_)
            · skip
              have k181 := b2i_f c181
              refine lv_lconst (v := 0) hx hb d_Mo_placeOf_200 (by decide) ?_
              refine lv_ladd hx hb d_Mo_placeOf_201 ?_
              refine lv_lload hx hb d_Mo_placeOf_202 (lv_at hl 0 rfl) ?_
              refine lv_ladd hx hb d_Mo_placeOf_204 ?_
              exact hv_lret hE hr hlocks hI hK (v := (((fL V (wB V b) (wF V b) i).1) + 0) + (nearF ((pL V b i) * ((-(wA V 5 b)).toInt64)) ((wA V 5 b).toInt64))) (⟨congrArg (fun z => some (Value.long z)) (Eq.symm (show plF V b i = _ from by simp only [plF, usF, c119, n119, c148, k181, if_true, if_false, and_self, and_false, false_and, Bool.false_eq_true])), ⟨gd9, _, hs⟩, hfo⟩) (by decide) (by decide) d_Mo_placeOf_205
            · skip
              have k181 := b2i_t c181
              refine lv_aload_n hx hb d_Mo_placeOf_184 rfl (lv_at hl 2 rfl) ?_
              refine lv_iload hx hb d_Mo_placeOf_185 (lv_at hl 5 rfl) ?_
              refine hv_Vp (As := [.int (nI (wF V b + i))]) (rest := [.long ((fL V (wB V b) (wF V b) i).1)]) hE hml hK hI (c_Mo_isSolid l hl0 b0 D cA g mo a th st en ct gd9 ((fL V (wB V b) (wF V b) i).1) ((fL V (wB V b) (wF V b) i).2.1) ((fL V (wB V b) (wF V b) i).2.2.1) ((fL V (wB V b) (wF V b) i).2.2.2.1) md V (wF V b + i) hs.1 hnj hAg (by omega)) cd_Mo_isSolid w676 w678 ws24 hs.1 rfl rfl rfl rfl hl.1 (Nat.le_of_ble_eq_true rfl) d_Mo_placeOf_187 ⟨by decide, by decide⟩ ⟨by decide, by decide⟩ (fun H locs hI => ?_)
              refine W.eq (g2 := F0 m 190 ls [.int (b2i (isSo V (wF V b + i))), .long ((fL V (wB V b) (wF V b) i).1)]) rfl ?_
              refine lv_if_eq (tgt := 200) hx hb d_Mo_placeOf_190 (by decide) (fun c190 => ?_) (fun c190 => ?_)
              · skip
                have k190 := b2i_f c190
                refine lv_lconst (v := 0) hx hb d_Mo_placeOf_200 (by decide) ?_
                refine lv_ladd hx hb d_Mo_placeOf_201 ?_
                refine lv_lload hx hb d_Mo_placeOf_202 (lv_at hl 0 rfl) ?_
                refine lv_ladd hx hb d_Mo_placeOf_204 ?_
                exact hv_lret hE hr hlocks hI hK (v := (((fL V (wB V b) (wF V b) i).1) + 0) + (nearF ((pL V b i) * ((-(wA V 5 b)).toInt64)) ((wA V 5 b).toInt64))) (⟨congrArg (fun z => some (Value.long z)) (Eq.symm (show plF V b i = _ from by simp only [plF, usF, c119, n119, c148, k181, k190, if_true, if_false, and_self, and_false, false_and, Bool.false_eq_true])), ⟨gd9, _, hs⟩, hfo⟩) (by decide) (by decide) d_Mo_placeOf_205
              · skip
                have k190 := b2i_t c190
                refine lv_aload_n hx hb d_Mo_placeOf_193 rfl (lv_at hl 2 rfl) ?_
                refine hv_get hE k_Mo hI 20 (by decide) w536 hs.1 rfl d_Mo_placeOf_194 ?_
                refine lv_goto (tgt := 201) hx hb d_Mo_placeOf_197 (by decide) ?_
                refine lv_ladd hx hb d_Mo_placeOf_201 ?_
                refine lv_lload hx hb d_Mo_placeOf_202 (lv_at hl 0 rfl) ?_
                refine lv_ladd hx hb d_Mo_placeOf_204 ?_
                exact hv_lret hE hr hlocks hI hK (v := (((fL V (wB V b) (wF V b) i).1) + ((fL V (wB V b) (wF V b) i).2.1)) + (nearF ((pL V b i) * ((-(wA V 5 b)).toInt64)) ((wA V 5 b).toInt64))) (⟨congrArg (fun z => some (Value.long z)) (Eq.symm (show plF V b i = _ from by simp only [plF, usF, c119, n119, c148, k181, k190, if_true, if_false, and_self, and_false, false_and, Bool.false_eq_true])), ⟨gd9, _, hs⟩, hfo⟩) (by decide) (by decide) d_Mo_placeOf_205
          · skip
            refine lv_lconst (v := 0) hx hb d_Mo_placeOf_151 (by decide) ?_
            refine lv_goto (tgt := 169) hx hb d_Mo_placeOf_152 (by decide) ?_
            refine lv_lstore (lv' := [(8, .long 0), (6, .long ((-(wA V 5 b)).toInt64)), (0, .ref mo), (1, .int (nI b)), (3, .long (pL V b i)), (5, .int (nI (wF V b + i)))]) hx hb d_Mo_placeOf_169 hl (by decide) rfl (fun ls hl => ?_)
            refine lv_aload_n hx hb d_Mo_placeOf_171 rfl (lv_at hl 2 rfl) ?_
            refine hv_get hE k_Mo hI 19 (by decide) w535 hs.1 rfl d_Mo_placeOf_172 ?_
            refine lv_aload_n hx hb d_Mo_placeOf_175 rfl (lv_at hl 2 rfl) ?_
            refine hv_get hE k_Mo hI 7 (by decide) w523 hs.1 rfl d_Mo_placeOf_176 ?_
            refine lv_iload_n hx hb d_Mo_placeOf_179 rfl (lv_at hl 3 rfl) ?_
            refine hv_zald hE hI 2 hAg.2.2.2.1 rfl (pk_in b 100 hb9 rfl (by omega)) d_Mo_placeOf_180 ?_
            rw [nI_cl (by omega)]
            refine W.eq (g2 := F0 m 181 ls [.int (b2i (wB V b)), .long ((fL V (wB V b) (wF V b) i).1)]) rfl ?_
            refine lv_if_eq (tgt := 200) hx hb d_Mo_placeOf_181 (by decide) (fun c181 => ?_) (fun c181 => ?_)
            · skip
              have k181 := b2i_f c181
              refine lv_lconst (v := 0) hx hb d_Mo_placeOf_200 (by decide) ?_
              refine lv_ladd hx hb d_Mo_placeOf_201 ?_
              refine lv_lload hx hb d_Mo_placeOf_202 (lv_at hl 0 rfl) ?_
              refine lv_ladd hx hb d_Mo_placeOf_204 ?_
              exact hv_lret hE hr hlocks hI hK (v := (((fL V (wB V b) (wF V b) i).1) + 0) + 0) (⟨congrArg (fun z => some (Value.long z)) (Eq.symm (show plF V b i = _ from by simp only [plF, usF, c119, n119, c148, k181, if_true, if_false, and_self, and_false, false_and, Bool.false_eq_true])), ⟨gd9, _, hs⟩, hfo⟩) (by decide) (by decide) d_Mo_placeOf_205
            · skip
              have k181 := b2i_t c181
              refine lv_aload_n hx hb d_Mo_placeOf_184 rfl (lv_at hl 2 rfl) ?_
              refine lv_iload hx hb d_Mo_placeOf_185 (lv_at hl 5 rfl) ?_
              refine hv_Vp (As := [.int (nI (wF V b + i))]) (rest := [.long ((fL V (wB V b) (wF V b) i).1)]) hE hml hK hI (c_Mo_isSolid l hl0 b0 D cA g mo a th st en ct gd9 ((fL V (wB V b) (wF V b) i).1) ((fL V (wB V b) (wF V b) i).2.1) ((fL V (wB V b) (wF V b) i).2.2.1) ((fL V (wB V b) (wF V b) i).2.2.2.1) md V (wF V b + i) hs.1 hnj hAg (by omega)) cd_Mo_isSolid w676 w678 ws24 hs.1 rfl rfl rfl rfl hl.1 (Nat.le_of_ble_eq_true rfl) d_Mo_placeOf_187 ⟨by decide, by decide⟩ ⟨by decide, by decide⟩ (fun H locs hI => ?_)
              refine W.eq (g2 := F0 m 190 ls [.int (b2i (isSo V (wF V b + i))), .long ((fL V (wB V b) (wF V b) i).1)]) rfl ?_
              refine lv_if_eq (tgt := 200) hx hb d_Mo_placeOf_190 (by decide) (fun c190 => ?_) (fun c190 => ?_)
              · skip
                have k190 := b2i_f c190
                refine lv_lconst (v := 0) hx hb d_Mo_placeOf_200 (by decide) ?_
                refine lv_ladd hx hb d_Mo_placeOf_201 ?_
                refine lv_lload hx hb d_Mo_placeOf_202 (lv_at hl 0 rfl) ?_
                refine lv_ladd hx hb d_Mo_placeOf_204 ?_
                exact hv_lret hE hr hlocks hI hK (v := (((fL V (wB V b) (wF V b) i).1) + 0) + 0) (⟨congrArg (fun z => some (Value.long z)) (Eq.symm (show plF V b i = _ from by simp only [plF, usF, c119, n119, c148, k181, k190, if_true, if_false, and_self, and_false, false_and, Bool.false_eq_true])), ⟨gd9, _, hs⟩, hfo⟩) (by decide) (by decide) d_Mo_placeOf_205
              · skip
                have k190 := b2i_t c190
                refine lv_aload_n hx hb d_Mo_placeOf_193 rfl (lv_at hl 2 rfl) ?_
                refine hv_get hE k_Mo hI 20 (by decide) w536 hs.1 rfl d_Mo_placeOf_194 ?_
                refine lv_goto (tgt := 201) hx hb d_Mo_placeOf_197 (by decide) ?_
                refine lv_ladd hx hb d_Mo_placeOf_201 ?_
                refine lv_lload hx hb d_Mo_placeOf_202 (lv_at hl 0 rfl) ?_
                refine lv_ladd hx hb d_Mo_placeOf_204 ?_
                exact hv_lret hE hr hlocks hI hK (v := (((fL V (wB V b) (wF V b) i).1) + ((fL V (wB V b) (wF V b) i).2.1)) + 0) (⟨congrArg (fun z => some (Value.long z)) (Eq.symm (show plF V b i = _ from by simp only [plF, usF, c119, n119, c148, k181, k190, if_true, if_false, and_self, and_false, false_and, Bool.false_eq_true])), ⟨gd9, _, hs⟩, hfo⟩) (by decide) (by decide) d_Mo_placeOf_205
      · skip
        have n28 := Int32.not_le.mp c28
        exact absurd (nI_le (by omega) (by omega)) c28
    | succ k ih =>
      intro i gd9 g H locs ls hik hs hfo hI hl
      have hAg : moA cA g a V := ⟨by rw [hfo _ (hnj.2 0 (by decide)) (hnj.1 0 14 (by decide) (by decide) (by decide)) (hnj.1 0 15 (by decide) (by decide) (by decide))]; exact hA.1, by rw [hfo _ (hnj.2 1 (by decide)) (hnj.1 1 14 (by decide) (by decide) (by decide)) (hnj.1 1 15 (by decide) (by decide) (by decide))]; exact hA.2.1, by rw [hfo _ (hnj.2 2 (by decide)) (hnj.1 2 14 (by decide) (by decide) (by decide)) (hnj.1 2 15 (by decide) (by decide) (by decide))]; exact hA.2.2.1, by rw [hfo _ (hnj.2 3 (by decide)) (hnj.1 3 14 (by decide) (by decide) (by decide)) (hnj.1 3 15 (by decide) (by decide) (by decide))]; exact hA.2.2.2.1, fun j9 hj9 => by rw [hfo _ (hnj.2 (4 + j9) (by omega)) (hnj.1 (4 + j9) 14 (by omega) (by decide) (by omega)) (hnj.1 (4 + j9) 15 (by omega) (by decide) (by omega))]; exact hA.2.2.2.2 j9 hj9⟩
      refine lv_iload hx hb d_Mo_placeOf_24 (lv_at hl 4 rfl) ?_
      refine lv_iload hx hb d_Mo_placeOf_26 (lv_at hl 3 rfl) ?_
      refine lv_icmp_ge (tgt := 113) hx hb d_Mo_placeOf_28 (by decide) (fun c28 => ?_) (fun c28 => ?_)
      · skip
        have n28 := Int32.not_lt.mpr c28
        exact absurd c28 (nI_ge (by omega) (by omega))
      · skip
        have n28 := Int32.not_le.mp c28
        refine lv_aload_n hx hb d_Mo_placeOf_31 rfl (lv_at hl 0 rfl) ?_
        refine lv_iload hx hb d_Mo_placeOf_32 (lv_at hl 4 rfl) ?_
        refine lv_aload_n hx hb d_Mo_placeOf_34 rfl (lv_at hl 0 rfl) ?_
        refine hv_get hE k_Mo hI 7 (by decide) w523 hs.1 rfl d_Mo_placeOf_35 ?_
        refine lv_iload_n hx hb d_Mo_placeOf_38 rfl (lv_at hl 1 rfl) ?_
        refine hv_zald hE hI 2 hAg.2.2.2.1 rfl (pk_in b 100 hb9 rfl (by omega)) d_Mo_placeOf_39 ?_
        rw [nI_cl (by omega)]
        refine W.eq (g2 := F0 m 40 ls [.int (b2i (wB V b)), .int (nI (wF V b + i)), .ref mo]) rfl ?_
        refine hv_V (As := [.int (nI (wF V b + i)), .int (b2i (wB V b))]) (rest := []) hE hml hK hI (c_Mo_add l hl0 b0 D cA g mo a th st en ct gd9 md (fL V (wB V b) (wF V b) i) V (wF V b + i) (wB V b) hs hnj hAg (by omega) (hit i (by omega)).1 (hit i (by omega)).2) cd_Mo_add w672 w674 ws23 hs.1 rfl rfl hl.1 (Nat.le_of_ble_eq_true rfl) d_Mo_placeOf_40 ⟨by decide, by decide⟩ ⟨by decide, by decide⟩ (fun v9 g5 H locs hp hI => ?_) (fun q9 E9 ce9 g9 H locs hp => hp.elim)
        obtain ⟨hv, hs4, ho94⟩ := hp
        rw [hv]
        refine W.eq (g2 := F0 m 43 ls []) rfl ?_
        refine lv_aload_n hx hb d_Mo_placeOf_43 rfl (lv_at hl 0 rfl) ?_
        refine hv_get hE k_Mo hI 1 (by decide) w517 hs4.1 rfl d_Mo_placeOf_44 ?_
        refine lv_iload hx hb d_Mo_placeOf_47 (lv_at hl 4 rfl) ?_
        have hq6 : g5 (a 0) = some (.inl (cA 0, 10200, .inl (wK V))) := by rw [ho94 _ (hnj.2 0 (by decide)) (hnj.1 0 14 (by decide) (by decide) (by decide)) (hnj.1 0 15 (by decide) (by decide) (by decide))]; exact hAg.1
        refine hv_iald hE hI 0 hq6 rfl (pk_in (wF V b + i) 10200 (by omega) rfl (by omega)) d_Mo_placeOf_49 ?_
        rw [nI_cl (by omega)]
        refine W.eq (g2 := F0 m 50 ls [.int (wK V (wF V b + i))]) rfl ?_
        refine lv_iconst (v := 2) hx hb d_Mo_placeOf_50 (by decide) ?_
        refine lv_icmp_ne (tgt := 107) hx hb d_Mo_placeOf_51 (by decide) (fun c51 => ?_) (fun c51 => ?_)
        · skip
          obtain ⟨v7, ev7⟩ : ∃ y : Int32, y = (nI (wF V b + i)) + 1 := ⟨_, rfl⟩
          refine lv_iinc (v := v7) (lv' := [(6, .int v7), (0, .ref mo), (1, .int (nI b)), (3, .long (pL V b i)), (5, .int (nI (wF V b + i9)))]) hx hb d_Mo_placeOf_107 hl (k := 4) rfl (by rw [ev7]; rfl) (by decide) rfl (fun ls hl => ?_)
          refine lv_goto (tgt := 24) hx hb d_Mo_placeOf_110 (by decide) ?_
          exact ih (i + 1) _ _ _ _ ls (by omega) hs4 (fun z z1 z2 z3 => by rw [ho94 _ z1 z2 z3]; exact hfo z z1 z2 z3) hI (by rw [show pL V b (i + 1) = pL V b i from if_neg (fun q => c51 q.1), show nI (wF V b + (i + 1)) = v7 from by rw [ev7, nI_1]; rfl]; exact lv_sub hl [1, 2, 3, 4, 0] rfl)
        · skip
          refine lv_aload_n hx hb d_Mo_placeOf_54 rfl (lv_at hl 0 rfl) ?_
          refine lv_iload hx hb d_Mo_placeOf_55 (lv_at hl 4 rfl) ?_
          refine lv_aload_n hx hb d_Mo_placeOf_57 rfl (lv_at hl 0 rfl) ?_
          refine hv_get hE k_Mo hI 11 (by decide) w527 hs4.1 rfl d_Mo_placeOf_58 ?_
          refine lv_iload_n hx hb d_Mo_placeOf_61 rfl (lv_at hl 1 rfl) ?_
          have hq8 : g5 (a 7) = some (.inl (cA 0, 100, .inl (wA V 3))) := by rw [ho94 _ (hnj.2 7 (by decide)) (hnj.1 7 14 (by decide) (by decide) (by decide)) (hnj.1 7 15 (by decide) (by decide) (by decide))]; exact (hAg.2.2.2.2 3 (by decide))
          refine hv_iald hE hI 0 hq8 rfl (pk_in b 100 hb9 rfl (by omega)) d_Mo_placeOf_62 ?_
          rw [nI_cl (by omega)]
          refine W.eq (g2 := F0 m 63 ls [.int (wA V 3 b), .int (nI (wF V b + i)), .ref mo]) rfl ?_
          refine lv_if_ge (tgt := 70) hx hb d_Mo_placeOf_63 (by decide) (fun c63 => ?_) (fun c63 => ?_)
          · skip
            have n63 := Int32.not_lt.mpr c63
            refine lv_iconst (v := 2) hx hb d_Mo_placeOf_70 (by decide) ?_
            have hq9 : g5 (a 1) = some (.inl (cA 0, 51000, .inl V.2.1)) := by rw [ho94 _ (hnj.2 1 (by decide)) (hnj.1 1 14 (by decide) (by decide) (by decide)) (hnj.1 1 15 (by decide) (by decide) (by decide))]; exact hAg.2.1
            refine hv_Vp (As := [.int (nI (wF V b + i)), .int 2]) (rest := []) hE hml hK hI (c_Mo_number l hl0 b0 D cA g5 mo a th st en ct (gd9 && ckV V (wB V b) (wF V b + i) (fL V (wB V b) (wF V b) i)) ((stV V (wB V b) (wF V b + i) (fL V (wB V b) (wF V b) i)).1) ((stV V (wB V b) (wF V b + i) (fL V (wB V b) (wF V b) i)).2.1) ((stV V (wB V b) (wF V b + i) (fL V (wB V b) (wF V b) i)).2.2.1) ((stV V (wB V b) (wF V b + i) (fL V (wB V b) (wF V b) i)).2.2.2.1) md V (wF V b + i) 2 hs4.1 hnj hq9 (by omega) (by omega)) cd_Mo_number w664 w666 ws21 hs4.1 rfl rfl rfl rfl hl.1 (Nat.le_of_ble_eq_true rfl) d_Mo_placeOf_71 ⟨by decide, by decide⟩ ⟨by decide, by decide⟩ (fun H locs hI => ?_)
            refine W.eq (g2 := F0 m 74 ls [.int (wN V (wF V b + i) 2)]) rfl ?_
            refine lv_aload_n hx hb d_Mo_placeOf_74 rfl (lv_at hl 0 rfl) ?_
            refine hv_get hE k_Mo hI 12 (by decide) w528 hs4.1 rfl d_Mo_placeOf_75 ?_
            refine lv_iload_n hx hb d_Mo_placeOf_78 rfl (lv_at hl 1 rfl) ?_
            have hq10 : g5 (a 8) = some (.inl (cA 0, 100, .inl (wA V 4))) := by rw [ho94 _ (hnj.2 8 (by decide)) (hnj.1 8 14 (by decide) (by decide) (by decide)) (hnj.1 8 15 (by decide) (by decide) (by decide))]; exact (hAg.2.2.2.2 4 (by decide))
            refine hv_iald hE hI 0 hq10 rfl (pk_in b 100 hb9 rfl (by omega)) d_Mo_placeOf_79 ?_
            rw [nI_cl (by omega)]
            refine W.eq (g2 := F0 m 80 ls [.int (wA V 4 b), .int (wN V (wF V b + i) 2)]) rfl ?_
            refine lv_icmp_ne (tgt := 107) hx hb d_Mo_placeOf_80 (by decide) (fun c80 => ?_) (fun c80 => ?_)
            · skip
              obtain ⟨v11, ev11⟩ : ∃ y : Int32, y = (nI (wF V b + i)) + 1 := ⟨_, rfl⟩
              refine lv_iinc (v := v11) (lv' := [(6, .int v11), (0, .ref mo), (1, .int (nI b)), (3, .long (pL V b i)), (5, .int (nI (wF V b + i9)))]) hx hb d_Mo_placeOf_107 hl (k := 4) rfl (by rw [ev11]; rfl) (by decide) rfl (fun ls hl => ?_)
              refine lv_goto (tgt := 24) hx hb d_Mo_placeOf_110 (by decide) ?_
              exact ih (i + 1) _ _ _ _ ls (by omega) hs4 (fun z z1 z2 z3 => by rw [ho94 _ z1 z2 z3]; exact hfo z z1 z2 z3) hI (by rw [show pL V b (i + 1) = pL V b i from by simp only [pL, c51, n63, c80, true_and, and_true, and_false, if_true, if_false], show nI (wF V b + (i + 1)) = v11 from by rw [ev11, nI_1]; rfl]; exact lv_sub hl [1, 2, 3, 4, 0] rfl)
            · skip
              refine lv_lload_n hx hb d_Mo_placeOf_83 rfl (lv_at hl 2 rfl) ?_
              refine lv_aload_n hx hb d_Mo_placeOf_84 rfl (lv_at hl 0 rfl) ?_
              refine lv_iload hx hb d_Mo_placeOf_85 (lv_at hl 4 rfl) ?_
              refine lv_aload_n hx hb d_Mo_placeOf_87 rfl (lv_at hl 0 rfl) ?_
              refine hv_get hE k_Mo hI 11 (by decide) w527 hs4.1 rfl d_Mo_placeOf_88 ?_
              refine lv_iload_n hx hb d_Mo_placeOf_91 rfl (lv_at hl 1 rfl) ?_
              refine hv_iald hE hI 0 hq8 rfl (pk_in b 100 hb9 rfl (by omega)) d_Mo_placeOf_92 ?_
              rw [nI_cl (by omega)]
              refine W.eq (g2 := F0 m 93 ls [.int (wA V 3 b), .int (nI (wF V b + i)), .ref mo, .long (pL V b i)]) rfl ?_
              refine lv_if_ge (tgt := 100) hx hb d_Mo_placeOf_93 (by decide) (fun c93 => ?_) (fun c93 => ?_)
              · skip
                have n93 := Int32.not_lt.mpr c93
                refine lv_iconst (v := 1) hx hb d_Mo_placeOf_100 (by decide) ?_
                refine hv_Vp (As := [.int (nI (wF V b + i)), .int 1]) (rest := [.long (pL V b i)]) hE hml hK hI (c_Mo_number l hl0 b0 D cA g5 mo a th st en ct (gd9 && ckV V (wB V b) (wF V b + i) (fL V (wB V b) (wF V b) i)) ((stV V (wB V b) (wF V b + i) (fL V (wB V b) (wF V b) i)).1) ((stV V (wB V b) (wF V b + i) (fL V (wB V b) (wF V b) i)).2.1) ((stV V (wB V b) (wF V b + i) (fL V (wB V b) (wF V b) i)).2.2.1) ((stV V (wB V b) (wF V b + i) (fL V (wB V b) (wF V b) i)).2.2.2.1) md V (wF V b + i) 1 hs4.1 hnj hq9 (by omega) (by omega)) cd_Mo_number w664 w666 ws21 hs4.1 rfl rfl rfl rfl hl.1 (Nat.le_of_ble_eq_true rfl) d_Mo_placeOf_101 ⟨by decide, by decide⟩ ⟨by decide, by decide⟩ (fun H locs hI => ?_)
                refine W.eq (g2 := F0 m 104 ls [.int (wN V (wF V b + i) 1), .long (pL V b i)]) rfl ?_
                refine lv_i2l (v := (wN V (wF V b + i) 1).toInt64) hx hb d_Mo_placeOf_104 rfl ?_
                refine lv_ladd hx hb d_Mo_placeOf_105 ?_
                refine lv_lstore_n (lv' := [(3, .long ((pL V b i) + ((wN V (wF V b + i) 1).toInt64))), (0, .ref mo), (1, .int (nI b)), (5, .int (nI (wF V b + i9))), (6, .int (nI (wF V b + i)))]) hx hb d_Mo_placeOf_106 rfl hl (by decide) rfl (fun ls hl => ?_)
                obtain ⟨v12, ev12⟩ : ∃ y : Int32, y = (nI (wF V b + i)) + 1 := ⟨_, rfl⟩
                refine lv_iinc (v := v12) (lv' := [(6, .int v12), (3, .long ((pL V b i) + ((wN V (wF V b + i) 1).toInt64))), (0, .ref mo), (1, .int (nI b)), (5, .int (nI (wF V b + i9)))]) hx hb d_Mo_placeOf_107 hl (k := 4) rfl (by rw [ev12]; rfl) (by decide) rfl (fun ls hl => ?_)
                refine lv_goto (tgt := 24) hx hb d_Mo_placeOf_110 (by decide) ?_
                exact ih (i + 1) _ _ _ _ ls (by omega) hs4 (fun z z1 z2 z3 => by rw [ho94 _ z1 z2 z3]; exact hfo z z1 z2 z3) hI (by rw [show pL V b (i + 1) = (pL V b i) + ((wN V (wF V b + i) 1).toInt64) from by simp only [pL, c51, n63, c80, true_and, and_true, and_false, if_true, if_false], show nI (wF V b + (i + 1)) = v12 from by rw [ev12, nI_1]; rfl]; exact lv_sub hl [2, 3, 1, 4, 0] rfl)
              · skip
                exact absurd c63 c93
          · skip
            have n63 := Int32.not_le.mp c63
            refine lv_iconst (v := 4) hx hb d_Mo_placeOf_66 (by decide) ?_
            refine lv_goto (tgt := 71) hx hb d_Mo_placeOf_67 (by decide) ?_
            have hq13 : g5 (a 1) = some (.inl (cA 0, 51000, .inl V.2.1)) := by rw [ho94 _ (hnj.2 1 (by decide)) (hnj.1 1 14 (by decide) (by decide) (by decide)) (hnj.1 1 15 (by decide) (by decide) (by decide))]; exact hAg.2.1
            refine hv_Vp (As := [.int (nI (wF V b + i)), .int 4]) (rest := []) hE hml hK hI (c_Mo_number l hl0 b0 D cA g5 mo a th st en ct (gd9 && ckV V (wB V b) (wF V b + i) (fL V (wB V b) (wF V b) i)) ((stV V (wB V b) (wF V b + i) (fL V (wB V b) (wF V b) i)).1) ((stV V (wB V b) (wF V b + i) (fL V (wB V b) (wF V b) i)).2.1) ((stV V (wB V b) (wF V b + i) (fL V (wB V b) (wF V b) i)).2.2.1) ((stV V (wB V b) (wF V b + i) (fL V (wB V b) (wF V b) i)).2.2.2.1) md V (wF V b + i) 4 hs4.1 hnj hq13 (by omega) (by omega)) cd_Mo_number w664 w666 ws21 hs4.1 rfl rfl rfl rfl hl.1 (Nat.le_of_ble_eq_true rfl) d_Mo_placeOf_71 ⟨by decide, by decide⟩ ⟨by decide, by decide⟩ (fun H locs hI => ?_)
            refine W.eq (g2 := F0 m 74 ls [.int (wN V (wF V b + i) 4)]) rfl ?_
            refine lv_aload_n hx hb d_Mo_placeOf_74 rfl (lv_at hl 0 rfl) ?_
            refine hv_get hE k_Mo hI 12 (by decide) w528 hs4.1 rfl d_Mo_placeOf_75 ?_
            refine lv_iload_n hx hb d_Mo_placeOf_78 rfl (lv_at hl 1 rfl) ?_
            have hq14 : g5 (a 8) = some (.inl (cA 0, 100, .inl (wA V 4))) := by rw [ho94 _ (hnj.2 8 (by decide)) (hnj.1 8 14 (by decide) (by decide) (by decide)) (hnj.1 8 15 (by decide) (by decide) (by decide))]; exact (hAg.2.2.2.2 4 (by decide))
            refine hv_iald hE hI 0 hq14 rfl (pk_in b 100 hb9 rfl (by omega)) d_Mo_placeOf_79 ?_
            rw [nI_cl (by omega)]
            refine W.eq (g2 := F0 m 80 ls [.int (wA V 4 b), .int (wN V (wF V b + i) 4)]) rfl ?_
            refine lv_icmp_ne (tgt := 107) hx hb d_Mo_placeOf_80 (by decide) (fun c80 => ?_) (fun c80 => ?_)
            · skip
              obtain ⟨v15, ev15⟩ : ∃ y : Int32, y = (nI (wF V b + i)) + 1 := ⟨_, rfl⟩
              refine lv_iinc (v := v15) (lv' := [(6, .int v15), (0, .ref mo), (1, .int (nI b)), (3, .long (pL V b i)), (5, .int (nI (wF V b + i9)))]) hx hb d_Mo_placeOf_107 hl (k := 4) rfl (by rw [ev15]; rfl) (by decide) rfl (fun ls hl => ?_)
              refine lv_goto (tgt := 24) hx hb d_Mo_placeOf_110 (by decide) ?_
              exact ih (i + 1) _ _ _ _ ls (by omega) hs4 (fun z z1 z2 z3 => by rw [ho94 _ z1 z2 z3]; exact hfo z z1 z2 z3) hI (by rw [show pL V b (i + 1) = pL V b i from by simp only [pL, c51, n63, c80, true_and, and_true, and_false, if_true, if_false], show nI (wF V b + (i + 1)) = v15 from by rw [ev15, nI_1]; rfl]; exact lv_sub hl [1, 2, 3, 4, 0] rfl)
            · skip
              refine lv_lload_n hx hb d_Mo_placeOf_83 rfl (lv_at hl 2 rfl) ?_
              refine lv_aload_n hx hb d_Mo_placeOf_84 rfl (lv_at hl 0 rfl) ?_
              refine lv_iload hx hb d_Mo_placeOf_85 (lv_at hl 4 rfl) ?_
              refine lv_aload_n hx hb d_Mo_placeOf_87 rfl (lv_at hl 0 rfl) ?_
              refine hv_get hE k_Mo hI 11 (by decide) w527 hs4.1 rfl d_Mo_placeOf_88 ?_
              refine lv_iload_n hx hb d_Mo_placeOf_91 rfl (lv_at hl 1 rfl) ?_
              refine hv_iald hE hI 0 hq8 rfl (pk_in b 100 hb9 rfl (by omega)) d_Mo_placeOf_92 ?_
              rw [nI_cl (by omega)]
              refine W.eq (g2 := F0 m 93 ls [.int (wA V 3 b), .int (nI (wF V b + i)), .ref mo, .long (pL V b i)]) rfl ?_
              refine lv_if_ge (tgt := 100) hx hb d_Mo_placeOf_93 (by decide) (fun c93 => ?_) (fun c93 => ?_)
              · skip
                exact absurd c93 c63
              · skip
                have n93 := Int32.not_le.mp c93
                refine lv_iconst (v := 3) hx hb d_Mo_placeOf_96 (by decide) ?_
                refine lv_goto (tgt := 101) hx hb d_Mo_placeOf_97 (by decide) ?_
                refine hv_Vp (As := [.int (nI (wF V b + i)), .int 3]) (rest := [.long (pL V b i)]) hE hml hK hI (c_Mo_number l hl0 b0 D cA g5 mo a th st en ct (gd9 && ckV V (wB V b) (wF V b + i) (fL V (wB V b) (wF V b) i)) ((stV V (wB V b) (wF V b + i) (fL V (wB V b) (wF V b) i)).1) ((stV V (wB V b) (wF V b + i) (fL V (wB V b) (wF V b) i)).2.1) ((stV V (wB V b) (wF V b + i) (fL V (wB V b) (wF V b) i)).2.2.1) ((stV V (wB V b) (wF V b + i) (fL V (wB V b) (wF V b) i)).2.2.2.1) md V (wF V b + i) 3 hs4.1 hnj hq13 (by omega) (by omega)) cd_Mo_number w664 w666 ws21 hs4.1 rfl rfl rfl rfl hl.1 (Nat.le_of_ble_eq_true rfl) d_Mo_placeOf_101 ⟨by decide, by decide⟩ ⟨by decide, by decide⟩ (fun H locs hI => ?_)
                refine W.eq (g2 := F0 m 104 ls [.int (wN V (wF V b + i) 3), .long (pL V b i)]) rfl ?_
                refine lv_i2l (v := (wN V (wF V b + i) 3).toInt64) hx hb d_Mo_placeOf_104 rfl ?_
                refine lv_ladd hx hb d_Mo_placeOf_105 ?_
                refine lv_lstore_n (lv' := [(3, .long ((pL V b i) + ((wN V (wF V b + i) 3).toInt64))), (0, .ref mo), (1, .int (nI b)), (5, .int (nI (wF V b + i9))), (6, .int (nI (wF V b + i)))]) hx hb d_Mo_placeOf_106 rfl hl (by decide) rfl (fun ls hl => ?_)
                obtain ⟨v16, ev16⟩ : ∃ y : Int32, y = (nI (wF V b + i)) + 1 := ⟨_, rfl⟩
                refine lv_iinc (v := v16) (lv' := [(6, .int v16), (3, .long ((pL V b i) + ((wN V (wF V b + i) 3).toInt64))), (0, .ref mo), (1, .int (nI b)), (5, .int (nI (wF V b + i9)))]) hx hb d_Mo_placeOf_107 hl (k := 4) rfl (by rw [ev16]; rfl) (by decide) rfl (fun ls hl => ?_)
                refine lv_goto (tgt := 24) hx hb d_Mo_placeOf_110 (by decide) ?_
                exact ih (i + 1) _ _ _ _ ls (by omega) hs4 (fun z z1 z2 z3 => by rw [ho94 _ z1 z2 z3]; exact hfo z z1 z2 z3) hI (by rw [show pL V b (i + 1) = (pL V b i) + ((wN V (wF V b + i) 3).toInt64) from by simp only [pL, c51, n63, c80, true_and, and_true, and_false, if_true, if_false], show nI (wF V b + (i + 1)) = v16 from by rw [ev16, nI_1]; rfl]; exact lv_sub hl [2, 3, 1, 4, 0] rfl)
  exact loop i9 0 _ _ _ _ ls (by omega) hs1 (fun z z1 z2 z3 => by rw [ho91 _ z1 z2 z3]) hI (by rw [show nI (wF V b + i9) = nI (wF V b) + nI i9 from (nI_add _ _).symm]; exact lv_sub hl [3, 4, 2, 1, 0] rfl)

